/-! the reference: rules of g5, g6, g7 -/
theorem rLn_1 {a : Nat} {p : rP} {g : Nat → Int32} {x0 : Int32}  (l0 : rLm p.1 x0.toInt) (d0 : rGd (rSh rS1 p [rR a, rI x0]).1) : rLm p.1 x0.toInt ∧ rGd (rSh rS1 p [rR a, rI x0]).1 ∧ rLn a (rSh rS1 p [rR a, rI x0]) g (0 + 1) 0 := by
  refine ⟨l0, d0, ?_⟩
  exact trivial
theorem rLn_2 {a : Nat} {p : rP} {g : Nat → Int32} {x0 x1 : Int32} (e1 : g 1 = x1) (l0 : rLm p.1 x0.toInt) (d0 : rGd (rSh rS1 p [rR a, rI x0]).1) (l1 : rLm (rSh rS1 p [rR a, rI x0]).1 x1.toInt) (d1 : rGd (rSh rS1 p [rR a, rI x1, rR a, rI x0]).1) : rLm p.1 x0.toInt ∧ rGd (rSh rS1 p [rR a, rI x0]).1 ∧ rLn a (rSh rS1 p [rR a, rI x0]) g (0 + 1) 1 := by
  refine ⟨l0, d0, ?_⟩
  refine ⟨by rw [show g 1 = x1 from e1]; exact l1, by rw [show g 1 = x1 from e1]; exact d1, ?_⟩
  rw [show g 1 = x1 from e1]
  exact trivial
theorem rLn_3 {a : Nat} {p : rP} {g : Nat → Int32} {x0 x1 x2 : Int32} (e1 : g 1 = x1) (e2 : g 2 = x2) (l0 : rLm p.1 x0.toInt) (d0 : rGd (rSh rS1 p [rR a, rI x0]).1) (l1 : rLm (rSh rS1 p [rR a, rI x0]).1 x1.toInt) (d1 : rGd (rSh rS1 p [rR a, rI x1, rR a, rI x0]).1) (l2 : rLm (rSh rS1 p [rR a, rI x1, rR a, rI x0]).1 x2.toInt) (d2 : rGd (rSh rS1 p [rR a, rI x2, rR a, rI x1, rR a, rI x0]).1) : rLm p.1 x0.toInt ∧ rGd (rSh rS1 p [rR a, rI x0]).1 ∧ rLn a (rSh rS1 p [rR a, rI x0]) g (0 + 1) 2 := by
  refine ⟨l0, d0, ?_⟩
  refine ⟨by rw [show g 1 = x1 from e1]; exact l1, by rw [show g 1 = x1 from e1]; exact d1, ?_⟩
  rw [show g 1 = x1 from e1]
  refine ⟨by rw [show g 2 = x2 from e2]; exact l2, by rw [show g 2 = x2 from e2]; exact d2, ?_⟩
  rw [show g 2 = x2 from e2]
  exact trivial
theorem rLn_4 {a : Nat} {p : rP} {g : Nat → Int32} {x0 x1 x2 x3 : Int32} (e1 : g 1 = x1) (e2 : g 2 = x2) (e3 : g 3 = x3) (l0 : rLm p.1 x0.toInt) (d0 : rGd (rSh rS1 p [rR a, rI x0]).1) (l1 : rLm (rSh rS1 p [rR a, rI x0]).1 x1.toInt) (d1 : rGd (rSh rS1 p [rR a, rI x1, rR a, rI x0]).1) (l2 : rLm (rSh rS1 p [rR a, rI x1, rR a, rI x0]).1 x2.toInt) (d2 : rGd (rSh rS1 p [rR a, rI x2, rR a, rI x1, rR a, rI x0]).1) (l3 : rLm (rSh rS1 p [rR a, rI x2, rR a, rI x1, rR a, rI x0]).1 x3.toInt) (d3 : rGd (rSh rS1 p [rR a, rI x3, rR a, rI x2, rR a, rI x1, rR a, rI x0]).1) : rLm p.1 x0.toInt ∧ rGd (rSh rS1 p [rR a, rI x0]).1 ∧ rLn a (rSh rS1 p [rR a, rI x0]) g (0 + 1) 3 := by
  refine ⟨l0, d0, ?_⟩
  refine ⟨by rw [show g 1 = x1 from e1]; exact l1, by rw [show g 1 = x1 from e1]; exact d1, ?_⟩
  rw [show g 1 = x1 from e1]
  refine ⟨by rw [show g 2 = x2 from e2]; exact l2, by rw [show g 2 = x2 from e2]; exact d2, ?_⟩
  rw [show g 2 = x2 from e2]
  refine ⟨by rw [show g 3 = x3 from e3]; exact l3, by rw [show g 3 = x3 from e3]; exact d3, ?_⟩
  rw [show g 3 = x3 from e3]
  exact trivial
theorem rOb_i {K : Nat → Nat} {n : Nat} {σ : Nat → jcell} (hH : aH fa_T K n σ) {a k f c : Nat} {ts : List aT} {iv : Int × Int} (ha : a < n) (hk : K a = k) (t1 : fa_T[k]? = some (.inr (c, ts))) (t2 : ts[f]? = some (.inl iv)) : ∃ v, rOb K n σ a k f (rI v) := by
  have h1 := hH a ha _ (by rw [hk]; exact t1)
  match e : σ a, h1 with
  | .inr (c', fs), h1 =>
    obtain ⟨-, hl, h2⟩ := h1
    have hf : f < fs.length := by rw [hl]; exact (List.getElem?_eq_some_iff.mp t2).1
    obtain ⟨v, e2, -⟩ := aG_int (h2 f _ _ t2 (List.getElem?_eq_getElem hf))
    exact ⟨v, ha, hk, c', fs, e, by rw [List.getElem?_eq_getElem hf, e2]⟩
  | .inl x, h1 => exact h1.elim
theorem rw_rvUCa0 {K : Nat → Nat} {n : Nat} {JX : (Nat → jcell) → Prop} : aGho (rF K n) fa_T K n JX ag_rvUCa0 := by
  refine aGho_of ⟨rfl, rfl⟩ ?_
  intro p σ ρ hH hX hA hM0
  have hG := aAG_of hA.1 (fun i e v he hv => (hA.2 i e v he hv).1)
  clear hA
  obtain ⟨v0, v1, v2, rfl, g0, g1, g2⟩ := rA_3 hG
  clear hG
  obtain ⟨x0, rfl, b0, d0⟩ := rG_ref (by decide) g0
  obtain ⟨x1, rfl, b1, d1⟩ := aG_int g1
  dsimp only at b1 d1
  obtain ⟨x2, rfl, b2, d2⟩ := aG_int g2
  dsimp only at b2 d2
  obtain ⟨m1, m2, m3, m4⟩ := hM0
  obtain ⟨M, hM⟩ := rMe_ex hH b0 d0
  have f0 : rB K n p 28 [rR x0, rI x1, rI x2] σ := by
    obtain ⟨w, e6, e7⟩ := m4 (451, [0, 1, 2]) (List.mem_of_getElem? (i := 0) rfl)
    obtain rfl : [rR x0, rI x1, rI x2] = w := Option.some.inj (show some [rR x0, rI x1, rI x2] = some w from e6)
    exact (rF_b (r := 451) (by decide) rfl).mp e7
  have f0 := ro_28.mp f0
  clear m1 m2 m3 m4
  have q0 : rB K n p 23 [rR x0, rI x2] σ := ro_23.mpr (by
    have h := f0
    rw [show x1.toInt = 0 by omega] at h
    exact h)
  exact ⟨p, fun _ => rfl, ⟨(fun q h => by cases h), fun q h => (by cases h), (fun f h => by cases h), (aAllc ⟨_, rfl, (rF_b (r := 370) (by decide) rfl).mpr q0⟩ (fun f h => by cases h))⟩, [], List.mem_cons_self, fun f h => (by cases h)⟩
theorem rw_rvUCb0 {K : Nat → Nat} {n : Nat} {JX : (Nat → jcell) → Prop} : aGho (rF K n) fa_T K n JX ag_rvUCb0 := by
  refine aGho_of ⟨rfl, rfl⟩ ?_
  intro p σ ρ hH hX hA hM0
  have hG := aAG_of hA.1 (fun i e v he hv => (hA.2 i e v he hv).1)
  clear hA
  obtain ⟨v0, v1, v2, rfl, g0, g1, g2⟩ := rA_3 hG
  clear hG
  obtain ⟨x0, rfl, b0, d0⟩ := rG_ref (by decide) g0
  obtain ⟨x1, rfl, b1, d1⟩ := aG_int g1
  dsimp only at b1 d1
  obtain ⟨x2, rfl, b2, d2⟩ := aG_int g2
  dsimp only at b2 d2
  obtain ⟨m1, m2, m3, m4⟩ := hM0
  obtain ⟨M, hM⟩ := rMe_ex hH b0 d0
  have f0 : rB K n p 23 [rR x0, rI x2] σ := by
    obtain ⟨w, e6, e7⟩ := m4 (370, [0, 2]) (List.mem_of_getElem? (i := 0) rfl)
    obtain rfl : [rR x0, rI x2] = w := Option.some.inj (show some [rR x0, rI x2] = some w from e6)
    exact (rF_b (r := 370) (by decide) rfl).mp e7
  have f0 := ro_23.mp f0
  clear m1 m2 m3 m4
  have q0 : rB K n p 28 [rR x0, rI x1, rI x2] σ := ro_28.mpr (by
    rw [show x1.toInt = 0 by omega]
    exact f0)
  exact ⟨p, fun _ => rfl, ⟨(fun q h => by cases h), fun q h => (by cases h), (fun f h => by cases h), (aAllc ⟨_, rfl, (rF_b (r := 451) (by decide) rfl).mpr q0⟩ (fun f h => by cases h))⟩, [], List.mem_cons_self, fun f h => (by cases h)⟩
theorem rw_rvUCa1 {K : Nat → Nat} {n : Nat} {JX : (Nat → jcell) → Prop} : aGho (rF K n) fa_T K n JX ag_rvUCa1 := by
  refine aGho_of ⟨rfl, rfl⟩ ?_
  intro p σ ρ hH hX hA hM0
  have hG := aAG_of hA.1 (fun i e v he hv => (hA.2 i e v he hv).1)
  clear hA
  obtain ⟨v0, v1, v2, rfl, g0, g1, g2⟩ := rA_3 hG
  clear hG
  obtain ⟨x0, rfl, b0, d0⟩ := rG_ref (by decide) g0
  obtain ⟨x1, rfl, b1, d1⟩ := aG_int g1
  dsimp only at b1 d1
  obtain ⟨x2, rfl, b2, d2⟩ := aG_int g2
  dsimp only at b2 d2
  obtain ⟨m1, m2, m3, m4⟩ := hM0
  obtain ⟨M, hM⟩ := rMe_ex hH b0 d0
  have f0 : rB K n p 28 [rR x0, rI x1, rI x2] σ := by
    obtain ⟨w, e6, e7⟩ := m4 (451, [0, 1, 2]) (List.mem_of_getElem? (i := 0) rfl)
    obtain rfl : [rR x0, rI x1, rI x2] = w := Option.some.inj (show some [rR x0, rI x1, rI x2] = some w from e6)
    exact (rF_b (r := 451) (by decide) rfl).mp e7
  have f0 := ro_28.mp f0
  clear m1 m2 m3 m4
  have q0 : rB K n p 26 [rR x0, rI x2] σ := ro_26.mpr (by
    have h := f0
    rw [show x1.toInt = 1 by omega] at h
    exact h)
  exact ⟨p, fun _ => rfl, ⟨(fun q h => by cases h), fun q h => (by cases h), (fun f h => by cases h), (aAllc ⟨_, rfl, (rF_b (r := 418) (by decide) rfl).mpr q0⟩ (fun f h => by cases h))⟩, [], List.mem_cons_self, fun f h => (by cases h)⟩
theorem rw_rvUCb1 {K : Nat → Nat} {n : Nat} {JX : (Nat → jcell) → Prop} : aGho (rF K n) fa_T K n JX ag_rvUCb1 := by
  refine aGho_of ⟨rfl, rfl⟩ ?_
  intro p σ ρ hH hX hA hM0
  have hG := aAG_of hA.1 (fun i e v he hv => (hA.2 i e v he hv).1)
  clear hA
  obtain ⟨v0, v1, v2, rfl, g0, g1, g2⟩ := rA_3 hG
  clear hG
  obtain ⟨x0, rfl, b0, d0⟩ := rG_ref (by decide) g0
  obtain ⟨x1, rfl, b1, d1⟩ := aG_int g1
  dsimp only at b1 d1
  obtain ⟨x2, rfl, b2, d2⟩ := aG_int g2
  dsimp only at b2 d2
  obtain ⟨m1, m2, m3, m4⟩ := hM0
  obtain ⟨M, hM⟩ := rMe_ex hH b0 d0
  have f0 : rB K n p 26 [rR x0, rI x2] σ := by
    obtain ⟨w, e6, e7⟩ := m4 (418, [0, 2]) (List.mem_of_getElem? (i := 0) rfl)
    obtain rfl : [rR x0, rI x2] = w := Option.some.inj (show some [rR x0, rI x2] = some w from e6)
    exact (rF_b (r := 418) (by decide) rfl).mp e7
  have f0 := ro_26.mp f0
  clear m1 m2 m3 m4
  have q0 : rB K n p 28 [rR x0, rI x1, rI x2] σ := ro_28.mpr (by
    rw [show x1.toInt = 1 by omega]
    exact f0)
  exact ⟨p, fun _ => rfl, ⟨(fun q h => by cases h), fun q h => (by cases h), (fun f h => by cases h), (aAllc ⟨_, rfl, (rF_b (r := 451) (by decide) rfl).mpr q0⟩ (fun f h => by cases h))⟩, [], List.mem_cons_self, fun f h => (by cases h)⟩
theorem rw_rvUCa2 {K : Nat → Nat} {n : Nat} {JX : (Nat → jcell) → Prop} : aGho (rF K n) fa_T K n JX ag_rvUCa2 := by
  refine aGho_of ⟨rfl, rfl⟩ ?_
  intro p σ ρ hH hX hA hM0
  have hG := aAG_of hA.1 (fun i e v he hv => (hA.2 i e v he hv).1)
  clear hA
  obtain ⟨v0, v1, v2, rfl, g0, g1, g2⟩ := rA_3 hG
  clear hG
  obtain ⟨x0, rfl, b0, d0⟩ := rG_ref (by decide) g0
  obtain ⟨x1, rfl, b1, d1⟩ := aG_int g1
  dsimp only at b1 d1
  obtain ⟨x2, rfl, b2, d2⟩ := aG_int g2
  dsimp only at b2 d2
  obtain ⟨m1, m2, m3, m4⟩ := hM0
  obtain ⟨M, hM⟩ := rMe_ex hH b0 d0
  have f0 : rB K n p 28 [rR x0, rI x1, rI x2] σ := by
    obtain ⟨w, e6, e7⟩ := m4 (451, [0, 1, 2]) (List.mem_of_getElem? (i := 0) rfl)
    obtain rfl : [rR x0, rI x1, rI x2] = w := Option.some.inj (show some [rR x0, rI x1, rI x2] = some w from e6)
    exact (rF_b (r := 451) (by decide) rfl).mp e7
  have f0 := ro_28.mp f0
  clear m1 m2 m3 m4
  have q0 : rB K n p 27 [rR x0, rI x2] σ := ro_27.mpr (by
    have h := f0
    rw [show x1.toInt = 2 by omega] at h
    exact h)
  exact ⟨p, fun _ => rfl, ⟨(fun q h => by cases h), fun q h => (by cases h), (fun f h => by cases h), (aAllc ⟨_, rfl, (rF_b (r := 434) (by decide) rfl).mpr q0⟩ (fun f h => by cases h))⟩, [], List.mem_cons_self, fun f h => (by cases h)⟩
theorem rw_rvUCb2 {K : Nat → Nat} {n : Nat} {JX : (Nat → jcell) → Prop} : aGho (rF K n) fa_T K n JX ag_rvUCb2 := by
  refine aGho_of ⟨rfl, rfl⟩ ?_
  intro p σ ρ hH hX hA hM0
  have hG := aAG_of hA.1 (fun i e v he hv => (hA.2 i e v he hv).1)
  clear hA
  obtain ⟨v0, v1, v2, rfl, g0, g1, g2⟩ := rA_3 hG
  clear hG
  obtain ⟨x0, rfl, b0, d0⟩ := rG_ref (by decide) g0
  obtain ⟨x1, rfl, b1, d1⟩ := aG_int g1
  dsimp only at b1 d1
  obtain ⟨x2, rfl, b2, d2⟩ := aG_int g2
  dsimp only at b2 d2
  obtain ⟨m1, m2, m3, m4⟩ := hM0
  obtain ⟨M, hM⟩ := rMe_ex hH b0 d0
  have f0 : rB K n p 27 [rR x0, rI x2] σ := by
    obtain ⟨w, e6, e7⟩ := m4 (434, [0, 2]) (List.mem_of_getElem? (i := 0) rfl)
    obtain rfl : [rR x0, rI x2] = w := Option.some.inj (show some [rR x0, rI x2] = some w from e6)
    exact (rF_b (r := 434) (by decide) rfl).mp e7
  have f0 := ro_27.mp f0
  clear m1 m2 m3 m4
  have q0 : rB K n p 28 [rR x0, rI x1, rI x2] σ := ro_28.mpr (by
    rw [show x1.toInt = 2 by omega]
    exact f0)
  exact ⟨p, fun _ => rfl, ⟨(fun q h => by cases h), fun q h => (by cases h), (fun f h => by cases h), (aAllc ⟨_, rfl, (rF_b (r := 451) (by decide) rfl).mpr q0⟩ (fun f h => by cases h))⟩, [], List.mem_cons_self, fun f h => (by cases h)⟩
theorem rw_rvUCa3 {K : Nat → Nat} {n : Nat} {JX : (Nat → jcell) → Prop} : aGho (rF K n) fa_T K n JX ag_rvUCa3 := by
  refine aGho_of ⟨rfl, rfl⟩ ?_
  intro p σ ρ hH hX hA hM0
  have hG := aAG_of hA.1 (fun i e v he hv => (hA.2 i e v he hv).1)
  clear hA
  obtain ⟨v0, v1, v2, rfl, g0, g1, g2⟩ := rA_3 hG
  clear hG
  obtain ⟨x0, rfl, b0, d0⟩ := rG_ref (by decide) g0
  obtain ⟨x1, rfl, b1, d1⟩ := aG_int g1
  dsimp only at b1 d1
  obtain ⟨x2, rfl, b2, d2⟩ := aG_int g2
  dsimp only at b2 d2
  obtain ⟨m1, m2, m3, m4⟩ := hM0
  obtain ⟨M, hM⟩ := rMe_ex hH b0 d0
  have f0 : rB K n p 28 [rR x0, rI x1, rI x2] σ := by
    obtain ⟨w, e6, e7⟩ := m4 (451, [0, 1, 2]) (List.mem_of_getElem? (i := 0) rfl)
    obtain rfl : [rR x0, rI x1, rI x2] = w := Option.some.inj (show some [rR x0, rI x1, rI x2] = some w from e6)
    exact (rF_b (r := 451) (by decide) rfl).mp e7
  have f0 := ro_28.mp f0
  clear m1 m2 m3 m4
  have q0 : rB K n p 48 [rR x0, rI x2] σ := ro_48.mpr (by
    have h := f0
    rw [show x1.toInt = 3 by omega] at h
    exact h)
  exact ⟨p, fun _ => rfl, ⟨(fun q h => by cases h), fun q h => (by cases h), (fun f h => by cases h), (aAllc ⟨_, rfl, (rF_b (r := 770) (by decide) rfl).mpr q0⟩ (fun f h => by cases h))⟩, [], List.mem_cons_self, fun f h => (by cases h)⟩
theorem rw_rvUCb3 {K : Nat → Nat} {n : Nat} {JX : (Nat → jcell) → Prop} : aGho (rF K n) fa_T K n JX ag_rvUCb3 := by
  refine aGho_of ⟨rfl, rfl⟩ ?_
  intro p σ ρ hH hX hA hM0
  have hG := aAG_of hA.1 (fun i e v he hv => (hA.2 i e v he hv).1)
  clear hA
  obtain ⟨v0, v1, v2, rfl, g0, g1, g2⟩ := rA_3 hG
  clear hG
  obtain ⟨x0, rfl, b0, d0⟩ := rG_ref (by decide) g0
  obtain ⟨x1, rfl, b1, d1⟩ := aG_int g1
  dsimp only at b1 d1
  obtain ⟨x2, rfl, b2, d2⟩ := aG_int g2
  dsimp only at b2 d2
  obtain ⟨m1, m2, m3, m4⟩ := hM0
  obtain ⟨M, hM⟩ := rMe_ex hH b0 d0
  have f0 : rB K n p 48 [rR x0, rI x2] σ := by
    obtain ⟨w, e6, e7⟩ := m4 (770, [0, 2]) (List.mem_of_getElem? (i := 0) rfl)
    obtain rfl : [rR x0, rI x2] = w := Option.some.inj (show some [rR x0, rI x2] = some w from e6)
    exact (rF_b (r := 770) (by decide) rfl).mp e7
  have f0 := ro_48.mp f0
  clear m1 m2 m3 m4
  have q0 : rB K n p 28 [rR x0, rI x1, rI x2] σ := ro_28.mpr (by
    rw [show x1.toInt = 3 by omega]
    exact f0)
  exact ⟨p, fun _ => rfl, ⟨(fun q h => by cases h), fun q h => (by cases h), (fun f h => by cases h), (aAllc ⟨_, rfl, (rF_b (r := 451) (by decide) rfl).mpr q0⟩ (fun f h => by cases h))⟩, [], List.mem_cons_self, fun f h => (by cases h)⟩
theorem rw_rvSE1 {K : Nat → Nat} {n : Nat} {JX : (Nat → jcell) → Prop} : aGho (rF K n) fa_T K n JX ag_rvSE1 := by
  refine aGho_of ⟨rfl, rfl⟩ ?_
  intro p σ ρ hH hX hA hM0
  have hG := aAG_of hA.1 (fun i e v he hv => (hA.2 i e v he hv).1)
  clear hA
  obtain ⟨v0, v1, v2, rfl, g0, g1, g2⟩ := rA_3 hG
  clear hG
  obtain ⟨x0, rfl, b0, d0⟩ := rG_ref (by decide) g0
  obtain ⟨x1, rfl, b1, d1⟩ := aG_int g1
  dsimp only at b1 d1
  obtain ⟨x2, rfl, b2, d2⟩ := aG_int g2
  dsimp only at b2 d2
  obtain ⟨m1, m2, m3, m4⟩ := hM0
  obtain ⟨M, hM⟩ := rMe_ex hH b0 d0
  clear m1 m2 m3 m4
  have q0 : rB K n p 181 [rR x0, rI x1, rI x2] σ := ro_181.mpr (by
    intro h
    omega)
  exact ⟨p, fun _ => rfl, ⟨(fun q h => by cases h), fun q h => (by cases h), (fun f h => by cases h), (aAllc ⟨_, rfl, (rF_b (r := 2899) (by decide) rfl).mpr q0⟩ (fun f h => by cases h))⟩, [], List.mem_cons_self, fun f h => (by cases h)⟩
theorem rw_rvSE0 {K : Nat → Nat} {n : Nat} {JX : (Nat → jcell) → Prop} : aGho (rF K n) fa_T K n JX ag_rvSE0 := by
  refine aGho_of ⟨rfl, rfl⟩ ?_
  intro p σ ρ hH hX hA hM0
  have hG := aAG_of hA.1 (fun i e v he hv => (hA.2 i e v he hv).1)
  clear hA
  obtain ⟨v0, v1, v2, v3, v4, rfl, g0, g1, g2, g3, g4⟩ := rA_5 hG
  clear hG
  obtain ⟨x0, rfl, b0, d0⟩ := rG_ref (by decide) g0
  obtain ⟨x1, rfl, b1, d1⟩ := aG_int g1
  dsimp only at b1 d1
  obtain ⟨x2, rfl, b2, d2⟩ := aG_int g2
  dsimp only at b2 d2
  obtain ⟨x3, rfl, b3, d3⟩ := aG_int g3
  dsimp only at b3 d3
  obtain ⟨x4, rfl, b4, d4⟩ := rG_ref (by decide) g4
  obtain ⟨m1, m2, m3, m4⟩ := hM0
  obtain ⟨M, hM⟩ := rMe_ex hH b0 d0
  obtain ⟨a0, c0, fs0, w0, e1, s0, t0, e4⟩ := m1 (0, 22, 4) (List.mem_of_getElem? (i := 0) rfl)
  obtain rfl : x0 = a0 := Sum.inl.inj (Option.some.inj (Sum.inr.inj (Sum.inr.inj (Option.some.inj (show some (rR x0) = some _ from e1)))))
  obtain rfl : rR x4 = w0 := Option.some.inj (show some (rR x4) = some w0 from e4)
  clear e1 e4
  obtain ⟨a, mc0, ty0, gc0, ic0, e1, sc0, jc0, e4, e5⟩ := m2 (4, ([(1, 1)], 0), 3) (List.mem_of_getElem? (i := 0) rfl)
  obtain rfl : x4 = a := Sum.inl.inj (Option.some.inj (Sum.inr.inj (Sum.inr.inj (Option.some.inj (show some (rR x4) = some _ from e1)))))
  obtain ⟨gc0, rfl⟩ : ∃ g, gc0 = .inl g := by
    rcases gc0 with g | g
    · exact ⟨g, rfl⟩
    · exact absurd (show some (rI x3) = some (.inr (.inl (g ic0))) from e5) (fun h => by cases h)
  have sc0 : σ x4 = .inl (ty0, mc0, .inl gc0) := sc0
  have ec0 : x3 = gc0 ic0 := Sum.inl.inj (Option.some.inj (show some (rI x3) = some _ from e5))
  have kc0 : (ic0 : Int) = (1 * x1.toInt + 0) + 0 := by
    obtain ⟨z, e6, e7⟩ := e4
    obtain rfl : (1 * x1.toInt + 0) = z := Option.some.inj (show some (1 * x1.toInt + 0) = some z from e6)
    exact e7
  clear e1 e4 e5
  clear m1 m2 m3 m4
  have q0 : rB K n p 181 [rR x0, rI x1, rI x2] σ := ro_181.mpr (by
    intro _
    obtain ⟨g, h⟩ := rRo_of (k := 88) (f := 22) hH b0 d0 s0 t0 b4 d4 rfl
    have e1 := rRo_c (i := ic0) h s0 t0 sc0 ec0
    rw [show ic0 = x1.toInt.toNat by omega] at e1
    exact ⟨x3.toInt, by omega, by omega, g, h, e1⟩)
  exact ⟨p, fun _ => rfl, ⟨(fun q h => by cases h), fun q h => (by cases h), (fun f h => by cases h), (aAllc ⟨_, rfl, (rF_b (r := 2899) (by decide) rfl).mpr q0⟩ (fun f h => by cases h))⟩, [], List.mem_cons_self, fun f h => (by cases h)⟩
theorem rw_rvSEn {K : Nat → Nat} {n : Nat} {JX : (Nat → jcell) → Prop} : aGho (rF K n) fa_T K n JX ag_rvSEn := by
  refine aGho_of ⟨rfl, rfl⟩ ?_
  intro p σ ρ hH hX hA hM0
  have hG := aAG_of hA.1 (fun i e v he hv => (hA.2 i e v he hv).1)
  clear hA
  obtain ⟨v0, v1, v2, rfl, g0, g1, g2⟩ := rA_3 hG
  clear hG
  obtain ⟨x0, rfl, b0, d0⟩ := rG_ref (by decide) g0
  obtain ⟨x1, rfl, b1, d1⟩ := aG_int g1
  dsimp only at b1 d1
  obtain ⟨x2, rfl, b2, d2⟩ := aG_int g2
  dsimp only at b2 d2
  obtain ⟨m1, m2, m3, m4⟩ := hM0
  obtain ⟨M, hM⟩ := rMe_ex hH b0 d0
  have f0 : rB K n p 181 [rR x0, rI x1, rI x2] σ := by
    obtain ⟨w, e6, e7⟩ := m4 (2899, [0, 1, 2]) (List.mem_of_getElem? (i := 0) rfl)
    obtain rfl : [rR x0, rI x1, rI x2] = w := Option.some.inj (show some [rR x0, rI x1, rI x2] = some w from e6)
    exact (rF_b (r := 2899) (by decide) rfl).mp e7
  have f0 := ro_181.mp f0
  clear m1 m2 m3 m4
  have q0 : rB K n p 179 [rR x0, rI x1] σ := ro_179.mpr (by
    exact f0 (by omega))
  exact ⟨p, fun _ => rfl, ⟨(fun q h => by cases h), fun q h => (by cases h), (fun f h => by cases h), (aAllc ⟨_, rfl, (rF_b (r := 2866) (by decide) rfl).mpr q0⟩ (fun f h => by cases h))⟩, [], List.mem_cons_self, fun f h => (by cases h)⟩
theorem rw_rvPGz {K : Nat → Nat} {n : Nat} {JX : (Nat → jcell) → Prop} : aGho (rF K n) fa_T K n JX ag_rvPGz := by
  refine aGho_of ⟨rfl, rfl⟩ ?_
  intro p σ ρ hH hX hA hM0
  have hG := aAG_of hA.1 (fun i e v he hv => (hA.2 i e v he hv).1)
  clear hA
  obtain ⟨v0, v1, v2, rfl, g0, g1, g2⟩ := rA_3 hG
  clear hG
  obtain ⟨x0, rfl, b0, d0⟩ := rG_ref (by decide) g0
  obtain ⟨x1, rfl, b1, d1⟩ := aG_int g1
  dsimp only at b1 d1
  obtain ⟨x2, rfl, b2, d2⟩ := aG_int g2
  dsimp only at b2 d2
  obtain ⟨m1, m2, m3, m4⟩ := hM0
  obtain ⟨M, hM⟩ := rMe_ex hH b0 d0
  have f0 : rB K n p 171 [rR x0, rI x1] σ := by
    obtain ⟨w, e6, e7⟩ := m4 (2738, [0, 1]) (List.mem_of_getElem? (i := 0) rfl)
    obtain rfl : [rR x0, rI x1] = w := Option.some.inj (show some [rR x0, rI x1] = some w from e6)
    exact (rF_b (r := 2738) (by decide) rfl).mp e7
  have f0 := ro_171.mp f0
  clear m1 m2 m3 m4
  have q0 : rB K n p 173 [rR x0, rI x1, rI x2] σ := ro_173.mpr (by
    rw [show x1.toInt + x2.toInt + 1 = x1.toInt + 1 by omega]
    exact f0)
  exact ⟨p, fun _ => rfl, ⟨(fun q h => by cases h), fun q h => (by cases h), (fun f h => by cases h), (aAllc ⟨_, rfl, (rF_b (r := 2771) (by decide) rfl).mpr q0⟩ (fun f h => by cases h))⟩, [], List.mem_cons_self, fun f h => (by cases h)⟩
theorem rw_rvBFo {K : Nat → Nat} {n : Nat} {JX : (Nat → jcell) → Prop} : aGho (rF K n) fa_T K n JX ag_rvBFo := by
  refine aGho_of ⟨rfl, rfl⟩ ?_
  intro p σ ρ hH hX hA hM0
  have hG := aAG_of hA.1 (fun i e v he hv => (hA.2 i e v he hv).1)
  clear hA
  obtain ⟨v0, v1, rfl, g0, g1⟩ := rA_2 hG
  clear hG
  obtain ⟨x0, rfl, b0, d0⟩ := rG_ref (by decide) g0
  obtain ⟨x1, rfl, b1, d1⟩ := aG_int g1
  dsimp only at b1 d1
  obtain ⟨m1, m2, m3, m4⟩ := hM0
  obtain ⟨M, hM⟩ := rMe_ex hH b0 d0
  obtain ⟨a0, c0, fs0, w0, e1, s0, t0, e4⟩ := m1 (0, 25, 1) (List.mem_of_getElem? (i := 0) rfl)
  obtain rfl : x0 = a0 := Sum.inl.inj (Option.some.inj (Sum.inr.inj (Sum.inr.inj (Option.some.inj (show some (rR x0) = some _ from e1)))))
  obtain rfl : rI x1 = w0 := Option.some.inj (show some (rI x1) = some w0 from e4)
  clear e1 e4
  have f0 : rB K n p 94 [rR x0] σ := by
    obtain ⟨w, e6, e7⟩ := m4 (1505, [0]) (List.mem_of_getElem? (i := 0) rfl)
    obtain rfl : [rR x0] = w := Option.some.inj (show some [rR x0] = some w from e6)
    exact (rF_b (r := 1505) (by decide) rfl).mp e7
  have f0 := ro_94.mp f0
  clear m1 m2 m3 m4
  have q0 : rB K n p 93 [rI x1] σ := ro_93.mpr (by
    obtain ⟨v, o, h1, h2⟩ := f0
    have e := rOb_u o ⟨b0, d0, _, _, s0, t0⟩
    cases e
    exact ⟨h1, h2⟩)
  exact ⟨p, fun _ => rfl, ⟨(fun q h => by cases h), fun q h => (by cases h), (fun f h => by cases h), (aAllc ⟨_, rfl, (rF_b (r := 1489) (by decide) rfl).mpr q0⟩ (fun f h => by cases h))⟩, [], List.mem_cons_self, fun f h => (by cases h)⟩
theorem rw_rvCLp {K : Nat → Nat} {n : Nat} {JX : (Nat → jcell) → Prop} : aGho (rF K n) fa_T K n JX ag_rvCLp := by
  refine aGho_of ⟨rfl, rfl⟩ ?_
  intro p σ ρ hH hX hA hM0
  have hG := aAG_of hA.1 (fun i e v he hv => (hA.2 i e v he hv).1)
  clear hA
  obtain ⟨v0, v1, v2, v3, rfl, g0, g1, g2, g3⟩ := rA_4 hG
  clear hG
  obtain ⟨x0, rfl, b0, d0⟩ := rG_ref (by decide) g0
  obtain ⟨x1, rfl, b1, d1⟩ := rG_ref (by decide) g1
  obtain ⟨x2, rfl, b2, d2⟩ := aG_int g2
  dsimp only at b2 d2
  obtain ⟨x3, rfl, b3, d3⟩ := aG_int g3
  dsimp only at b3 d3
  obtain ⟨m1, m2, m3, m4⟩ := hM0
  obtain ⟨M, hM⟩ := rMe_ex hH b0 d0
  obtain ⟨a0, c0, fs0, w0, e1, s0, t0, e4⟩ := m1 (0, 22, 1) (List.mem_of_getElem? (i := 0) rfl)
  obtain rfl : x0 = a0 := Sum.inl.inj (Option.some.inj (Sum.inr.inj (Sum.inr.inj (Option.some.inj (show some (rR x0) = some _ from e1)))))
  obtain rfl : rR x1 = w0 := Option.some.inj (show some (rR x1) = some w0 from e4)
  clear e1 e4
  have f0 : rB K n p 76 [rR x0, rI x2, rI x3] σ := by
    obtain ⟨w, e6, e7⟩ := m4 (1219, [0, 2, 3]) (List.mem_of_getElem? (i := 0) rfl)
    obtain rfl : [rR x0, rI x2, rI x3] = w := Option.some.inj (show some [rR x0, rI x2, rI x3] = some w from e6)
    exact (rF_b (r := 1219) (by decide) rfl).mp e7
  have f0 := ro_76.mp f0
  clear m1 m2 m3 m4
  have q0 : rB K n p 91 [rR x0, rI x2] (jup σ x1 (jsto (σ x1) x2.toNatClampNeg x3)) := ro_91.mpr (by
    obtain ⟨hp, h1, g, h2, h3⟩ := f0
    obtain ⟨gc, h4⟩ := rRo_of (k := 88) (f := 22) hH b0 d0 s0 t0 b1 d1 rfl
    refine ⟨hp, x3.toInt, h1, ⟨by omega, _, rRo_up h4 s0 t0, ?_⟩, g, rRo_o h2 (by rw [d1]; decide) (by rw [d1]; decide), h3⟩
    unfold upd
    rw [if_pos (show x2.toInt.toNat = x2.toNatClampNeg from rfl)])
  exact ⟨p, fun _ => rfl, ⟨(fun q h => by cases h), fun q h => (by cases h), (fun f h => by cases h), (aAllc ⟨_, rfl, rF_p (r := 1458) (by decide) (by decide) q0⟩ (fun f h => by cases h))⟩, [], List.mem_cons_self, fun f h => (by cases h)⟩
theorem rw_rvRCa0 {K : Nat → Nat} {n : Nat} {JX : (Nat → jcell) → Prop} : aGho (rF K n) fa_T K n JX ag_rvRCa0 := by
  refine aGho_of ⟨rfl, rfl⟩ ?_
  intro p σ ρ hH hX hA hM0
  have hG := aAG_of hA.1 (fun i e v he hv => (hA.2 i e v he hv).1)
  clear hA
  obtain ⟨v0, v1, v2, rfl, g0, g1, g2⟩ := rA_3 hG
  clear hG
  obtain ⟨x0, rfl, b0, d0⟩ := rG_ref (by decide) g0
  obtain ⟨x1, rfl, b1, d1⟩ := aG_int g1
  dsimp only at b1 d1
  obtain ⟨x2, rfl, b2, d2⟩ := aG_int g2
  dsimp only at b2 d2
  obtain ⟨m1, m2, m3, m4⟩ := hM0
  obtain ⟨a, mc0, ty0, gc0, ic0, e1, sc0, jc0, e4, e5⟩ := m2 (0, ([], 0), 2) (List.mem_of_getElem? (i := 0) rfl)
  obtain rfl : x0 = a := Sum.inl.inj (Option.some.inj (Sum.inr.inj (Sum.inr.inj (Option.some.inj (show some (rR x0) = some _ from e1)))))
  obtain ⟨gc0, rfl⟩ : ∃ g, gc0 = .inl g := by
    rcases gc0 with g | g
    · exact ⟨g, rfl⟩
    · exact absurd (show some (rI x2) = some (.inr (.inl (g ic0))) from e5) (fun h => by cases h)
  have sc0 : σ x0 = .inl (ty0, mc0, .inl gc0) := sc0
  have ec0 : x2 = gc0 ic0 := Sum.inl.inj (Option.some.inj (show some (rI x2) = some _ from e5))
  have kc0 : (ic0 : Int) = 0 + 0 := by
    obtain ⟨z, e6, e7⟩ := e4
    obtain rfl : 0 = z := Option.some.inj (show some 0 = some z from e6)
    exact e7
  clear e1 e4 e5
  clear m1 m2 m3 m4
  have q0 : rB K n p 184 [rR x0, rI x2] σ := ro_184.mpr (by
    obtain ⟨g, h⟩ := rRw_of hH b0 d0 rfl
    have e := rRw_c (i := ic0) h sc0 ec0
    rw [show ic0 = 0 by omega] at e
    exact ⟨g, h, by rw [e]⟩)
  exact ⟨p, fun _ => rfl, ⟨(fun q h => by cases h), fun q h => (by cases h), (fun f h => by cases h), (aAllc ⟨_, rfl, (rF_b (r := 2946) (by decide) rfl).mpr q0⟩ (fun f h => by cases h))⟩, [], List.mem_cons_self, fun f h => (by cases h)⟩
theorem rw_rvRCb0 {K : Nat → Nat} {n : Nat} {JX : (Nat → jcell) → Prop} : aGho (rF K n) fa_T K n JX ag_rvRCb0 := by
  refine aGho_of ⟨rfl, rfl⟩ ?_
  intro p σ ρ hH hX hA hM0
  have hG := aAG_of hA.1 (fun i e v he hv => (hA.2 i e v he hv).1)
  clear hA
  obtain ⟨v0, v1, v2, v3, rfl, g0, g1, g2, g3⟩ := rA_4 hG
  clear hG
  obtain ⟨x0, rfl, b0, d0⟩ := rG_ref (by decide) g0
  obtain ⟨x1, rfl, b1, d1⟩ := aG_int g1
  dsimp only at b1 d1
  obtain ⟨x2, rfl, b2, d2⟩ := aG_int g2
  dsimp only at b2 d2
  obtain ⟨x3, rfl, b3, d3⟩ := aG_int g3
  dsimp only at b3 d3
  obtain ⟨m1, m2, m3, m4⟩ := hM0
  obtain ⟨a, mc0, ty0, gc0, ic0, e1, sc0, jc0, e4, e5⟩ := m2 (0, ([], 0), 2) (List.mem_of_getElem? (i := 0) rfl)
  obtain rfl : x0 = a := Sum.inl.inj (Option.some.inj (Sum.inr.inj (Sum.inr.inj (Option.some.inj (show some (rR x0) = some _ from e1)))))
  obtain ⟨gc0, rfl⟩ : ∃ g, gc0 = .inl g := by
    rcases gc0 with g | g
    · exact ⟨g, rfl⟩
    · exact absurd (show some (rI x2) = some (.inr (.inl (g ic0))) from e5) (fun h => by cases h)
  have sc0 : σ x0 = .inl (ty0, mc0, .inl gc0) := sc0
  have ec0 : x2 = gc0 ic0 := Sum.inl.inj (Option.some.inj (show some (rI x2) = some _ from e5))
  have kc0 : (ic0 : Int) = 0 + 0 := by
    obtain ⟨z, e6, e7⟩ := e4
    obtain rfl : 0 = z := Option.some.inj (show some 0 = some z from e6)
    exact e7
  clear e1 e4 e5
  have f0 : rB K n p 184 [rR x0, rI x3] σ := by
    obtain ⟨w, e6, e7⟩ := m4 (2946, [0, 3]) (List.mem_of_getElem? (i := 0) rfl)
    obtain rfl : [rR x0, rI x3] = w := Option.some.inj (show some [rR x0, rI x3] = some w from e6)
    exact (rF_b (r := 2946) (by decide) rfl).mp e7
  have f0 := ro_184.mp f0
  clear m1 m2 m3 m4
  have r0 : 0 ≤ (1 * x2.toInt + (-1 * x3.toInt + 0)) + 0 := by
    obtain ⟨g, h, e0⟩ := f0
    have e := rRw_c (i := ic0) h sc0 ec0
    rw [show ic0 = 0 by omega] at e
    rw [e] at e0
    omega
  have r1 : 0 ≤ (-1 * x2.toInt + (1 * x3.toInt + 0)) + 0 := by
    obtain ⟨g, h, e0⟩ := f0
    have e := rRw_c (i := ic0) h sc0 ec0
    rw [show ic0 = 0 by omega] at e
    rw [e] at e0
    omega
  exact ⟨p, fun _ => rfl, ⟨(fun q h => by cases h), fun q h => (by cases h), (aAllc ⟨_, rfl, r0⟩ (aAllc ⟨_, rfl, r1⟩ (fun f h => by cases h))), (fun f h => by cases h)⟩, [], List.mem_cons_self, fun f h => (by cases h)⟩
theorem rw_rvRCc0 {K : Nat → Nat} {n : Nat} {JX : (Nat → jcell) → Prop} : aGho (rF K n) fa_T K n JX ag_rvRCc0 := by
  refine aGho_of ⟨rfl, rfl⟩ ?_
  intro p σ ρ hH hX hA hM0
  have hG := aAG_of hA.1 (fun i e v he hv => (hA.2 i e v he hv).1)
  clear hA
  obtain ⟨v0, v1, v2, v3, rfl, g0, g1, g2, g3⟩ := rA_4 hG
  clear hG
  obtain ⟨x0, rfl, b0, d0⟩ := rG_ref (by decide) g0
  obtain ⟨x1, rfl, b1, d1⟩ := aG_int g1
  dsimp only at b1 d1
  obtain ⟨x2, rfl, b2, d2⟩ := aG_int g2
  dsimp only at b2 d2
  obtain ⟨x3, rfl, b3, d3⟩ := aG_int g3
  dsimp only at b3 d3
  obtain ⟨m1, m2, m3, m4⟩ := hM0
  obtain ⟨M, hM⟩ := rMe_ex hH b0 d0
  have l0 : 0 ≤ (1 * x2.toInt + (-1 * x3.toInt + 0)) + 0 := by
    obtain ⟨z, e6, e7⟩ := m3 ([(2, 1), (3, -1)], 0) (List.mem_of_getElem? (i := 0) rfl)
    obtain rfl : (1 * x2.toInt + (-1 * x3.toInt + 0)) = z := Option.some.inj (show some (1 * x2.toInt + (-1 * x3.toInt + 0)) = some z from e6)
    exact e7
  have l1 : 0 ≤ (-1 * x2.toInt + (1 * x3.toInt + 0)) + 0 := by
    obtain ⟨z, e6, e7⟩ := m3 ([(2, -1), (3, 1)], 0) (List.mem_of_getElem? (i := 1) rfl)
    obtain rfl : (-1 * x2.toInt + (1 * x3.toInt + 0)) = z := Option.some.inj (show some (-1 * x2.toInt + (1 * x3.toInt + 0)) = some z from e6)
    exact e7
  have f0 : rB K n (rSh rS1 p [rR x0, rI x3]) 22 [rR x0] σ := by
    obtain ⟨w, e6, e7⟩ := m4 (353, [0, 0, 3]) (List.mem_of_getElem? (i := 0) rfl)
    obtain rfl : [rR x0, rR x0, rI x3] = w := Option.some.inj (show some [rR x0, rR x0, rI x3] = some w from e6)
    exact (rF_g (r := 353) (by decide)).mp e7
  obtain ⟨hq9, hR⟩ := ro_22.mp f0
  have hp : p.2 = none := rSh_n1 hq9
  clear hq9
  rw [rSh_mk hp] at hR
  obtain rfl : M = rM4 p.1 x3.toInt := rMg_u hM hR.1
  have f1 : rB K n p 23 [rR x0, rI x3] σ := by
    obtain ⟨w, e6, e7⟩ := m4 (370, [0, 3]) (List.mem_of_getElem? (i := 1) rfl)
    obtain rfl : [rR x0, rI x3] = w := Option.some.inj (show some [rR x0, rI x3] = some w from e6)
    exact (rF_b (r := 370) (by decide) rfl).mp e7
  have f1 := ro_23.mp f1
  have f2 : rB K n p 25 [rI x3] σ := by
    obtain ⟨w, e6, e7⟩ := m4 (401, [3]) (List.mem_of_getElem? (i := 2) rfl)
    obtain rfl : [rI x3] = w := Option.some.inj (show some [rI x3] = some w from e6)
    exact (rF_b (r := 401) (by decide) rfl).mp e7
  have f2 := ro_25.mp f2
  clear m1 m2 m3 m4
  obtain rfl : x2 = x3 := Int32.toInt_inj.mp (by omega)
  have q0 : rB K n (rSh rS1 p [rR x0, rI x2]) 22 [rR x0] σ := ro_22.mpr (by
    rw [rSh_mk hp]
    exact ⟨rfl, hR⟩)
  have q1 : rB K n p 28 [rR x0, rI x1, rI x2] σ := ro_28.mpr (by
    rw [show x1.toInt = 0 by omega]
    exact f1)
  have q2 : rB K n p 25 [rI x2] σ := ro_25.mpr (by
    exact f2)
  exact ⟨p, fun _ => rfl, ⟨(fun q h => by cases h), fun q h => (by cases h), (fun f h => by cases h), (aAllc ⟨_, rfl, (rF_g (r := 353) (by decide)).mpr q0⟩ (aAllc ⟨_, rfl, (rF_b (r := 451) (by decide) rfl).mpr q1⟩ (aAllc ⟨_, rfl, (rF_b (r := 401) (by decide) rfl).mpr q2⟩ (fun f h => by cases h))))⟩, [], List.mem_cons_self, fun f h => (by cases h)⟩
theorem rw_rvRCa1 {K : Nat → Nat} {n : Nat} {JX : (Nat → jcell) → Prop} : aGho (rF K n) fa_T K n JX ag_rvRCa1 := by
  refine aGho_of ⟨rfl, rfl⟩ ?_
  intro p σ ρ hH hX hA hM0
  have hG := aAG_of hA.1 (fun i e v he hv => (hA.2 i e v he hv).1)
  clear hA
  obtain ⟨v0, v1, v2, rfl, g0, g1, g2⟩ := rA_3 hG
  clear hG
  obtain ⟨x0, rfl, b0, d0⟩ := rG_ref (by decide) g0
  obtain ⟨x1, rfl, b1, d1⟩ := aG_int g1
  dsimp only at b1 d1
  obtain ⟨x2, rfl, b2, d2⟩ := aG_int g2
  dsimp only at b2 d2
  obtain ⟨m1, m2, m3, m4⟩ := hM0
  obtain ⟨a, mc0, ty0, gc0, ic0, e1, sc0, jc0, e4, e5⟩ := m2 (0, ([], 1), 2) (List.mem_of_getElem? (i := 0) rfl)
  obtain rfl : x0 = a := Sum.inl.inj (Option.some.inj (Sum.inr.inj (Sum.inr.inj (Option.some.inj (show some (rR x0) = some _ from e1)))))
  obtain ⟨gc0, rfl⟩ : ∃ g, gc0 = .inl g := by
    rcases gc0 with g | g
    · exact ⟨g, rfl⟩
    · exact absurd (show some (rI x2) = some (.inr (.inl (g ic0))) from e5) (fun h => by cases h)
  have sc0 : σ x0 = .inl (ty0, mc0, .inl gc0) := sc0
  have ec0 : x2 = gc0 ic0 := Sum.inl.inj (Option.some.inj (show some (rI x2) = some _ from e5))
  have kc0 : (ic0 : Int) = 0 + 1 := by
    obtain ⟨z, e6, e7⟩ := e4
    obtain rfl : 0 = z := Option.some.inj (show some 0 = some z from e6)
    exact e7
  clear e1 e4 e5
  clear m1 m2 m3 m4
  have q0 : rB K n p 185 [rR x0, rI x2] σ := ro_185.mpr (by
    obtain ⟨g, h⟩ := rRw_of hH b0 d0 rfl
    have e := rRw_c (i := ic0) h sc0 ec0
    rw [show ic0 = 1 by omega] at e
    exact ⟨g, h, by rw [e]⟩)
  exact ⟨p, fun _ => rfl, ⟨(fun q h => by cases h), fun q h => (by cases h), (fun f h => by cases h), (aAllc ⟨_, rfl, (rF_b (r := 2962) (by decide) rfl).mpr q0⟩ (fun f h => by cases h))⟩, [], List.mem_cons_self, fun f h => (by cases h)⟩
theorem rw_rvRCb1 {K : Nat → Nat} {n : Nat} {JX : (Nat → jcell) → Prop} : aGho (rF K n) fa_T K n JX ag_rvRCb1 := by
  refine aGho_of ⟨rfl, rfl⟩ ?_
  intro p σ ρ hH hX hA hM0
  have hG := aAG_of hA.1 (fun i e v he hv => (hA.2 i e v he hv).1)
  clear hA
  obtain ⟨v0, v1, v2, v3, rfl, g0, g1, g2, g3⟩ := rA_4 hG
  clear hG
  obtain ⟨x0, rfl, b0, d0⟩ := rG_ref (by decide) g0
  obtain ⟨x1, rfl, b1, d1⟩ := aG_int g1
  dsimp only at b1 d1
  obtain ⟨x2, rfl, b2, d2⟩ := aG_int g2
  dsimp only at b2 d2
  obtain ⟨x3, rfl, b3, d3⟩ := aG_int g3
  dsimp only at b3 d3
  obtain ⟨m1, m2, m3, m4⟩ := hM0
  obtain ⟨a, mc0, ty0, gc0, ic0, e1, sc0, jc0, e4, e5⟩ := m2 (0, ([], 1), 2) (List.mem_of_getElem? (i := 0) rfl)
  obtain rfl : x0 = a := Sum.inl.inj (Option.some.inj (Sum.inr.inj (Sum.inr.inj (Option.some.inj (show some (rR x0) = some _ from e1)))))
  obtain ⟨gc0, rfl⟩ : ∃ g, gc0 = .inl g := by
    rcases gc0 with g | g
    · exact ⟨g, rfl⟩
    · exact absurd (show some (rI x2) = some (.inr (.inl (g ic0))) from e5) (fun h => by cases h)
  have sc0 : σ x0 = .inl (ty0, mc0, .inl gc0) := sc0
  have ec0 : x2 = gc0 ic0 := Sum.inl.inj (Option.some.inj (show some (rI x2) = some _ from e5))
  have kc0 : (ic0 : Int) = 0 + 1 := by
    obtain ⟨z, e6, e7⟩ := e4
    obtain rfl : 0 = z := Option.some.inj (show some 0 = some z from e6)
    exact e7
  clear e1 e4 e5
  have f0 : rB K n p 185 [rR x0, rI x3] σ := by
    obtain ⟨w, e6, e7⟩ := m4 (2962, [0, 3]) (List.mem_of_getElem? (i := 0) rfl)
    obtain rfl : [rR x0, rI x3] = w := Option.some.inj (show some [rR x0, rI x3] = some w from e6)
    exact (rF_b (r := 2962) (by decide) rfl).mp e7
  have f0 := ro_185.mp f0
  clear m1 m2 m3 m4
  have r0 : 0 ≤ (1 * x2.toInt + (-1 * x3.toInt + 0)) + 0 := by
    obtain ⟨g, h, e0⟩ := f0
    have e := rRw_c (i := ic0) h sc0 ec0
    rw [show ic0 = 1 by omega] at e
    rw [e] at e0
    omega
  have r1 : 0 ≤ (-1 * x2.toInt + (1 * x3.toInt + 0)) + 0 := by
    obtain ⟨g, h, e0⟩ := f0
    have e := rRw_c (i := ic0) h sc0 ec0
    rw [show ic0 = 1 by omega] at e
    rw [e] at e0
    omega
  exact ⟨p, fun _ => rfl, ⟨(fun q h => by cases h), fun q h => (by cases h), (aAllc ⟨_, rfl, r0⟩ (aAllc ⟨_, rfl, r1⟩ (fun f h => by cases h))), (fun f h => by cases h)⟩, [], List.mem_cons_self, fun f h => (by cases h)⟩
theorem rw_rvRCc1 {K : Nat → Nat} {n : Nat} {JX : (Nat → jcell) → Prop} : aGho (rF K n) fa_T K n JX ag_rvRCc1 := by
  refine aGho_of ⟨rfl, rfl⟩ ?_
  intro p σ ρ hH hX hA hM0
  have hG := aAG_of hA.1 (fun i e v he hv => (hA.2 i e v he hv).1)
  clear hA
  obtain ⟨v0, v1, v2, v3, rfl, g0, g1, g2, g3⟩ := rA_4 hG
  clear hG
  obtain ⟨x0, rfl, b0, d0⟩ := rG_ref (by decide) g0
  obtain ⟨x1, rfl, b1, d1⟩ := aG_int g1
  dsimp only at b1 d1
  obtain ⟨x2, rfl, b2, d2⟩ := aG_int g2
  dsimp only at b2 d2
  obtain ⟨x3, rfl, b3, d3⟩ := aG_int g3
  dsimp only at b3 d3
  obtain ⟨m1, m2, m3, m4⟩ := hM0
  obtain ⟨M, hM⟩ := rMe_ex hH b0 d0
  have l0 : 0 ≤ (1 * x2.toInt + (-1 * x3.toInt + 0)) + 0 := by
    obtain ⟨z, e6, e7⟩ := m3 ([(2, 1), (3, -1)], 0) (List.mem_of_getElem? (i := 0) rfl)
    obtain rfl : (1 * x2.toInt + (-1 * x3.toInt + 0)) = z := Option.some.inj (show some (1 * x2.toInt + (-1 * x3.toInt + 0)) = some z from e6)
    exact e7
  have l1 : 0 ≤ (-1 * x2.toInt + (1 * x3.toInt + 0)) + 0 := by
    obtain ⟨z, e6, e7⟩ := m3 ([(2, -1), (3, 1)], 0) (List.mem_of_getElem? (i := 1) rfl)
    obtain rfl : (-1 * x2.toInt + (1 * x3.toInt + 0)) = z := Option.some.inj (show some (-1 * x2.toInt + (1 * x3.toInt + 0)) = some z from e6)
    exact e7
  have f0 : rB K n (rSh rS1 p [rR x0, rI x3]) 22 [rR x0] σ := by
    obtain ⟨w, e6, e7⟩ := m4 (353, [0, 0, 3]) (List.mem_of_getElem? (i := 0) rfl)
    obtain rfl : [rR x0, rR x0, rI x3] = w := Option.some.inj (show some [rR x0, rR x0, rI x3] = some w from e6)
    exact (rF_g (r := 353) (by decide)).mp e7
  obtain ⟨hq9, hR⟩ := ro_22.mp f0
  have hp : p.2 = none := rSh_n1 hq9
  clear hq9
  rw [rSh_mk hp] at hR
  obtain rfl : M = rM4 p.1 x3.toInt := rMg_u hM hR.1
  have f1 : rB K n p 26 [rR x0, rI x3] σ := by
    obtain ⟨w, e6, e7⟩ := m4 (418, [0, 3]) (List.mem_of_getElem? (i := 1) rfl)
    obtain rfl : [rR x0, rI x3] = w := Option.some.inj (show some [rR x0, rI x3] = some w from e6)
    exact (rF_b (r := 418) (by decide) rfl).mp e7
  have f1 := ro_26.mp f1
  have f2 : rB K n p 25 [rI x3] σ := by
    obtain ⟨w, e6, e7⟩ := m4 (401, [3]) (List.mem_of_getElem? (i := 2) rfl)
    obtain rfl : [rI x3] = w := Option.some.inj (show some [rI x3] = some w from e6)
    exact (rF_b (r := 401) (by decide) rfl).mp e7
  have f2 := ro_25.mp f2
  clear m1 m2 m3 m4
  obtain rfl : x2 = x3 := Int32.toInt_inj.mp (by omega)
  have q0 : rB K n (rSh rS1 p [rR x0, rI x2]) 22 [rR x0] σ := ro_22.mpr (by
    rw [rSh_mk hp]
    exact ⟨rfl, hR⟩)
  have q1 : rB K n p 28 [rR x0, rI x1, rI x2] σ := ro_28.mpr (by
    rw [show x1.toInt = 1 by omega]
    exact f1)
  have q2 : rB K n p 25 [rI x2] σ := ro_25.mpr (by
    exact f2)
  exact ⟨p, fun _ => rfl, ⟨(fun q h => by cases h), fun q h => (by cases h), (fun f h => by cases h), (aAllc ⟨_, rfl, (rF_g (r := 353) (by decide)).mpr q0⟩ (aAllc ⟨_, rfl, (rF_b (r := 451) (by decide) rfl).mpr q1⟩ (aAllc ⟨_, rfl, (rF_b (r := 401) (by decide) rfl).mpr q2⟩ (fun f h => by cases h))))⟩, [], List.mem_cons_self, fun f h => (by cases h)⟩
theorem rw_rvRCa2 {K : Nat → Nat} {n : Nat} {JX : (Nat → jcell) → Prop} : aGho (rF K n) fa_T K n JX ag_rvRCa2 := by
  refine aGho_of ⟨rfl, rfl⟩ ?_
  intro p σ ρ hH hX hA hM0
  have hG := aAG_of hA.1 (fun i e v he hv => (hA.2 i e v he hv).1)
  clear hA
  obtain ⟨v0, v1, v2, rfl, g0, g1, g2⟩ := rA_3 hG
  clear hG
  obtain ⟨x0, rfl, b0, d0⟩ := rG_ref (by decide) g0
  obtain ⟨x1, rfl, b1, d1⟩ := aG_int g1
  dsimp only at b1 d1
  obtain ⟨x2, rfl, b2, d2⟩ := aG_int g2
  dsimp only at b2 d2
  obtain ⟨m1, m2, m3, m4⟩ := hM0
  obtain ⟨a, mc0, ty0, gc0, ic0, e1, sc0, jc0, e4, e5⟩ := m2 (0, ([], 2), 2) (List.mem_of_getElem? (i := 0) rfl)
  obtain rfl : x0 = a := Sum.inl.inj (Option.some.inj (Sum.inr.inj (Sum.inr.inj (Option.some.inj (show some (rR x0) = some _ from e1)))))
  obtain ⟨gc0, rfl⟩ : ∃ g, gc0 = .inl g := by
    rcases gc0 with g | g
    · exact ⟨g, rfl⟩
    · exact absurd (show some (rI x2) = some (.inr (.inl (g ic0))) from e5) (fun h => by cases h)
  have sc0 : σ x0 = .inl (ty0, mc0, .inl gc0) := sc0
  have ec0 : x2 = gc0 ic0 := Sum.inl.inj (Option.some.inj (show some (rI x2) = some _ from e5))
  have kc0 : (ic0 : Int) = 0 + 2 := by
    obtain ⟨z, e6, e7⟩ := e4
    obtain rfl : 0 = z := Option.some.inj (show some 0 = some z from e6)
    exact e7
  clear e1 e4 e5
  clear m1 m2 m3 m4
  have q0 : rB K n p 186 [rR x0, rI x2] σ := ro_186.mpr (by
    obtain ⟨g, h⟩ := rRw_of hH b0 d0 rfl
    have e := rRw_c (i := ic0) h sc0 ec0
    rw [show ic0 = 2 by omega] at e
    exact ⟨g, h, by rw [e]⟩)
  exact ⟨p, fun _ => rfl, ⟨(fun q h => by cases h), fun q h => (by cases h), (fun f h => by cases h), (aAllc ⟨_, rfl, (rF_b (r := 2978) (by decide) rfl).mpr q0⟩ (fun f h => by cases h))⟩, [], List.mem_cons_self, fun f h => (by cases h)⟩
theorem rw_rvRCb2 {K : Nat → Nat} {n : Nat} {JX : (Nat → jcell) → Prop} : aGho (rF K n) fa_T K n JX ag_rvRCb2 := by
  refine aGho_of ⟨rfl, rfl⟩ ?_
  intro p σ ρ hH hX hA hM0
  have hG := aAG_of hA.1 (fun i e v he hv => (hA.2 i e v he hv).1)
  clear hA
  obtain ⟨v0, v1, v2, v3, rfl, g0, g1, g2, g3⟩ := rA_4 hG
  clear hG
  obtain ⟨x0, rfl, b0, d0⟩ := rG_ref (by decide) g0
  obtain ⟨x1, rfl, b1, d1⟩ := aG_int g1
  dsimp only at b1 d1
  obtain ⟨x2, rfl, b2, d2⟩ := aG_int g2
  dsimp only at b2 d2
  obtain ⟨x3, rfl, b3, d3⟩ := aG_int g3
  dsimp only at b3 d3
  obtain ⟨m1, m2, m3, m4⟩ := hM0
  obtain ⟨a, mc0, ty0, gc0, ic0, e1, sc0, jc0, e4, e5⟩ := m2 (0, ([], 2), 2) (List.mem_of_getElem? (i := 0) rfl)
  obtain rfl : x0 = a := Sum.inl.inj (Option.some.inj (Sum.inr.inj (Sum.inr.inj (Option.some.inj (show some (rR x0) = some _ from e1)))))
  obtain ⟨gc0, rfl⟩ : ∃ g, gc0 = .inl g := by
    rcases gc0 with g | g
    · exact ⟨g, rfl⟩
    · exact absurd (show some (rI x2) = some (.inr (.inl (g ic0))) from e5) (fun h => by cases h)
  have sc0 : σ x0 = .inl (ty0, mc0, .inl gc0) := sc0
  have ec0 : x2 = gc0 ic0 := Sum.inl.inj (Option.some.inj (show some (rI x2) = some _ from e5))
  have kc0 : (ic0 : Int) = 0 + 2 := by
    obtain ⟨z, e6, e7⟩ := e4
    obtain rfl : 0 = z := Option.some.inj (show some 0 = some z from e6)
    exact e7
  clear e1 e4 e5
  have f0 : rB K n p 186 [rR x0, rI x3] σ := by
    obtain ⟨w, e6, e7⟩ := m4 (2978, [0, 3]) (List.mem_of_getElem? (i := 0) rfl)
    obtain rfl : [rR x0, rI x3] = w := Option.some.inj (show some [rR x0, rI x3] = some w from e6)
    exact (rF_b (r := 2978) (by decide) rfl).mp e7
  have f0 := ro_186.mp f0
  clear m1 m2 m3 m4
  have r0 : 0 ≤ (1 * x2.toInt + (-1 * x3.toInt + 0)) + 0 := by
    obtain ⟨g, h, e0⟩ := f0
    have e := rRw_c (i := ic0) h sc0 ec0
    rw [show ic0 = 2 by omega] at e
    rw [e] at e0
    omega
  have r1 : 0 ≤ (-1 * x2.toInt + (1 * x3.toInt + 0)) + 0 := by
    obtain ⟨g, h, e0⟩ := f0
    have e := rRw_c (i := ic0) h sc0 ec0
    rw [show ic0 = 2 by omega] at e
    rw [e] at e0
    omega
  exact ⟨p, fun _ => rfl, ⟨(fun q h => by cases h), fun q h => (by cases h), (aAllc ⟨_, rfl, r0⟩ (aAllc ⟨_, rfl, r1⟩ (fun f h => by cases h))), (fun f h => by cases h)⟩, [], List.mem_cons_self, fun f h => (by cases h)⟩
theorem rw_rvRCc2 {K : Nat → Nat} {n : Nat} {JX : (Nat → jcell) → Prop} : aGho (rF K n) fa_T K n JX ag_rvRCc2 := by
  refine aGho_of ⟨rfl, rfl⟩ ?_
  intro p σ ρ hH hX hA hM0
  have hG := aAG_of hA.1 (fun i e v he hv => (hA.2 i e v he hv).1)
  clear hA
  obtain ⟨v0, v1, v2, v3, rfl, g0, g1, g2, g3⟩ := rA_4 hG
  clear hG
  obtain ⟨x0, rfl, b0, d0⟩ := rG_ref (by decide) g0
  obtain ⟨x1, rfl, b1, d1⟩ := aG_int g1
  dsimp only at b1 d1
  obtain ⟨x2, rfl, b2, d2⟩ := aG_int g2
  dsimp only at b2 d2
  obtain ⟨x3, rfl, b3, d3⟩ := aG_int g3
  dsimp only at b3 d3
  obtain ⟨m1, m2, m3, m4⟩ := hM0
  obtain ⟨M, hM⟩ := rMe_ex hH b0 d0
  have l0 : 0 ≤ (1 * x2.toInt + (-1 * x3.toInt + 0)) + 0 := by
    obtain ⟨z, e6, e7⟩ := m3 ([(2, 1), (3, -1)], 0) (List.mem_of_getElem? (i := 0) rfl)
    obtain rfl : (1 * x2.toInt + (-1 * x3.toInt + 0)) = z := Option.some.inj (show some (1 * x2.toInt + (-1 * x3.toInt + 0)) = some z from e6)
    exact e7
  have l1 : 0 ≤ (-1 * x2.toInt + (1 * x3.toInt + 0)) + 0 := by
    obtain ⟨z, e6, e7⟩ := m3 ([(2, -1), (3, 1)], 0) (List.mem_of_getElem? (i := 1) rfl)
    obtain rfl : (-1 * x2.toInt + (1 * x3.toInt + 0)) = z := Option.some.inj (show some (-1 * x2.toInt + (1 * x3.toInt + 0)) = some z from e6)
    exact e7
  have f0 : rB K n (rSh rS1 p [rR x0, rI x3]) 22 [rR x0] σ := by
    obtain ⟨w, e6, e7⟩ := m4 (353, [0, 0, 3]) (List.mem_of_getElem? (i := 0) rfl)
    obtain rfl : [rR x0, rR x0, rI x3] = w := Option.some.inj (show some [rR x0, rR x0, rI x3] = some w from e6)
    exact (rF_g (r := 353) (by decide)).mp e7
  obtain ⟨hq9, hR⟩ := ro_22.mp f0
  have hp : p.2 = none := rSh_n1 hq9
  clear hq9
  rw [rSh_mk hp] at hR
  obtain rfl : M = rM4 p.1 x3.toInt := rMg_u hM hR.1
  have f1 : rB K n p 27 [rR x0, rI x3] σ := by
    obtain ⟨w, e6, e7⟩ := m4 (434, [0, 3]) (List.mem_of_getElem? (i := 1) rfl)
    obtain rfl : [rR x0, rI x3] = w := Option.some.inj (show some [rR x0, rI x3] = some w from e6)
    exact (rF_b (r := 434) (by decide) rfl).mp e7
  have f1 := ro_27.mp f1
  have f2 : rB K n p 25 [rI x3] σ := by
    obtain ⟨w, e6, e7⟩ := m4 (401, [3]) (List.mem_of_getElem? (i := 2) rfl)
    obtain rfl : [rI x3] = w := Option.some.inj (show some [rI x3] = some w from e6)
    exact (rF_b (r := 401) (by decide) rfl).mp e7
  have f2 := ro_25.mp f2
  clear m1 m2 m3 m4
  obtain rfl : x2 = x3 := Int32.toInt_inj.mp (by omega)
  have q0 : rB K n (rSh rS1 p [rR x0, rI x2]) 22 [rR x0] σ := ro_22.mpr (by
    rw [rSh_mk hp]
    exact ⟨rfl, hR⟩)
  have q1 : rB K n p 28 [rR x0, rI x1, rI x2] σ := ro_28.mpr (by
    rw [show x1.toInt = 2 by omega]
    exact f1)
  have q2 : rB K n p 25 [rI x2] σ := ro_25.mpr (by
    exact f2)
  exact ⟨p, fun _ => rfl, ⟨(fun q h => by cases h), fun q h => (by cases h), (fun f h => by cases h), (aAllc ⟨_, rfl, (rF_g (r := 353) (by decide)).mpr q0⟩ (aAllc ⟨_, rfl, (rF_b (r := 451) (by decide) rfl).mpr q1⟩ (aAllc ⟨_, rfl, (rF_b (r := 401) (by decide) rfl).mpr q2⟩ (fun f h => by cases h))))⟩, [], List.mem_cons_self, fun f h => (by cases h)⟩
theorem rw_rvRCa3 {K : Nat → Nat} {n : Nat} {JX : (Nat → jcell) → Prop} : aGho (rF K n) fa_T K n JX ag_rvRCa3 := by
  refine aGho_of ⟨rfl, rfl⟩ ?_
  intro p σ ρ hH hX hA hM0
  have hG := aAG_of hA.1 (fun i e v he hv => (hA.2 i e v he hv).1)
  clear hA
  obtain ⟨v0, v1, v2, rfl, g0, g1, g2⟩ := rA_3 hG
  clear hG
  obtain ⟨x0, rfl, b0, d0⟩ := rG_ref (by decide) g0
  obtain ⟨x1, rfl, b1, d1⟩ := aG_int g1
  dsimp only at b1 d1
  obtain ⟨x2, rfl, b2, d2⟩ := aG_int g2
  dsimp only at b2 d2
  obtain ⟨m1, m2, m3, m4⟩ := hM0
  obtain ⟨a, mc0, ty0, gc0, ic0, e1, sc0, jc0, e4, e5⟩ := m2 (0, ([], 3), 2) (List.mem_of_getElem? (i := 0) rfl)
  obtain rfl : x0 = a := Sum.inl.inj (Option.some.inj (Sum.inr.inj (Sum.inr.inj (Option.some.inj (show some (rR x0) = some _ from e1)))))
  obtain ⟨gc0, rfl⟩ : ∃ g, gc0 = .inl g := by
    rcases gc0 with g | g
    · exact ⟨g, rfl⟩
    · exact absurd (show some (rI x2) = some (.inr (.inl (g ic0))) from e5) (fun h => by cases h)
  have sc0 : σ x0 = .inl (ty0, mc0, .inl gc0) := sc0
  have ec0 : x2 = gc0 ic0 := Sum.inl.inj (Option.some.inj (show some (rI x2) = some _ from e5))
  have kc0 : (ic0 : Int) = 0 + 3 := by
    obtain ⟨z, e6, e7⟩ := e4
    obtain rfl : 0 = z := Option.some.inj (show some 0 = some z from e6)
    exact e7
  clear e1 e4 e5
  clear m1 m2 m3 m4
  have q0 : rB K n p 187 [rR x0, rI x2] σ := ro_187.mpr (by
    obtain ⟨g, h⟩ := rRw_of hH b0 d0 rfl
    have e := rRw_c (i := ic0) h sc0 ec0
    rw [show ic0 = 3 by omega] at e
    exact ⟨g, h, by rw [e]⟩)
  exact ⟨p, fun _ => rfl, ⟨(fun q h => by cases h), fun q h => (by cases h), (fun f h => by cases h), (aAllc ⟨_, rfl, (rF_b (r := 2994) (by decide) rfl).mpr q0⟩ (fun f h => by cases h))⟩, [], List.mem_cons_self, fun f h => (by cases h)⟩
theorem rw_rvRCb3 {K : Nat → Nat} {n : Nat} {JX : (Nat → jcell) → Prop} : aGho (rF K n) fa_T K n JX ag_rvRCb3 := by
  refine aGho_of ⟨rfl, rfl⟩ ?_
  intro p σ ρ hH hX hA hM0
  have hG := aAG_of hA.1 (fun i e v he hv => (hA.2 i e v he hv).1)
  clear hA
  obtain ⟨v0, v1, v2, v3, rfl, g0, g1, g2, g3⟩ := rA_4 hG
  clear hG
  obtain ⟨x0, rfl, b0, d0⟩ := rG_ref (by decide) g0
  obtain ⟨x1, rfl, b1, d1⟩ := aG_int g1
  dsimp only at b1 d1
  obtain ⟨x2, rfl, b2, d2⟩ := aG_int g2
  dsimp only at b2 d2
  obtain ⟨x3, rfl, b3, d3⟩ := aG_int g3
  dsimp only at b3 d3
  obtain ⟨m1, m2, m3, m4⟩ := hM0
  obtain ⟨a, mc0, ty0, gc0, ic0, e1, sc0, jc0, e4, e5⟩ := m2 (0, ([], 3), 2) (List.mem_of_getElem? (i := 0) rfl)
  obtain rfl : x0 = a := Sum.inl.inj (Option.some.inj (Sum.inr.inj (Sum.inr.inj (Option.some.inj (show some (rR x0) = some _ from e1)))))
  obtain ⟨gc0, rfl⟩ : ∃ g, gc0 = .inl g := by
    rcases gc0 with g | g
    · exact ⟨g, rfl⟩
    · exact absurd (show some (rI x2) = some (.inr (.inl (g ic0))) from e5) (fun h => by cases h)
  have sc0 : σ x0 = .inl (ty0, mc0, .inl gc0) := sc0
  have ec0 : x2 = gc0 ic0 := Sum.inl.inj (Option.some.inj (show some (rI x2) = some _ from e5))
  have kc0 : (ic0 : Int) = 0 + 3 := by
    obtain ⟨z, e6, e7⟩ := e4
    obtain rfl : 0 = z := Option.some.inj (show some 0 = some z from e6)
    exact e7
  clear e1 e4 e5
  have f0 : rB K n p 187 [rR x0, rI x3] σ := by
    obtain ⟨w, e6, e7⟩ := m4 (2994, [0, 3]) (List.mem_of_getElem? (i := 0) rfl)
    obtain rfl : [rR x0, rI x3] = w := Option.some.inj (show some [rR x0, rI x3] = some w from e6)
    exact (rF_b (r := 2994) (by decide) rfl).mp e7
  have f0 := ro_187.mp f0
  clear m1 m2 m3 m4
  have r0 : 0 ≤ (1 * x2.toInt + (-1 * x3.toInt + 0)) + 0 := by
    obtain ⟨g, h, e0⟩ := f0
    have e := rRw_c (i := ic0) h sc0 ec0
    rw [show ic0 = 3 by omega] at e
    rw [e] at e0
    omega
  have r1 : 0 ≤ (-1 * x2.toInt + (1 * x3.toInt + 0)) + 0 := by
    obtain ⟨g, h, e0⟩ := f0
    have e := rRw_c (i := ic0) h sc0 ec0
    rw [show ic0 = 3 by omega] at e
    rw [e] at e0
    omega
  exact ⟨p, fun _ => rfl, ⟨(fun q h => by cases h), fun q h => (by cases h), (aAllc ⟨_, rfl, r0⟩ (aAllc ⟨_, rfl, r1⟩ (fun f h => by cases h))), (fun f h => by cases h)⟩, [], List.mem_cons_self, fun f h => (by cases h)⟩
theorem rw_rvRCc3 {K : Nat → Nat} {n : Nat} {JX : (Nat → jcell) → Prop} : aGho (rF K n) fa_T K n JX ag_rvRCc3 := by
  refine aGho_of ⟨rfl, rfl⟩ ?_
  intro p σ ρ hH hX hA hM0
  have hG := aAG_of hA.1 (fun i e v he hv => (hA.2 i e v he hv).1)
  clear hA
  obtain ⟨v0, v1, v2, v3, rfl, g0, g1, g2, g3⟩ := rA_4 hG
  clear hG
  obtain ⟨x0, rfl, b0, d0⟩ := rG_ref (by decide) g0
  obtain ⟨x1, rfl, b1, d1⟩ := aG_int g1
  dsimp only at b1 d1
  obtain ⟨x2, rfl, b2, d2⟩ := aG_int g2
  dsimp only at b2 d2
  obtain ⟨x3, rfl, b3, d3⟩ := aG_int g3
  dsimp only at b3 d3
  obtain ⟨m1, m2, m3, m4⟩ := hM0
  obtain ⟨M, hM⟩ := rMe_ex hH b0 d0
  have l0 : 0 ≤ (1 * x2.toInt + (-1 * x3.toInt + 0)) + 0 := by
    obtain ⟨z, e6, e7⟩ := m3 ([(2, 1), (3, -1)], 0) (List.mem_of_getElem? (i := 0) rfl)
    obtain rfl : (1 * x2.toInt + (-1 * x3.toInt + 0)) = z := Option.some.inj (show some (1 * x2.toInt + (-1 * x3.toInt + 0)) = some z from e6)
    exact e7
  have l1 : 0 ≤ (-1 * x2.toInt + (1 * x3.toInt + 0)) + 0 := by
    obtain ⟨z, e6, e7⟩ := m3 ([(2, -1), (3, 1)], 0) (List.mem_of_getElem? (i := 1) rfl)
    obtain rfl : (-1 * x2.toInt + (1 * x3.toInt + 0)) = z := Option.some.inj (show some (-1 * x2.toInt + (1 * x3.toInt + 0)) = some z from e6)
    exact e7
  have f0 : rB K n (rSh rS1 p [rR x0, rI x3]) 22 [rR x0] σ := by
    obtain ⟨w, e6, e7⟩ := m4 (353, [0, 0, 3]) (List.mem_of_getElem? (i := 0) rfl)
    obtain rfl : [rR x0, rR x0, rI x3] = w := Option.some.inj (show some [rR x0, rR x0, rI x3] = some w from e6)
    exact (rF_g (r := 353) (by decide)).mp e7
  obtain ⟨hq9, hR⟩ := ro_22.mp f0
  have hp : p.2 = none := rSh_n1 hq9
  clear hq9
  rw [rSh_mk hp] at hR
  obtain rfl : M = rM4 p.1 x3.toInt := rMg_u hM hR.1
  have f1 : rB K n p 48 [rR x0, rI x3] σ := by
    obtain ⟨w, e6, e7⟩ := m4 (770, [0, 3]) (List.mem_of_getElem? (i := 1) rfl)
    obtain rfl : [rR x0, rI x3] = w := Option.some.inj (show some [rR x0, rI x3] = some w from e6)
    exact (rF_b (r := 770) (by decide) rfl).mp e7
  have f1 := ro_48.mp f1
  have f2 : rB K n p 25 [rI x3] σ := by
    obtain ⟨w, e6, e7⟩ := m4 (401, [3]) (List.mem_of_getElem? (i := 2) rfl)
    obtain rfl : [rI x3] = w := Option.some.inj (show some [rI x3] = some w from e6)
    exact (rF_b (r := 401) (by decide) rfl).mp e7
  have f2 := ro_25.mp f2
  clear m1 m2 m3 m4
  obtain rfl : x2 = x3 := Int32.toInt_inj.mp (by omega)
  have q0 : rB K n (rSh rS1 p [rR x0, rI x2]) 22 [rR x0] σ := ro_22.mpr (by
    rw [rSh_mk hp]
    exact ⟨rfl, hR⟩)
  have q1 : rB K n p 28 [rR x0, rI x1, rI x2] σ := ro_28.mpr (by
    rw [show x1.toInt = 3 by omega]
    exact f1)
  have q2 : rB K n p 25 [rI x2] σ := ro_25.mpr (by
    exact f2)
  exact ⟨p, fun _ => rfl, ⟨(fun q h => by cases h), fun q h => (by cases h), (fun f h => by cases h), (aAllc ⟨_, rfl, (rF_g (r := 353) (by decide)).mpr q0⟩ (aAllc ⟨_, rfl, (rF_b (r := 451) (by decide) rfl).mpr q1⟩ (aAllc ⟨_, rfl, (rF_b (r := 401) (by decide) rfl).mpr q2⟩ (fun f h => by cases h))))⟩, [], List.mem_cons_self, fun f h => (by cases h)⟩
theorem rw_rvLN1 {K : Nat → Nat} {n : Nat} {JX : (Nat → jcell) → Prop} : aGho (rF K n) fa_T K n JX ag_rvLN1 := by
  refine aGho_of ⟨rfl, rfl⟩ ?_
  intro p σ ρ hH hX hA hM0
  have hG := aAG_of hA.1 (fun i e v he hv => (hA.2 i e v he hv).1)
  clear hA
  obtain ⟨v0, v1, v2, v3, rfl, g0, g1, g2, g3⟩ := rA_4 hG
  clear hG
  obtain ⟨x0, rfl, b0, d0⟩ := rG_ref (by decide) g0
  obtain ⟨x1, rfl, b1, d1⟩ := rG_ref (by decide) g1
  obtain ⟨x2, rfl, b2, d2⟩ := aG_int g2
  dsimp only at b2 d2
  obtain ⟨x3, rfl, b3, d3⟩ := aG_int g3
  dsimp only at b3 d3
  obtain ⟨m1, m2, m3, m4⟩ := hM0
  obtain ⟨M, hM⟩ := rMe_ex hH b0 d0
  obtain ⟨a0, c0, fs0, w0, e1, s0, t0, e4⟩ := m1 (0, 28, 1) (List.mem_of_getElem? (i := 0) rfl)
  obtain rfl : x0 = a0 := Sum.inl.inj (Option.some.inj (Sum.inr.inj (Sum.inr.inj (Option.some.inj (show some (rR x0) = some _ from e1)))))
  obtain rfl : rR x1 = w0 := Option.some.inj (show some (rR x1) = some w0 from e4)
  clear e1 e4
  obtain ⟨a1, c1, fs1, w1, e1, s1, t1, e4⟩ := m1 (0, 27, 3) (List.mem_of_getElem? (i := 1) rfl)
  obtain rfl : x0 = a1 := Sum.inl.inj (Option.some.inj (Sum.inr.inj (Sum.inr.inj (Option.some.inj (show some (rR x0) = some _ from e1)))))
  obtain rfl : rI x3 = w1 := Option.some.inj (show some (rI x3) = some w1 from e4)
  clear e1 e4
  have f0 : rB K n p 184 [rR x1, rI x2] σ := by
    obtain ⟨w, e6, e7⟩ := m4 (2946, [1, 2]) (List.mem_of_getElem? (i := 0) rfl)
    obtain rfl : [rR x1, rI x2] = w := Option.some.inj (show some [rR x1, rI x2] = some w from e6)
    exact (rF_b (r := 2946) (by decide) rfl).mp e7
  have f0 := ro_184.mp f0
  have f1 : rB K n p 25 [rI x2] σ := by
    obtain ⟨w, e6, e7⟩ := m4 (401, [2]) (List.mem_of_getElem? (i := 1) rfl)
    obtain rfl : [rI x2] = w := Option.some.inj (show some [rI x2] = some w from e6)
    exact (rF_b (r := 401) (by decide) rfl).mp e7
  have f1 := ro_25.mp f1
  have f2 : rB K n (rSh rS1 p [rR x0, rI x2]) 24 [] σ := by
    obtain ⟨w, e6, e7⟩ := m4 (384, [0, 2]) (List.mem_of_getElem? (i := 2) rfl)
    obtain rfl : [rR x0, rI x2] = w := Option.some.inj (show some [rR x0, rI x2] = some w from e6)
    exact (rF_g (r := 384) (by decide)).mp e7
  have f2 := ro_24.mp f2
  clear m1 m2 m3 m4
  have q0 : rB K n p 96 [rR x1, rI x3] σ := ro_96.mpr (by
    obtain ⟨g0, h0, e0⟩ := f0
    have e0 : g0 0 = x2 := Int32.toInt_inj.mp e0
    refine ⟨g0, x0, Or.inl h0, ?_⟩
    rw [show x3.toInt.toNat = 1 by omega]
    unfold rLn
    rw [e0]
    exact rLn_1 f1 f2)
  exact ⟨p, fun _ => rfl, ⟨(fun q h => by cases h), fun q h => (by cases h), (fun f h => by cases h), (aAllc ⟨_, rfl, (rF_b (r := 1538) (by decide) rfl).mpr q0⟩ (fun f h => by cases h))⟩, [], List.mem_cons_self, fun f h => (by cases h)⟩
theorem rw_rvLN2 {K : Nat → Nat} {n : Nat} {JX : (Nat → jcell) → Prop} : aGho (rF K n) fa_T K n JX ag_rvLN2 := by
  refine aGho_of ⟨rfl, rfl⟩ ?_
  intro p σ ρ hH hX hA hM0
  have hG := aAG_of hA.1 (fun i e v he hv => (hA.2 i e v he hv).1)
  clear hA
  obtain ⟨v0, v1, v2, v3, v4, rfl, g0, g1, g2, g3, g4⟩ := rA_5 hG
  clear hG
  obtain ⟨x0, rfl, b0, d0⟩ := rG_ref (by decide) g0
  obtain ⟨x1, rfl, b1, d1⟩ := rG_ref (by decide) g1
  obtain ⟨x2, rfl, b2, d2⟩ := aG_int g2
  dsimp only at b2 d2
  obtain ⟨x3, rfl, b3, d3⟩ := aG_int g3
  dsimp only at b3 d3
  obtain ⟨x4, rfl, b4, d4⟩ := aG_int g4
  dsimp only at b4 d4
  obtain ⟨m1, m2, m3, m4⟩ := hM0
  obtain ⟨M, hM⟩ := rMe_ex hH b0 d0
  obtain ⟨a0, c0, fs0, w0, e1, s0, t0, e4⟩ := m1 (0, 28, 1) (List.mem_of_getElem? (i := 0) rfl)
  obtain rfl : x0 = a0 := Sum.inl.inj (Option.some.inj (Sum.inr.inj (Sum.inr.inj (Option.some.inj (show some (rR x0) = some _ from e1)))))
  obtain rfl : rR x1 = w0 := Option.some.inj (show some (rR x1) = some w0 from e4)
  clear e1 e4
  obtain ⟨a1, c1, fs1, w1, e1, s1, t1, e4⟩ := m1 (0, 27, 4) (List.mem_of_getElem? (i := 1) rfl)
  obtain rfl : x0 = a1 := Sum.inl.inj (Option.some.inj (Sum.inr.inj (Sum.inr.inj (Option.some.inj (show some (rR x0) = some _ from e1)))))
  obtain rfl : rI x4 = w1 := Option.some.inj (show some (rI x4) = some w1 from e4)
  clear e1 e4
  have f0 : rB K n p 184 [rR x1, rI x2] σ := by
    obtain ⟨w, e6, e7⟩ := m4 (2946, [1, 2]) (List.mem_of_getElem? (i := 0) rfl)
    obtain rfl : [rR x1, rI x2] = w := Option.some.inj (show some [rR x1, rI x2] = some w from e6)
    exact (rF_b (r := 2946) (by decide) rfl).mp e7
  have f0 := ro_184.mp f0
  have f1 : rB K n p 185 [rR x1, rI x3] σ := by
    obtain ⟨w, e6, e7⟩ := m4 (2962, [1, 3]) (List.mem_of_getElem? (i := 1) rfl)
    obtain rfl : [rR x1, rI x3] = w := Option.some.inj (show some [rR x1, rI x3] = some w from e6)
    exact (rF_b (r := 2962) (by decide) rfl).mp e7
  have f1 := ro_185.mp f1
  have f2 : rB K n p 25 [rI x2] σ := by
    obtain ⟨w, e6, e7⟩ := m4 (401, [2]) (List.mem_of_getElem? (i := 2) rfl)
    obtain rfl : [rI x2] = w := Option.some.inj (show some [rI x2] = some w from e6)
    exact (rF_b (r := 401) (by decide) rfl).mp e7
  have f2 := ro_25.mp f2
  have f3 : rB K n (rSh rS1 p [rR x0, rI x2]) 24 [] σ := by
    obtain ⟨w, e6, e7⟩ := m4 (384, [0, 2]) (List.mem_of_getElem? (i := 3) rfl)
    obtain rfl : [rR x0, rI x2] = w := Option.some.inj (show some [rR x0, rI x2] = some w from e6)
    exact (rF_g (r := 384) (by decide)).mp e7
  have f3 := ro_24.mp f3
  have f4 : rB K n (rSh rS1 p [rR x0, rI x2]) 25 [rI x3] σ := by
    obtain ⟨w, e6, e7⟩ := m4 (401, [3, 0, 2]) (List.mem_of_getElem? (i := 4) rfl)
    obtain rfl : [rI x3, rR x0, rI x2] = w := Option.some.inj (show some [rI x3, rR x0, rI x2] = some w from e6)
    exact (rF_g (r := 401) (by decide)).mp e7
  have f4 := ro_25.mp f4
  have f5 : rB K n (rSh rS1 p [rR x0, rI x3, rR x0, rI x2]) 24 [] σ := by
    obtain ⟨w, e6, e7⟩ := m4 (384, [0, 3, 0, 2]) (List.mem_of_getElem? (i := 5) rfl)
    obtain rfl : [rR x0, rI x3, rR x0, rI x2] = w := Option.some.inj (show some [rR x0, rI x3, rR x0, rI x2] = some w from e6)
    exact (rF_g (r := 384) (by decide)).mp e7
  have f5 := ro_24.mp f5
  clear m1 m2 m3 m4
  have q0 : rB K n p 96 [rR x1, rI x4] σ := ro_96.mpr (by
    obtain ⟨g0, h0, e0⟩ := f0
    have e0 : g0 0 = x2 := Int32.toInt_inj.mp e0
    obtain ⟨g1, h1, e1⟩ := f1
    obtain rfl := rRw_u h0 h1
    have e1 : g0 1 = x3 := Int32.toInt_inj.mp e1
    refine ⟨g0, x0, Or.inl h0, ?_⟩
    rw [show x4.toInt.toNat = 2 by omega]
    unfold rLn
    rw [e0]
    exact rLn_2 e1 f2 f3 f4 f5)
  exact ⟨p, fun _ => rfl, ⟨(fun q h => by cases h), fun q h => (by cases h), (fun f h => by cases h), (aAllc ⟨_, rfl, (rF_b (r := 1538) (by decide) rfl).mpr q0⟩ (fun f h => by cases h))⟩, [], List.mem_cons_self, fun f h => (by cases h)⟩
theorem rw_rvLN3 {K : Nat → Nat} {n : Nat} {JX : (Nat → jcell) → Prop} : aGho (rF K n) fa_T K n JX ag_rvLN3 := by
  refine aGho_of ⟨rfl, rfl⟩ ?_
  intro p σ ρ hH hX hA hM0
  have hG := aAG_of hA.1 (fun i e v he hv => (hA.2 i e v he hv).1)
  clear hA
  obtain ⟨v0, v1, v2, v3, v4, v5, rfl, g0, g1, g2, g3, g4, g5⟩ := rA_6 hG
  clear hG
  obtain ⟨x0, rfl, b0, d0⟩ := rG_ref (by decide) g0
  obtain ⟨x1, rfl, b1, d1⟩ := rG_ref (by decide) g1
  obtain ⟨x2, rfl, b2, d2⟩ := aG_int g2
  dsimp only at b2 d2
  obtain ⟨x3, rfl, b3, d3⟩ := aG_int g3
  dsimp only at b3 d3
  obtain ⟨x4, rfl, b4, d4⟩ := aG_int g4
  dsimp only at b4 d4
  obtain ⟨x5, rfl, b5, d5⟩ := aG_int g5
  dsimp only at b5 d5
  obtain ⟨m1, m2, m3, m4⟩ := hM0
  obtain ⟨M, hM⟩ := rMe_ex hH b0 d0
  obtain ⟨a0, c0, fs0, w0, e1, s0, t0, e4⟩ := m1 (0, 28, 1) (List.mem_of_getElem? (i := 0) rfl)
  obtain rfl : x0 = a0 := Sum.inl.inj (Option.some.inj (Sum.inr.inj (Sum.inr.inj (Option.some.inj (show some (rR x0) = some _ from e1)))))
  obtain rfl : rR x1 = w0 := Option.some.inj (show some (rR x1) = some w0 from e4)
  clear e1 e4
  obtain ⟨a1, c1, fs1, w1, e1, s1, t1, e4⟩ := m1 (0, 27, 5) (List.mem_of_getElem? (i := 1) rfl)
  obtain rfl : x0 = a1 := Sum.inl.inj (Option.some.inj (Sum.inr.inj (Sum.inr.inj (Option.some.inj (show some (rR x0) = some _ from e1)))))
  obtain rfl : rI x5 = w1 := Option.some.inj (show some (rI x5) = some w1 from e4)
  clear e1 e4
  have f0 : rB K n p 184 [rR x1, rI x2] σ := by
    obtain ⟨w, e6, e7⟩ := m4 (2946, [1, 2]) (List.mem_of_getElem? (i := 0) rfl)
    obtain rfl : [rR x1, rI x2] = w := Option.some.inj (show some [rR x1, rI x2] = some w from e6)
    exact (rF_b (r := 2946) (by decide) rfl).mp e7
  have f0 := ro_184.mp f0
  have f1 : rB K n p 185 [rR x1, rI x3] σ := by
    obtain ⟨w, e6, e7⟩ := m4 (2962, [1, 3]) (List.mem_of_getElem? (i := 1) rfl)
    obtain rfl : [rR x1, rI x3] = w := Option.some.inj (show some [rR x1, rI x3] = some w from e6)
    exact (rF_b (r := 2962) (by decide) rfl).mp e7
  have f1 := ro_185.mp f1
  have f2 : rB K n p 186 [rR x1, rI x4] σ := by
    obtain ⟨w, e6, e7⟩ := m4 (2978, [1, 4]) (List.mem_of_getElem? (i := 2) rfl)
    obtain rfl : [rR x1, rI x4] = w := Option.some.inj (show some [rR x1, rI x4] = some w from e6)
    exact (rF_b (r := 2978) (by decide) rfl).mp e7
  have f2 := ro_186.mp f2
  have f3 : rB K n p 25 [rI x2] σ := by
    obtain ⟨w, e6, e7⟩ := m4 (401, [2]) (List.mem_of_getElem? (i := 3) rfl)
    obtain rfl : [rI x2] = w := Option.some.inj (show some [rI x2] = some w from e6)
    exact (rF_b (r := 401) (by decide) rfl).mp e7
  have f3 := ro_25.mp f3
  have f4 : rB K n (rSh rS1 p [rR x0, rI x2]) 24 [] σ := by
    obtain ⟨w, e6, e7⟩ := m4 (384, [0, 2]) (List.mem_of_getElem? (i := 4) rfl)
    obtain rfl : [rR x0, rI x2] = w := Option.some.inj (show some [rR x0, rI x2] = some w from e6)
    exact (rF_g (r := 384) (by decide)).mp e7
  have f4 := ro_24.mp f4
  have f5 : rB K n (rSh rS1 p [rR x0, rI x2]) 25 [rI x3] σ := by
    obtain ⟨w, e6, e7⟩ := m4 (401, [3, 0, 2]) (List.mem_of_getElem? (i := 5) rfl)
    obtain rfl : [rI x3, rR x0, rI x2] = w := Option.some.inj (show some [rI x3, rR x0, rI x2] = some w from e6)
    exact (rF_g (r := 401) (by decide)).mp e7
  have f5 := ro_25.mp f5
  have f6 : rB K n (rSh rS1 p [rR x0, rI x3, rR x0, rI x2]) 24 [] σ := by
    obtain ⟨w, e6, e7⟩ := m4 (384, [0, 3, 0, 2]) (List.mem_of_getElem? (i := 6) rfl)
    obtain rfl : [rR x0, rI x3, rR x0, rI x2] = w := Option.some.inj (show some [rR x0, rI x3, rR x0, rI x2] = some w from e6)
    exact (rF_g (r := 384) (by decide)).mp e7
  have f6 := ro_24.mp f6
  have f7 : rB K n (rSh rS1 p [rR x0, rI x3, rR x0, rI x2]) 25 [rI x4] σ := by
    obtain ⟨w, e6, e7⟩ := m4 (401, [4, 0, 3, 0, 2]) (List.mem_of_getElem? (i := 7) rfl)
    obtain rfl : [rI x4, rR x0, rI x3, rR x0, rI x2] = w := Option.some.inj (show some [rI x4, rR x0, rI x3, rR x0, rI x2] = some w from e6)
    exact (rF_g (r := 401) (by decide)).mp e7
  have f7 := ro_25.mp f7
  have f8 : rB K n (rSh rS1 p [rR x0, rI x4, rR x0, rI x3, rR x0, rI x2]) 24 [] σ := by
    obtain ⟨w, e6, e7⟩ := m4 (384, [0, 4, 0, 3, 0, 2]) (List.mem_of_getElem? (i := 8) rfl)
    obtain rfl : [rR x0, rI x4, rR x0, rI x3, rR x0, rI x2] = w := Option.some.inj (show some [rR x0, rI x4, rR x0, rI x3, rR x0, rI x2] = some w from e6)
    exact (rF_g (r := 384) (by decide)).mp e7
  have f8 := ro_24.mp f8
  clear m1 m2 m3 m4
  have q0 : rB K n p 96 [rR x1, rI x5] σ := ro_96.mpr (by
    obtain ⟨g0, h0, e0⟩ := f0
    have e0 : g0 0 = x2 := Int32.toInt_inj.mp e0
    obtain ⟨g1, h1, e1⟩ := f1
    obtain rfl := rRw_u h0 h1
    have e1 : g0 1 = x3 := Int32.toInt_inj.mp e1
    obtain ⟨g2, h2, e2⟩ := f2
    obtain rfl := rRw_u h0 h2
    have e2 : g0 2 = x4 := Int32.toInt_inj.mp e2
    refine ⟨g0, x0, Or.inl h0, ?_⟩
    rw [show x5.toInt.toNat = 3 by omega]
    unfold rLn
    rw [e0]
    exact rLn_3 e1 e2 f3 f4 f5 f6 f7 f8)
  exact ⟨p, fun _ => rfl, ⟨(fun q h => by cases h), fun q h => (by cases h), (fun f h => by cases h), (aAllc ⟨_, rfl, (rF_b (r := 1538) (by decide) rfl).mpr q0⟩ (fun f h => by cases h))⟩, [], List.mem_cons_self, fun f h => (by cases h)⟩
theorem rw_rvLN4 {K : Nat → Nat} {n : Nat} {JX : (Nat → jcell) → Prop} : aGho (rF K n) fa_T K n JX ag_rvLN4 := by
  refine aGho_of ⟨rfl, rfl⟩ ?_
  intro p σ ρ hH hX hA hM0
  have hG := aAG_of hA.1 (fun i e v he hv => (hA.2 i e v he hv).1)
  clear hA
  obtain ⟨v0, v1, v2, v3, v4, v5, v6, rfl, g0, g1, g2, g3, g4, g5, g6⟩ := rA_7 hG
  clear hG
  obtain ⟨x0, rfl, b0, d0⟩ := rG_ref (by decide) g0
  obtain ⟨x1, rfl, b1, d1⟩ := rG_ref (by decide) g1
  obtain ⟨x2, rfl, b2, d2⟩ := aG_int g2
  dsimp only at b2 d2
  obtain ⟨x3, rfl, b3, d3⟩ := aG_int g3
  dsimp only at b3 d3
  obtain ⟨x4, rfl, b4, d4⟩ := aG_int g4
  dsimp only at b4 d4
  obtain ⟨x5, rfl, b5, d5⟩ := aG_int g5
  dsimp only at b5 d5
  obtain ⟨x6, rfl, b6, d6⟩ := aG_int g6
  dsimp only at b6 d6
  obtain ⟨m1, m2, m3, m4⟩ := hM0
  obtain ⟨M, hM⟩ := rMe_ex hH b0 d0
  obtain ⟨a0, c0, fs0, w0, e1, s0, t0, e4⟩ := m1 (0, 28, 1) (List.mem_of_getElem? (i := 0) rfl)
  obtain rfl : x0 = a0 := Sum.inl.inj (Option.some.inj (Sum.inr.inj (Sum.inr.inj (Option.some.inj (show some (rR x0) = some _ from e1)))))
  obtain rfl : rR x1 = w0 := Option.some.inj (show some (rR x1) = some w0 from e4)
  clear e1 e4
  obtain ⟨a1, c1, fs1, w1, e1, s1, t1, e4⟩ := m1 (0, 27, 6) (List.mem_of_getElem? (i := 1) rfl)
  obtain rfl : x0 = a1 := Sum.inl.inj (Option.some.inj (Sum.inr.inj (Sum.inr.inj (Option.some.inj (show some (rR x0) = some _ from e1)))))
  obtain rfl : rI x6 = w1 := Option.some.inj (show some (rI x6) = some w1 from e4)
  clear e1 e4
  have f0 : rB K n p 184 [rR x1, rI x2] σ := by
    obtain ⟨w, e6, e7⟩ := m4 (2946, [1, 2]) (List.mem_of_getElem? (i := 0) rfl)
    obtain rfl : [rR x1, rI x2] = w := Option.some.inj (show some [rR x1, rI x2] = some w from e6)
    exact (rF_b (r := 2946) (by decide) rfl).mp e7
  have f0 := ro_184.mp f0
  have f1 : rB K n p 185 [rR x1, rI x3] σ := by
    obtain ⟨w, e6, e7⟩ := m4 (2962, [1, 3]) (List.mem_of_getElem? (i := 1) rfl)
    obtain rfl : [rR x1, rI x3] = w := Option.some.inj (show some [rR x1, rI x3] = some w from e6)
    exact (rF_b (r := 2962) (by decide) rfl).mp e7
  have f1 := ro_185.mp f1
  have f2 : rB K n p 186 [rR x1, rI x4] σ := by
    obtain ⟨w, e6, e7⟩ := m4 (2978, [1, 4]) (List.mem_of_getElem? (i := 2) rfl)
    obtain rfl : [rR x1, rI x4] = w := Option.some.inj (show some [rR x1, rI x4] = some w from e6)
    exact (rF_b (r := 2978) (by decide) rfl).mp e7
  have f2 := ro_186.mp f2
  have f3 : rB K n p 187 [rR x1, rI x5] σ := by
    obtain ⟨w, e6, e7⟩ := m4 (2994, [1, 5]) (List.mem_of_getElem? (i := 3) rfl)
    obtain rfl : [rR x1, rI x5] = w := Option.some.inj (show some [rR x1, rI x5] = some w from e6)
    exact (rF_b (r := 2994) (by decide) rfl).mp e7
  have f3 := ro_187.mp f3
  have f4 : rB K n p 25 [rI x2] σ := by
    obtain ⟨w, e6, e7⟩ := m4 (401, [2]) (List.mem_of_getElem? (i := 4) rfl)
    obtain rfl : [rI x2] = w := Option.some.inj (show some [rI x2] = some w from e6)
    exact (rF_b (r := 401) (by decide) rfl).mp e7
  have f4 := ro_25.mp f4
  have f5 : rB K n (rSh rS1 p [rR x0, rI x2]) 24 [] σ := by
    obtain ⟨w, e6, e7⟩ := m4 (384, [0, 2]) (List.mem_of_getElem? (i := 5) rfl)
    obtain rfl : [rR x0, rI x2] = w := Option.some.inj (show some [rR x0, rI x2] = some w from e6)
    exact (rF_g (r := 384) (by decide)).mp e7
  have f5 := ro_24.mp f5
  have f6 : rB K n (rSh rS1 p [rR x0, rI x2]) 25 [rI x3] σ := by
    obtain ⟨w, e6, e7⟩ := m4 (401, [3, 0, 2]) (List.mem_of_getElem? (i := 6) rfl)
    obtain rfl : [rI x3, rR x0, rI x2] = w := Option.some.inj (show some [rI x3, rR x0, rI x2] = some w from e6)
    exact (rF_g (r := 401) (by decide)).mp e7
  have f6 := ro_25.mp f6
  have f7 : rB K n (rSh rS1 p [rR x0, rI x3, rR x0, rI x2]) 24 [] σ := by
    obtain ⟨w, e6, e7⟩ := m4 (384, [0, 3, 0, 2]) (List.mem_of_getElem? (i := 7) rfl)
    obtain rfl : [rR x0, rI x3, rR x0, rI x2] = w := Option.some.inj (show some [rR x0, rI x3, rR x0, rI x2] = some w from e6)
    exact (rF_g (r := 384) (by decide)).mp e7
  have f7 := ro_24.mp f7
  have f8 : rB K n (rSh rS1 p [rR x0, rI x3, rR x0, rI x2]) 25 [rI x4] σ := by
    obtain ⟨w, e6, e7⟩ := m4 (401, [4, 0, 3, 0, 2]) (List.mem_of_getElem? (i := 8) rfl)
    obtain rfl : [rI x4, rR x0, rI x3, rR x0, rI x2] = w := Option.some.inj (show some [rI x4, rR x0, rI x3, rR x0, rI x2] = some w from e6)
    exact (rF_g (r := 401) (by decide)).mp e7
  have f8 := ro_25.mp f8
  have f9 : rB K n (rSh rS1 p [rR x0, rI x4, rR x0, rI x3, rR x0, rI x2]) 24 [] σ := by
    obtain ⟨w, e6, e7⟩ := m4 (384, [0, 4, 0, 3, 0, 2]) (List.mem_of_getElem? (i := 9) rfl)
    obtain rfl : [rR x0, rI x4, rR x0, rI x3, rR x0, rI x2] = w := Option.some.inj (show some [rR x0, rI x4, rR x0, rI x3, rR x0, rI x2] = some w from e6)
    exact (rF_g (r := 384) (by decide)).mp e7
  have f9 := ro_24.mp f9
  have f10 : rB K n (rSh rS1 p [rR x0, rI x4, rR x0, rI x3, rR x0, rI x2]) 25 [rI x5] σ := by
    obtain ⟨w, e6, e7⟩ := m4 (401, [5, 0, 4, 0, 3, 0, 2]) (List.mem_of_getElem? (i := 10) rfl)
    obtain rfl : [rI x5, rR x0, rI x4, rR x0, rI x3, rR x0, rI x2] = w := Option.some.inj (show some [rI x5, rR x0, rI x4, rR x0, rI x3, rR x0, rI x2] = some w from e6)
    exact (rF_g (r := 401) (by decide)).mp e7
  have f10 := ro_25.mp f10
  have f11 : rB K n (rSh rS1 p [rR x0, rI x5, rR x0, rI x4, rR x0, rI x3, rR x0, rI x2]) 24 [] σ := by
    obtain ⟨w, e6, e7⟩ := m4 (384, [0, 5, 0, 4, 0, 3, 0, 2]) (List.mem_of_getElem? (i := 11) rfl)
    obtain rfl : [rR x0, rI x5, rR x0, rI x4, rR x0, rI x3, rR x0, rI x2] = w := Option.some.inj (show some [rR x0, rI x5, rR x0, rI x4, rR x0, rI x3, rR x0, rI x2] = some w from e6)
    exact (rF_g (r := 384) (by decide)).mp e7
  have f11 := ro_24.mp f11
  clear m1 m2 m3 m4
  have q0 : rB K n p 96 [rR x1, rI x6] σ := ro_96.mpr (by
    obtain ⟨g0, h0, e0⟩ := f0
    have e0 : g0 0 = x2 := Int32.toInt_inj.mp e0
    obtain ⟨g1, h1, e1⟩ := f1
    obtain rfl := rRw_u h0 h1
    have e1 : g0 1 = x3 := Int32.toInt_inj.mp e1
    obtain ⟨g2, h2, e2⟩ := f2
    obtain rfl := rRw_u h0 h2
    have e2 : g0 2 = x4 := Int32.toInt_inj.mp e2
    obtain ⟨g3, h3, e3⟩ := f3
    obtain rfl := rRw_u h0 h3
    have e3 : g0 3 = x5 := Int32.toInt_inj.mp e3
    refine ⟨g0, x0, Or.inl h0, ?_⟩
    rw [show x6.toInt.toNat = 4 by omega]
    unfold rLn
    rw [e0]
    exact rLn_4 e1 e2 e3 f4 f5 f6 f7 f8 f9 f10 f11)
  exact ⟨p, fun _ => rfl, ⟨(fun q h => by cases h), fun q h => (by cases h), (fun f h => by cases h), (aAllc ⟨_, rfl, (rF_b (r := 1538) (by decide) rfl).mpr q0⟩ (fun f h => by cases h))⟩, [], List.mem_cons_self, fun f h => (by cases h)⟩
theorem rw_rvCLo {K : Nat → Nat} {n : Nat} {JX : (Nat → jcell) → Prop} : aGho (rF K n) fa_T K n JX ag_rvCLo := by
  refine aGho_of ⟨rfl, rfl⟩ ?_
  intro p σ ρ hH hX hA hM0
  have hG := aAG_of hA.1 (fun i e v he hv => (hA.2 i e v he hv).1)
  clear hA
  obtain ⟨v0, v1, v2, rfl, g0, g1, g2⟩ := rA_3 hG
  clear hG
  obtain ⟨x0, rfl, b0, d0⟩ := rG_ref (by decide) g0
  obtain ⟨x1, rfl, b1, d1⟩ := aG_int g1
  dsimp only at b1 d1
  obtain ⟨x2, rfl, b2, d2⟩ := aG_int g2
  dsimp only at b2 d2
  obtain ⟨m1, m2, m3, m4⟩ := hM0
  obtain ⟨M, hM⟩ := rMe_ex hH b0 d0
  have f0 : rB K n p 76 [rR x0, rI x1, rI x2] σ := by
    obtain ⟨w, e6, e7⟩ := m4 (1219, [0, 1, 2]) (List.mem_of_getElem? (i := 0) rfl)
    obtain rfl : [rR x0, rI x1, rI x2] = w := Option.some.inj (show some [rR x0, rI x1, rI x2] = some w from e6)
    exact (rF_b (r := 1219) (by decide) rfl).mp e7
  have f0 := ro_76.mp f0
  have f1 : rB K n p 168 [rR x0, rI x1, rI x2] σ := by
    obtain ⟨w, e6, e7⟩ := m4 (2691, [0, 1, 2]) (List.mem_of_getElem? (i := 1) rfl)
    obtain rfl : [rR x0, rI x1, rI x2] = w := Option.some.inj (show some [rR x0, rI x1, rI x2] = some w from e6)
    exact (rF_b (r := 2691) (by decide) rfl).mp e7
  have f1 := ro_168.mp f1
  clear m1 m2 m3 m4
  have q0 : rB K n p 49 [rR x0] σ := ro_49.mpr (by
    rw [show x1.toInt = 0 by omega] at f0 f1
    exact ⟨f0.1, x2.toInt, by omega, f0.2.1, f1, f0.2.2⟩)
  exact ⟨p, fun _ => rfl, ⟨(fun q h => by cases h), fun q h => (by cases h), (fun f h => by cases h), (aAllc ⟨_, rfl, (rF_b (r := 785) (by decide) rfl).mpr q0⟩ (fun f h => by cases h))⟩, [], List.mem_cons_self, fun f h => (by cases h)⟩
theorem rw_rvCVz {K : Nat → Nat} {n : Nat} {JX : (Nat → jcell) → Prop} : aGho (rF K n) fa_T K n JX ag_rvCVz := by
  refine aGho_of ⟨rfl, rfl⟩ ?_
  intro p σ ρ hH hX hA hM0
  have hG := aAG_of hA.1 (fun i e v he hv => (hA.2 i e v he hv).1)
  clear hA
  obtain ⟨v0, v1, v2, rfl, g0, g1, g2⟩ := rA_3 hG
  clear hG
  obtain ⟨x0, rfl, b0, d0⟩ := rG_ref (by decide) g0
  obtain ⟨x1, rfl, b1, d1⟩ := rG_ref (by decide) g1
  obtain ⟨x2, rfl, b2, d2⟩ := aG_int g2
  dsimp only at b2 d2
  obtain ⟨m1, m2, m3, m4⟩ := hM0
  obtain ⟨M, hM⟩ := rMe_ex hH b0 d0
  obtain ⟨a0, c0, fs0, w0, e1, s0, t0, e4⟩ := m1 (0, 22, 1) (List.mem_of_getElem? (i := 0) rfl)
  obtain rfl : x0 = a0 := Sum.inl.inj (Option.some.inj (Sum.inr.inj (Sum.inr.inj (Option.some.inj (show some (rR x0) = some _ from e1)))))
  obtain rfl : rR x1 = w0 := Option.some.inj (show some (rR x1) = some w0 from e4)
  clear e1 e4
  obtain ⟨a, mc0, ty0, gc0, ic0, e1, sc0, jc0, e4, e5⟩ := m2 (1, ([], 0), 2) (List.mem_of_getElem? (i := 0) rfl)
  obtain rfl : x1 = a := Sum.inl.inj (Option.some.inj (Sum.inr.inj (Sum.inr.inj (Option.some.inj (show some (rR x1) = some _ from e1)))))
  obtain ⟨gc0, rfl⟩ : ∃ g, gc0 = .inl g := by
    rcases gc0 with g | g
    · exact ⟨g, rfl⟩
    · exact absurd (show some (rI x2) = some (.inr (.inl (g ic0))) from e5) (fun h => by cases h)
  have sc0 : σ x1 = .inl (ty0, mc0, .inl gc0) := sc0
  have ec0 : x2 = gc0 ic0 := Sum.inl.inj (Option.some.inj (show some (rI x2) = some _ from e5))
  have kc0 : (ic0 : Int) = 0 + 0 := by
    obtain ⟨z, e6, e7⟩ := e4
    obtain rfl : 0 = z := Option.some.inj (show some 0 = some z from e6)
    exact e7
  clear e1 e4 e5
  have f0 : rB K n p 49 [rR x0] σ := by
    obtain ⟨w, e6, e7⟩ := m4 (785, [0]) (List.mem_of_getElem? (i := 0) rfl)
    obtain rfl : [rR x0] = w := Option.some.inj (show some [rR x0] = some w from e6)
    exact (rF_b (r := 785) (by decide) rfl).mp e7
  have f0 := ro_49.mp f0
  clear m1 m2 m3 m4
  have r0 : 0 ≤ (1 * x2.toInt + 0) + -1 := by
    obtain ⟨hp, c, h0, h1, h2, h3⟩ := f0
    obtain ⟨h4, g, h5, e⟩ := h2
    have e1 := rRo_c (i := ic0) h5 s0 t0 sc0 ec0
    rw [show ic0 = (0 : Int).toNat by omega, e] at e1
    omega
  have q0 : rB K n p 98 [rR x0, rI x2] σ := ro_98.mpr (by
    obtain ⟨hp, c, h0, h1, h2, h3⟩ := f0
    obtain ⟨h4, g, h5, e⟩ := h2
    have e1 := rRo_c (i := ic0) h5 s0 t0 sc0 ec0
    rw [show ic0 = (0 : Int).toNat by omega, e] at e1
    subst e1
    exact ⟨hp, h1, ⟨h4, g, h5, e⟩, h3⟩)
  exact ⟨p, fun _ => rfl, ⟨(fun q h => by cases h), fun q h => (by cases h), (aAllc ⟨_, rfl, r0⟩ (fun f h => by cases h)), (aAllc ⟨_, rfl, (rF_b (r := 1570) (by decide) rfl).mpr q0⟩ (fun f h => by cases h))⟩, [], List.mem_cons_self, fun f h => (by cases h)⟩
theorem rw_rvLd0 {K : Nat → Nat} {n : Nat} {JX : (Nat → jcell) → Prop} : aGho (rF K n) fa_T K n JX ag_rvLd0 := by
  refine aGho_of ⟨rfl, rfl⟩ ?_
  intro p σ ρ hH hX hA hM0
  have hG := aAG_of hA.1 (fun i e v he hv => (hA.2 i e v he hv).1)
  clear hA
  obtain ⟨v0, v1, v2, v3, v4, rfl, g0, g1, g2, g3, g4⟩ := rA_5 hG
  clear hG
  obtain ⟨x0, rfl, b0, d0⟩ := rG_ref (by decide) g0
  obtain ⟨x1, rfl, b1, d1⟩ := rG_ref (by decide) g1
  obtain ⟨x2, rfl, b2, d2⟩ := aG_int g2
  dsimp only at b2 d2
  obtain ⟨x3, rfl, b3, d3⟩ := aG_int g3
  dsimp only at b3 d3
  obtain ⟨x4, rfl, b4, d4⟩ := aG_int g4
  dsimp only at b4 d4
  obtain ⟨m1, m2, m3, m4⟩ := hM0
  obtain ⟨M, hM⟩ := rMe_ex hH b0 d0
  obtain ⟨a0, c0, fs0, w0, e1, s0, t0, e4⟩ := m1 (0, 21, 1) (List.mem_of_getElem? (i := 0) rfl)
  obtain rfl : x0 = a0 := Sum.inl.inj (Option.some.inj (Sum.inr.inj (Sum.inr.inj (Option.some.inj (show some (rR x0) = some _ from e1)))))
  obtain rfl : rR x1 = w0 := Option.some.inj (show some (rR x1) = some w0 from e4)
  clear e1 e4
  obtain ⟨a, mc0, ty0, gc0, ic0, e1, sc0, jc0, e4, e5⟩ := m2 (1, ([(3, 1)], 0), 4) (List.mem_of_getElem? (i := 0) rfl)
  obtain rfl : x1 = a := Sum.inl.inj (Option.some.inj (Sum.inr.inj (Sum.inr.inj (Option.some.inj (show some (rR x1) = some _ from e1)))))
  obtain ⟨gc0, rfl⟩ : ∃ g, gc0 = .inl g := by
    rcases gc0 with g | g
    · exact ⟨g, rfl⟩
    · exact absurd (show some (rI x4) = some (.inr (.inl (g ic0))) from e5) (fun h => by cases h)
  have sc0 : σ x1 = .inl (ty0, mc0, .inl gc0) := sc0
  have ec0 : x4 = gc0 ic0 := Sum.inl.inj (Option.some.inj (show some (rI x4) = some _ from e5))
  have kc0 : (ic0 : Int) = (1 * x3.toInt + 0) + 0 := by
    obtain ⟨z, e6, e7⟩ := e4
    obtain rfl : (1 * x3.toInt + 0) = z := Option.some.inj (show some (1 * x3.toInt + 0) = some z from e6)
    exact e7
  clear e1 e4 e5
  have l0 : 0 ≤ (1 * x2.toInt + (-1 * x3.toInt + 0)) + -1 := by
    obtain ⟨z, e6, e7⟩ := m3 ([(2, 1), (3, -1)], -1) (List.mem_of_getElem? (i := 0) rfl)
    obtain rfl : (1 * x2.toInt + (-1 * x3.toInt + 0)) = z := Option.some.inj (show some (1 * x2.toInt + (-1 * x3.toInt + 0)) = some z from e6)
    exact e7
  have f0 : rB K n p 98 [rR x0, rI x2] σ := by
    obtain ⟨w, e6, e7⟩ := m4 (1570, [0, 2]) (List.mem_of_getElem? (i := 0) rfl)
    obtain rfl : [rR x0, rI x2] = w := Option.some.inj (show some [rR x0, rI x2] = some w from e6)
    exact (rF_b (r := 1570) (by decide) rfl).mp e7
  have f0 := ro_98.mp f0
  clear m1 m2 m3 m4
  have q0 : rB K n p 25 [rI x4] σ := ro_25.mpr (by
    obtain ⟨hp, h1, h2, g, h3, h4⟩ := f0
    have e1 := rRo_c (i := ic0) h3 s0 t0 sc0 ec0
    have h5 := h4 (by omega) x3.toInt b3 (by omega)
    rw [show (2048 * 0 + x3.toInt).toNat = ic0 by omega, e1] at h5
    exact h5.1)
  have q1 : rB K n (rSh rS1 p [rR x0, rI x4]) 24 [] σ := ro_24.mpr (by
    obtain ⟨hp, h1, h2, g, h3, h4⟩ := f0
    have e1 := rRo_c (i := ic0) h3 s0 t0 sc0 ec0
    have h5 := h4 (by omega) x3.toInt b3 (by omega)
    rw [show (2048 * 0 + x3.toInt).toNat = ic0 by omega, e1] at h5
    rw [rSh_mk hp]
    exact h5.2)
  exact ⟨p, fun _ => rfl, ⟨(fun q h => by cases h), fun q h => (by cases h), (fun f h => by cases h), (aAllc ⟨_, rfl, (rF_b (r := 401) (by decide) rfl).mpr q0⟩ (aAllc ⟨_, rfl, (rF_g (r := 384) (by decide)).mpr q1⟩ (fun f h => by cases h)))⟩, [], List.mem_cons_self, fun f h => (by cases h)⟩
theorem rw_rvBFp {K : Nat → Nat} {n : Nat} {JX : (Nat → jcell) → Prop} : aGho (rF K n) fa_T K n JX ag_rvBFp := by
  refine aGho_of ⟨rfl, rfl⟩ ?_
  intro p σ ρ hH hX hA hM0
  have hG := aAG_of hA.1 (fun i e v he hv => (hA.2 i e v he hv).1)
  clear hA
  obtain ⟨v0, v1, rfl, g0, g1⟩ := rA_2 hG
  clear hG
  obtain ⟨x0, rfl, b0, d0⟩ := rG_ref (by decide) g0
  obtain ⟨x1, rfl, b1, d1⟩ := aG_int g1
  dsimp only at b1 d1
  obtain ⟨m1, m2, m3, m4⟩ := hM0
  obtain ⟨M, hM⟩ := rMe_ex hH b0 d0
  have f0 : rB K n p 93 [rI x1] σ := by
    obtain ⟨w, e6, e7⟩ := m4 (1489, [1]) (List.mem_of_getElem? (i := 0) rfl)
    obtain rfl : [rI x1] = w := Option.some.inj (show some [rI x1] = some w from e6)
    exact (rF_b (r := 1489) (by decide) rfl).mp e7
  have f0 := ro_93.mp f0
  clear m1 m2 m3 m4
  have q0 : rB K n p 94 [rR x0] (jup σ x0 (jstf (σ x0) 25 (rI x1))) := ro_94.mpr (by
    obtain ⟨w, o⟩ := rOb_ex (k := 88) (f := 25) hH b0 d0 rfl (by decide)
    exact ⟨x1, rOb_ss o, f0.1, f0.2⟩)
  exact ⟨p, fun _ => rfl, ⟨(fun q h => by cases h), fun q h => (by cases h), (fun f h => by cases h), (aAllc ⟨_, rfl, rF_pf (r := 1505) (f := 25) (by decide) (by decide) q0⟩ (fun f h => by cases h))⟩, [], List.mem_cons_self, fun f h => (by cases h)⟩
theorem rw_rvHLn {K : Nat → Nat} {n : Nat} {JX : (Nat → jcell) → Prop} : aGho (rF K n) fa_T K n JX ag_rvHLn := by
  refine aGho_of ⟨rfl, rfl⟩ ?_
  intro p σ ρ hH hX hA hM0
  have hG := aAG_of hA.1 (fun i e v he hv => (hA.2 i e v he hv).1)
  clear hA
  obtain ⟨v0, rfl, g0⟩ := rA_1 hG
  clear hG
  obtain ⟨x0, rfl, b0, d0⟩ := aG_int g0
  dsimp only at b0 d0
  obtain ⟨m1, m2, m3, m4⟩ := hM0
  have f0 : rB K n p 78 [rI x0] σ := by
    obtain ⟨w, e6, e7⟩ := m4 (1249, [0]) (List.mem_of_getElem? (i := 0) rfl)
    obtain rfl : [rI x0] = w := Option.some.inj (show some [rI x0] = some w from e6)
    exact (rF_b (r := 1249) (by decide) rfl).mp e7
  have f0 := ro_78.mp f0
  have f1 : rB K n p 95 [] σ := by
    obtain ⟨w, e6, e7⟩ := m4 (1520, []) (List.mem_of_getElem? (i := 1) rfl)
    obtain rfl : [] = w := Option.some.inj (show some [] = some w from e6)
    exact (rF_b (r := 1520) (by decide) rfl).mp e7
  have f1 := ro_95.mp f1
  clear m1 m2 m3 m4
  have r0 : 0 ≤ (1 * x0.toInt + 0) + -1 := by
    by_cases cz : x0.toInt = 0
    · obtain ⟨m, h1, h2⟩ := f1
      exact absurd h2 (f0 cz m h1)
    · omega
  exact ⟨p, fun _ => rfl, ⟨(fun q h => by cases h), fun q h => (by cases h), (aAllc ⟨_, rfl, r0⟩ (fun f h => by cases h)), (fun f h => by cases h)⟩, [], List.mem_cons_self, fun f h => (by cases h)⟩
theorem rw_rvLF1 {K : Nat → Nat} {n : Nat} {JX : (Nat → jcell) → Prop} : aGho (rF K n) fa_T K n JX ag_rvLF1 := by
  refine aGho_of ⟨rfl, rfl⟩ ?_
  intro p σ ρ hH hX hA hM0
  have hG := aAG_of hA.1 (fun i e v he hv => (hA.2 i e v he hv).1)
  clear hA
  obtain ⟨v0, v1, v2, v3, rfl, g0, g1, g2, g3⟩ := rA_4 hG
  clear hG
  obtain ⟨x0, rfl, b0, d0⟩ := rG_ref (by decide) g0
  obtain ⟨x1, rfl, b1, d1⟩ := aG_int g1
  dsimp only at b1 d1
  obtain ⟨x2, rfl, b2, d2⟩ := aG_int g2
  dsimp only at b2 d2
  obtain ⟨x3, rfl, b3, d3⟩ := aG_int g3
  dsimp only at b3 d3
  obtain ⟨m1, m2, m3, m4⟩ := hM0
  obtain ⟨M, hM⟩ := rMe_ex hH b0 d0
  have l0 : 0 ≤ (1 * x2.toInt + (-1 * x1.toInt + 0)) + -1 := by
    obtain ⟨z, e6, e7⟩ := m3 ([(2, 1), (1, -1)], -1) (List.mem_of_getElem? (i := 0) rfl)
    obtain rfl : (1 * x2.toInt + (-1 * x1.toInt + 0)) = z := Option.some.inj (show some (1 * x2.toInt + (-1 * x1.toInt + 0)) = some z from e6)
    exact e7
  have l1 : 0 ≤ (-1 * x2.toInt + (1 * x1.toInt + 0)) + 1 := by
    obtain ⟨z, e6, e7⟩ := m3 ([(2, -1), (1, 1)], 1) (List.mem_of_getElem? (i := 1) rfl)
    obtain rfl : (-1 * x2.toInt + (1 * x1.toInt + 0)) = z := Option.some.inj (show some (-1 * x2.toInt + (1 * x1.toInt + 0)) = some z from e6)
    exact e7
  have f0 : rB K n p 76 [rR x0, rI x2, rI x3] σ := by
    obtain ⟨w, e6, e7⟩ := m4 (1219, [0, 2, 3]) (List.mem_of_getElem? (i := 0) rfl)
    obtain rfl : [rR x0, rI x2, rI x3] = w := Option.some.inj (show some [rR x0, rI x2, rI x3] = some w from e6)
    exact (rF_b (r := 1219) (by decide) rfl).mp e7
  have f0 := ro_76.mp f0
  clear m1 m2 m3 m4
  have q0 : rB K n p 77 [rR x0, rI x1, rI x3, rI x3] σ := ro_77_4.mpr (by
    rw [show x2.toInt = x1.toInt + 1 by omega] at f0
    exact f0)
  exact ⟨p, fun _ => rfl, ⟨(fun q h => by cases h), fun q h => (by cases h), (fun f h => by cases h), (aAllc ⟨_, rfl, (rF_b (r := 1236) (by decide) rfl).mpr q0⟩ (fun f h => by cases h))⟩, [], List.mem_cons_self, fun f h => (by cases h)⟩
theorem rw_rvLd2 {K : Nat → Nat} {n : Nat} {JX : (Nat → jcell) → Prop} : aGho (rF K n) fa_T K n JX ag_rvLd2 := by
  refine aGho_of ⟨rfl, rfl⟩ ?_
  intro p σ ρ hH hX hA hM0
  have hG := aAG_of hA.1 (fun i e v he hv => (hA.2 i e v he hv).1)
  clear hA
  obtain ⟨v0, v1, v2, v3, v4, v5, rfl, g0, g1, g2, g3, g4, g5⟩ := rA_6 hG
  clear hG
  obtain ⟨x0, rfl, b0, d0⟩ := rG_ref (by decide) g0
  obtain ⟨x1, rfl, b1, d1⟩ := rG_ref (by decide) g1
  obtain ⟨x2, rfl, b2, d2⟩ := aG_int g2
  dsimp only at b2 d2
  obtain ⟨x3, rfl, b3, d3⟩ := aG_int g3
  dsimp only at b3 d3
  obtain ⟨x4, rfl, b4, d4⟩ := aG_int g4
  dsimp only at b4 d4
  obtain ⟨x5, rfl, b5, d5⟩ := aG_int g5
  dsimp only at b5 d5
  obtain ⟨m1, m2, m3, m4⟩ := hM0
  obtain ⟨M, hM⟩ := rMe_ex hH b0 d0
  obtain ⟨a0, c0, fs0, w0, e1, s0, t0, e4⟩ := m1 (0, 21, 1) (List.mem_of_getElem? (i := 0) rfl)
  obtain rfl : x0 = a0 := Sum.inl.inj (Option.some.inj (Sum.inr.inj (Sum.inr.inj (Option.some.inj (show some (rR x0) = some _ from e1)))))
  obtain rfl : rR x1 = w0 := Option.some.inj (show some (rR x1) = some w0 from e4)
  clear e1 e4
  obtain ⟨a, mc0, ty0, gc0, ic0, e1, sc0, jc0, e4, e5⟩ := m2 (1, ([(2, 2048), (4, 1)], 2048), 5) (List.mem_of_getElem? (i := 0) rfl)
  obtain rfl : x1 = a := Sum.inl.inj (Option.some.inj (Sum.inr.inj (Sum.inr.inj (Option.some.inj (show some (rR x1) = some _ from e1)))))
  obtain ⟨gc0, rfl⟩ : ∃ g, gc0 = .inl g := by
    rcases gc0 with g | g
    · exact ⟨g, rfl⟩
    · exact absurd (show some (rI x5) = some (.inr (.inl (g ic0))) from e5) (fun h => by cases h)
  have sc0 : σ x1 = .inl (ty0, mc0, .inl gc0) := sc0
  have ec0 : x5 = gc0 ic0 := Sum.inl.inj (Option.some.inj (show some (rI x5) = some _ from e5))
  have kc0 : (ic0 : Int) = (2048 * x2.toInt + (1 * x4.toInt + 0)) + 2048 := by
    obtain ⟨z, e6, e7⟩ := e4
    obtain rfl : (2048 * x2.toInt + (1 * x4.toInt + 0)) = z := Option.some.inj (show some (2048 * x2.toInt + (1 * x4.toInt + 0)) = some z from e6)
    exact e7
  clear e1 e4 e5
  have l0 : 0 ≤ (1 * x3.toInt + (-1 * x4.toInt + 0)) + -1 := by
    obtain ⟨z, e6, e7⟩ := m3 ([(3, 1), (4, -1)], -1) (List.mem_of_getElem? (i := 0) rfl)
    obtain rfl : (1 * x3.toInt + (-1 * x4.toInt + 0)) = z := Option.some.inj (show some (1 * x3.toInt + (-1 * x4.toInt + 0)) = some z from e6)
    exact e7
  have f0 : rB K n p 77 [rR x0, rI x2, rI x3, rI x3] σ := by
    obtain ⟨w, e6, e7⟩ := m4 (1236, [0, 2, 3, 3]) (List.mem_of_getElem? (i := 0) rfl)
    obtain rfl : [rR x0, rI x2, rI x3, rI x3] = w := Option.some.inj (show some [rR x0, rI x2, rI x3, rI x3] = some w from e6)
    exact (rF_b (r := 1236) (by decide) rfl).mp e7
  have f0 := ro_77_4.mp f0
  clear m1 m2 m3 m4
  have q0 : rB K n p 25 [rI x5] σ := ro_25.mpr (by
    obtain ⟨hp, h1, g, h3, h4⟩ := f0
    have e1 := rRo_c (i := ic0) h3 s0 t0 sc0 ec0
    have h5 := h4 (by omega) x4.toInt b4 (by omega)
    rw [show (2048 * (x2.toInt + 1) + x4.toInt).toNat = ic0 by omega, e1] at h5
    exact h5.1)
  have q1 : rB K n (rSh rS1 p [rR x0, rI x5]) 24 [] σ := ro_24.mpr (by
    obtain ⟨hp, h1, g, h3, h4⟩ := f0
    have e1 := rRo_c (i := ic0) h3 s0 t0 sc0 ec0
    have h5 := h4 (by omega) x4.toInt b4 (by omega)
    rw [show (2048 * (x2.toInt + 1) + x4.toInt).toNat = ic0 by omega, e1] at h5
    rw [rSh_mk hp]
    exact h5.2)
  exact ⟨p, fun _ => rfl, ⟨(fun q h => by cases h), fun q h => (by cases h), (fun f h => by cases h), (aAllc ⟨_, rfl, (rF_b (r := 401) (by decide) rfl).mpr q0⟩ (aAllc ⟨_, rfl, (rF_g (r := 384) (by decide)).mpr q1⟩ (fun f h => by cases h)))⟩, [], List.mem_cons_self, fun f h => (by cases h)⟩
theorem rw_rvLFz {K : Nat → Nat} {n : Nat} {JX : (Nat → jcell) → Prop} : aGho (rF K n) fa_T K n JX ag_rvLFz := by
  refine aGho_of ⟨rfl, rfl⟩ ?_
  intro p σ ρ hH hX hA hM0
  have hG := aAG_of hA.1 (fun i e v he hv => (hA.2 i e v he hv).1)
  clear hA
  obtain ⟨v0, v1, v2, rfl, g0, g1, g2⟩ := rA_3 hG
  clear hG
  obtain ⟨x0, rfl, b0, d0⟩ := rG_ref (by decide) g0
  obtain ⟨x1, rfl, b1, d1⟩ := aG_int g1
  dsimp only at b1 d1
  obtain ⟨x2, rfl, b2, d2⟩ := aG_int g2
  dsimp only at b2 d2
  obtain ⟨m1, m2, m3, m4⟩ := hM0
  obtain ⟨M, hM⟩ := rMe_ex hH b0 d0
  have f0 : rB K n p 76 [rR x0, rI x1, rI x2] σ := by
    obtain ⟨w, e6, e7⟩ := m4 (1219, [0, 1, 2]) (List.mem_of_getElem? (i := 0) rfl)
    obtain rfl : [rR x0, rI x1, rI x2] = w := Option.some.inj (show some [rR x0, rI x1, rI x2] = some w from e6)
    exact (rF_b (r := 1219) (by decide) rfl).mp e7
  have f0 := ro_76.mp f0
  clear m1 m2 m3 m4
  have q0 : rB K n p 99 [rR x0, rI x2] σ := ro_99.mpr (by
    rw [show x1.toInt = 0 by omega] at f0
    exact f0)
  exact ⟨p, fun _ => rfl, ⟨(fun q h => by cases h), fun q h => (by cases h), (fun f h => by cases h), (aAllc ⟨_, rfl, (rF_b (r := 1586) (by decide) rfl).mpr q0⟩ (fun f h => by cases h))⟩, [], List.mem_cons_self, fun f h => (by cases h)⟩
theorem rw_rvLdz {K : Nat → Nat} {n : Nat} {JX : (Nat → jcell) → Prop} : aGho (rF K n) fa_T K n JX ag_rvLdz := by
  refine aGho_of ⟨rfl, rfl⟩ ?_
  intro p σ ρ hH hX hA hM0
  have hG := aAG_of hA.1 (fun i e v he hv => (hA.2 i e v he hv).1)
  clear hA
  obtain ⟨v0, v1, v2, v3, v4, rfl, g0, g1, g2, g3, g4⟩ := rA_5 hG
  clear hG
  obtain ⟨x0, rfl, b0, d0⟩ := rG_ref (by decide) g0
  obtain ⟨x1, rfl, b1, d1⟩ := rG_ref (by decide) g1
  obtain ⟨x2, rfl, b2, d2⟩ := aG_int g2
  dsimp only at b2 d2
  obtain ⟨x3, rfl, b3, d3⟩ := aG_int g3
  dsimp only at b3 d3
  obtain ⟨x4, rfl, b4, d4⟩ := aG_int g4
  dsimp only at b4 d4
  obtain ⟨m1, m2, m3, m4⟩ := hM0
  obtain ⟨M, hM⟩ := rMe_ex hH b0 d0
  obtain ⟨a0, c0, fs0, w0, e1, s0, t0, e4⟩ := m1 (0, 21, 1) (List.mem_of_getElem? (i := 0) rfl)
  obtain rfl : x0 = a0 := Sum.inl.inj (Option.some.inj (Sum.inr.inj (Sum.inr.inj (Option.some.inj (show some (rR x0) = some _ from e1)))))
  obtain rfl : rR x1 = w0 := Option.some.inj (show some (rR x1) = some w0 from e4)
  clear e1 e4
  obtain ⟨a, mc0, ty0, gc0, ic0, e1, sc0, jc0, e4, e5⟩ := m2 (1, ([(3, 1)], 0), 4) (List.mem_of_getElem? (i := 0) rfl)
  obtain rfl : x1 = a := Sum.inl.inj (Option.some.inj (Sum.inr.inj (Sum.inr.inj (Option.some.inj (show some (rR x1) = some _ from e1)))))
  obtain ⟨gc0, rfl⟩ : ∃ g, gc0 = .inl g := by
    rcases gc0 with g | g
    · exact ⟨g, rfl⟩
    · exact absurd (show some (rI x4) = some (.inr (.inl (g ic0))) from e5) (fun h => by cases h)
  have sc0 : σ x1 = .inl (ty0, mc0, .inl gc0) := sc0
  have ec0 : x4 = gc0 ic0 := Sum.inl.inj (Option.some.inj (show some (rI x4) = some _ from e5))
  have kc0 : (ic0 : Int) = (1 * x3.toInt + 0) + 0 := by
    obtain ⟨z, e6, e7⟩ := e4
    obtain rfl : (1 * x3.toInt + 0) = z := Option.some.inj (show some (1 * x3.toInt + 0) = some z from e6)
    exact e7
  clear e1 e4 e5
  have l0 : 0 ≤ (1 * x2.toInt + (-1 * x3.toInt + 0)) + -1 := by
    obtain ⟨z, e6, e7⟩ := m3 ([(2, 1), (3, -1)], -1) (List.mem_of_getElem? (i := 0) rfl)
    obtain rfl : (1 * x2.toInt + (-1 * x3.toInt + 0)) = z := Option.some.inj (show some (1 * x2.toInt + (-1 * x3.toInt + 0)) = some z from e6)
    exact e7
  have f0 : rB K n p 99 [rR x0, rI x2] σ := by
    obtain ⟨w, e6, e7⟩ := m4 (1586, [0, 2]) (List.mem_of_getElem? (i := 0) rfl)
    obtain rfl : [rR x0, rI x2] = w := Option.some.inj (show some [rR x0, rI x2] = some w from e6)
    exact (rF_b (r := 1586) (by decide) rfl).mp e7
  have f0 := ro_99.mp f0
  clear m1 m2 m3 m4
  have q0 : rB K n p 25 [rI x4] σ := ro_25.mpr (by
    obtain ⟨hp, h1, g, h3, h4⟩ := f0
    have e1 := rRo_c (i := ic0) h3 s0 t0 sc0 ec0
    have h5 := h4 (by omega) x3.toInt b3 (by omega)
    rw [show (2048 * 0 + x3.toInt).toNat = ic0 by omega, e1] at h5
    exact h5.1)
  have q1 : rB K n (rSh rS1 p [rR x0, rI x4]) 24 [] σ := ro_24.mpr (by
    obtain ⟨hp, h1, g, h3, h4⟩ := f0
    have e1 := rRo_c (i := ic0) h3 s0 t0 sc0 ec0
    have h5 := h4 (by omega) x3.toInt b3 (by omega)
    rw [show (2048 * 0 + x3.toInt).toNat = ic0 by omega, e1] at h5
    rw [rSh_mk hp]
    exact h5.2)
  exact ⟨p, fun _ => rfl, ⟨(fun q h => by cases h), fun q h => (by cases h), (fun f h => by cases h), (aAllc ⟨_, rfl, (rF_b (r := 401) (by decide) rfl).mpr q0⟩ (aAllc ⟨_, rfl, (rF_g (r := 384) (by decide)).mpr q1⟩ (fun f h => by cases h)))⟩, [], List.mem_cons_self, fun f h => (by cases h)⟩
theorem rw_rvLFy {K : Nat → Nat} {n : Nat} {JX : (Nat → jcell) → Prop} : aGho (rF K n) fa_T K n JX ag_rvLFy := by
  refine aGho_of ⟨rfl, rfl⟩ ?_
  intro p σ ρ hH hX hA hM0
  have hG := aAG_of hA.1 (fun i e v he hv => (hA.2 i e v he hv).1)
  clear hA
  obtain ⟨v0, v1, v2, rfl, g0, g1, g2⟩ := rA_3 hG
  clear hG
  obtain ⟨x0, rfl, b0, d0⟩ := rG_ref (by decide) g0
  obtain ⟨x1, rfl, b1, d1⟩ := aG_int g1
  dsimp only at b1 d1
  obtain ⟨x2, rfl, b2, d2⟩ := aG_int g2
  dsimp only at b2 d2
  obtain ⟨m1, m2, m3, m4⟩ := hM0
  obtain ⟨M, hM⟩ := rMe_ex hH b0 d0
  have f0 : rB K n p 76 [rR x0, rI x1, rI x2] σ := by
    obtain ⟨w, e6, e7⟩ := m4 (1219, [0, 1, 2]) (List.mem_of_getElem? (i := 0) rfl)
    obtain rfl : [rR x0, rI x1, rI x2] = w := Option.some.inj (show some [rR x0, rI x1, rI x2] = some w from e6)
    exact (rF_b (r := 1219) (by decide) rfl).mp e7
  have f0 := ro_76.mp f0
  clear m1 m2 m3 m4
  have q0 : rB K n p 80 [rR x0, rI x2] σ := ro_80.mpr (by
    rw [show x1.toInt = 1 by omega] at f0
    exact f0)
  exact ⟨p, fun _ => rfl, ⟨(fun q h => by cases h), fun q h => (by cases h), (fun f h => by cases h), (aAllc ⟨_, rfl, (rF_b (r := 1282) (by decide) rfl).mpr q0⟩ (fun f h => by cases h))⟩, [], List.mem_cons_self, fun f h => (by cases h)⟩
theorem rw_rvLdy {K : Nat → Nat} {n : Nat} {JX : (Nat → jcell) → Prop} : aGho (rF K n) fa_T K n JX ag_rvLdy := by
  refine aGho_of ⟨rfl, rfl⟩ ?_
  intro p σ ρ hH hX hA hM0
  have hG := aAG_of hA.1 (fun i e v he hv => (hA.2 i e v he hv).1)
  clear hA
  obtain ⟨v0, v1, v2, v3, v4, rfl, g0, g1, g2, g3, g4⟩ := rA_5 hG
  clear hG
  obtain ⟨x0, rfl, b0, d0⟩ := rG_ref (by decide) g0
  obtain ⟨x1, rfl, b1, d1⟩ := rG_ref (by decide) g1
  obtain ⟨x2, rfl, b2, d2⟩ := aG_int g2
  dsimp only at b2 d2
  obtain ⟨x3, rfl, b3, d3⟩ := aG_int g3
  dsimp only at b3 d3
  obtain ⟨x4, rfl, b4, d4⟩ := aG_int g4
  dsimp only at b4 d4
  obtain ⟨m1, m2, m3, m4⟩ := hM0
  obtain ⟨M, hM⟩ := rMe_ex hH b0 d0
  obtain ⟨a0, c0, fs0, w0, e1, s0, t0, e4⟩ := m1 (0, 21, 1) (List.mem_of_getElem? (i := 0) rfl)
  obtain rfl : x0 = a0 := Sum.inl.inj (Option.some.inj (Sum.inr.inj (Sum.inr.inj (Option.some.inj (show some (rR x0) = some _ from e1)))))
  obtain rfl : rR x1 = w0 := Option.some.inj (show some (rR x1) = some w0 from e4)
  clear e1 e4
  obtain ⟨a, mc0, ty0, gc0, ic0, e1, sc0, jc0, e4, e5⟩ := m2 (1, ([(3, 1)], 2048), 4) (List.mem_of_getElem? (i := 0) rfl)
  obtain rfl : x1 = a := Sum.inl.inj (Option.some.inj (Sum.inr.inj (Sum.inr.inj (Option.some.inj (show some (rR x1) = some _ from e1)))))
  obtain ⟨gc0, rfl⟩ : ∃ g, gc0 = .inl g := by
    rcases gc0 with g | g
    · exact ⟨g, rfl⟩
    · exact absurd (show some (rI x4) = some (.inr (.inl (g ic0))) from e5) (fun h => by cases h)
  have sc0 : σ x1 = .inl (ty0, mc0, .inl gc0) := sc0
  have ec0 : x4 = gc0 ic0 := Sum.inl.inj (Option.some.inj (show some (rI x4) = some _ from e5))
  have kc0 : (ic0 : Int) = (1 * x3.toInt + 0) + 2048 := by
    obtain ⟨z, e6, e7⟩ := e4
    obtain rfl : (1 * x3.toInt + 0) = z := Option.some.inj (show some (1 * x3.toInt + 0) = some z from e6)
    exact e7
  clear e1 e4 e5
  have l0 : 0 ≤ (1 * x2.toInt + (-1 * x3.toInt + 0)) + -1 := by
    obtain ⟨z, e6, e7⟩ := m3 ([(2, 1), (3, -1)], -1) (List.mem_of_getElem? (i := 0) rfl)
    obtain rfl : (1 * x2.toInt + (-1 * x3.toInt + 0)) = z := Option.some.inj (show some (1 * x2.toInt + (-1 * x3.toInt + 0)) = some z from e6)
    exact e7
  have f0 : rB K n p 80 [rR x0, rI x2] σ := by
    obtain ⟨w, e6, e7⟩ := m4 (1282, [0, 2]) (List.mem_of_getElem? (i := 0) rfl)
    obtain rfl : [rR x0, rI x2] = w := Option.some.inj (show some [rR x0, rI x2] = some w from e6)
    exact (rF_b (r := 1282) (by decide) rfl).mp e7
  have f0 := ro_80.mp f0
  clear m1 m2 m3 m4
  have q0 : rB K n p 25 [rI x4] σ := ro_25.mpr (by
    obtain ⟨hp, h1, g, h3, h4⟩ := f0
    have e1 := rRo_c (i := ic0) h3 s0 t0 sc0 ec0
    have h5 := h4 (by omega) x3.toInt b3 (by omega)
    rw [show (2048 * 1 + x3.toInt).toNat = ic0 by omega, e1] at h5
    exact h5.1)
  have q1 : rB K n (rSh rS1 p [rR x0, rI x4]) 24 [] σ := ro_24.mpr (by
    obtain ⟨hp, h1, g, h3, h4⟩ := f0
    have e1 := rRo_c (i := ic0) h3 s0 t0 sc0 ec0
    have h5 := h4 (by omega) x3.toInt b3 (by omega)
    rw [show (2048 * 1 + x3.toInt).toNat = ic0 by omega, e1] at h5
    rw [rSh_mk hp]
    exact h5.2)
  exact ⟨p, fun _ => rfl, ⟨(fun q h => by cases h), fun q h => (by cases h), (fun f h => by cases h), (aAllc ⟨_, rfl, (rF_b (r := 401) (by decide) rfl).mpr q0⟩ (aAllc ⟨_, rfl, (rF_g (r := 384) (by decide)).mpr q1⟩ (fun f h => by cases h)))⟩, [], List.mem_cons_self, fun f h => (by cases h)⟩
theorem rw_rvHP0 {K : Nat → Nat} {n : Nat} {JX : (Nat → jcell) → Prop} : aGho (rF K n) fa_T K n JX ag_rvHP0 := by
  refine aGho_of ⟨rfl, rfl⟩ ?_
  intro p σ ρ hH hX hA hM0
  have hG := aAG_of hA.1 (fun i e v he hv => (hA.2 i e v he hv).1)
  clear hA
  obtain ⟨v0, v1, rfl, g0, g1⟩ := rA_2 hG
  clear hG
  obtain ⟨x0, rfl, b0, d0⟩ := rG_ref (by decide) g0
  obtain ⟨x1, rfl, b1, d1⟩ := aG_int g1
  dsimp only at b1 d1
  obtain ⟨m1, m2, m3, m4⟩ := hM0
  obtain ⟨M, hM⟩ := rMe_ex hH b0 d0
  clear m1 m2 m3 m4
  have q0 : rB K n p 182 [rR x0, rI x1] σ := ro_182_2.mpr (by
    obtain ⟨g, hg⟩ := rRo_ex (ko := 88) (f := 33) (kr := 107) (len := 4) hH rfl rfl rfl (by decide) b0 d0
    obtain ⟨g2, hg2⟩ := rRo_ex (ko := 88) (f := 34) (kr := 108) (len := 4) hH rfl rfl rfl (by decide) b0 d0
    exact ⟨g, g2, hg, hg2, fun j h1 h2 => by omega⟩)
  exact ⟨p, fun _ => rfl, ⟨(fun q h => by cases h), fun q h => (by cases h), (fun f h => by cases h), (aAllc ⟨_, rfl, (rF_b (r := 2914) (by decide) rfl).mpr q0⟩ (fun f h => by cases h))⟩, [], List.mem_cons_self, fun f h => (by cases h)⟩
theorem rw_rvHPs {K : Nat → Nat} {n : Nat} {JX : (Nat → jcell) → Prop} : aGho (rF K n) fa_T K n JX ag_rvHPs := by
  refine aGho_of ⟨rfl, rfl⟩ ?_
  intro p σ ρ hH hX hA hM0
  have hG := aAG_of hA.1 (fun i e v he hv => (hA.2 i e v he hv).1)
  clear hA
  obtain ⟨v0, v1, v2, v3, v4, rfl, g0, g1, g2, g3, g4⟩ := rA_5 hG
  clear hG
  obtain ⟨x0, rfl, b0, d0⟩ := rG_ref (by decide) g0
  obtain ⟨x1, rfl, b1, d1⟩ := rG_ref (by decide) g1
  obtain ⟨x2, rfl, b2, d2⟩ := aG_int g2
  dsimp only at b2 d2
  obtain ⟨x3, rfl, b3, d3⟩ := aG_int g3
  dsimp only at b3 d3
  obtain ⟨x4, rfl, b4, d4⟩ := rG_ref (by decide) g4
  obtain ⟨m1, m2, m3, m4⟩ := hM0
  obtain ⟨M, hM⟩ := rMe_ex hH b0 d0
  obtain ⟨a0, c0, fs0, w0, e1, s0, t0, e4⟩ := m1 (0, 34, 4) (List.mem_of_getElem? (i := 0) rfl)
  obtain rfl : x0 = a0 := Sum.inl.inj (Option.some.inj (Sum.inr.inj (Sum.inr.inj (Option.some.inj (show some (rR x0) = some _ from e1)))))
  obtain rfl : rR x4 = w0 := Option.some.inj (show some (rR x4) = some w0 from e4)
  clear e1 e4
  obtain ⟨a1, c1, fs1, w1, e1, s1, t1, e4⟩ := m1 (0, 33, 1) (List.mem_of_getElem? (i := 1) rfl)
  obtain rfl : x0 = a1 := Sum.inl.inj (Option.some.inj (Sum.inr.inj (Sum.inr.inj (Option.some.inj (show some (rR x0) = some _ from e1)))))
  obtain rfl : rR x1 = w1 := Option.some.inj (show some (rR x1) = some w1 from e4)
  clear e1 e4
  obtain ⟨a, mc0, ty0, gc0, ic0, e1, sc0, jc0, e4, e5⟩ := m2 (4, ([(2, 1)], 0), 3) (List.mem_of_getElem? (i := 0) rfl)
  obtain rfl : x4 = a := Sum.inl.inj (Option.some.inj (Sum.inr.inj (Sum.inr.inj (Option.some.inj (show some (rR x4) = some _ from e1)))))
  obtain ⟨gc0, rfl⟩ : ∃ g, gc0 = .inl g := by
    rcases gc0 with g | g
    · exact ⟨g, rfl⟩
    · exact absurd (show some (rI x3) = some (.inr (.inl (g ic0))) from e5) (fun h => by cases h)
  have sc0 : σ x4 = .inl (ty0, mc0, .inl gc0) := sc0
  have ec0 : x3 = gc0 ic0 := Sum.inl.inj (Option.some.inj (show some (rI x3) = some _ from e5))
  have kc0 : (ic0 : Int) = (1 * x2.toInt + 0) + 0 := by
    obtain ⟨z, e6, e7⟩ := e4
    obtain rfl : (1 * x2.toInt + 0) = z := Option.some.inj (show some (1 * x2.toInt + 0) = some z from e6)
    exact e7
  clear e1 e4 e5
  have f0 : rB K n p 182 [rR x0, rI x2] σ := by
    obtain ⟨w, e6, e7⟩ := m4 (2914, [0, 2]) (List.mem_of_getElem? (i := 0) rfl)
    obtain rfl : [rR x0, rI x2] = w := Option.some.inj (show some [rR x0, rI x2] = some w from e6)
    exact (rF_b (r := 2914) (by decide) rfl).mp e7
  have f0 := ro_182_2.mp f0
  clear m1 m2 m3 m4
  have q0 : rB K n p 183 [rR x0, rI x2] (jup σ x1 (jsto (σ x1) x2.toNatClampNeg x3)) := ro_183.mpr (by
    obtain ⟨g, g2, h1, h2, h3⟩ := f0
    have e := rRo_c (i := ic0) h2 s0 t0 sc0 ec0
    refine ⟨_, g2, rRo_up h1 s1 t1, rRo_o h2 (by rw [d1]; decide) (by rw [d1]; decide), fun j j1 j2 => ?_⟩
    have hi : x2.toNatClampNeg = x2.toInt.toNat := rfl
    unfold upd
    by_cases cj : j = x2.toInt
    · rw [if_pos (by rw [hi]; omega), show j.toNat = ic0 by omega]
      exact (Int32.toInt_inj.mp e).symm
    · rw [if_neg (by rw [hi]; omega)]
      exact h3 j j1 (by omega))
  exact ⟨p, fun _ => rfl, ⟨(fun q h => by cases h), fun q h => (by cases h), (fun f h => by cases h), (aAllc ⟨_, rfl, rF_p (r := 2930) (by decide) (by decide) q0⟩ (fun f h => by cases h))⟩, [], List.mem_cons_self, fun f h => (by cases h)⟩
theorem rw_rvHPn {K : Nat → Nat} {n : Nat} {JX : (Nat → jcell) → Prop} : aGho (rF K n) fa_T K n JX ag_rvHPn := by
  refine aGho_of ⟨rfl, rfl⟩ ?_
  intro p σ ρ hH hX hA hM0
  have hG := aAG_of hA.1 (fun i e v he hv => (hA.2 i e v he hv).1)
  clear hA
  obtain ⟨v0, v1, v2, rfl, g0, g1, g2⟩ := rA_3 hG
  clear hG
  obtain ⟨x0, rfl, b0, d0⟩ := rG_ref (by decide) g0
  obtain ⟨x1, rfl, b1, d1⟩ := aG_int g1
  dsimp only at b1 d1
  obtain ⟨x2, rfl, b2, d2⟩ := aG_int g2
  dsimp only at b2 d2
  obtain ⟨m1, m2, m3, m4⟩ := hM0
  obtain ⟨M, hM⟩ := rMe_ex hH b0 d0
  have l0 : 0 ≤ (1 * x2.toInt + (-1 * x1.toInt + 0)) + -1 := by
    obtain ⟨z, e6, e7⟩ := m3 ([(2, 1), (1, -1)], -1) (List.mem_of_getElem? (i := 0) rfl)
    obtain rfl : (1 * x2.toInt + (-1 * x1.toInt + 0)) = z := Option.some.inj (show some (1 * x2.toInt + (-1 * x1.toInt + 0)) = some z from e6)
    exact e7
  have l1 : 0 ≤ (-1 * x2.toInt + (1 * x1.toInt + 0)) + 1 := by
    obtain ⟨z, e6, e7⟩ := m3 ([(2, -1), (1, 1)], 1) (List.mem_of_getElem? (i := 1) rfl)
    obtain rfl : (-1 * x2.toInt + (1 * x1.toInt + 0)) = z := Option.some.inj (show some (-1 * x2.toInt + (1 * x1.toInt + 0)) = some z from e6)
    exact e7
  have f0 : rB K n p 183 [rR x0, rI x1] σ := by
    obtain ⟨w, e6, e7⟩ := m4 (2930, [0, 1]) (List.mem_of_getElem? (i := 0) rfl)
    obtain rfl : [rR x0, rI x1] = w := Option.some.inj (show some [rR x0, rI x1] = some w from e6)
    exact (rF_b (r := 2930) (by decide) rfl).mp e7
  have f0 := ro_183.mp f0
  clear m1 m2 m3 m4
  have q0 : rB K n p 182 [rR x0, rI x2] σ := ro_182_2.mpr (by
    rw [show x2.toInt = x1.toInt + 1 by omega]
    exact f0)
  exact ⟨p, fun _ => rfl, ⟨(fun q h => by cases h), fun q h => (by cases h), (fun f h => by cases h), (aAllc ⟨_, rfl, (rF_b (r := 2914) (by decide) rfl).mpr q0⟩ (fun f h => by cases h))⟩, [], List.mem_cons_self, fun f h => (by cases h)⟩
theorem rw_rvHPe {K : Nat → Nat} {n : Nat} {JX : (Nat → jcell) → Prop} : aGho (rF K n) fa_T K n JX ag_rvHPe := by
  refine aGho_of ⟨rfl, rfl⟩ ?_
  intro p σ ρ hH hX hA hM0
  have hG := aAG_of hA.1 (fun i e v he hv => (hA.2 i e v he hv).1)
  clear hA
  obtain ⟨v0, v1, v2, v3, v4, rfl, g0, g1, g2, g3, g4⟩ := rA_5 hG
  clear hG
  obtain ⟨x0, rfl, b0, d0⟩ := rG_ref (by decide) g0
  obtain ⟨x1, rfl, b1, d1⟩ := aG_int g1
  dsimp only at b1 d1
  obtain ⟨x2, rfl, b2, d2⟩ := aG_int g2
  dsimp only at b2 d2
  obtain ⟨x3, rfl, b3, d3⟩ := aG_int g3
  dsimp only at b3 d3
  obtain ⟨x4, rfl, b4, d4⟩ := aG_int g4
  dsimp only at b4 d4
  obtain ⟨m1, m2, m3, m4⟩ := hM0
  obtain ⟨M, hM⟩ := rMe_ex hH b0 d0
  have l0 : 0 ≤ (1 * x1.toInt + (-1 * x2.toInt + 0)) + 0 := by
    obtain ⟨z, e6, e7⟩ := m3 ([(1, 1), (2, -1)], 0) (List.mem_of_getElem? (i := 0) rfl)
    obtain rfl : (1 * x1.toInt + (-1 * x2.toInt + 0)) = z := Option.some.inj (show some (1 * x1.toInt + (-1 * x2.toInt + 0)) = some z from e6)
    exact e7
  have l1 : 0 ≤ (-1 * x1.toInt + (1 * x2.toInt + 0)) + 0 := by
    obtain ⟨z, e6, e7⟩ := m3 ([(1, -1), (2, 1)], 0) (List.mem_of_getElem? (i := 1) rfl)
    obtain rfl : (-1 * x1.toInt + (1 * x2.toInt + 0)) = z := Option.some.inj (show some (-1 * x1.toInt + (1 * x2.toInt + 0)) = some z from e6)
    exact e7
  have f0 : rB K n p 182 [rR x0, rI x1] σ := by
    obtain ⟨w, e6, e7⟩ := m4 (2914, [0, 1]) (List.mem_of_getElem? (i := 0) rfl)
    obtain rfl : [rR x0, rI x1] = w := Option.some.inj (show some [rR x0, rI x1] = some w from e6)
    exact (rF_b (r := 2914) (by decide) rfl).mp e7
  have f0 := ro_182_2.mp f0
  clear m1 m2 m3 m4
  have q0 : rB K n p 97 [rR x0, rI x2, rI x3, rI x4] σ := ro_97_4.mpr (by
    obtain ⟨g, g2, h1, -, -⟩ := f0
    intro _
    refine ⟨g, h1, ?_⟩
    rw [show x3.toInt.toNat = 0 by omega]
    trivial)
  have q1 : rB K n p 182 [rR x0, rI x2, rI x4] σ := ro_182_3.mpr (by
    intro _
    rw [show x2.toInt = x1.toInt by omega]
    exact f0)
  exact ⟨p, fun _ => rfl, ⟨(fun q h => by cases h), fun q h => (by cases h), (fun f h => by cases h), (aAllc ⟨_, rfl, (rF_b (r := 1556) (by decide) rfl).mpr q0⟩ (aAllc ⟨_, rfl, (rF_b (r := 2915) (by decide) rfl).mpr q1⟩ (fun f h => by cases h)))⟩, [], List.mem_cons_self, fun f h => (by cases h)⟩
theorem rw_rvMH0 {K : Nat → Nat} {n : Nat} {JX : (Nat → jcell) → Prop} : aGho (rF K n) fa_T K n JX ag_rvMH0 := by
  refine aGho_of ⟨rfl, rfl⟩ ?_
  intro p σ ρ hH hX hA hM0
  have hG := aAG_of hA.1 (fun i e v he hv => (hA.2 i e v he hv).1)
  clear hA
  obtain ⟨v0, v1, v2, v3, rfl, g0, g1, g2, g3⟩ := rA_4 hG
  clear hG
  obtain ⟨x0, rfl, b0, d0⟩ := rG_ref (by decide) g0
  obtain ⟨x1, rfl, b1, d1⟩ := aG_int g1
  dsimp only at b1 d1
  obtain ⟨x2, rfl, b2, d2⟩ := aG_int g2
  dsimp only at b2 d2
  obtain ⟨x3, rfl, b3, d3⟩ := aG_int g3
  dsimp only at b3 d3
  obtain ⟨m1, m2, m3, m4⟩ := hM0
  obtain ⟨M, hM⟩ := rMe_ex hH b0 d0
  clear m1 m2 m3 m4
  have q0 : rB K n p 97 [rR x0, rI x1, rI x2, rI x3] σ := ro_97_4.mpr (by
    intro h
    omega)
  have q1 : rB K n p 182 [rR x0, rI x1, rI x3] σ := ro_182_3.mpr (by
    intro h
    omega)
  exact ⟨p, fun _ => rfl, ⟨(fun q h => by cases h), fun q h => (by cases h), (fun f h => by cases h), (aAllc ⟨_, rfl, (rF_b (r := 1556) (by decide) rfl).mpr q0⟩ (aAllc ⟨_, rfl, (rF_b (r := 2915) (by decide) rfl).mpr q1⟩ (fun f h => by cases h)))⟩, [], List.mem_cons_self, fun f h => (by cases h)⟩
theorem rw_rvMH1 {K : Nat → Nat} {n : Nat} {JX : (Nat → jcell) → Prop} : aGho (rF K n) fa_T K n JX ag_rvMH1 := by
  refine aGho_of ⟨rfl, rfl⟩ ?_
  intro p σ ρ hH hX hA hM0
  have hG := aAG_of hA.1 (fun i e v he hv => (hA.2 i e v he hv).1)
  clear hA
  obtain ⟨v0, v1, v2, v3, rfl, g0, g1, g2, g3⟩ := rA_4 hG
  clear hG
  obtain ⟨x0, rfl, b0, d0⟩ := rG_ref (by decide) g0
  obtain ⟨x1, rfl, b1, d1⟩ := aG_int g1
  dsimp only at b1 d1
  obtain ⟨x2, rfl, b2, d2⟩ := aG_int g2
  dsimp only at b2 d2
  obtain ⟨x3, rfl, b3, d3⟩ := aG_int g3
  dsimp only at b3 d3
  obtain ⟨m1, m2, m3, m4⟩ := hM0
  obtain ⟨M, hM⟩ := rMe_ex hH b0 d0
  have f0 : rB K n p 97 [rR x0, rI x1, rI x2] σ := by
    obtain ⟨w, e6, e7⟩ := m4 (1555, [0, 1, 2]) (List.mem_of_getElem? (i := 0) rfl)
    obtain rfl : [rR x0, rI x1, rI x2] = w := Option.some.inj (show some [rR x0, rI x1, rI x2] = some w from e6)
    exact (rF_b (r := 1555) (by decide) rfl).mp e7
  have f0 := ro_97_3.mp f0
  have f1 : rB K n p 182 [rR x0, rI x1] σ := by
    obtain ⟨w, e6, e7⟩ := m4 (2914, [0, 1]) (List.mem_of_getElem? (i := 1) rfl)
    obtain rfl : [rR x0, rI x1] = w := Option.some.inj (show some [rR x0, rI x1] = some w from e6)
    exact (rF_b (r := 2914) (by decide) rfl).mp e7
  have f1 := ro_182_2.mp f1
  clear m1 m2 m3 m4
  have q0 : rB K n p 97 [rR x0, rI x1, rI x2, rI x3] σ := ro_97_4.mpr (by
    intro _
    exact f0)
  have q1 : rB K n p 182 [rR x0, rI x1, rI x3] σ := ro_182_3.mpr (by
    intro _
    exact f1)
  exact ⟨p, fun _ => rfl, ⟨(fun q h => by cases h), fun q h => (by cases h), (fun f h => by cases h), (aAllc ⟨_, rfl, (rF_b (r := 1556) (by decide) rfl).mpr q0⟩ (aAllc ⟨_, rfl, (rF_b (r := 2915) (by decide) rfl).mpr q1⟩ (fun f h => by cases h)))⟩, [], List.mem_cons_self, fun f h => (by cases h)⟩
theorem rw_rvTRp {K : Nat → Nat} {n : Nat} {JX : (Nat → jcell) → Prop} : aGho (rF K n) fa_T K n JX ag_rvTRp := by
  refine aGho_of ⟨rfl, rfl⟩ ?_
  intro p σ ρ hH hX hA hM0
  have hG := aAG_of hA.1 (fun i e v he hv => (hA.2 i e v he hv).1)
  clear hA
  obtain ⟨v0, v1, v2, v3, rfl, g0, g1, g2, g3⟩ := rA_4 hG
  clear hG
  obtain ⟨x0, rfl, b0, d0⟩ := rG_ref (by decide) g0
  obtain ⟨x1, rfl, b1, d1⟩ := rG_ref (by decide) g1
  obtain ⟨x2, rfl, b2, d2⟩ := aG_int g2
  dsimp only at b2 d2
  obtain ⟨x3, rfl, b3, d3⟩ := aG_int g3
  dsimp only at b3 d3
  obtain ⟨m1, m2, m3, m4⟩ := hM0
  obtain ⟨M, hM⟩ := rMe_ex hH b0 d0
  obtain ⟨a0, c0, fs0, w0, e1, s0, t0, e4⟩ := m1 (0, 34, 1) (List.mem_of_getElem? (i := 0) rfl)
  obtain rfl : x0 = a0 := Sum.inl.inj (Option.some.inj (Sum.inr.inj (Sum.inr.inj (Option.some.inj (show some (rR x0) = some _ from e1)))))
  obtain rfl : rR x1 = w0 := Option.some.inj (show some (rR x1) = some w0 from e4)
  clear e1 e4
  clear m1 m2 m3 m4
  have q0 : rB K n p 188 [rR x0, rI x2, rI x3] (jup σ x1 (jsto (σ x1) x2.toNatClampNeg x3)) := ro_188.mpr (by
    obtain ⟨g, h⟩ := rRo_of (k := 88) (f := 34) hH b0 d0 s0 t0 b1 d1 rfl
    refine ⟨by omega, _, rRo_up h s0 t0, ?_⟩
    unfold upd
    rw [if_pos (show x2.toInt.toNat = x2.toNatClampNeg from rfl)])
  exact ⟨p, fun _ => rfl, ⟨(fun q h => by cases h), fun q h => (by cases h), (fun f h => by cases h), (aAllc ⟨_, rfl, rF_p (r := 3011) (by decide) (by decide) q0⟩ (fun f h => by cases h))⟩, [], List.mem_cons_self, fun f h => (by cases h)⟩
theorem rw_rvMHu {K : Nat → Nat} {n : Nat} {JX : (Nat → jcell) → Prop} : aGho (rF K n) fa_T K n JX ag_rvMHu := by
  refine aGho_of ⟨rfl, rfl⟩ ?_
  intro p σ ρ hH hX hA hM0
  have hG := aAG_of hA.1 (fun i e v he hv => (hA.2 i e v he hv).1)
  clear hA
  obtain ⟨v0, v1, v2, v3, v4, v5, v6, rfl, g0, g1, g2, g3, g4, g5, g6⟩ := rA_7 hG
  clear hG
  obtain ⟨x0, rfl, b0, d0⟩ := rG_ref (by decide) g0
  obtain ⟨x1, rfl, b1, d1⟩ := aG_int g1
  dsimp only at b1 d1
  obtain ⟨x2, rfl, b2, d2⟩ := aG_int g2
  dsimp only at b2 d2
  obtain ⟨x3, rfl, b3, d3⟩ := aG_int g3
  dsimp only at b3 d3
  obtain ⟨x4, rfl, b4, d4⟩ := aG_int g4
  dsimp only at b4 d4
  obtain ⟨x5, rfl, b5, d5⟩ := aG_int g5
  dsimp only at b5 d5
  obtain ⟨x6, rfl, b6, d6⟩ := aG_int g6
  dsimp only at b6 d6
  obtain ⟨m1, m2, m3, m4⟩ := hM0
  obtain ⟨M, hM⟩ := rMe_ex hH b0 d0
  have l0 : 0 ≤ (1 * x2.toInt + (-1 * x1.toInt + 0)) + -1 := by
    obtain ⟨z, e6, e7⟩ := m3 ([(2, 1), (1, -1)], -1) (List.mem_of_getElem? (i := 0) rfl)
    obtain rfl : (1 * x2.toInt + (-1 * x1.toInt + 0)) = z := Option.some.inj (show some (1 * x2.toInt + (-1 * x1.toInt + 0)) = some z from e6)
    exact e7
  have l1 : 0 ≤ (-1 * x2.toInt + (1 * x1.toInt + 0)) + 1 := by
    obtain ⟨z, e6, e7⟩ := m3 ([(2, -1), (1, 1)], 1) (List.mem_of_getElem? (i := 1) rfl)
    obtain rfl : (-1 * x2.toInt + (1 * x1.toInt + 0)) = z := Option.some.inj (show some (-1 * x2.toInt + (1 * x1.toInt + 0)) = some z from e6)
    exact e7
  have l2 : 0 ≤ (1 * x4.toInt + (-1 * x3.toInt + 0)) + 1 := by
    obtain ⟨z, e6, e7⟩ := m3 ([(4, 1), (3, -1)], 1) (List.mem_of_getElem? (i := 2) rfl)
    obtain rfl : (1 * x4.toInt + (-1 * x3.toInt + 0)) = z := Option.some.inj (show some (1 * x4.toInt + (-1 * x3.toInt + 0)) = some z from e6)
    exact e7
  have l3 : 0 ≤ (-1 * x4.toInt + (1 * x3.toInt + 0)) + -1 := by
    obtain ⟨z, e6, e7⟩ := m3 ([(4, -1), (3, 1)], -1) (List.mem_of_getElem? (i := 3) rfl)
    obtain rfl : (-1 * x4.toInt + (1 * x3.toInt + 0)) = z := Option.some.inj (show some (-1 * x4.toInt + (1 * x3.toInt + 0)) = some z from e6)
    exact e7
  have f0 : rB K n (rSh rS1 p [rR x0, rI x5]) 97 [rR x0, rI x2, rI x4, rI x6] σ := by
    obtain ⟨w, e6, e7⟩ := m4 (1556, [0, 2, 4, 6, 0, 5]) (List.mem_of_getElem? (i := 0) rfl)
    obtain rfl : [rR x0, rI x2, rI x4, rI x6, rR x0, rI x5] = w := Option.some.inj (show some [rR x0, rI x2, rI x4, rI x6, rR x0, rI x5] = some w from e6)
    exact (rF_g (r := 1556) (by decide)).mp e7
  have f0 := ro_97_4.mp f0
  have f1 : rB K n (rSh rS1 p [rR x0, rI x5]) 182 [rR x0, rI x2, rI x6] σ := by
    obtain ⟨w, e6, e7⟩ := m4 (2915, [0, 2, 6, 0, 5]) (List.mem_of_getElem? (i := 1) rfl)
    obtain rfl : [rR x0, rI x2, rI x6, rR x0, rI x5] = w := Option.some.inj (show some [rR x0, rI x2, rI x6, rR x0, rI x5] = some w from e6)
    exact (rF_g (r := 2915) (by decide)).mp e7
  have f1 := ro_182_3.mp f1
  have f2 : rB K n p 188 [rR x0, rI x1, rI x5] σ := by
    obtain ⟨w, e6, e7⟩ := m4 (3011, [0, 1, 5]) (List.mem_of_getElem? (i := 2) rfl)
    obtain rfl : [rR x0, rI x1, rI x5] = w := Option.some.inj (show some [rR x0, rI x1, rI x5] = some w from e6)
    exact (rF_b (r := 3011) (by decide) rfl).mp e7
  have f2 := ro_188.mp f2
  have f3 : rB K n p 25 [rI x5] σ := by
    obtain ⟨w, e6, e7⟩ := m4 (401, [5]) (List.mem_of_getElem? (i := 3) rfl)
    obtain rfl : [rI x5] = w := Option.some.inj (show some [rI x5] = some w from e6)
    exact (rF_b (r := 401) (by decide) rfl).mp e7
  have f3 := ro_25.mp f3
  have f4 : rB K n (rSh rS1 p [rR x0, rI x5]) 24 [] σ := by
    obtain ⟨w, e6, e7⟩ := m4 (384, [0, 5]) (List.mem_of_getElem? (i := 4) rfl)
    obtain rfl : [rR x0, rI x5] = w := Option.some.inj (show some [rR x0, rI x5] = some w from e6)
    exact (rF_g (r := 384) (by decide)).mp e7
  have f4 := ro_24.mp f4
  clear m1 m2 m3 m4
  have q0 : rB K n p 97 [rR x0, rI x1, rI x3] σ := ro_97_3.mpr (by
    obtain ⟨g, g2, h1, h2, h3⟩ := f1 (by omega)
    obtain ⟨g', h4, h5⟩ := f0 (by omega)
    obtain rfl := rRo_u h1 h4
    obtain ⟨h6, g3, h7, h8⟩ := f2
    obtain rfl := rRo_u h2 h7
    have e : g x1.toInt.toNat = x5 := by
      rw [h3 x1.toInt h6 (by omega)]
      exact Int32.toInt_inj.mp h8
    refine ⟨g, h1, ?_⟩
    rw [show x3.toInt.toNat = x4.toInt.toNat + 1 by omega]
    unfold rLn
    rw [e]
    rw [show x2.toInt.toNat = x1.toInt.toNat + 1 by omega] at h5
    exact ⟨f3, f4, h5⟩)
  have q1 : rB K n p 182 [rR x0, rI x1] σ := ro_182_2.mpr (by
    obtain ⟨g, g2, h1, h2, h3⟩ := f1 (by omega)
    exact ⟨g, g2, h1, h2, fun j j1 j2 => h3 j j1 (by omega)⟩)
  exact ⟨p, fun _ => rfl, ⟨(fun q h => by cases h), fun q h => (by cases h), (fun f h => by cases h), (aAllc ⟨_, rfl, (rF_b (r := 1555) (by decide) rfl).mpr q0⟩ (aAllc ⟨_, rfl, (rF_b (r := 2914) (by decide) rfl).mpr q1⟩ (fun f h => by cases h)))⟩, [], List.mem_cons_self, fun f h => (by cases h)⟩
theorem rw_rvR9 {K : Nat → Nat} {n : Nat} {JX : (Nat → jcell) → Prop} : aGho (rF K n) fa_T K n JX ag_rvR9 := by
  refine aGho_of ⟨rfl, rfl⟩ ?_
  intro p σ ρ hH hX hA hM0
  have hG := aAG_of hA.1 (fun i e v he hv => (hA.2 i e v he hv).1)
  clear hA
  obtain ⟨v0, rfl, g0⟩ := rA_1 hG
  clear hG
  obtain ⟨x0, rfl, b0, d0⟩ := aG_int g0
  dsimp only at b0 d0
  obtain ⟨m1, m2, m3, m4⟩ := hM0
  have l0 : 0 ≤ (1 * x0.toInt + 0) + 0 := by
    obtain ⟨z, e6, e7⟩ := m3 ([(0, 1)], 0) (List.mem_of_getElem? (i := 0) rfl)
    obtain rfl : (1 * x0.toInt + 0) = z := Option.some.inj (show some (1 * x0.toInt + 0) = some z from e6)
    exact e7
  have l1 : 0 ≤ (-1 * x0.toInt + 0) + 999999999 := by
    obtain ⟨z, e6, e7⟩ := m3 ([(0, -1)], 999999999) (List.mem_of_getElem? (i := 1) rfl)
    obtain rfl : (-1 * x0.toInt + 0) = z := Option.some.inj (show some (-1 * x0.toInt + 0) = some z from e6)
    exact e7
  clear m1 m2 m3 m4
  have r0 : 0 ≤ (1 * x0.toInt + 0) + 0 := by
    omega
  have r1 : 0 ≤ (-1 * x0.toInt + 0) + 999999999 := by
    omega
  exact ⟨p, fun _ => rfl, ⟨(fun q h => by cases h), fun q h => (by cases h), (aAllc ⟨_, rfl, r0⟩ (aAllc ⟨_, rfl, r1⟩ (fun f h => by cases h))), (fun f h => by cases h)⟩, [], List.mem_cons_self, fun f h => (by cases h)⟩
theorem rw_rvME {K : Nat → Nat} {n : Nat} {JX : (Nat → jcell) → Prop} : aGho (rF K n) fa_T K n JX ag_rvME := by
  refine aGho_of ⟨rfl, rfl⟩ ?_
  intro p σ ρ hH hX hA hM0
  have hG := aAG_of hA.1 (fun i e v he hv => (hA.2 i e v he hv).1)
  clear hA
  obtain ⟨v0, rfl, g0⟩ := rA_1 hG
  clear hG
  obtain ⟨x0, rfl, b0, d0⟩ := aG_int g0
  dsimp only at b0 d0
  obtain ⟨m1, m2, m3, m4⟩ := hM0
  clear m1 m2 m3 m4
  have hd : (0 ≤ (1 * x0.toInt + 0) + 0 ∧ 0 ≤ (-1 * x0.toInt + 0) + 0) ∨ (0 ≤ (1 * x0.toInt + 0) + -1 ∧ 0 ≤ (-1 * x0.toInt + 0) + 1) := by
    omega
  rcases hd with ⟨w0, w1⟩ | ⟨w0, w1⟩
  · exact ⟨p, fun _ => rfl, ⟨(fun q h => by cases h), fun q h => (by cases h), (fun f h => by cases h), (fun f h => by cases h)⟩, _, List.mem_of_getElem? (i := 0) rfl, (aAllc ⟨_, rfl, w0⟩ (aAllc ⟨_, rfl, w1⟩ (fun f h => by cases h)))⟩
  · exact ⟨p, fun _ => rfl, ⟨(fun q h => by cases h), fun q h => (by cases h), (fun f h => by cases h), (fun f h => by cases h)⟩, _, List.mem_of_getElem? (i := 1) rfl, (aAllc ⟨_, rfl, w0⟩ (aAllc ⟨_, rfl, w1⟩ (fun f h => by cases h)))⟩
theorem rw_rvSG0 {K : Nat → Nat} {n : Nat} {JX : (Nat → jcell) → Prop} : aGho (rF K n) fa_T K n JX ag_rvSG0 := by
  refine aGho_of ⟨rfl, rfl⟩ ?_
  intro p σ ρ hH hX hA hM0
  have hG := aAG_of hA.1 (fun i e v he hv => (hA.2 i e v he hv).1)
  clear hA
  obtain ⟨v0, v1, v2, v3, rfl, g0, g1, g2, g3⟩ := rA_4 hG
  clear hG
  obtain ⟨x0, rfl, b0, d0⟩ := rG_ref (by decide) g0
  obtain ⟨x1, rfl, b1, d1⟩ := aG_int g1
  dsimp only at b1 d1
  obtain ⟨x2, rfl, b2, d2⟩ := aG_int g2
  dsimp only at b2 d2
  obtain ⟨x3, rfl, b3, d3⟩ := aG_int g3
  dsimp only at b3 d3
  obtain ⟨m1, m2, m3, m4⟩ := hM0
  obtain ⟨M, hM⟩ := rMe_ex hH b0 d0
  obtain ⟨a0, c0, fs0, w0, e1, s0, t0, e4⟩ := m1 (0, 0, 3) (List.mem_of_getElem? (i := 0) rfl)
  obtain rfl : x0 = a0 := Sum.inl.inj (Option.some.inj (Sum.inr.inj (Sum.inr.inj (Option.some.inj (show some (rR x0) = some _ from e1)))))
  obtain rfl : rI x3 = w0 := Option.some.inj (show some (rI x3) = some w0 from e4)
  clear e1 e4
  have l0 : 0 ≤ (1 * x1.toInt + (-1 * x3.toInt + 0)) + 0 := by
    obtain ⟨z, e6, e7⟩ := m3 ([(1, 1), (3, -1)], 0) (List.mem_of_getElem? (i := 0) rfl)
    obtain rfl : (1 * x1.toInt + (-1 * x3.toInt + 0)) = z := Option.some.inj (show some (1 * x1.toInt + (-1 * x3.toInt + 0)) = some z from e6)
    exact e7
  clear m1 m2 m3 m4
  have q0 : rB K n p 189 [rR x0, rI x1, rI x2] σ := ro_189.mpr (by
    obtain ⟨g, h⟩ := rTx_ex hH b0 d0
    refine ⟨g, x3, h, ⟨b0, d0, _, _, s0, t0⟩, ?_⟩
    rw [if_neg (by omega)]
    omega)
  exact ⟨p, fun _ => rfl, ⟨(fun q h => by cases h), fun q h => (by cases h), (fun f h => by cases h), (aAllc ⟨_, rfl, (rF_b (r := 3027) (by decide) rfl).mpr q0⟩ (fun f h => by cases h))⟩, [], List.mem_cons_self, fun f h => (by cases h)⟩
theorem rw_rvSG1 {K : Nat → Nat} {n : Nat} {JX : (Nat → jcell) → Prop} : aGho (rF K n) fa_T K n JX ag_rvSG1 := by
  refine aGho_of ⟨rfl, rfl⟩ ?_
  intro p σ ρ hH hX hA hM0
  have hG := aAG_of hA.1 (fun i e v he hv => (hA.2 i e v he hv).1)
  clear hA
  obtain ⟨v0, v1, v2, v3, v4, rfl, g0, g1, g2, g3, g4⟩ := rA_5 hG
  clear hG
  obtain ⟨x0, rfl, b0, d0⟩ := rG_ref (by decide) g0
  obtain ⟨x1, rfl, b1, d1⟩ := aG_int g1
  dsimp only at b1 d1
  obtain ⟨x2, rfl, b2, d2⟩ := aG_int g2
  dsimp only at b2 d2
  obtain ⟨x3, rfl, b3, d3⟩ := aG_int g3
  dsimp only at b3 d3
  obtain ⟨x4, rfl, b4, d4⟩ := rG_ref (by decide) g4
  obtain ⟨m1, m2, m3, m4⟩ := hM0
  obtain ⟨M, hM⟩ := rMe_ex hH b0 d0
  obtain ⟨a0, c0, fs0, w0, e1, s0, t0, e4⟩ := m1 (0, 1, 4) (List.mem_of_getElem? (i := 0) rfl)
  obtain rfl : x0 = a0 := Sum.inl.inj (Option.some.inj (Sum.inr.inj (Sum.inr.inj (Option.some.inj (show some (rR x0) = some _ from e1)))))
  obtain rfl : rR x4 = w0 := Option.some.inj (show some (rR x4) = some w0 from e4)
  clear e1 e4
  obtain ⟨a1, c1, fs1, w1, e1, s1, t1, e4⟩ := m1 (0, 0, 3) (List.mem_of_getElem? (i := 1) rfl)
  obtain rfl : x0 = a1 := Sum.inl.inj (Option.some.inj (Sum.inr.inj (Sum.inr.inj (Option.some.inj (show some (rR x0) = some _ from e1)))))
  obtain rfl : rI x3 = w1 := Option.some.inj (show some (rI x3) = some w1 from e4)
  clear e1 e4
  obtain ⟨a, mc0, ty0, gc0, ic0, e1, sc0, jc0, e4, e5⟩ := m2 (4, ([(1, 1)], 0), 2) (List.mem_of_getElem? (i := 0) rfl)
  obtain rfl : x4 = a := Sum.inl.inj (Option.some.inj (Sum.inr.inj (Sum.inr.inj (Option.some.inj (show some (rR x4) = some _ from e1)))))
  obtain ⟨gc0, rfl⟩ : ∃ g, gc0 = .inl g := by
    rcases gc0 with g | g
    · exact ⟨g, rfl⟩
    · exact absurd (show some (rI x2) = some (.inr (.inl (g ic0))) from e5) (fun h => by cases h)
  have sc0 : σ x4 = .inl (ty0, mc0, .inl gc0) := sc0
  have ec0 : x2 = gc0 ic0 := Sum.inl.inj (Option.some.inj (show some (rI x2) = some _ from e5))
  have kc0 : (ic0 : Int) = (1 * x1.toInt + 0) + 0 := by
    obtain ⟨z, e6, e7⟩ := e4
    obtain rfl : (1 * x1.toInt + 0) = z := Option.some.inj (show some (1 * x1.toInt + 0) = some z from e6)
    exact e7
  clear e1 e4 e5
  have l0 : 0 ≤ (1 * x3.toInt + (-1 * x1.toInt + 0)) + -1 := by
    obtain ⟨z, e6, e7⟩ := m3 ([(3, 1), (1, -1)], -1) (List.mem_of_getElem? (i := 0) rfl)
    obtain rfl : (1 * x3.toInt + (-1 * x1.toInt + 0)) = z := Option.some.inj (show some (1 * x3.toInt + (-1 * x1.toInt + 0)) = some z from e6)
    exact e7
  clear m1 m2 m3 m4
  have q0 : rB K n p 189 [rR x0, rI x1, rI x2] σ := ro_189.mpr (by
    obtain ⟨g, h⟩ := rTx_ex hH b0 d0
    refine ⟨g, x3, h, ⟨b0, d0, _, _, s1, t1⟩, ?_⟩
    rw [if_pos (by omega)]
    obtain ⟨r, ⟨-, -, c', fs', e4, e5⟩, -, -, e6⟩ := h
    rw [s0] at e4
    cases e4
    rw [t0] at e5
    cases e5
    rw [sc0] at e6
    cases e6
    rw [ec0, show ic0 = x1.toInt.toNat by omega])
  exact ⟨p, fun _ => rfl, ⟨(fun q h => by cases h), fun q h => (by cases h), (fun f h => by cases h), (aAllc ⟨_, rfl, (rF_b (r := 3027) (by decide) rfl).mpr q0⟩ (fun f h => by cases h))⟩, [], List.mem_cons_self, fun f h => (by cases h)⟩
theorem rw_rvSGe {K : Nat → Nat} {n : Nat} {JX : (Nat → jcell) → Prop} : aGho (rF K n) fa_T K n JX ag_rvSGe := by
  refine aGho_of ⟨rfl, rfl⟩ ?_
  intro p σ ρ hH hX hA hM0
  have hG := aAG_of hA.1 (fun i e v he hv => (hA.2 i e v he hv).1)
  clear hA
  obtain ⟨v0, v1, v2, v3, rfl, g0, g1, g2, g3⟩ := rA_4 hG
  clear hG
  obtain ⟨x0, rfl, b0, d0⟩ := rG_ref (by decide) g0
  obtain ⟨x1, rfl, b1, d1⟩ := aG_int g1
  dsimp only at b1 d1
  obtain ⟨x2, rfl, b2, d2⟩ := aG_int g2
  dsimp only at b2 d2
  obtain ⟨x3, rfl, b3, d3⟩ := aG_int g3
  dsimp only at b3 d3
  obtain ⟨m1, m2, m3, m4⟩ := hM0
  obtain ⟨M, hM⟩ := rMe_ex hH b0 d0
  have f0 : rB K n p 189 [rR x0, rI x1, rI x2] σ := by
    obtain ⟨w, e6, e7⟩ := m4 (3027, [0, 1, 2]) (List.mem_of_getElem? (i := 0) rfl)
    obtain rfl : [rR x0, rI x1, rI x2] = w := Option.some.inj (show some [rR x0, rI x1, rI x2] = some w from e6)
    exact (rF_b (r := 3027) (by decide) rfl).mp e7
  have f0 := ro_189.mp f0
  have f1 : rB K n p 189 [rR x0, rI x1, rI x3] σ := by
    obtain ⟨w, e6, e7⟩ := m4 (3027, [0, 1, 3]) (List.mem_of_getElem? (i := 1) rfl)
    obtain rfl : [rR x0, rI x1, rI x3] = w := Option.some.inj (show some [rR x0, rI x1, rI x3] = some w from e6)
    exact (rF_b (r := 3027) (by decide) rfl).mp e7
  have f1 := ro_189.mp f1
  clear m1 m2 m3 m4
  have r0 : 0 ≤ (1 * x2.toInt + (-1 * x3.toInt + 0)) + 0 := by
    obtain ⟨g, t, h1, h2, h3⟩ := f0
    obtain ⟨g', t', k1, k2, k3⟩ := f1
    obtain rfl := rTx_u h1 k1
    cases rOb_u h2 k2
    omega
  have r1 : 0 ≤ (-1 * x2.toInt + (1 * x3.toInt + 0)) + 0 := by
    obtain ⟨g, t, h1, h2, h3⟩ := f0
    obtain ⟨g', t', k1, k2, k3⟩ := f1
    obtain rfl := rTx_u h1 k1
    cases rOb_u h2 k2
    omega
  exact ⟨p, fun _ => rfl, ⟨(fun q h => by cases h), fun q h => (by cases h), (aAllc ⟨_, rfl, r0⟩ (aAllc ⟨_, rfl, r1⟩ (fun f h => by cases h))), (fun f h => by cases h)⟩, [], List.mem_cons_self, fun f h => (by cases h)⟩
theorem rw_rvSGa {K : Nat → Nat} {n : Nat} {JX : (Nat → jcell) → Prop} : aGho (rF K n) fa_T K n JX ag_rvSGa := by
  refine aGho_of ⟨rfl, rfl⟩ ?_
  intro p σ ρ hH hX hA hM0
  have hG := aAG_of hA.1 (fun i e v he hv => (hA.2 i e v he hv).1)
  clear hA
  obtain ⟨v0, rfl, g0⟩ := rA_1 hG
  clear hG
  obtain ⟨x0, rfl, b0, d0⟩ := aG_int g0
  dsimp only at b0 d0
  obtain ⟨m1, m2, m3, m4⟩ := hM0
  clear m1 m2 m3 m4
  have q0 : rB K n p 190 [rI x0] σ := ro_190.mpr (by
    trivial)
  exact ⟨p, fun _ => rfl, ⟨(fun q h => by cases h), fun q h => (by cases h), (fun f h => by cases h), (aAllc ⟨_, rfl, (rF_b (r := 3041) (by decide) rfl).mpr q0⟩ (fun f h => by cases h))⟩, [], List.mem_cons_self, fun f h => (by cases h)⟩
theorem rw_rvSGb {K : Nat → Nat} {n : Nat} {JX : (Nat → jcell) → Prop} : aGho (rF K n) fa_T K n JX ag_rvSGb := by
  refine aGho_of ⟨rfl, rfl⟩ ?_
  intro p σ ρ hH hX hA hM0
  have hG := aAG_of hA.1 (fun i e v he hv => (hA.2 i e v he hv).1)
  clear hA
  obtain ⟨v0, rfl, g0⟩ := rA_1 hG
  clear hG
  obtain ⟨x0, rfl, b0, d0⟩ := aG_int g0
  dsimp only at b0 d0
  obtain ⟨m1, m2, m3, m4⟩ := hM0
  clear m1 m2 m3 m4
  have q0 : rB K n p 191 [rI x0] σ := ro_191.mpr (by
    trivial)
  exact ⟨p, fun _ => rfl, ⟨(fun q h => by cases h), fun q h => (by cases h), (fun f h => by cases h), (aAllc ⟨_, rfl, (rF_b (r := 3057) (by decide) rfl).mpr q0⟩ (fun f h => by cases h))⟩, [], List.mem_cons_self, fun f h => (by cases h)⟩
theorem rw_rvDG {K : Nat → Nat} {n : Nat} {JX : (Nat → jcell) → Prop} : aGho (rF K n) fa_T K n JX ag_rvDG := by
  refine aGho_of ⟨rfl, rfl⟩ ?_
  intro p σ ρ hH hX hA hM0
  have hG := aAG_of hA.1 (fun i e v he hv => (hA.2 i e v he hv).1)
  clear hA
  obtain ⟨v0, rfl, g0⟩ := rA_1 hG
  clear hG
  obtain ⟨x0, rfl, b0, d0⟩ := aG_int g0
  dsimp only at b0 d0
  obtain ⟨m1, m2, m3, m4⟩ := hM0
  have l0 : 0 ≤ (1 * x0.toInt + 0) + -48 := by
    obtain ⟨z, e6, e7⟩ := m3 ([(0, 1)], -48) (List.mem_of_getElem? (i := 0) rfl)
    obtain rfl : (1 * x0.toInt + 0) = z := Option.some.inj (show some (1 * x0.toInt + 0) = some z from e6)
    exact e7
  have l1 : 0 ≤ (-1 * x0.toInt + 0) + 57 := by
    obtain ⟨z, e6, e7⟩ := m3 ([(0, -1)], 57) (List.mem_of_getElem? (i := 1) rfl)
    obtain rfl : (-1 * x0.toInt + 0) = z := Option.some.inj (show some (-1 * x0.toInt + 0) = some z from e6)
    exact e7
  clear m1 m2 m3 m4
  have r0 : 0 ≤ (1 * x0.toInt + 0) + -48 := by
    omega
  have r1 : 0 ≤ (-1 * x0.toInt + 0) + 57 := by
    omega
  exact ⟨p, fun _ => rfl, ⟨(fun q h => by cases h), fun q h => (by cases h), (aAllc ⟨_, rfl, r0⟩ (aAllc ⟨_, rfl, r1⟩ (fun f h => by cases h))), (fun f h => by cases h)⟩, [], List.mem_cons_self, fun f h => (by cases h)⟩
theorem rw_rvC10 {K : Nat → Nat} {n : Nat} {JX : (Nat → jcell) → Prop} : aGho (rF K n) fa_T K n JX ag_rvC10 := by
  refine aGho_of ⟨rfl, rfl⟩ ?_
  intro p σ ρ hH hX hA hM0
  have hG := aAG_of hA.1 (fun i e v he hv => (hA.2 i e v he hv).1)
  clear hA
  obtain ⟨v0, v1, v2, v3, rfl, g0, g1, g2, g3⟩ := rA_4 hG
  clear hG
  obtain ⟨x0, rfl, b0, d0⟩ := rG_ref (by decide) g0
  obtain ⟨x1, rfl, b1, d1⟩ := aG_int g1
  dsimp only at b1 d1
  obtain ⟨x2, rfl, b2, d2⟩ := aG_int g2
  dsimp only at b2 d2
  obtain ⟨x3, rfl, b3, d3⟩ := aG_int g3
  dsimp only at b3 d3
  obtain ⟨m1, m2, m3, m4⟩ := hM0
  obtain ⟨M, hM⟩ := rMe_ex hH b0 d0
  clear m1 m2 m3 m4
  have q0 : rB K n p 192 [rR x0, rI x1, rI x2, rI x3] σ := ro_192.mpr ⟨_, hM, by
    rw [show x2.toInt.toNat = 0 by omega]
    show x3.toInt = 0
    omega⟩
  exact ⟨p, fun _ => rfl, ⟨(fun q h => by cases h), fun q h => (by cases h), (fun f h => by cases h), (aAllc ⟨_, rfl, (rF_b (r := 3076) (by decide) rfl).mpr q0⟩ (fun f h => by cases h))⟩, [], List.mem_cons_self, fun f h => (by cases h)⟩
theorem rw_rvC1y {K : Nat → Nat} {n : Nat} {JX : (Nat → jcell) → Prop} : aGho (rF K n) fa_T K n JX ag_rvC1y := by
  refine aGho_of ⟨rfl, rfl⟩ ?_
  intro p σ ρ hH hX hA hM0
  have hG := aAG_of hA.1 (fun i e v he hv => (hA.2 i e v he hv).1)
  clear hA
  obtain ⟨v0, v1, v2, v3, v4, v5, v6, rfl, g0, g1, g2, g3, g4, g5, g6⟩ := rA_7 hG
  clear hG
  obtain ⟨x0, rfl, b0, d0⟩ := rG_ref (by decide) g0
  obtain ⟨x1, rfl, b1, d1⟩ := aG_int g1
  dsimp only at b1 d1
  obtain ⟨x2, rfl, b2, d2⟩ := aG_int g2
  dsimp only at b2 d2
  obtain ⟨x3, rfl, b3, d3⟩ := aG_int g3
  dsimp only at b3 d3
  obtain ⟨x4, rfl, b4, d4⟩ := aG_int g4
  dsimp only at b4 d4
  obtain ⟨x5, rfl, b5, d5⟩ := aG_int g5
  dsimp only at b5 d5
  obtain ⟨x6, rfl, b6, d6⟩ := rG_ref (by decide) g6
  obtain ⟨m1, m2, m3, m4⟩ := hM0
  obtain ⟨M, hM⟩ := rMe_ex hH b0 d0
  obtain ⟨a0, c0, fs0, w0, e1, s0, t0, e4⟩ := m1 (0, 2, 6) (List.mem_of_getElem? (i := 0) rfl)
  obtain rfl : x0 = a0 := Sum.inl.inj (Option.some.inj (Sum.inr.inj (Sum.inr.inj (Option.some.inj (show some (rR x0) = some _ from e1)))))
  obtain rfl : rR x6 = w0 := Option.some.inj (show some (rR x6) = some w0 from e4)
  clear e1 e4
  obtain ⟨a, mc0, ty0, gc0, ic0, e1, sc0, jc0, e4, e5⟩ := m2 (6, ([(2, 1)], 0), 3) (List.mem_of_getElem? (i := 0) rfl)
  obtain rfl : x6 = a := Sum.inl.inj (Option.some.inj (Sum.inr.inj (Sum.inr.inj (Option.some.inj (show some (rR x6) = some _ from e1)))))
  obtain ⟨gc0, rfl⟩ : ∃ g, gc0 = .inl g := by
    rcases gc0 with g | g
    · exact ⟨g, rfl⟩
    · exact absurd (show some (rI x3) = some (.inr (.inl (g ic0))) from e5) (fun h => by cases h)
  have sc0 : σ x6 = .inl (ty0, mc0, .inl gc0) := sc0
  have ec0 : x3 = gc0 ic0 := Sum.inl.inj (Option.some.inj (show some (rI x3) = some _ from e5))
  have kc0 : (ic0 : Int) = (1 * x2.toInt + 0) + 0 := by
    obtain ⟨z, e6, e7⟩ := e4
    obtain rfl : (1 * x2.toInt + 0) = z := Option.some.inj (show some (1 * x2.toInt + 0) = some z from e6)
    exact e7
  clear e1 e4 e5
  have l0 : 0 ≤ (1 * x1.toInt + (-1 * x3.toInt + 0)) + 0 := by
    obtain ⟨z, e6, e7⟩ := m3 ([(1, 1), (3, -1)], 0) (List.mem_of_getElem? (i := 0) rfl)
    obtain rfl : (1 * x1.toInt + (-1 * x3.toInt + 0)) = z := Option.some.inj (show some (1 * x1.toInt + (-1 * x3.toInt + 0)) = some z from e6)
    exact e7
  have l1 : 0 ≤ (-1 * x1.toInt + (1 * x3.toInt + 0)) + 0 := by
    obtain ⟨z, e6, e7⟩ := m3 ([(1, -1), (3, 1)], 0) (List.mem_of_getElem? (i := 1) rfl)
    obtain rfl : (-1 * x1.toInt + (1 * x3.toInt + 0)) = z := Option.some.inj (show some (-1 * x1.toInt + (1 * x3.toInt + 0)) = some z from e6)
    exact e7
  have l2 : 0 ≤ (1 * x5.toInt + (-1 * x4.toInt + 0)) + -1 := by
    obtain ⟨z, e6, e7⟩ := m3 ([(5, 1), (4, -1)], -1) (List.mem_of_getElem? (i := 2) rfl)
    obtain rfl : (1 * x5.toInt + (-1 * x4.toInt + 0)) = z := Option.some.inj (show some (1 * x5.toInt + (-1 * x4.toInt + 0)) = some z from e6)
    exact e7
  have l3 : 0 ≤ (-1 * x5.toInt + (1 * x4.toInt + 0)) + 1 := by
    obtain ⟨z, e6, e7⟩ := m3 ([(5, -1), (4, 1)], 1) (List.mem_of_getElem? (i := 3) rfl)
    obtain rfl : (-1 * x5.toInt + (1 * x4.toInt + 0)) = z := Option.some.inj (show some (-1 * x5.toInt + (1 * x4.toInt + 0)) = some z from e6)
    exact e7
  have y0 : M x2.toInt = x3.toInt := rMg_c hM s0 t0 sc0 (by omega) (by omega) (by omega) ec0
  have f0 : rB K n p 192 [rR x0, rI x1, rI x2, rI x4] σ := by
    obtain ⟨w, e6, e7⟩ := m4 (3076, [0, 1, 2, 4]) (List.mem_of_getElem? (i := 0) rfl)
    obtain rfl : [rR x0, rI x1, rI x2, rI x4] = w := Option.some.inj (show some [rR x0, rI x1, rI x2, rI x4] = some w from e6)
    exact (rF_b (r := 3076) (by decide) rfl).mp e7
  obtain ⟨M9, h9, f0⟩ := ro_192.mp f0
  obtain rfl := rMg_u hM h9
  clear h9
  clear m1 m2 m3 m4
  have q0 : rB K n p 193 [rR x0, rI x1, rI x2, rI x5] σ := ro_193_4.mpr ⟨_, hM, by
    rw [show (x2.toInt + 1).toNat = x2.toInt.toNat + 1 by omega]
    unfold rCnt
    rw [show ((x2.toInt.toNat : Nat) : Int) = x2.toInt by omega, y0, if_pos (by omega)]
    omega⟩
  exact ⟨p, fun _ => rfl, ⟨(fun q h => by cases h), fun q h => (by cases h), (fun f h => by cases h), (aAllc ⟨_, rfl, (rF_b (r := 3092) (by decide) rfl).mpr q0⟩ (fun f h => by cases h))⟩, [], List.mem_cons_self, fun f h => (by cases h)⟩
theorem rw_rvC1nu {K : Nat → Nat} {n : Nat} {JX : (Nat → jcell) → Prop} : aGho (rF K n) fa_T K n JX ag_rvC1nu := by
  refine aGho_of ⟨rfl, rfl⟩ ?_
  intro p σ ρ hH hX hA hM0
  have hG := aAG_of hA.1 (fun i e v he hv => (hA.2 i e v he hv).1)
  clear hA
  obtain ⟨v0, v1, v2, v3, v4, v5, rfl, g0, g1, g2, g3, g4, g5⟩ := rA_6 hG
  clear hG
  obtain ⟨x0, rfl, b0, d0⟩ := rG_ref (by decide) g0
  obtain ⟨x1, rfl, b1, d1⟩ := aG_int g1
  dsimp only at b1 d1
  obtain ⟨x2, rfl, b2, d2⟩ := aG_int g2
  dsimp only at b2 d2
  obtain ⟨x3, rfl, b3, d3⟩ := aG_int g3
  dsimp only at b3 d3
  obtain ⟨x4, rfl, b4, d4⟩ := aG_int g4
  dsimp only at b4 d4
  obtain ⟨x5, rfl, b5, d5⟩ := rG_ref (by decide) g5
  obtain ⟨m1, m2, m3, m4⟩ := hM0
  obtain ⟨M, hM⟩ := rMe_ex hH b0 d0
  obtain ⟨a0, c0, fs0, w0, e1, s0, t0, e4⟩ := m1 (0, 2, 5) (List.mem_of_getElem? (i := 0) rfl)
  obtain rfl : x0 = a0 := Sum.inl.inj (Option.some.inj (Sum.inr.inj (Sum.inr.inj (Option.some.inj (show some (rR x0) = some _ from e1)))))
  obtain rfl : rR x5 = w0 := Option.some.inj (show some (rR x5) = some w0 from e4)
  clear e1 e4
  obtain ⟨a, mc0, ty0, gc0, ic0, e1, sc0, jc0, e4, e5⟩ := m2 (5, ([(2, 1)], 0), 3) (List.mem_of_getElem? (i := 0) rfl)
  obtain rfl : x5 = a := Sum.inl.inj (Option.some.inj (Sum.inr.inj (Sum.inr.inj (Option.some.inj (show some (rR x5) = some _ from e1)))))
  obtain ⟨gc0, rfl⟩ : ∃ g, gc0 = .inl g := by
    rcases gc0 with g | g
    · exact ⟨g, rfl⟩
    · exact absurd (show some (rI x3) = some (.inr (.inl (g ic0))) from e5) (fun h => by cases h)
  have sc0 : σ x5 = .inl (ty0, mc0, .inl gc0) := sc0
  have ec0 : x3 = gc0 ic0 := Sum.inl.inj (Option.some.inj (show some (rI x3) = some _ from e5))
  have kc0 : (ic0 : Int) = (1 * x2.toInt + 0) + 0 := by
    obtain ⟨z, e6, e7⟩ := e4
    obtain rfl : (1 * x2.toInt + 0) = z := Option.some.inj (show some (1 * x2.toInt + 0) = some z from e6)
    exact e7
  clear e1 e4 e5
  have l0 : 0 ≤ (1 * x1.toInt + (-1 * x3.toInt + 0)) + -1 := by
    obtain ⟨z, e6, e7⟩ := m3 ([(1, 1), (3, -1)], -1) (List.mem_of_getElem? (i := 0) rfl)
    obtain rfl : (1 * x1.toInt + (-1 * x3.toInt + 0)) = z := Option.some.inj (show some (1 * x1.toInt + (-1 * x3.toInt + 0)) = some z from e6)
    exact e7
  have y0 : M x2.toInt = x3.toInt := rMg_c hM s0 t0 sc0 (by omega) (by omega) (by omega) ec0
  have f0 : rB K n p 192 [rR x0, rI x1, rI x2, rI x4] σ := by
    obtain ⟨w, e6, e7⟩ := m4 (3076, [0, 1, 2, 4]) (List.mem_of_getElem? (i := 0) rfl)
    obtain rfl : [rR x0, rI x1, rI x2, rI x4] = w := Option.some.inj (show some [rR x0, rI x1, rI x2, rI x4] = some w from e6)
    exact (rF_b (r := 3076) (by decide) rfl).mp e7
  obtain ⟨M9, h9, f0⟩ := ro_192.mp f0
  obtain rfl := rMg_u hM h9
  clear h9
  clear m1 m2 m3 m4
  have q0 : rB K n p 193 [rR x0, rI x1, rI x2, rI x4] σ := ro_193_4.mpr ⟨_, hM, by
    rw [show (x2.toInt + 1).toNat = x2.toInt.toNat + 1 by omega]
    unfold rCnt
    rw [show ((x2.toInt.toNat : Nat) : Int) = x2.toInt by omega, y0, if_neg (by omega)]
    omega⟩
  exact ⟨p, fun _ => rfl, ⟨(fun q h => by cases h), fun q h => (by cases h), (fun f h => by cases h), (aAllc ⟨_, rfl, (rF_b (r := 3092) (by decide) rfl).mpr q0⟩ (fun f h => by cases h))⟩, [], List.mem_cons_self, fun f h => (by cases h)⟩
theorem rw_rvC1nd {K : Nat → Nat} {n : Nat} {JX : (Nat → jcell) → Prop} : aGho (rF K n) fa_T K n JX ag_rvC1nd := by
  refine aGho_of ⟨rfl, rfl⟩ ?_
  intro p σ ρ hH hX hA hM0
  have hG := aAG_of hA.1 (fun i e v he hv => (hA.2 i e v he hv).1)
  clear hA
  obtain ⟨v0, v1, v2, v3, v4, v5, rfl, g0, g1, g2, g3, g4, g5⟩ := rA_6 hG
  clear hG
  obtain ⟨x0, rfl, b0, d0⟩ := rG_ref (by decide) g0
  obtain ⟨x1, rfl, b1, d1⟩ := aG_int g1
  dsimp only at b1 d1
  obtain ⟨x2, rfl, b2, d2⟩ := aG_int g2
  dsimp only at b2 d2
  obtain ⟨x3, rfl, b3, d3⟩ := aG_int g3
  dsimp only at b3 d3
  obtain ⟨x4, rfl, b4, d4⟩ := aG_int g4
  dsimp only at b4 d4
  obtain ⟨x5, rfl, b5, d5⟩ := rG_ref (by decide) g5
  obtain ⟨m1, m2, m3, m4⟩ := hM0
  obtain ⟨M, hM⟩ := rMe_ex hH b0 d0
  obtain ⟨a0, c0, fs0, w0, e1, s0, t0, e4⟩ := m1 (0, 2, 5) (List.mem_of_getElem? (i := 0) rfl)
  obtain rfl : x0 = a0 := Sum.inl.inj (Option.some.inj (Sum.inr.inj (Sum.inr.inj (Option.some.inj (show some (rR x0) = some _ from e1)))))
  obtain rfl : rR x5 = w0 := Option.some.inj (show some (rR x5) = some w0 from e4)
  clear e1 e4
  obtain ⟨a, mc0, ty0, gc0, ic0, e1, sc0, jc0, e4, e5⟩ := m2 (5, ([(2, 1)], 0), 3) (List.mem_of_getElem? (i := 0) rfl)
  obtain rfl : x5 = a := Sum.inl.inj (Option.some.inj (Sum.inr.inj (Sum.inr.inj (Option.some.inj (show some (rR x5) = some _ from e1)))))
  obtain ⟨gc0, rfl⟩ : ∃ g, gc0 = .inl g := by
    rcases gc0 with g | g
    · exact ⟨g, rfl⟩
    · exact absurd (show some (rI x3) = some (.inr (.inl (g ic0))) from e5) (fun h => by cases h)
  have sc0 : σ x5 = .inl (ty0, mc0, .inl gc0) := sc0
  have ec0 : x3 = gc0 ic0 := Sum.inl.inj (Option.some.inj (show some (rI x3) = some _ from e5))
  have kc0 : (ic0 : Int) = (1 * x2.toInt + 0) + 0 := by
    obtain ⟨z, e6, e7⟩ := e4
    obtain rfl : (1 * x2.toInt + 0) = z := Option.some.inj (show some (1 * x2.toInt + 0) = some z from e6)
    exact e7
  clear e1 e4 e5
  have l0 : 0 ≤ (-1 * x1.toInt + (1 * x3.toInt + 0)) + -1 := by
    obtain ⟨z, e6, e7⟩ := m3 ([(1, -1), (3, 1)], -1) (List.mem_of_getElem? (i := 0) rfl)
    obtain rfl : (-1 * x1.toInt + (1 * x3.toInt + 0)) = z := Option.some.inj (show some (-1 * x1.toInt + (1 * x3.toInt + 0)) = some z from e6)
    exact e7
  have y0 : M x2.toInt = x3.toInt := rMg_c hM s0 t0 sc0 (by omega) (by omega) (by omega) ec0
  have f0 : rB K n p 192 [rR x0, rI x1, rI x2, rI x4] σ := by
    obtain ⟨w, e6, e7⟩ := m4 (3076, [0, 1, 2, 4]) (List.mem_of_getElem? (i := 0) rfl)
    obtain rfl : [rR x0, rI x1, rI x2, rI x4] = w := Option.some.inj (show some [rR x0, rI x1, rI x2, rI x4] = some w from e6)
    exact (rF_b (r := 3076) (by decide) rfl).mp e7
  obtain ⟨M9, h9, f0⟩ := ro_192.mp f0
  obtain rfl := rMg_u hM h9
  clear h9
  clear m1 m2 m3 m4
  have q0 : rB K n p 193 [rR x0, rI x1, rI x2, rI x4] σ := ro_193_4.mpr ⟨_, hM, by
    rw [show (x2.toInt + 1).toNat = x2.toInt.toNat + 1 by omega]
    unfold rCnt
    rw [show ((x2.toInt.toNat : Nat) : Int) = x2.toInt by omega, y0, if_neg (by omega)]
    omega⟩
  exact ⟨p, fun _ => rfl, ⟨(fun q h => by cases h), fun q h => (by cases h), (fun f h => by cases h), (aAllc ⟨_, rfl, (rF_b (r := 3092) (by decide) rfl).mpr q0⟩ (fun f h => by cases h))⟩, [], List.mem_cons_self, fun f h => (by cases h)⟩
theorem rw_rvC1s {K : Nat → Nat} {n : Nat} {JX : (Nat → jcell) → Prop} : aGho (rF K n) fa_T K n JX ag_rvC1s := by
  refine aGho_of ⟨rfl, rfl⟩ ?_
  intro p σ ρ hH hX hA hM0
  have hG := aAG_of hA.1 (fun i e v he hv => (hA.2 i e v he hv).1)
  clear hA
  obtain ⟨v0, v1, v2, v3, v4, rfl, g0, g1, g2, g3, g4⟩ := rA_5 hG
  clear hG
  obtain ⟨x0, rfl, b0, d0⟩ := rG_ref (by decide) g0
  obtain ⟨x1, rfl, b1, d1⟩ := aG_int g1
  dsimp only at b1 d1
  obtain ⟨x2, rfl, b2, d2⟩ := aG_int g2
  dsimp only at b2 d2
  obtain ⟨x3, rfl, b3, d3⟩ := aG_int g3
  dsimp only at b3 d3
  obtain ⟨x4, rfl, b4, d4⟩ := aG_int g4
  dsimp only at b4 d4
  obtain ⟨m1, m2, m3, m4⟩ := hM0
  obtain ⟨M, hM⟩ := rMe_ex hH b0 d0
  have l0 : 0 ≤ (1 * x4.toInt + (-1 * x2.toInt + 0)) + -1 := by
    obtain ⟨z, e6, e7⟩ := m3 ([(4, 1), (2, -1)], -1) (List.mem_of_getElem? (i := 0) rfl)
    obtain rfl : (1 * x4.toInt + (-1 * x2.toInt + 0)) = z := Option.some.inj (show some (1 * x4.toInt + (-1 * x2.toInt + 0)) = some z from e6)
    exact e7
  have l1 : 0 ≤ (-1 * x4.toInt + (1 * x2.toInt + 0)) + 1 := by
    obtain ⟨z, e6, e7⟩ := m3 ([(4, -1), (2, 1)], 1) (List.mem_of_getElem? (i := 1) rfl)
    obtain rfl : (-1 * x4.toInt + (1 * x2.toInt + 0)) = z := Option.some.inj (show some (-1 * x4.toInt + (1 * x2.toInt + 0)) = some z from e6)
    exact e7
  have f0 : rB K n p 193 [rR x0, rI x1, rI x2, rI x3] σ := by
    obtain ⟨w, e6, e7⟩ := m4 (3092, [0, 1, 2, 3]) (List.mem_of_getElem? (i := 0) rfl)
    obtain rfl : [rR x0, rI x1, rI x2, rI x3] = w := Option.some.inj (show some [rR x0, rI x1, rI x2, rI x3] = some w from e6)
    exact (rF_b (r := 3092) (by decide) rfl).mp e7
  obtain ⟨M9, h9, f0⟩ := ro_193_4.mp f0
  obtain rfl := rMg_u hM h9
  clear h9
  clear m1 m2 m3 m4
  have q0 : rB K n p 192 [rR x0, rI x1, rI x4, rI x3] σ := ro_192.mpr ⟨_, hM, by
    rw [show x4.toInt = x2.toInt + 1 by omega]
    exact f0⟩
  exact ⟨p, fun _ => rfl, ⟨(fun q h => by cases h), fun q h => (by cases h), (fun f h => by cases h), (aAllc ⟨_, rfl, (rF_b (r := 3076) (by decide) rfl).mpr q0⟩ (fun f h => by cases h))⟩, [], List.mem_cons_self, fun f h => (by cases h)⟩
theorem rw_rvC1e {K : Nat → Nat} {n : Nat} {JX : (Nat → jcell) → Prop} : aGho (rF K n) fa_T K n JX ag_rvC1e := by
  refine aGho_of ⟨rfl, rfl⟩ ?_
  intro p σ ρ hH hX hA hM0
  have hG := aAG_of hA.1 (fun i e v he hv => (hA.2 i e v he hv).1)
  clear hA
  obtain ⟨v0, v1, v2, v3, rfl, g0, g1, g2, g3⟩ := rA_4 hG
  clear hG
  obtain ⟨x0, rfl, b0, d0⟩ := rG_ref (by decide) g0
  obtain ⟨x1, rfl, b1, d1⟩ := aG_int g1
  dsimp only at b1 d1
  obtain ⟨x2, rfl, b2, d2⟩ := aG_int g2
  dsimp only at b2 d2
  obtain ⟨x3, rfl, b3, d3⟩ := aG_int g3
  dsimp only at b3 d3
  obtain ⟨m1, m2, m3, m4⟩ := hM0
  obtain ⟨M, hM⟩ := rMe_ex hH b0 d0
  have f0 : rB K n p 192 [rR x0, rI x1, rI x2, rI x3] σ := by
    obtain ⟨w, e6, e7⟩ := m4 (3076, [0, 1, 2, 3]) (List.mem_of_getElem? (i := 0) rfl)
    obtain rfl : [rR x0, rI x1, rI x2, rI x3] = w := Option.some.inj (show some [rR x0, rI x1, rI x2, rI x3] = some w from e6)
    exact (rF_b (r := 3076) (by decide) rfl).mp e7
  obtain ⟨M9, h9, f0⟩ := ro_192.mp f0
  obtain rfl := rMg_u hM h9
  clear h9
  clear m1 m2 m3 m4
  have q0 : rB K n p 194 [rR x0, rI x1, rI x3] σ := ro_194.mpr ⟨_, hM, by
    rw [show x2.toInt.toNat = 64 by omega] at f0
    exact f0⟩
  exact ⟨p, fun _ => rfl, ⟨(fun q h => by cases h), fun q h => (by cases h), (fun f h => by cases h), (aAllc ⟨_, rfl, (rF_b (r := 3107) (by decide) rfl).mpr q0⟩ (fun f h => by cases h))⟩, [], List.mem_cons_self, fun f h => (by cases h)⟩
theorem rw_rvCO6 {K : Nat → Nat} {n : Nat} {JX : (Nat → jcell) → Prop} : aGho (rF K n) fa_T K n JX ag_rvCO6 := by
  refine aGho_of ⟨rfl, rfl⟩ ?_
  intro p σ ρ hH hX hA hM0
  have hG := aAG_of hA.1 (fun i e v he hv => (hA.2 i e v he hv).1)
  clear hA
  obtain ⟨v0, v1, v2, rfl, g0, g1, g2⟩ := rA_3 hG
  clear hG
  obtain ⟨x0, rfl, b0, d0⟩ := rG_ref (by decide) g0
  obtain ⟨x1, rfl, b1, d1⟩ := aG_int g1
  dsimp only at b1 d1
  obtain ⟨x2, rfl, b2, d2⟩ := aG_int g2
  dsimp only at b2 d2
  obtain ⟨m1, m2, m3, m4⟩ := hM0
  obtain ⟨M, hM⟩ := rMe_ex hH b0 d0
  have f0 : rB K n p 194 [rR x0, rI x1, rI x2] σ := by
    obtain ⟨w, e6, e7⟩ := m4 (3107, [0, 1, 2]) (List.mem_of_getElem? (i := 0) rfl)
    obtain rfl : [rR x0, rI x1, rI x2] = w := Option.some.inj (show some [rR x0, rI x1, rI x2] = some w from e6)
    exact (rF_b (r := 3107) (by decide) rfl).mp e7
  obtain ⟨M9, h9, f0⟩ := ro_194.mp f0
  obtain rfl := rMg_u hM h9
  clear h9
  clear m1 m2 m3 m4
  have q0 : rB K n p 193 [rR x0] σ := ro_193_1.mpr ⟨_, hM, by
    rw [show x1.toInt = 6 by omega] at f0
    omega⟩
  exact ⟨p, fun _ => rfl, ⟨(fun q h => by cases h), fun q h => (by cases h), (fun f h => by cases h), (aAllc ⟨_, rfl, (rF_b (r := 3089) (by decide) rfl).mpr q0⟩ (fun f h => by cases h))⟩, [], List.mem_cons_self, fun f h => (by cases h)⟩
theorem rw_rvHKd {K : Nat → Nat} {n : Nat} {JX : (Nat → jcell) → Prop} : aGho (rF K n) fa_T K n JX ag_rvHKd := by
  refine aGho_of ⟨rfl, rfl⟩ ?_
  intro p σ ρ hH hX hA hM0
  have hG := aAG_of hA.1 (fun i e v he hv => (hA.2 i e v he hv).1)
  clear hA
  obtain ⟨v0, v1, v2, rfl, g0, g1, g2⟩ := rA_3 hG
  clear hG
  obtain ⟨x0, rfl, b0, d0⟩ := rG_ref (by decide) g0
  obtain ⟨x1, rfl, b1, d1⟩ := aG_int g1
  dsimp only at b1 d1
  obtain ⟨x2, rfl, b2, d2⟩ := aG_int g2
  dsimp only at b2 d2
  obtain ⟨m1, m2, m3, m4⟩ := hM0
  obtain ⟨M, hM⟩ := rMe_ex hH b0 d0
  have f0 : rB K n p 194 [rR x0, rI x1, rI x2] σ := by
    obtain ⟨w, e6, e7⟩ := m4 (3107, [0, 1, 2]) (List.mem_of_getElem? (i := 0) rfl)
    obtain rfl : [rR x0, rI x1, rI x2] = w := Option.some.inj (show some [rR x0, rI x1, rI x2] = some w from e6)
    exact (rF_b (r := 3107) (by decide) rfl).mp e7
  obtain ⟨M9, h9, f0⟩ := ro_194.mp f0
  obtain rfl := rMg_u hM h9
  clear h9
  have f1 : rB K n p 193 [rR x0] σ := by
    obtain ⟨w, e6, e7⟩ := m4 (3089, [0]) (List.mem_of_getElem? (i := 1) rfl)
    obtain rfl : [rR x0] = w := Option.some.inj (show some [rR x0] = some w from e6)
    exact (rF_b (r := 3089) (by decide) rfl).mp e7
  obtain ⟨M9, h9, f1⟩ := ro_193_1.mp f1
  obtain rfl := rMg_u hM h9
  clear h9
  clear m1 m2 m3 m4
  have q0 : rB K n p 139 [rR x0] σ := ro_139.mpr ⟨_, hM, by
    rw [show x1.toInt = 14 by omega] at f0
    exact rKs_of hM f1 (by omega)⟩
  exact ⟨p, fun _ => rfl, ⟨(fun q h => by cases h), fun q h => (by cases h), (fun f h => by cases h), (aAllc ⟨_, rfl, (rF_b (r := 2225) (by decide) rfl).mpr q0⟩ (fun f h => by cases h))⟩, [], List.mem_cons_self, fun f h => (by cases h)⟩
theorem rw_rvPS1 {K : Nat → Nat} {n : Nat} {JX : (Nat → jcell) → Prop} : aGho (rF K n) fa_T K n JX ag_rvPS1 := by
  refine aGho_of ⟨rfl, rfl⟩ ?_
  intro p σ ρ hH hX hA hM0
  have hG := aAG_of hA.1 (fun i e v he hv => (hA.2 i e v he hv).1)
  clear hA
  obtain ⟨v0, v1, rfl, g0, g1⟩ := rA_2 hG
  clear hG
  obtain ⟨x0, rfl, b0, d0⟩ := rG_ref (by decide) g0
  obtain ⟨x1, rfl, b1, d1⟩ := aG_int g1
  dsimp only at b1 d1
  obtain ⟨m1, m2, m3, m4⟩ := hM0
  obtain ⟨M, hM⟩ := rMe_ex hH b0 d0
  clear m1 m2 m3 m4
  have q0 : rB K n p 195 [rR x0, rI x1] σ := ro_195.mpr (by
    intro h
    omega)
  exact ⟨p, fun _ => rfl, ⟨(fun q h => by cases h), fun q h => (by cases h), (fun f h => by cases h), (aAllc ⟨_, rfl, (rF_b (r := 3122) (by decide) rfl).mpr q0⟩ (fun f h => by cases h))⟩, [], List.mem_cons_self, fun f h => (by cases h)⟩
theorem rw_rvPS0 {K : Nat → Nat} {n : Nat} {JX : (Nat → jcell) → Prop} : aGho (rF K n) fa_T K n JX ag_rvPS0 := by
  refine aGho_of ⟨rfl, rfl⟩ ?_
  intro p σ ρ hH hX hA hM0
  have hG := aAG_of hA.1 (fun i e v he hv => (hA.2 i e v he hv).1)
  clear hA
  obtain ⟨v0, v1, v2, rfl, g0, g1, g2⟩ := rA_3 hG
  clear hG
  obtain ⟨x0, rfl, b0, d0⟩ := rG_ref (by decide) g0
  obtain ⟨x1, rfl, b1, d1⟩ := aG_int g1
  dsimp only at b1 d1
  obtain ⟨x2, rfl, b2, d2⟩ := aG_int g2
  dsimp only at b2 d2
  obtain ⟨m1, m2, m3, m4⟩ := hM0
  obtain ⟨M, hM⟩ := rMe_ex hH b0 d0
  obtain ⟨a0, c0, fs0, w0, e1, s0, t0, e4⟩ := m1 (0, 5, 2) (List.mem_of_getElem? (i := 0) rfl)
  obtain rfl : x0 = a0 := Sum.inl.inj (Option.some.inj (Sum.inr.inj (Sum.inr.inj (Option.some.inj (show some (rR x0) = some _ from e1)))))
  obtain rfl : rI x2 = w0 := Option.some.inj (show some (rI x2) = some w0 from e4)
  clear e1 e4
  clear m1 m2 m3 m4
  have q0 : rB K n p 195 [rR x0, rI x1] σ := ro_195.mpr (by
    intro _
    obtain ⟨v, o⟩ := rOb_i (k := 88) (f := 3) hH b0 d0 rfl rfl
    exact ⟨M, v, x2, hM, o, ⟨b0, d0, _, _, s0, t0⟩, Or.inl (by show x2.toInt = -1; omega)⟩)
  exact ⟨p, fun _ => rfl, ⟨(fun q h => by cases h), fun q h => (by cases h), (fun f h => by cases h), (aAllc ⟨_, rfl, (rF_b (r := 3122) (by decide) rfl).mpr q0⟩ (fun f h => by cases h))⟩, [], List.mem_cons_self, fun f h => (by cases h)⟩
theorem rw_rvPSy0 {K : Nat → Nat} {n : Nat} {JX : (Nat → jcell) → Prop} : aGho (rF K n) fa_T K n JX ag_rvPSy0 := by
  refine aGho_of ⟨rfl, rfl⟩ ?_
  intro p σ ρ hH hX hA hM0
  have hG := aAG_of hA.1 (fun i e v he hv => (hA.2 i e v he hv).1)
  clear hA
  obtain ⟨v0, v1, v2, v3, v4, v5, v6, v7, rfl, g0, g1, g2, g3, g4, g5, g6, g7⟩ := rA_8 hG
  clear hG
  obtain ⟨x0, rfl, b0, d0⟩ := rG_ref (by decide) g0
  obtain ⟨x1, rfl, b1, d1⟩ := aG_int g1
  dsimp only at b1 d1
  obtain ⟨x2, rfl, b2, d2⟩ := aG_int g2
  dsimp only at b2 d2
  obtain ⟨x3, rfl, b3, d3⟩ := aG_int g3
  dsimp only at b3 d3
  obtain ⟨x4, rfl, b4, d4⟩ := aG_int g4
  dsimp only at b4 d4
  obtain ⟨x5, rfl, b5, d5⟩ := aG_int g5
  dsimp only at b5 d5
  obtain ⟨x6, rfl, b6, d6⟩ := rG_ref (by decide) g6
  obtain ⟨x7, rfl, b7, d7⟩ := aG_int g7
  dsimp only at b7 d7
  obtain ⟨m1, m2, m3, m4⟩ := hM0
  obtain ⟨M, hM⟩ := rMe_ex hH b0 d0
  obtain ⟨a0, c0, fs0, w0, e1, s0, t0, e4⟩ := m1 (0, 2, 6) (List.mem_of_getElem? (i := 0) rfl)
  obtain rfl : x0 = a0 := Sum.inl.inj (Option.some.inj (Sum.inr.inj (Sum.inr.inj (Option.some.inj (show some (rR x0) = some _ from e1)))))
  obtain rfl : rR x6 = w0 := Option.some.inj (show some (rR x6) = some w0 from e4)
  clear e1 e4
  obtain ⟨a1, c1, fs1, w1, e1, s1, t1, e4⟩ := m1 (0, 3, 7) (List.mem_of_getElem? (i := 1) rfl)
  obtain rfl : x0 = a1 := Sum.inl.inj (Option.some.inj (Sum.inr.inj (Sum.inr.inj (Option.some.inj (show some (rR x0) = some _ from e1)))))
  obtain rfl : rI x7 = w1 := Option.some.inj (show some (rI x7) = some w1 from e4)
  clear e1 e4
  obtain ⟨a2, c2, fs2, w2, e1, s2, t2, e4⟩ := m1 (0, 5, 2) (List.mem_of_getElem? (i := 2) rfl)
  obtain rfl : x0 = a2 := Sum.inl.inj (Option.some.inj (Sum.inr.inj (Sum.inr.inj (Option.some.inj (show some (rR x0) = some _ from e1)))))
  obtain rfl : rI x2 = w2 := Option.some.inj (show some (rI x2) = some w2 from e4)
  clear e1 e4
  obtain ⟨a, mc0, ty0, gc0, ic0, e1, sc0, jc0, e4, e5⟩ := m2 (6, ([(2, 1)], 0), 3) (List.mem_of_getElem? (i := 0) rfl)
  obtain rfl : x6 = a := Sum.inl.inj (Option.some.inj (Sum.inr.inj (Sum.inr.inj (Option.some.inj (show some (rR x6) = some _ from e1)))))
  obtain ⟨gc0, rfl⟩ : ∃ g, gc0 = .inl g := by
    rcases gc0 with g | g
    · exact ⟨g, rfl⟩
    · exact absurd (show some (rI x3) = some (.inr (.inl (g ic0))) from e5) (fun h => by cases h)
  have sc0 : σ x6 = .inl (ty0, mc0, .inl gc0) := sc0
  have ec0 : x3 = gc0 ic0 := Sum.inl.inj (Option.some.inj (show some (rI x3) = some _ from e5))
  have kc0 : (ic0 : Int) = (1 * x2.toInt + 0) + 0 := by
    obtain ⟨z, e6, e7⟩ := e4
    obtain rfl : (1 * x2.toInt + 0) = z := Option.some.inj (show some (1 * x2.toInt + 0) = some z from e6)
    exact e7
  clear e1 e4 e5
  obtain ⟨a, mc1, ty1, gc1, ic1, e1, sc1, jc1, e4, e5⟩ := m2 (6, ([(2, 1)], -8), 4) (List.mem_of_getElem? (i := 1) rfl)
  obtain rfl : x6 = a := Sum.inl.inj (Option.some.inj (Sum.inr.inj (Sum.inr.inj (Option.some.inj (show some (rR x6) = some _ from e1)))))
  obtain ⟨gc1, rfl⟩ : ∃ g, gc1 = .inl g := by
    rcases gc1 with g | g
    · exact ⟨g, rfl⟩
    · exact absurd (show some (rI x4) = some (.inr (.inl (g ic1))) from e5) (fun h => by cases h)
  have sc1 : σ x6 = .inl (ty1, mc1, .inl gc1) := sc1
  have ec1 : x4 = gc1 ic1 := Sum.inl.inj (Option.some.inj (show some (rI x4) = some _ from e5))
  have kc1 : (ic1 : Int) = (1 * x2.toInt + 0) + -8 := by
    obtain ⟨z, e6, e7⟩ := e4
    obtain rfl : (1 * x2.toInt + 0) = z := Option.some.inj (show some (1 * x2.toInt + 0) = some z from e6)
    exact e7
  clear e1 e4 e5
  have l0 : 0 ≤ (1 * x4.toInt + 0) + -9 := by
    obtain ⟨z, e6, e7⟩ := m3 ([(4, 1)], -9) (List.mem_of_getElem? (i := 0) rfl)
    obtain rfl : (1 * x4.toInt + 0) = z := Option.some.inj (show some (1 * x4.toInt + 0) = some z from e6)
    exact e7
  have l1 : 0 ≤ (-1 * x4.toInt + 0) + 9 := by
    obtain ⟨z, e6, e7⟩ := m3 ([(4, -1)], 9) (List.mem_of_getElem? (i := 1) rfl)
    obtain rfl : (-1 * x4.toInt + 0) = z := Option.some.inj (show some (-1 * x4.toInt + 0) = some z from e6)
    exact e7
  have l2 : 0 ≤ (1 * x2.toInt + (-8 * x5.toInt + 0)) + 0 := by
    obtain ⟨z, e6, e7⟩ := m3 ([(2, 1), (5, -8)], 0) (List.mem_of_getElem? (i := 2) rfl)
    obtain rfl : (1 * x2.toInt + (-8 * x5.toInt + 0)) = z := Option.some.inj (show some (1 * x2.toInt + (-8 * x5.toInt + 0)) = some z from e6)
    exact e7
  have l3 : 0 ≤ (-1 * x2.toInt + (8 * x5.toInt + 0)) + 7 := by
    obtain ⟨z, e6, e7⟩ := m3 ([(2, -1), (5, 8)], 7) (List.mem_of_getElem? (i := 3) rfl)
    obtain rfl : (-1 * x2.toInt + (8 * x5.toInt + 0)) = z := Option.some.inj (show some (-1 * x2.toInt + (8 * x5.toInt + 0)) = some z from e6)
    exact e7
  have l4 : 0 ≤ (1 * x5.toInt + 0) + -5 := by
    obtain ⟨z, e6, e7⟩ := m3 ([(5, 1)], -5) (List.mem_of_getElem? (i := 4) rfl)
    obtain rfl : (1 * x5.toInt + 0) = z := Option.some.inj (show some (1 * x5.toInt + 0) = some z from e6)
    exact e7
  have l5 : 0 ≤ (-1 * x5.toInt + 0) + 5 := by
    obtain ⟨z, e6, e7⟩ := m3 ([(5, -1)], 5) (List.mem_of_getElem? (i := 5) rfl)
    obtain rfl : (-1 * x5.toInt + 0) = z := Option.some.inj (show some (-1 * x5.toInt + 0) = some z from e6)
    exact e7
  have y0 : M x2.toInt = x3.toInt := rMg_c hM s0 t0 sc0 (by omega) (by omega) (by omega) ec0
  have y1 : M ((1 * x2.toInt + 0) + -8) = x4.toInt := rMg_c hM s0 t0 sc1 (by omega) (by omega) (by omega) ec1
  clear m1 m2 m3 m4
  have q0 : rB K n p 195 [rR x0, rI x1] σ := ro_195.mpr (by
    intro _
    refine ⟨M, x7, x2, hM, ⟨b0, d0, _, _, s1, t1⟩, ⟨b0, d0, _, _, s2, t2⟩, Or.inr ⟨b2, d2, ?_, ?_⟩⟩
    · show M x2.toInt = 0
      omega
    · show (x7.toInt = 0 ∧ x2.toInt / 8 = 5 ∧ M (x2.toInt - 8) = 9) ∨ (x7.toInt = 1 ∧ x2.toInt / 8 = 2 ∧ M (x2.toInt + 8) = 1)
      rw [show 1 * x2.toInt + 0 + -8 = x2.toInt - 8 by omega] at y1
      omega)
  exact ⟨p, fun _ => rfl, ⟨(fun q h => by cases h), fun q h => (by cases h), (fun f h => by cases h), (aAllc ⟨_, rfl, (rF_b (r := 3122) (by decide) rfl).mpr q0⟩ (fun f h => by cases h))⟩, [], List.mem_cons_self, fun f h => (by cases h)⟩
theorem rw_rvPSy1 {K : Nat → Nat} {n : Nat} {JX : (Nat → jcell) → Prop} : aGho (rF K n) fa_T K n JX ag_rvPSy1 := by
  refine aGho_of ⟨rfl, rfl⟩ ?_
  intro p σ ρ hH hX hA hM0
  have hG := aAG_of hA.1 (fun i e v he hv => (hA.2 i e v he hv).1)
  clear hA
  obtain ⟨v0, v1, v2, v3, v4, v5, v6, v7, rfl, g0, g1, g2, g3, g4, g5, g6, g7⟩ := rA_8 hG
  clear hG
  obtain ⟨x0, rfl, b0, d0⟩ := rG_ref (by decide) g0
  obtain ⟨x1, rfl, b1, d1⟩ := aG_int g1
  dsimp only at b1 d1
  obtain ⟨x2, rfl, b2, d2⟩ := aG_int g2
  dsimp only at b2 d2
  obtain ⟨x3, rfl, b3, d3⟩ := aG_int g3
  dsimp only at b3 d3
  obtain ⟨x4, rfl, b4, d4⟩ := aG_int g4
  dsimp only at b4 d4
  obtain ⟨x5, rfl, b5, d5⟩ := aG_int g5
  dsimp only at b5 d5
  obtain ⟨x6, rfl, b6, d6⟩ := rG_ref (by decide) g6
  obtain ⟨x7, rfl, b7, d7⟩ := aG_int g7
  dsimp only at b7 d7
  obtain ⟨m1, m2, m3, m4⟩ := hM0
  obtain ⟨M, hM⟩ := rMe_ex hH b0 d0
  obtain ⟨a0, c0, fs0, w0, e1, s0, t0, e4⟩ := m1 (0, 2, 6) (List.mem_of_getElem? (i := 0) rfl)
  obtain rfl : x0 = a0 := Sum.inl.inj (Option.some.inj (Sum.inr.inj (Sum.inr.inj (Option.some.inj (show some (rR x0) = some _ from e1)))))
  obtain rfl : rR x6 = w0 := Option.some.inj (show some (rR x6) = some w0 from e4)
  clear e1 e4
  obtain ⟨a1, c1, fs1, w1, e1, s1, t1, e4⟩ := m1 (0, 3, 7) (List.mem_of_getElem? (i := 1) rfl)
  obtain rfl : x0 = a1 := Sum.inl.inj (Option.some.inj (Sum.inr.inj (Sum.inr.inj (Option.some.inj (show some (rR x0) = some _ from e1)))))
  obtain rfl : rI x7 = w1 := Option.some.inj (show some (rI x7) = some w1 from e4)
  clear e1 e4
  obtain ⟨a2, c2, fs2, w2, e1, s2, t2, e4⟩ := m1 (0, 5, 2) (List.mem_of_getElem? (i := 2) rfl)
  obtain rfl : x0 = a2 := Sum.inl.inj (Option.some.inj (Sum.inr.inj (Sum.inr.inj (Option.some.inj (show some (rR x0) = some _ from e1)))))
  obtain rfl : rI x2 = w2 := Option.some.inj (show some (rI x2) = some w2 from e4)
  clear e1 e4
  obtain ⟨a, mc0, ty0, gc0, ic0, e1, sc0, jc0, e4, e5⟩ := m2 (6, ([(2, 1)], 0), 3) (List.mem_of_getElem? (i := 0) rfl)
  obtain rfl : x6 = a := Sum.inl.inj (Option.some.inj (Sum.inr.inj (Sum.inr.inj (Option.some.inj (show some (rR x6) = some _ from e1)))))
  obtain ⟨gc0, rfl⟩ : ∃ g, gc0 = .inl g := by
    rcases gc0 with g | g
    · exact ⟨g, rfl⟩
    · exact absurd (show some (rI x3) = some (.inr (.inl (g ic0))) from e5) (fun h => by cases h)
  have sc0 : σ x6 = .inl (ty0, mc0, .inl gc0) := sc0
  have ec0 : x3 = gc0 ic0 := Sum.inl.inj (Option.some.inj (show some (rI x3) = some _ from e5))
  have kc0 : (ic0 : Int) = (1 * x2.toInt + 0) + 0 := by
    obtain ⟨z, e6, e7⟩ := e4
    obtain rfl : (1 * x2.toInt + 0) = z := Option.some.inj (show some (1 * x2.toInt + 0) = some z from e6)
    exact e7
  clear e1 e4 e5
  obtain ⟨a, mc1, ty1, gc1, ic1, e1, sc1, jc1, e4, e5⟩ := m2 (6, ([(2, 1)], 8), 4) (List.mem_of_getElem? (i := 1) rfl)
  obtain rfl : x6 = a := Sum.inl.inj (Option.some.inj (Sum.inr.inj (Sum.inr.inj (Option.some.inj (show some (rR x6) = some _ from e1)))))
  obtain ⟨gc1, rfl⟩ : ∃ g, gc1 = .inl g := by
    rcases gc1 with g | g
    · exact ⟨g, rfl⟩
    · exact absurd (show some (rI x4) = some (.inr (.inl (g ic1))) from e5) (fun h => by cases h)
  have sc1 : σ x6 = .inl (ty1, mc1, .inl gc1) := sc1
  have ec1 : x4 = gc1 ic1 := Sum.inl.inj (Option.some.inj (show some (rI x4) = some _ from e5))
  have kc1 : (ic1 : Int) = (1 * x2.toInt + 0) + 8 := by
    obtain ⟨z, e6, e7⟩ := e4
    obtain rfl : (1 * x2.toInt + 0) = z := Option.some.inj (show some (1 * x2.toInt + 0) = some z from e6)
    exact e7
  clear e1 e4 e5
  have l0 : 0 ≤ (1 * x4.toInt + 0) + -1 := by
    obtain ⟨z, e6, e7⟩ := m3 ([(4, 1)], -1) (List.mem_of_getElem? (i := 0) rfl)
    obtain rfl : (1 * x4.toInt + 0) = z := Option.some.inj (show some (1 * x4.toInt + 0) = some z from e6)
    exact e7
  have l1 : 0 ≤ (-1 * x4.toInt + 0) + 1 := by
    obtain ⟨z, e6, e7⟩ := m3 ([(4, -1)], 1) (List.mem_of_getElem? (i := 1) rfl)
    obtain rfl : (-1 * x4.toInt + 0) = z := Option.some.inj (show some (-1 * x4.toInt + 0) = some z from e6)
    exact e7
  have l2 : 0 ≤ (1 * x2.toInt + (-8 * x5.toInt + 0)) + 0 := by
    obtain ⟨z, e6, e7⟩ := m3 ([(2, 1), (5, -8)], 0) (List.mem_of_getElem? (i := 2) rfl)
    obtain rfl : (1 * x2.toInt + (-8 * x5.toInt + 0)) = z := Option.some.inj (show some (1 * x2.toInt + (-8 * x5.toInt + 0)) = some z from e6)
    exact e7
  have l3 : 0 ≤ (-1 * x2.toInt + (8 * x5.toInt + 0)) + 7 := by
    obtain ⟨z, e6, e7⟩ := m3 ([(2, -1), (5, 8)], 7) (List.mem_of_getElem? (i := 3) rfl)
    obtain rfl : (-1 * x2.toInt + (8 * x5.toInt + 0)) = z := Option.some.inj (show some (-1 * x2.toInt + (8 * x5.toInt + 0)) = some z from e6)
    exact e7
  have l4 : 0 ≤ (1 * x5.toInt + 0) + -2 := by
    obtain ⟨z, e6, e7⟩ := m3 ([(5, 1)], -2) (List.mem_of_getElem? (i := 4) rfl)
    obtain rfl : (1 * x5.toInt + 0) = z := Option.some.inj (show some (1 * x5.toInt + 0) = some z from e6)
    exact e7
  have l5 : 0 ≤ (-1 * x5.toInt + 0) + 2 := by
    obtain ⟨z, e6, e7⟩ := m3 ([(5, -1)], 2) (List.mem_of_getElem? (i := 5) rfl)
    obtain rfl : (-1 * x5.toInt + 0) = z := Option.some.inj (show some (-1 * x5.toInt + 0) = some z from e6)
    exact e7
  have y0 : M x2.toInt = x3.toInt := rMg_c hM s0 t0 sc0 (by omega) (by omega) (by omega) ec0
  have y1 : M ((1 * x2.toInt + 0) + 8) = x4.toInt := rMg_c hM s0 t0 sc1 (by omega) (by omega) (by omega) ec1
  clear m1 m2 m3 m4
  have q0 : rB K n p 195 [rR x0, rI x1] σ := ro_195.mpr (by
    intro _
    refine ⟨M, x7, x2, hM, ⟨b0, d0, _, _, s1, t1⟩, ⟨b0, d0, _, _, s2, t2⟩, Or.inr ⟨b2, d2, ?_, ?_⟩⟩
    · show M x2.toInt = 0
      omega
    · show (x7.toInt = 0 ∧ x2.toInt / 8 = 5 ∧ M (x2.toInt - 8) = 9) ∨ (x7.toInt = 1 ∧ x2.toInt / 8 = 2 ∧ M (x2.toInt + 8) = 1)
      rw [show 1 * x2.toInt + 0 + 8 = x2.toInt + 8 by omega] at y1
      omega)
  exact ⟨p, fun _ => rfl, ⟨(fun q h => by cases h), fun q h => (by cases h), (fun f h => by cases h), (aAllc ⟨_, rfl, (rF_b (r := 3122) (by decide) rfl).mpr q0⟩ (fun f h => by cases h))⟩, [], List.mem_cons_self, fun f h => (by cases h)⟩
theorem rw_rvQI2 {K : Nat → Nat} {n : Nat} {JX : (Nat → jcell) → Prop} : aGho (rF K n) fa_T K n JX ag_rvQI2 := by
  refine aGho_of ⟨rfl, rfl⟩ ?_
  intro p σ ρ hH hX hA hM0
  have hG := aAG_of hA.1 (fun i e v he hv => (hA.2 i e v he hv).1)
  clear hA
  obtain ⟨v0, rfl, g0⟩ := rA_1 hG
  clear hG
  obtain ⟨x0, rfl, b0, d0⟩ := aG_int g0
  dsimp only at b0 d0
  obtain ⟨m1, m2, m3, m4⟩ := hM0
  clear m1 m2 m3 m4
  have q0 : rB K n p 136 [rI x0] σ := ro_136.mpr (by
    trivial)
  exact ⟨p, fun _ => rfl, ⟨(fun q h => by cases h), fun q h => (by cases h), (fun f h => by cases h), (aAllc ⟨_, rfl, (rF_b (r := 2177) (by decide) rfl).mpr q0⟩ (fun f h => by cases h))⟩, [], List.mem_cons_self, fun f h => (by cases h)⟩
theorem rw_rvPW1 {K : Nat → Nat} {n : Nat} {JX : (Nat → jcell) → Prop} : aGho (rF K n) fa_T K n JX ag_rvPW1 := by
  refine aGho_of ⟨rfl, rfl⟩ ?_
  intro p σ ρ hH hX hA hM0
  have hG := aAG_of hA.1 (fun i e v he hv => (hA.2 i e v he hv).1)
  clear hA
  obtain ⟨v0, v1, rfl, g0, g1⟩ := rA_2 hG
  clear hG
  obtain ⟨x0, rfl, b0, d0⟩ := aG_int g0
  dsimp only at b0 d0
  obtain ⟨x1, rfl, b1, d1⟩ := aG_int g1
  dsimp only at b1 d1
  obtain ⟨m1, m2, m3, m4⟩ := hM0
  clear m1 m2 m3 m4
  have q0 : rB K n p 198 [rI x0, rI x1] σ := ro_198.mpr (by
    trivial)
  exact ⟨p, fun _ => rfl, ⟨(fun q h => by cases h), fun q h => (by cases h), (fun f h => by cases h), (aAllc ⟨_, rfl, (rF_b (r := 3170) (by decide) rfl).mpr q0⟩ (fun f h => by cases h))⟩, [], List.mem_cons_self, fun f h => (by cases h)⟩
theorem rw_rvPW2 {K : Nat → Nat} {n : Nat} {JX : (Nat → jcell) → Prop} : aGho (rF K n) fa_T K n JX ag_rvPW2 := by
  refine aGho_of ⟨rfl, rfl⟩ ?_
  intro p σ ρ hH hX hA hM0
  have hG := aAG_of hA.1 (fun i e v he hv => (hA.2 i e v he hv).1)
  clear hA
  obtain ⟨v0, v1, rfl, g0, g1⟩ := rA_2 hG
  clear hG
  obtain ⟨x0, rfl, b0, d0⟩ := aG_int g0
  dsimp only at b0 d0
  obtain ⟨x1, rfl, b1, d1⟩ := aG_int g1
  dsimp only at b1 d1
  obtain ⟨m1, m2, m3, m4⟩ := hM0
  clear m1 m2 m3 m4
  have q0 : rB K n p 199 [rI x0, rI x1] σ := ro_199.mpr (by
    trivial)
  exact ⟨p, fun _ => rfl, ⟨(fun q h => by cases h), fun q h => (by cases h), (fun f h => by cases h), (aAllc ⟨_, rfl, (rF_b (r := 3186) (by decide) rfl).mpr q0⟩ (fun f h => by cases h))⟩, [], List.mem_cons_self, fun f h => (by cases h)⟩
theorem rw_rvFOn {K : Nat → Nat} {n : Nat} {JX : (Nat → jcell) → Prop} : aGho (rF K n) fa_T K n JX ag_rvFOn := by
  refine aGho_of ⟨rfl, rfl⟩ ?_
  intro p σ ρ hH hX hA hM0
  have hG := aAG_of hA.1 (fun i e v he hv => (hA.2 i e v he hv).1)
  clear hA
  obtain ⟨v0, v1, rfl, g0, g1⟩ := rA_2 hG
  clear hG
  obtain ⟨x0, rfl, b0, d0⟩ := rG_ref (by decide) g0
  obtain ⟨x1, rfl, b1, d1⟩ := aG_int g1
  dsimp only at b1 d1
  obtain ⟨m1, m2, m3, m4⟩ := hM0
  obtain ⟨M, hM⟩ := rMe_ex hH b0 d0
  clear m1 m2 m3 m4
  have q0 : rB K n p 197 [rR x0, rI x1] σ := ro_197.mpr (by
    intro h
    omega)
  exact ⟨p, fun _ => rfl, ⟨(fun q h => by cases h), fun q h => (by cases h), (fun f h => by cases h), (aAllc ⟨_, rfl, (rF_b (r := 3154) (by decide) rfl).mpr q0⟩ (fun f h => by cases h))⟩, [], List.mem_cons_self, fun f h => (by cases h)⟩
theorem rw_rvFOy {K : Nat → Nat} {n : Nat} {JX : (Nat → jcell) → Prop} : aGho (rF K n) fa_T K n JX ag_rvFOy := by
  refine aGho_of ⟨rfl, rfl⟩ ?_
  intro p σ ρ hH hX hA hM0
  have hG := aAG_of hA.1 (fun i e v he hv => (hA.2 i e v he hv).1)
  clear hA
  obtain ⟨v0, v1, v2, v3, v4, v5, rfl, g0, g1, g2, g3, g4, g5⟩ := rA_6 hG
  clear hG
  obtain ⟨x0, rfl, b0, d0⟩ := rG_ref (by decide) g0
  obtain ⟨x1, rfl, b1, d1⟩ := aG_int g1
  dsimp only at b1 d1
  obtain ⟨x2, rfl, b2, d2⟩ := aG_int g2
  dsimp only at b2 d2
  obtain ⟨x3, rfl, b3, d3⟩ := aG_int g3
  dsimp only at b3 d3
  obtain ⟨x4, rfl, b4, d4⟩ := aG_int g4
  dsimp only at b4 d4
  obtain ⟨x5, rfl, b5, d5⟩ := aG_int g5
  dsimp only at b5 d5
  obtain ⟨m1, m2, m3, m4⟩ := hM0
  obtain ⟨M, hM⟩ := rMe_ex hH b0 d0
  obtain ⟨a0, c0, fs0, w0, e1, s0, t0, e4⟩ := m1 (0, 3, 3) (List.mem_of_getElem? (i := 0) rfl)
  obtain rfl : x0 = a0 := Sum.inl.inj (Option.some.inj (Sum.inr.inj (Sum.inr.inj (Option.some.inj (show some (rR x0) = some _ from e1)))))
  obtain rfl : rI x3 = w0 := Option.some.inj (show some (rI x3) = some w0 from e4)
  clear e1 e4
  have l0 : 0 ≤ (1 * x2.toInt + (1 * x3.toInt + 0)) + -1 := by
    obtain ⟨z, e6, e7⟩ := m3 ([(2, 1), (3, 1)], -1) (List.mem_of_getElem? (i := 0) rfl)
    obtain rfl : (1 * x2.toInt + (1 * x3.toInt + 0)) = z := Option.some.inj (show some (1 * x2.toInt + (1 * x3.toInt + 0)) = some z from e6)
    exact e7
  have l1 : 0 ≤ (-1 * x2.toInt + (-1 * x3.toInt + 0)) + 1 := by
    obtain ⟨z, e6, e7⟩ := m3 ([(2, -1), (3, -1)], 1) (List.mem_of_getElem? (i := 1) rfl)
    obtain rfl : (-1 * x2.toInt + (-1 * x3.toInt + 0)) = z := Option.some.inj (show some (-1 * x2.toInt + (-1 * x3.toInt + 0)) = some z from e6)
    exact e7
  have f0 : rB K n p 139 [rR x0] σ := by
    obtain ⟨w, e6, e7⟩ := m4 (2225, [0]) (List.mem_of_getElem? (i := 0) rfl)
    obtain rfl : [rR x0] = w := Option.some.inj (show some [rR x0] = some w from e6)
    exact (rF_b (r := 2225) (by decide) rfl).mp e7
  obtain ⟨M9, h9, f0⟩ := ro_139.mp f0
  obtain rfl := rMg_u hM h9
  clear h9
  have f1 : rB K n p 140 [rR x0, rI x2, rI x4] σ := by
    obtain ⟨w, e6, e7⟩ := m4 (2243, [0, 2, 4]) (List.mem_of_getElem? (i := 1) rfl)
    obtain rfl : [rR x0, rI x2, rI x4] = w := Option.some.inj (show some [rR x0, rI x2, rI x4] = some w from e6)
    exact (rF_b (r := 2243) (by decide) rfl).mp e7
  obtain ⟨M9, h9, f1⟩ := ro_140.mp f1
  obtain rfl := rMg_u hM h9
  clear h9
  have f2 : rB K n p 195 [rR x0, rI x5] σ := by
    obtain ⟨w, e6, e7⟩ := m4 (3122, [0, 5]) (List.mem_of_getElem? (i := 2) rfl)
    obtain rfl : [rR x0, rI x5] = w := Option.some.inj (show some [rR x0, rI x5] = some w from e6)
    exact (rF_b (r := 3122) (by decide) rfl).mp e7
  have f2 := ro_195.mp f2
  clear m1 m2 m3 m4
  have q0 : rB K n p 197 [rR x0, rI x1] σ := ro_197.mpr (by
    intro _
    obtain ⟨M9, v, P, h1, h2, h3, h4⟩ := f2 (by omega)
    obtain rfl := rMg_u hM h1
    cases rOb_u h2 ⟨b0, d0, _, _, s0, t0⟩
    refine ⟨M, x3, P, hM, h2, h3, f0, h4, fun t ht hk => ?_⟩
    obtain ⟨s, k1, k2⟩ := f1
    obtain ⟨s0', -, -, -, hu⟩ := f0 x2.toInt b2 d2
    obtain rfl : t = s := (hu t (by omega)).trans (hu s k1.2.2.1).symm
    rcases k2 with k2 | k2
    · have := k2.1; omega
    · rw [show 1 - x2.toInt = x3.toInt by omega] at k2
      exact k2.2 hk)
  exact ⟨p, fun _ => rfl, ⟨(fun q h => by cases h), fun q h => (by cases h), (fun f h => by cases h), (aAllc ⟨_, rfl, (rF_b (r := 3154) (by decide) rfl).mpr q0⟩ (fun f h => by cases h))⟩, [], List.mem_cons_self, fun f h => (by cases h)⟩

