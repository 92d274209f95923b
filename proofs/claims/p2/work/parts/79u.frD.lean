/-! rules of think and look: their proofs -/
theorem fSw_mk {K : Nat → Nat} {n : Nat} {σ : Nat → jcell} (hH : aH fa_T K n σ) {a c r : Nat} {fs : List jv} (ha : a < n) (hk : K a = 15) (hs : σ a = .inr (c, fs)) (ht : fs[2]? = some (fR r)) (hr : r < n) (hkr : K r = 17) : ∃ g, fSw K n σ a g ∧ σ r = .inl (.int, 8, .inl g) := by
  obtain ⟨g, h1⟩ := fRow hH hr hkr rfl (by decide)
  exact ⟨g, ⟨r, ⟨ha, hk, c, fs, hs, ht⟩, hr, hkr, h1⟩, h1⟩
theorem fSw_c {K : Nat → Nat} {n : Nat} {σ : Nat → jcell} {a c r m : Nat} {ty : FieldType} {fs : List jv} {g gc : Nat → Int32} (h : fSw K n σ a g) (hs : σ a = .inr (c, fs)) (ht : fs[2]? = some (fR r)) (sc : σ r = .inl (ty, m, .inl gc)) : g = gc := by
  obtain ⟨r', ⟨-, -, c', fs', e1, e2⟩, -, -, l3⟩ := h
  rw [hs] at e1
  cases e1
  rw [ht] at e2
  cases e2
  rw [l3] at sc
  cases sc
  rfl
theorem fSw_u {K : Nat → Nat} {n : Nat} {σ : Nat → jcell} {a : Nat} {g g' : Nat → Int32} (h : fSw K n σ a g) (h' : fSw K n σ a g') : g = g' := by
  obtain ⟨r, ⟨-, -, c, fs, e1, e2⟩, -, -, l3⟩ := h
  exact (fSw_c h' e1 e2 l3).symm
theorem fSu_u {K : Nat → Nat} {n : Nat} {σ : Nat → jcell} {a : Nat} {g g' : Nat → Int64} (h : fSu K n σ a g) (h' : fSu K n σ a g') : g = g' := by
  obtain ⟨r, ⟨-, -, c, fs, e1, e2⟩, -, -, l3⟩ := h
  obtain ⟨r', ⟨-, -, c', fs', e3, e4⟩, -, -, l6⟩ := h'
  rw [e1] at e3
  cases e3
  rw [e2] at e4
  cases e4
  rw [l3] at l6
  cases l6
  rfl
theorem fSw_ex {K : Nat → Nat} {n : Nat} {σ : Nat → jcell} (hH : aH fa_T K n σ) {a : Nat} (ha : a < n) (hk : K a = 15) : ∃ g, fSw K n σ a g := by
  obtain ⟨fs, e, hl, hf⟩ := aCe_obj (hH a ha _ (by rw [hk]; rfl))
  have h0 : 2 < fs.length := by rw [hl]; decide
  have hv : fs[2]? = some fs[2] := List.getElem?_eq_getElem h0
  have hg := hf 2 (.inr (some (.inl (false, 17)))) _ rfl hv
  obtain ⟨r, er, hr, hkr⟩ := fG_ref (by decide) hg
  rw [er] at hv
  obtain ⟨g, w, -⟩ := fSw_mk hH ha hk e hv hr hkr
  exact ⟨g, w⟩
theorem fSu_mk {K : Nat → Nat} {n : Nat} {σ : Nat → jcell} (hH : aH fa_T K n σ) {a c r : Nat} {fs : List jv} (ha : a < n) (hk : K a = 15) (hs : σ a = .inr (c, fs)) (ht : fs[3]? = some (fR r)) (hr : r < n) (hkr : K r = 18) : ∃ g, fSu K n σ a g := by
  obtain ⟨g, e⟩ := aCe_larr (q := (.long, 8, _)) (hH r hr _ (by rw [hkr]; rfl)) rfl
  exact ⟨g, r, ⟨ha, hk, c, fs, hs, ht⟩, hr, hkr, e⟩
theorem fSu_ex {K : Nat → Nat} {n : Nat} {σ : Nat → jcell} (hH : aH fa_T K n σ) {a : Nat} (ha : a < n) (hk : K a = 15) : ∃ g, fSu K n σ a g := by
  obtain ⟨fs, e, hl, hf⟩ := aCe_obj (hH a ha _ (by rw [hk]; rfl))
  have h0 : 3 < fs.length := by rw [hl]; decide
  have hv : fs[3]? = some fs[3] := List.getElem?_eq_getElem h0
  have hg := hf 3 (.inr (some (.inl (false, 18)))) _ rfl hv
  obtain ⟨r, er, hr, hkr⟩ := fG_ref (by decide) hg
  rw [er] at hv
  exact fSu_mk hH ha hk e hv hr hkr
theorem fSu_st {K : Nat → Nat} {n : Nat} {σ : Nat → jcell} {a c r i : Nat} {x : Int64} {fs : List jv} {g : Nat → Int64} (h : fSu K n σ a g) (hs : σ a = .inr (c, fs)) (ht : fs[3]? = some (fR r)) : fSu K n (jup σ r (jstl (σ r) i x)) a (vp_updL g i x) := by
  obtain ⟨r', o', l1, l2, h4⟩ := h
  have e := fOb_u o' hs ht
  cases e
  have n1 : a ≠ r := fun e => (by decide : ¬ (15 : Nat) = 18) (by rw [← o'.2.1, e]; exact l2)
  exact ⟨r, ⟨o'.1, o'.2.1, c, fs, by rw [jup_n n1]; exact hs, ht⟩, l1, l2, by rw [jup_s, h4]; rfl⟩
theorem fSu_c {K : Nat → Nat} {n : Nat} {σ : Nat → jcell} {a c r m : Nat} {ty : FieldType} {fs : List jv} {g gc : Nat → Int64} (h : fSu K n σ a g) (hs : σ a = .inr (c, fs)) (ht : fs[3]? = some (fR r)) (hc : σ r = .inl (ty, m, .inr (.inl gc))) : gc = g := by
  obtain ⟨r', o', -, -, h4⟩ := h
  have e := fOb_u o' hs ht
  cases e
  rw [hc] at h4
  cases h4
  rfl
theorem fSw_st {K : Nat → Nat} {n : Nat} {σ : Nat → jcell} {a c r i : Nat} {x : Int32} {fs : List jv} {g : Nat → Int32} (h : fSw K n σ a g) (hs : σ a = .inr (c, fs)) (ht : fs[2]? = some (fR r)) : fSw K n (jup σ r (jsto (σ r) i x)) a (upd g i x) := by
  obtain ⟨r', o', l1, l2, h4⟩ := h
  have e := fOb_u o' hs ht
  cases e
  have n1 : a ≠ r := fun e => (by decide : ¬ (15 : Nat) = 17) (by rw [← o'.2.1, e]; exact l2)
  exact ⟨r, ⟨o'.1, o'.2.1, c, fs, by rw [jup_n n1]; exact hs, ht⟩, l1, l2, by rw [jup_s, h4]; rfl⟩
theorem fF_pf {K : Nat → Nat} {n : Nat} {p : fP} {r f a : Nat} {y : jv} {vs : List jv} {σ : Nat → jcell} (h : r < 65534) (h2 : r % 16 ≤ 13) (hl : r % 16 ≤ vs.length) (hb : fB K n (fSh p (vs.drop (r % 16))) (r / 16) (vs.take (r % 16)) (jup σ a (jstf (σ a) f y))) : fF K n p (r + 131072 * (f + 1) + 2) (fR a :: y :: vs) σ := by
  unfold fF
  rw [if_neg (by omega), if_neg (by omega), if_pos (by omega)]
  dsimp only
  rw [show (r + 131072 * (f + 1) + 2) % 131072 - 2 = r by omega, show (r + 131072 * (f + 1) + 2) / 131072 - 1 = f by omega]
  exact hb
theorem fAt_rt {K : Nat → Nat} {n : Nat} {σ : Nat → jcell} {a : Nat} {M F : Nat → Int32} {x : Int32} (h : fAt K n σ a M F) : fAt K n (jup σ a (jstf (σ a) 3 (fI x))) a M (va_up F 3 x) := by
  obtain ⟨h1, h2, fs, r, g, h3, h4, h5, h6, h7, h8, k2, k3, k4, k5, rw, gw, w1, w2, w3, w4, w5⟩ := h
  have n1 : r ≠ a := fun e => by rw [e, h2] at h6; exact absurd h6 (by decide)
  have n2 : rw ≠ a := fun e => by rw [e, h2] at w3; exact absurd w3 (by decide)
  have hl : 3 < fs.length := (List.getElem?_eq_some_iff.mp k3).1
  have hs : ∀ i, ¬ 3 = i → (fs.set 3 (fI x))[i]? = fs[i]? := fun i hi => List.getElem?_set_ne hi
  refine ⟨h1, h2, fs.set 3 (fI x), r, g, by rw [jup_s, h3]; rfl, by rw [hs 0 (by decide)]; exact h4, h5, h6, by rw [jup_n n1]; exact h7, h8, by rw [hs 2 (by decide)]; exact k2, ?_, by rw [hs 4 (by decide)]; exact k4, by rw [hs 5 (by decide)]; exact k5, rw, gw, by rw [hs 8 (by decide)]; exact w1, w2, w3, by rw [jup_n n2]; exact w4, w5⟩
  rw [List.getElem?_set_self hl]
  rfl
theorem fGood_rt {M F : Nat → Int32} (h : fGood M F) : fGood M (va_up F 3 0) := by
  obtain ⟨h1, h2, h3, h4, h5⟩ := h
  have e0 : (va_up F 3 0 3).toInt = 0 := rfl
  refine ⟨h1, fun s hs => ⟨fun h => ?_, fun h => ?_, (by
    have e : va_up F 3 0 (12 + s) = F (12 + s) := by
      unfold va_up
      first
        | exact if_neg (by omega)
        | (simp; omega)
        | simp
    rw [e]
    exact (h2 s hs).2.2)⟩, h3, ?_, h5⟩
  · rw [e0, Int.zero_ediv] at h
    exact absurd h (by decide)
  · rw [e0, Int.zero_ediv] at h
    exact absurd h (by decide)
  · rw [e0]
    decide
theorem fXor {x m a b c : Int32} (hm : 0 ≤ m.toInt ∧ m.toInt ≤ 32767) (e : x.toInt = m.toInt + 29120 - 128 * a.toInt + 1024 * b.toInt - 8192 * c.toInt) (ha : a.toInt = m.toInt / 64) (hb : b.toInt = m.toInt / 512) (hc : c.toInt = m.toInt / 4096) : x = m ^^^ 29120 := by
  have k : (29120 : Int32).toInt = 29120 := by decide
  obtain ⟨n1, n2⟩ := aNat (x := m) (by omega)
  have n5 : (m ^^^ 29120).toBitVec.toNat = m.toInt.toNat ^^^ 29120 := by
    rw [Int32.toBitVec_xor, BitVec.toNat_xor, show m.toBitVec.toNat = m.toInt.toNat by omega, show (29120 : Int32).toBitVec.toNat = 29120 by decide]
  have n6 : m.toInt.toNat ^^^ 29120 < 2 ^ 15 := Nat.xor_lt_two_pow (by omega) (by decide)
  have n7 := aNat' n5 (by omega)
  have n8 := aXor_n m.toInt.toNat (by omega)
  rw [show ((m.toInt.toNat : Nat) : Int) = m.toInt by omega] at n8
  exact fI0 (by omega)
theorem fXx (m : Int32) : m ^^^ 29120 ^^^ 29120 = m := by rw [Int32.xor_assoc, Int32.xor_self, Int32.xor_zero]
set_option maxRecDepth 8192 in
theorem rw_ruSUs0 {K : Nat → Nat} {n : Nat} : aGho (fF K n) fa_T K n (fJX K n) ag_ruSUs0 := by
  refine aGho_of ⟨rfl, rfl⟩ ?_
  intro p σ ρ hH hX hA hM
  have hG := aAG_of hA.1 (fun i e v he hv => (hA.2 i e v he hv).1)
  clear hA
  obtain ⟨v0, v1, v2, v3, v4, rfl, g0, g1, g2, g3, g4⟩ := fA_5 hG
  clear hG
  obtain ⟨x0, rfl, b0, d0⟩ := fG_ref (by decide) g0
  obtain ⟨x1, rfl, b1, d1⟩ := fG_ref (by decide) g1
  obtain ⟨x2, rfl, b2, d2⟩ := aG_int g2
  dsimp only at b2 d2
  obtain ⟨x3, rfl⟩ := aG_lng g3
  obtain ⟨x4, rfl, b4, d4⟩ := aG_int g4
  dsimp only at b4 d4
  obtain ⟨m1, m2, m3, m4⟩ := hM
  obtain ⟨a0, c0, fs0, w0, e1, s0, t0, e4⟩ := m1 (0, 3, 1) (List.mem_of_getElem? (i := 0) rfl)
  obtain rfl : x0 = a0 := Sum.inl.inj (Option.some.inj (Sum.inr.inj (Sum.inr.inj (Option.some.inj (show some (fR x0) = some _ from e1)))))
  obtain rfl : fR x1 = w0 := Option.some.inj (show some (fR x1) = some w0 from e4)
  clear e1 e4
  have f0 : fB K n p 4 [fI x4, (.inr (.inl x3) : jv)] σ := by
    obtain ⟨w, e6, e7⟩ := m4 (66, [4, 3]) (List.mem_of_getElem? (i := 0) rfl)
    obtain rfl : [fI x4, (.inr (.inl x3) : jv)] = w := Option.some.inj (show some [fI x4, (.inr (.inl x3) : jv)] = some w from e6)
    exact (fF_b (r := 66) (by decide) rfl).mp e7
  clear m1 m2 m3 m4
  obtain ⟨mu, u, eu, hu1, hu2, hu3⟩ := f0
  cases eu
  obtain ⟨g, w⟩ := fSu_mk hH b0 d0 s0 t0 b1 d1
  have q0 : fB K n (fSh (p) []) 400 [fR x0, fI x4] (jup σ x1 (jstl (σ x1) x2.toNatClampNeg x3)) := by
    refine (fX_o (by decide)).mpr ⟨_, _, vp_updL g x2.toInt.toNat x3, rfl, fSu_st w s0 t0, ?_, hu3⟩
    have e9 : vp_updL g x2.toInt.toNat x3 0 = x3 := by unfold vp_updL; rw [if_pos (by omega)]
    rw [e9]
    exact ⟨hu1, hu2⟩
  exact ⟨p, fun _ => rfl, ⟨(fun q h => by cases h), fun q h => (by cases h), (fun f h => by cases h), (aAllc ⟨_, rfl, fF_pl (r := 6402) (by decide) (by decide) (Nat.le_of_ble_eq_true rfl) q0⟩ (fun f h => by cases h))⟩, [], List.mem_cons_self, fun f h => (by cases h)⟩
set_option maxRecDepth 8192 in
theorem rw_ruSUk0 {K : Nat → Nat} {n : Nat} : aGho (fF K n) fa_T K n (fJX K n) ag_ruSUk0 := by
  refine aGho_of ⟨rfl, rfl⟩ ?_
  intro p σ ρ hH hX hA hM
  have hG := aAG_of hA.1 (fun i e v he hv => (hA.2 i e v he hv).1)
  clear hA
  obtain ⟨v0, v1, v2, v3, v4, rfl, g0, g1, g2, g3, g4⟩ := fA_5 hG
  clear hG
  obtain ⟨x0, rfl, b0, d0⟩ := fG_ref (by decide) g0
  obtain ⟨x1, rfl, b1, d1⟩ := fG_ref (by decide) g1
  obtain ⟨x2, rfl, b2, d2⟩ := aG_int g2
  dsimp only at b2 d2
  obtain ⟨x3, rfl⟩ := aG_lng g3
  obtain ⟨x4, rfl, b4, d4⟩ := aG_int g4
  dsimp only at b4 d4
  obtain ⟨m1, m2, m3, m4⟩ := hM
  obtain ⟨a0, c0, fs0, w0, e1, s0, t0, e4⟩ := m1 (0, 3, 1) (List.mem_of_getElem? (i := 0) rfl)
  obtain rfl : x0 = a0 := Sum.inl.inj (Option.some.inj (Sum.inr.inj (Sum.inr.inj (Option.some.inj (show some (fR x0) = some _ from e1)))))
  obtain rfl : fR x1 = w0 := Option.some.inj (show some (fR x1) = some w0 from e4)
  clear e1 e4
  have f0 : fB K n p 400 [fR x0, fI x4] σ := by
    obtain ⟨w, e6, e7⟩ := m4 (6402, [0, 4]) (List.mem_of_getElem? (i := 0) rfl)
    obtain rfl : [fR x0, fI x4] = w := Option.some.inj (show some [fR x0, fI x4] = some w from e6)
    exact (fF_b (r := 6402) (by decide) rfl).mp e7
  clear m1 m2 m3 m4
  obtain ⟨a, m, g, e, w, hu, hk⟩ := (fX_o (by decide)).mp f0
  cases e
  have q0 : fB K n (fSh (p) []) 400 [fR x0, fI x4] (jup σ x1 (jstl (σ x1) x2.toNatClampNeg x3)) := by
    refine (fX_o (by decide)).mpr ⟨_, _, vp_updL g x2.toInt.toNat x3, rfl, fSu_st w s0 t0, ?_, hk⟩
    have e9 : vp_updL g x2.toInt.toNat x3 0 = g 0 := by unfold vp_updL; rw [if_neg (by omega)]
    rw [e9]
    exact hu
  exact ⟨p, fun _ => rfl, ⟨(fun q h => by cases h), fun q h => (by cases h), (fun f h => by cases h), (aAllc ⟨_, rfl, fF_pl (r := 6402) (by decide) (by decide) (Nat.le_of_ble_eq_true rfl) q0⟩ (fun f h => by cases h))⟩, [], List.mem_cons_self, fun f h => (by cases h)⟩
set_option maxRecDepth 8192 in
theorem rw_ruMDs0 {K : Nat → Nat} {n : Nat} : aGho (fF K n) fa_T K n (fJX K n) ag_ruMDs0 := by
  refine aGho_of ⟨rfl, rfl⟩ ?_
  intro p σ ρ hH hX hA hM
  have hG := aAG_of hA.1 (fun i e v he hv => (hA.2 i e v he hv).1)
  clear hA
  obtain ⟨v0, v1, v2, v3, rfl, g0, g1, g2, g3⟩ := fA_4 hG
  clear hG
  obtain ⟨x0, rfl, b0, d0⟩ := fG_ref (by decide) g0
  obtain ⟨x1, rfl, b1, d1⟩ := fG_ref (by decide) g1
  obtain ⟨x2, rfl, b2, d2⟩ := aG_int g2
  dsimp only at b2 d2
  obtain ⟨x3, rfl, b3, d3⟩ := aG_int g3
  dsimp only at b3 d3
  obtain ⟨m1, m2, m3, m4⟩ := hM
  obtain ⟨a0, c0, fs0, w0, e1, s0, t0, e4⟩ := m1 (0, 2, 1) (List.mem_of_getElem? (i := 0) rfl)
  obtain rfl : x0 = a0 := Sum.inl.inj (Option.some.inj (Sum.inr.inj (Sum.inr.inj (Option.some.inj (show some (fR x0) = some _ from e1)))))
  obtain rfl : fR x1 = w0 := Option.some.inj (show some (fR x1) = some w0 from e4)
  clear e1 e4
  clear m1 m2 m3 m4
  obtain ⟨g, w, -⟩ := fSw_mk hH b0 d0 s0 t0 b1 d1
  have q0 : fB K n (p) 240 [fR x0, fI x3] (jup σ x1 (jsto (σ x1) x2.toNatClampNeg x3)) := by
    refine (fS_o (by decide) (by decide)).mpr ⟨by decide, _, _, upd g x2.toInt.toNat x3, rfl, fSw_st w s0 t0, ?_⟩
    show upd g x2.toInt.toNat x3 0 = x3
    unfold upd
    rw [if_pos (by omega)]
  exact ⟨p, fun _ => rfl, ⟨(fun q h => by cases h), fun q h => (by cases h), (fun f h => by cases h), (aAllc ⟨_, rfl, fF_p (r := 3842) (by decide) (by decide) rfl q0⟩ (fun f h => by cases h))⟩, [], List.mem_cons_self, fun f h => (by cases h)⟩
set_option maxRecDepth 8192 in
theorem rw_ruSUs1 {K : Nat → Nat} {n : Nat} : aGho (fF K n) fa_T K n (fJX K n) ag_ruSUs1 := by
  refine aGho_of ⟨rfl, rfl⟩ ?_
  intro p σ ρ hH hX hA hM
  have hG := aAG_of hA.1 (fun i e v he hv => (hA.2 i e v he hv).1)
  clear hA
  obtain ⟨v0, v1, v2, v3, v4, rfl, g0, g1, g2, g3, g4⟩ := fA_5 hG
  clear hG
  obtain ⟨x0, rfl, b0, d0⟩ := fG_ref (by decide) g0
  obtain ⟨x1, rfl, b1, d1⟩ := fG_ref (by decide) g1
  obtain ⟨x2, rfl, b2, d2⟩ := aG_int g2
  dsimp only at b2 d2
  obtain ⟨x3, rfl⟩ := aG_lng g3
  obtain ⟨x4, rfl, b4, d4⟩ := aG_int g4
  dsimp only at b4 d4
  obtain ⟨m1, m2, m3, m4⟩ := hM
  obtain ⟨a0, c0, fs0, w0, e1, s0, t0, e4⟩ := m1 (0, 3, 1) (List.mem_of_getElem? (i := 0) rfl)
  obtain rfl : x0 = a0 := Sum.inl.inj (Option.some.inj (Sum.inr.inj (Sum.inr.inj (Option.some.inj (show some (fR x0) = some _ from e1)))))
  obtain rfl : fR x1 = w0 := Option.some.inj (show some (fR x1) = some w0 from e4)
  clear e1 e4
  have f0 : fB K n p 4 [fI x4, (.inr (.inl x3) : jv)] σ := by
    obtain ⟨w, e6, e7⟩ := m4 (66, [4, 3]) (List.mem_of_getElem? (i := 0) rfl)
    obtain rfl : [fI x4, (.inr (.inl x3) : jv)] = w := Option.some.inj (show some [fI x4, (.inr (.inl x3) : jv)] = some w from e6)
    exact (fF_b (r := 66) (by decide) rfl).mp e7
  clear m1 m2 m3 m4
  obtain ⟨mu, u, eu, hu1, hu2, hu3⟩ := f0
  cases eu
  obtain ⟨g, w⟩ := fSu_mk hH b0 d0 s0 t0 b1 d1
  have q0 : fB K n (fSh (p) []) 401 [fR x0, fI x4] (jup σ x1 (jstl (σ x1) x2.toNatClampNeg x3)) := by
    refine (fX_o (by decide)).mpr ⟨_, _, vp_updL g x2.toInt.toNat x3, rfl, fSu_st w s0 t0, ?_, hu3⟩
    have e9 : vp_updL g x2.toInt.toNat x3 1 = x3 := by unfold vp_updL; rw [if_pos (by omega)]
    rw [e9]
    exact ⟨hu1, hu2⟩
  exact ⟨p, fun _ => rfl, ⟨(fun q h => by cases h), fun q h => (by cases h), (fun f h => by cases h), (aAllc ⟨_, rfl, fF_pl (r := 6418) (by decide) (by decide) (Nat.le_of_ble_eq_true rfl) q0⟩ (fun f h => by cases h))⟩, [], List.mem_cons_self, fun f h => (by cases h)⟩
set_option maxRecDepth 8192 in
theorem rw_ruSUk1 {K : Nat → Nat} {n : Nat} : aGho (fF K n) fa_T K n (fJX K n) ag_ruSUk1 := by
  refine aGho_of ⟨rfl, rfl⟩ ?_
  intro p σ ρ hH hX hA hM
  have hG := aAG_of hA.1 (fun i e v he hv => (hA.2 i e v he hv).1)
  clear hA
  obtain ⟨v0, v1, v2, v3, v4, rfl, g0, g1, g2, g3, g4⟩ := fA_5 hG
  clear hG
  obtain ⟨x0, rfl, b0, d0⟩ := fG_ref (by decide) g0
  obtain ⟨x1, rfl, b1, d1⟩ := fG_ref (by decide) g1
  obtain ⟨x2, rfl, b2, d2⟩ := aG_int g2
  dsimp only at b2 d2
  obtain ⟨x3, rfl⟩ := aG_lng g3
  obtain ⟨x4, rfl, b4, d4⟩ := aG_int g4
  dsimp only at b4 d4
  obtain ⟨m1, m2, m3, m4⟩ := hM
  obtain ⟨a0, c0, fs0, w0, e1, s0, t0, e4⟩ := m1 (0, 3, 1) (List.mem_of_getElem? (i := 0) rfl)
  obtain rfl : x0 = a0 := Sum.inl.inj (Option.some.inj (Sum.inr.inj (Sum.inr.inj (Option.some.inj (show some (fR x0) = some _ from e1)))))
  obtain rfl : fR x1 = w0 := Option.some.inj (show some (fR x1) = some w0 from e4)
  clear e1 e4
  have f0 : fB K n p 401 [fR x0, fI x4] σ := by
    obtain ⟨w, e6, e7⟩ := m4 (6418, [0, 4]) (List.mem_of_getElem? (i := 0) rfl)
    obtain rfl : [fR x0, fI x4] = w := Option.some.inj (show some [fR x0, fI x4] = some w from e6)
    exact (fF_b (r := 6418) (by decide) rfl).mp e7
  clear m1 m2 m3 m4
  obtain ⟨a, m, g, e, w, hu, hk⟩ := (fX_o (by decide)).mp f0
  cases e
  have q0 : fB K n (fSh (p) []) 401 [fR x0, fI x4] (jup σ x1 (jstl (σ x1) x2.toNatClampNeg x3)) := by
    refine (fX_o (by decide)).mpr ⟨_, _, vp_updL g x2.toInt.toNat x3, rfl, fSu_st w s0 t0, ?_, hk⟩
    have e9 : vp_updL g x2.toInt.toNat x3 1 = g 1 := by unfold vp_updL; rw [if_neg (by omega)]
    rw [e9]
    exact hu
  exact ⟨p, fun _ => rfl, ⟨(fun q h => by cases h), fun q h => (by cases h), (fun f h => by cases h), (aAllc ⟨_, rfl, fF_pl (r := 6418) (by decide) (by decide) (Nat.le_of_ble_eq_true rfl) q0⟩ (fun f h => by cases h))⟩, [], List.mem_cons_self, fun f h => (by cases h)⟩
set_option maxRecDepth 8192 in
theorem rw_ruMDs1 {K : Nat → Nat} {n : Nat} : aGho (fF K n) fa_T K n (fJX K n) ag_ruMDs1 := by
  refine aGho_of ⟨rfl, rfl⟩ ?_
  intro p σ ρ hH hX hA hM
  have hG := aAG_of hA.1 (fun i e v he hv => (hA.2 i e v he hv).1)
  clear hA
  obtain ⟨v0, v1, v2, v3, rfl, g0, g1, g2, g3⟩ := fA_4 hG
  clear hG
  obtain ⟨x0, rfl, b0, d0⟩ := fG_ref (by decide) g0
  obtain ⟨x1, rfl, b1, d1⟩ := fG_ref (by decide) g1
  obtain ⟨x2, rfl, b2, d2⟩ := aG_int g2
  dsimp only at b2 d2
  obtain ⟨x3, rfl, b3, d3⟩ := aG_int g3
  dsimp only at b3 d3
  obtain ⟨m1, m2, m3, m4⟩ := hM
  obtain ⟨a0, c0, fs0, w0, e1, s0, t0, e4⟩ := m1 (0, 2, 1) (List.mem_of_getElem? (i := 0) rfl)
  obtain rfl : x0 = a0 := Sum.inl.inj (Option.some.inj (Sum.inr.inj (Sum.inr.inj (Option.some.inj (show some (fR x0) = some _ from e1)))))
  obtain rfl : fR x1 = w0 := Option.some.inj (show some (fR x1) = some w0 from e4)
  clear e1 e4
  clear m1 m2 m3 m4
  obtain ⟨g, w, -⟩ := fSw_mk hH b0 d0 s0 t0 b1 d1
  have q0 : fB K n (p) 241 [fR x0, fI x3] (jup σ x1 (jsto (σ x1) x2.toNatClampNeg x3)) := by
    refine (fS_o (by decide) (by decide)).mpr ⟨by decide, _, _, upd g x2.toInt.toNat x3, rfl, fSw_st w s0 t0, ?_⟩
    show upd g x2.toInt.toNat x3 1 = x3
    unfold upd
    rw [if_pos (by omega)]
  exact ⟨p, fun _ => rfl, ⟨(fun q h => by cases h), fun q h => (by cases h), (fun f h => by cases h), (aAllc ⟨_, rfl, fF_p (r := 3858) (by decide) (by decide) rfl q0⟩ (fun f h => by cases h))⟩, [], List.mem_cons_self, fun f h => (by cases h)⟩
set_option maxRecDepth 8192 in
theorem rw_ruSUs2 {K : Nat → Nat} {n : Nat} : aGho (fF K n) fa_T K n (fJX K n) ag_ruSUs2 := by
  refine aGho_of ⟨rfl, rfl⟩ ?_
  intro p σ ρ hH hX hA hM
  have hG := aAG_of hA.1 (fun i e v he hv => (hA.2 i e v he hv).1)
  clear hA
  obtain ⟨v0, v1, v2, v3, v4, rfl, g0, g1, g2, g3, g4⟩ := fA_5 hG
  clear hG
  obtain ⟨x0, rfl, b0, d0⟩ := fG_ref (by decide) g0
  obtain ⟨x1, rfl, b1, d1⟩ := fG_ref (by decide) g1
  obtain ⟨x2, rfl, b2, d2⟩ := aG_int g2
  dsimp only at b2 d2
  obtain ⟨x3, rfl⟩ := aG_lng g3
  obtain ⟨x4, rfl, b4, d4⟩ := aG_int g4
  dsimp only at b4 d4
  obtain ⟨m1, m2, m3, m4⟩ := hM
  obtain ⟨a0, c0, fs0, w0, e1, s0, t0, e4⟩ := m1 (0, 3, 1) (List.mem_of_getElem? (i := 0) rfl)
  obtain rfl : x0 = a0 := Sum.inl.inj (Option.some.inj (Sum.inr.inj (Sum.inr.inj (Option.some.inj (show some (fR x0) = some _ from e1)))))
  obtain rfl : fR x1 = w0 := Option.some.inj (show some (fR x1) = some w0 from e4)
  clear e1 e4
  have f0 : fB K n p 4 [fI x4, (.inr (.inl x3) : jv)] σ := by
    obtain ⟨w, e6, e7⟩ := m4 (66, [4, 3]) (List.mem_of_getElem? (i := 0) rfl)
    obtain rfl : [fI x4, (.inr (.inl x3) : jv)] = w := Option.some.inj (show some [fI x4, (.inr (.inl x3) : jv)] = some w from e6)
    exact (fF_b (r := 66) (by decide) rfl).mp e7
  clear m1 m2 m3 m4
  obtain ⟨mu, u, eu, hu1, hu2, hu3⟩ := f0
  cases eu
  obtain ⟨g, w⟩ := fSu_mk hH b0 d0 s0 t0 b1 d1
  have q0 : fB K n (fSh (p) []) 402 [fR x0, fI x4] (jup σ x1 (jstl (σ x1) x2.toNatClampNeg x3)) := by
    refine (fX_o (by decide)).mpr ⟨_, _, vp_updL g x2.toInt.toNat x3, rfl, fSu_st w s0 t0, ?_, hu3⟩
    have e9 : vp_updL g x2.toInt.toNat x3 2 = x3 := by unfold vp_updL; rw [if_pos (by omega)]
    rw [e9]
    exact ⟨hu1, hu2⟩
  exact ⟨p, fun _ => rfl, ⟨(fun q h => by cases h), fun q h => (by cases h), (fun f h => by cases h), (aAllc ⟨_, rfl, fF_pl (r := 6434) (by decide) (by decide) (Nat.le_of_ble_eq_true rfl) q0⟩ (fun f h => by cases h))⟩, [], List.mem_cons_self, fun f h => (by cases h)⟩
set_option maxRecDepth 8192 in
theorem rw_ruMDs2 {K : Nat → Nat} {n : Nat} : aGho (fF K n) fa_T K n (fJX K n) ag_ruMDs2 := by
  refine aGho_of ⟨rfl, rfl⟩ ?_
  intro p σ ρ hH hX hA hM
  have hG := aAG_of hA.1 (fun i e v he hv => (hA.2 i e v he hv).1)
  clear hA
  obtain ⟨v0, v1, v2, v3, rfl, g0, g1, g2, g3⟩ := fA_4 hG
  clear hG
  obtain ⟨x0, rfl, b0, d0⟩ := fG_ref (by decide) g0
  obtain ⟨x1, rfl, b1, d1⟩ := fG_ref (by decide) g1
  obtain ⟨x2, rfl, b2, d2⟩ := aG_int g2
  dsimp only at b2 d2
  obtain ⟨x3, rfl, b3, d3⟩ := aG_int g3
  dsimp only at b3 d3
  obtain ⟨m1, m2, m3, m4⟩ := hM
  obtain ⟨a0, c0, fs0, w0, e1, s0, t0, e4⟩ := m1 (0, 2, 1) (List.mem_of_getElem? (i := 0) rfl)
  obtain rfl : x0 = a0 := Sum.inl.inj (Option.some.inj (Sum.inr.inj (Sum.inr.inj (Option.some.inj (show some (fR x0) = some _ from e1)))))
  obtain rfl : fR x1 = w0 := Option.some.inj (show some (fR x1) = some w0 from e4)
  clear e1 e4
  clear m1 m2 m3 m4
  obtain ⟨g, w, -⟩ := fSw_mk hH b0 d0 s0 t0 b1 d1
  have q0 : fB K n (p) 242 [fR x0, fI x3] (jup σ x1 (jsto (σ x1) x2.toNatClampNeg x3)) := by
    refine (fS_o (by decide) (by decide)).mpr ⟨by decide, _, _, upd g x2.toInt.toNat x3, rfl, fSw_st w s0 t0, ?_⟩
    show upd g x2.toInt.toNat x3 2 = x3
    unfold upd
    rw [if_pos (by omega)]
  exact ⟨p, fun _ => rfl, ⟨(fun q h => by cases h), fun q h => (by cases h), (fun f h => by cases h), (aAllc ⟨_, rfl, fF_p (r := 3874) (by decide) (by decide) rfl q0⟩ (fun f h => by cases h))⟩, [], List.mem_cons_self, fun f h => (by cases h)⟩
set_option maxRecDepth 8192 in
theorem rw_ruLNp0 {K : Nat → Nat} {n : Nat} : aGho (fF K n) fa_T K n (fJX K n) ag_ruLNp0 := by
  refine aGho_of ⟨rfl, rfl⟩ ?_
  intro p σ ρ hH hX hA hM
  have hG := aAG_of hA.1 (fun i e v he hv => (hA.2 i e v he hv).1)
  clear hA
  obtain ⟨v0, v1, v2, rfl, g0, g1, g2⟩ := fA_3 hG
  clear hG
  obtain ⟨x0, rfl, b0, d0⟩ := fG_ref (by decide) g0
  obtain ⟨x1, rfl, b1, d1⟩ := fG_ref (by decide) g1
  obtain ⟨x2, rfl, b2, d2⟩ := aG_int g2
  dsimp only at b2 d2
  obtain ⟨m1, m2, m3, m4⟩ := hM
  have f0 : fB K n p 1 [fR x1] σ := by
    obtain ⟨w, e6, e7⟩ := m4 (17, [1]) (List.mem_of_getElem? (i := 0) rfl)
    obtain rfl : [fR x1] = w := Option.some.inj (show some [fR x1] = some w from e6)
    exact (fF_b (r := 17) (by decide) rfl).mp e7
  clear m1 m2 m3 m4
  obtain ⟨q, rfl⟩ : ∃ q, p = .inl q := by
    obtain ⟨a9, e9, hA, hg, q', hq'⟩ := f0
    rcases p with q | q
    · exact ⟨q, rfl⟩
    · cases hq'
  obtain ⟨gm, wm⟩ := fSw_ex hH b0 d0
  obtain ⟨gu, wu⟩ := fSu_ex hH b0 d0
  have E0 : fLe q gm 0 = q := by
    show q = _
    rfl
  obtain ⟨a9, e9, hA, hg⟩ := f0
  cases e9
  have q0 : fB K n (.inl q) 403 [fR x0, fR x1] σ := by
    exact (fX_o (by decide)).mpr ⟨x0, x1, _, gm, gu, rfl, wm, wu, ⟨q, rfl⟩, (fun j hj => absurd hj (Nat.not_lt_zero _)), (fun j hj => by
      have hh : j = 0 := by have h9 : j ≤ 0 := hj; omega
      rcases hh with rfl
      · show fGood (fLe q gm 0).1 (fLe q gm 0).2
        rw [E0]
        exact hg.1
    ), (show fAt K n σ x1 (fLe q gm 0).1 (fLe q gm 0).2 from by rw [E0]; exact hA)⟩
  exact ⟨.inl q, fun _ => rfl, ⟨(fun q h => by cases h), fun q h => (by cases h), (fun f h => by cases h), (aAllc ⟨_, rfl, (fF_b (r := 6450) (by decide) rfl).mpr q0⟩ (fun f h => by cases h))⟩, [], List.mem_cons_self, fun f h => (by cases h)⟩
set_option maxRecDepth 8192 in
theorem rw_ruLNb0 {K : Nat → Nat} {n : Nat} : aGho (fF K n) fa_T K n (fJX K n) ag_ruLNb0 := by
  refine aGho_of ⟨rfl, rfl⟩ ?_
  intro p σ ρ hH hX hA hM
  have hG := aAG_of hA.1 (fun i e v he hv => (hA.2 i e v he hv).1)
  clear hA
  obtain ⟨v0, v1, v2, v3, rfl, g0, g1, g2, g3⟩ := fA_4 hG
  clear hG
  obtain ⟨x0, rfl, b0, d0⟩ := fG_ref (by decide) g0
  obtain ⟨x1, rfl, b1, d1⟩ := fG_ref (by decide) g1
  obtain ⟨x2, rfl, b2, d2⟩ := aG_int g2
  dsimp only at b2 d2
  obtain ⟨x3, rfl, b3, d3⟩ := aG_int g3
  dsimp only at b3 d3
  obtain ⟨m1, m2, m3, m4⟩ := hM
  have f0 : fB K n p 1 [fR x1] σ := by
    obtain ⟨w, e6, e7⟩ := m4 (17, [1]) (List.mem_of_getElem? (i := 0) rfl)
    obtain rfl : [fR x1] = w := Option.some.inj (show some [fR x1] = some w from e6)
    exact (fF_b (r := 17) (by decide) rfl).mp e7
  have f1 : fB K n p 3 [fI x2] σ := by
    obtain ⟨w, e6, e7⟩ := m4 (49, [2]) (List.mem_of_getElem? (i := 1) rfl)
    obtain rfl : [fI x2] = w := Option.some.inj (show some [fI x2] = some w from e6)
    exact (fF_b (r := 49) (by decide) rfl).mp e7
  clear m1 m2 m3 m4
  obtain ⟨q, rfl⟩ : ∃ q, p = .inl q := by
    obtain ⟨a9, e9, hA, hg, q', hq'⟩ := f0
    rcases p with q | q
    · exact ⟨q, rfl⟩
    · cases hq'
  obtain ⟨gm, wm⟩ := fSw_ex hH b0 d0
  obtain ⟨gu, wu⟩ := fSu_ex hH b0 d0
  have E0 : fLe q gm 0 = q := by
    show q = _
    rfl
  obtain ⟨a9, e9, hA, hg⟩ := f0
  cases e9
  have q0 : fB K n (.inl q) 409 [fR x0, fR x1, fI x2] σ := by
    refine (fX_o (by decide)).mpr ⟨x0, x1, x2, _, gm, gu, rfl, wm, wu, ⟨q, rfl⟩, (fun j hj => absurd hj (Nat.not_lt_zero _)), (fun j hj => by
      have hh : j = 0 := by have h9 : j ≤ 0 := hj; omega
      rcases hh with rfl
      · show fGood (fLe q gm 0).1 (fLe q gm 0).2
        rw [E0]
        exact hg.1
    ), (show fAt K n σ x1 (fLe q gm 0).1 (fLe q gm 0).2 from by rw [E0]; exact hA), ?_⟩
    show fM (fLe q gm 0).1 (fLe q gm 0).2 x2
    rw [E0]
    obtain ⟨m9, e9, h9⟩ := f1
    cases e9
    exact h9
  exact ⟨.inl q, fun _ => rfl, ⟨(fun q h => by cases h), fun q h => (by cases h), (fun f h => by cases h), (aAllc ⟨_, rfl, (fF_b (r := 6547) (by decide) rfl).mpr q0⟩ (fun f h => by cases h))⟩, [], List.mem_cons_self, fun f h => (by cases h)⟩
set_option maxRecDepth 8192 in
theorem rw_ruLNu0 {K : Nat → Nat} {n : Nat} : aGho (fF K n) fa_T K n (fJX K n) ag_ruLNu0 := by
  refine aGho_of ⟨rfl, rfl⟩ ?_
  intro p σ ρ hH hX hA hM
  have hG := aAG_of hA.1 (fun i e v he hv => (hA.2 i e v he hv).1)
  clear hA
  obtain ⟨v0, v1, v2, rfl, g0, g1, g2⟩ := fA_3 hG
  clear hG
  obtain ⟨x0, rfl, b0, d0⟩ := fG_ref (by decide) g0
  obtain ⟨x1, rfl, b1, d1⟩ := fG_ref (by decide) g1
  obtain ⟨x2, rfl, b2, d2⟩ := fG_ref (by decide) g2
  obtain ⟨m1, m2, m3, m4⟩ := hM
  obtain ⟨a0, c0, fs0, w0, e1, s0, t0, e4⟩ := m1 (0, 2, 2) (List.mem_of_getElem? (i := 0) rfl)
  obtain rfl : x0 = a0 := Sum.inl.inj (Option.some.inj (Sum.inr.inj (Sum.inr.inj (Option.some.inj (show some (fR x0) = some _ from e1)))))
  obtain rfl : fR x2 = w0 := Option.some.inj (show some (fR x2) = some w0 from e4)
  clear e1 e4
  have f0 : fB K n p 403 [fR x0, fR x1] σ := by
    obtain ⟨w, e6, e7⟩ := m4 (6450, [0, 1]) (List.mem_of_getElem? (i := 0) rfl)
    obtain rfl : [fR x0, fR x1] = w := Option.some.inj (show some [fR x0, fR x1] = some w from e6)
    exact (fF_b (r := 6450) (by decide) rfl).mp e7
  clear m1 m2 m3 m4
  obtain ⟨a, b, rest, gm, gu, e, wm, wu, ⟨q, hq⟩, hS, hG, hA⟩ := (fX_o (by decide)).mp f0
  cases e
  subst hq
  have E0 : fLe q gm 0 = q := by
    show q = _
    rfl
  have hG0_ : fGood (fLe q gm 0).1 (fLe q gm 0).2 := hG 0 (Nat.le_refl _)
  have hA_ : fAt K n σ x1 (fLe q gm 0).1 (fLe q gm 0).2 := hA
  rw [E0] at hG0_ hA_
  have q0 : fB K n (.inl q) 1 [fR x1] σ := by
    exact ⟨x1, rfl, hA_, hG0_, _, rfl⟩
  exact ⟨.inl q, fun _ => rfl, ⟨(fun q h => by cases h), fun q h => (by cases h), (fun f h => by cases h), (aAllc ⟨_, rfl, (fF_b (r := 17) (by decide) rfl).mpr q0⟩ (fun f h => by cases h))⟩, [], List.mem_cons_self, fun f h => (by cases h)⟩
set_option maxRecDepth 8192 in
theorem rw_ruLNv0 {K : Nat → Nat} {n : Nat} : aGho (fF K n) fa_T K n (fJX K n) ag_ruLNv0 := by
  refine aGho_of ⟨rfl, rfl⟩ ?_
  intro p σ ρ hH hX hA hM
  have hG := aAG_of hA.1 (fun i e v he hv => (hA.2 i e v he hv).1)
  clear hA
  obtain ⟨v0, v1, v2, v3, rfl, g0, g1, g2, g3⟩ := fA_4 hG
  clear hG
  obtain ⟨x0, rfl, b0, d0⟩ := fG_ref (by decide) g0
  obtain ⟨x1, rfl, b1, d1⟩ := fG_ref (by decide) g1
  obtain ⟨x2, rfl, b2, d2⟩ := aG_int g2
  dsimp only at b2 d2
  obtain ⟨x3, rfl, b3, d3⟩ := fG_ref (by decide) g3
  obtain ⟨m1, m2, m3, m4⟩ := hM
  obtain ⟨a0, c0, fs0, w0, e1, s0, t0, e4⟩ := m1 (0, 2, 3) (List.mem_of_getElem? (i := 0) rfl)
  obtain rfl : x0 = a0 := Sum.inl.inj (Option.some.inj (Sum.inr.inj (Sum.inr.inj (Option.some.inj (show some (fR x0) = some _ from e1)))))
  obtain rfl : fR x3 = w0 := Option.some.inj (show some (fR x3) = some w0 from e4)
  clear e1 e4
  have f0 : fB K n p 409 [fR x0, fR x1, fI x2] σ := by
    obtain ⟨w, e6, e7⟩ := m4 (6547, [0, 1, 2]) (List.mem_of_getElem? (i := 0) rfl)
    obtain rfl : [fR x0, fR x1, fI x2] = w := Option.some.inj (show some [fR x0, fR x1, fI x2] = some w from e6)
    exact (fF_b (r := 6547) (by decide) rfl).mp e7
  clear m1 m2 m3 m4
  obtain ⟨a, b, m, rest, gm, gu, e, wm, wu, ⟨q, hq⟩, hS, hG, hA, hM⟩ := (fX_o (by decide)).mp f0
  cases e
  subst hq
  have E0 : fLe q gm 0 = q := by
    show q = _
    rfl
  have hG0_ : fGood (fLe q gm 0).1 (fLe q gm 0).2 := hG 0 (Nat.le_refl _)
  have hA_ : fAt K n σ x1 (fLe q gm 0).1 (fLe q gm 0).2 := hA
  rw [E0] at hG0_ hA_
  have q0 : fB K n (.inl q) 1 [fR x1] σ := by
    exact ⟨x1, rfl, hA_, hG0_, _, rfl⟩
  have q1 : fB K n (.inl q) 3 [fI x2] σ := by
    have h9 : fM (fLe q gm 0).1 (fLe q gm 0).2 x2 := hM
    rw [E0] at h9
    exact ⟨_, rfl, h9⟩
  exact ⟨.inl q, fun _ => rfl, ⟨(fun q h => by cases h), fun q h => (by cases h), (fun f h => by cases h), (aAllc ⟨_, rfl, (fF_b (r := 17) (by decide) rfl).mpr q0⟩ (aAllc ⟨_, rfl, (fF_b (r := 49) (by decide) rfl).mpr q1⟩ (fun f h => by cases h)))⟩, [], List.mem_cons_self, fun f h => (by cases h)⟩
set_option maxRecDepth 8192 in
theorem rw_ruLNp1 {K : Nat → Nat} {n : Nat} : aGho (fF K n) fa_T K n (fJX K n) ag_ruLNp1 := by
  refine aGho_of ⟨rfl, rfl⟩ ?_
  intro p σ ρ hH hX hA hM
  have hG := aAG_of hA.1 (fun i e v he hv => (hA.2 i e v he hv).1)
  clear hA
  obtain ⟨v0, v1, v2, v3, rfl, g0, g1, g2, g3⟩ := fA_4 hG
  clear hG
  obtain ⟨x0, rfl, b0, d0⟩ := fG_ref (by decide) g0
  obtain ⟨x1, rfl, b1, d1⟩ := fG_ref (by decide) g1
  obtain ⟨x2, rfl, b2, d2⟩ := aG_int g2
  dsimp only at b2 d2
  obtain ⟨x3, rfl, b3, d3⟩ := aG_int g3
  dsimp only at b3 d3
  obtain ⟨m1, m2, m3, m4⟩ := hM
  have f0 : fB K n (fSh p [fI x2]) 1 [fR x1] σ := by
    obtain ⟨w, e6, e7⟩ := m4 (17, [1, 2]) (List.mem_of_getElem? (i := 0) rfl)
    obtain rfl : [fR x1, fI x2] = w := Option.some.inj (show some [fR x1, fI x2] = some w from e6)
    exact (fF_g (r := 17) (by decide)).mp e7
  have f1 : fB K n p 3 [fI x2] σ := by
    obtain ⟨w, e6, e7⟩ := m4 (49, [2]) (List.mem_of_getElem? (i := 1) rfl)
    obtain rfl : [fI x2] = w := Option.some.inj (show some [fI x2] = some w from e6)
    exact (fF_b (r := 49) (by decide) rfl).mp e7
  have f2 : fB K n p 400 [fR x0, fI x2] σ := by
    obtain ⟨w, e6, e7⟩ := m4 (6402, [0, 2]) (List.mem_of_getElem? (i := 2) rfl)
    obtain rfl : [fR x0, fI x2] = w := Option.some.inj (show some [fR x0, fI x2] = some w from e6)
    exact (fF_b (r := 6402) (by decide) rfl).mp e7
  have f3 : fB K n p 240 [fR x0, fI x2] σ := by
    obtain ⟨w, e6, e7⟩ := m4 (3842, [0, 2]) (List.mem_of_getElem? (i := 3) rfl)
    obtain rfl : [fR x0, fI x2] = w := Option.some.inj (show some [fR x0, fI x2] = some w from e6)
    exact (fF_b (r := 3842) (by decide) rfl).mp e7
  clear m1 m2 m3 m4
  obtain ⟨q, rfl⟩ : ∃ q, p = .inl q := by
    obtain ⟨a9, e9, hA, hg, q', hq'⟩ := f0
    rcases p with q | q
    · exact ⟨q, rfl⟩
    · cases hq'
  obtain ⟨gm, wm⟩ := fSw_ex hH b0 d0
  obtain ⟨gu, wu⟩ := fSu_ex hH b0 d0
  have e0_ : gm 0 = x2 := by
    obtain ⟨-, a, m, g, e, w, hg⟩ := (fS_o (by decide) (by decide)).mp f3
    cases e
    rw [fSw_u wm w]
    exact hg
  have E0 : fLe q gm 0 = q := by
    show q = _
    rfl
  have E1 : fLe q gm 1 = (fPl q x2) := by
    show fPl (fLe q gm 0) (gm 0) = _
    rw [E0, e0_]
  obtain ⟨a9, e9, hA, hg⟩ := f0
  cases e9
  have q0 : fB K n (.inl q) 403 [fR x0, fR x1, fR x0] σ := by
    exact (fX_o (by decide)).mpr ⟨x0, x1, _, gm, gu, rfl, wm, wu, ⟨q, rfl⟩, (fun j hj => by
      have hh : j = 0 := by have h9 : j < 1 := hj; omega
      rcases hh with rfl
      · show fM (fLe q gm 0).1 (fLe q gm 0).2 (gm 0) ∧ fU (fLe q gm 0) (gm 0) (gu 0)
        rw [E0, e0_]
        refine ⟨?_, ?_⟩
        · obtain ⟨m9, e9, h9⟩ := f1
          cases e9
          exact h9
        · obtain ⟨a9, m9, g9, e9, w9, h9, -⟩ := (fX_o (by decide)).mp f2
          cases e9
          rw [fSu_u wu w9]
          exact h9
    ), (fun j hj => by
      have hh : j = 0 ∨ j = 1 := by have h9 : j ≤ 1 := hj; omega
      rcases hh with rfl | rfl
      · show fGood (fLe q gm 0).1 (fLe q gm 0).2
        rw [E0]
        obtain ⟨a9, m9, g9, e9, w9, h9, hk9⟩ := (fX_o (by decide)).mp f2
        exact hk9.1
      · show fGood (fLe q gm 1).1 (fLe q gm 1).2
        rw [E1]
        exact hg.1
    ), (show fAt K n σ x1 (fLe q gm 1).1 (fLe q gm 1).2 from by rw [E1]; exact hA)⟩
  exact ⟨.inl q, fun _ => rfl, ⟨(fun q h => by cases h), fun q h => (by cases h), (fun f h => by cases h), (aAllc ⟨_, rfl, (fF_b (r := 6451) (by decide) rfl).mpr q0⟩ (fun f h => by cases h))⟩, [], List.mem_cons_self, fun f h => (by cases h)⟩
set_option maxRecDepth 8192 in
theorem rw_ruLNb1 {K : Nat → Nat} {n : Nat} : aGho (fF K n) fa_T K n (fJX K n) ag_ruLNb1 := by
  refine aGho_of ⟨rfl, rfl⟩ ?_
  intro p σ ρ hH hX hA hM
  have hG := aAG_of hA.1 (fun i e v he hv => (hA.2 i e v he hv).1)
  clear hA
  obtain ⟨v0, v1, v2, v3, v4, rfl, g0, g1, g2, g3, g4⟩ := fA_5 hG
  clear hG
  obtain ⟨x0, rfl, b0, d0⟩ := fG_ref (by decide) g0
  obtain ⟨x1, rfl, b1, d1⟩ := fG_ref (by decide) g1
  obtain ⟨x2, rfl, b2, d2⟩ := aG_int g2
  dsimp only at b2 d2
  obtain ⟨x3, rfl, b3, d3⟩ := aG_int g3
  dsimp only at b3 d3
  obtain ⟨x4, rfl, b4, d4⟩ := aG_int g4
  dsimp only at b4 d4
  obtain ⟨m1, m2, m3, m4⟩ := hM
  have f0 : fB K n (fSh p [fI x2]) 1 [fR x1] σ := by
    obtain ⟨w, e6, e7⟩ := m4 (17, [1, 2]) (List.mem_of_getElem? (i := 0) rfl)
    obtain rfl : [fR x1, fI x2] = w := Option.some.inj (show some [fR x1, fI x2] = some w from e6)
    exact (fF_g (r := 17) (by decide)).mp e7
  have f1 : fB K n p 3 [fI x2] σ := by
    obtain ⟨w, e6, e7⟩ := m4 (49, [2]) (List.mem_of_getElem? (i := 1) rfl)
    obtain rfl : [fI x2] = w := Option.some.inj (show some [fI x2] = some w from e6)
    exact (fF_b (r := 49) (by decide) rfl).mp e7
  have f2 : fB K n p 400 [fR x0, fI x2] σ := by
    obtain ⟨w, e6, e7⟩ := m4 (6402, [0, 2]) (List.mem_of_getElem? (i := 2) rfl)
    obtain rfl : [fR x0, fI x2] = w := Option.some.inj (show some [fR x0, fI x2] = some w from e6)
    exact (fF_b (r := 6402) (by decide) rfl).mp e7
  have f3 : fB K n p 240 [fR x0, fI x2] σ := by
    obtain ⟨w, e6, e7⟩ := m4 (3842, [0, 2]) (List.mem_of_getElem? (i := 3) rfl)
    obtain rfl : [fR x0, fI x2] = w := Option.some.inj (show some [fR x0, fI x2] = some w from e6)
    exact (fF_b (r := 3842) (by decide) rfl).mp e7
  have f4 : fB K n (fSh p [fI x2]) 3 [fI x3] σ := by
    obtain ⟨w, e6, e7⟩ := m4 (49, [3, 2]) (List.mem_of_getElem? (i := 4) rfl)
    obtain rfl : [fI x3, fI x2] = w := Option.some.inj (show some [fI x3, fI x2] = some w from e6)
    exact (fF_g (r := 49) (by decide)).mp e7
  clear m1 m2 m3 m4
  obtain ⟨q, rfl⟩ : ∃ q, p = .inl q := by
    obtain ⟨a9, e9, hA, hg, q', hq'⟩ := f0
    rcases p with q | q
    · exact ⟨q, rfl⟩
    · cases hq'
  obtain ⟨gm, wm⟩ := fSw_ex hH b0 d0
  obtain ⟨gu, wu⟩ := fSu_ex hH b0 d0
  have e0_ : gm 0 = x2 := by
    obtain ⟨-, a, m, g, e, w, hg⟩ := (fS_o (by decide) (by decide)).mp f3
    cases e
    rw [fSw_u wm w]
    exact hg
  have E0 : fLe q gm 0 = q := by
    show q = _
    rfl
  have E1 : fLe q gm 1 = (fPl q x2) := by
    show fPl (fLe q gm 0) (gm 0) = _
    rw [E0, e0_]
  obtain ⟨a9, e9, hA, hg⟩ := f0
  cases e9
  have q0 : fB K n (.inl q) 409 [fR x0, fR x1, fI x3, fR x0] σ := by
    refine (fX_o (by decide)).mpr ⟨x0, x1, x3, _, gm, gu, rfl, wm, wu, ⟨q, rfl⟩, (fun j hj => by
      have hh : j = 0 := by have h9 : j < 1 := hj; omega
      rcases hh with rfl
      · show fM (fLe q gm 0).1 (fLe q gm 0).2 (gm 0) ∧ fU (fLe q gm 0) (gm 0) (gu 0)
        rw [E0, e0_]
        refine ⟨?_, ?_⟩
        · obtain ⟨m9, e9, h9⟩ := f1
          cases e9
          exact h9
        · obtain ⟨a9, m9, g9, e9, w9, h9, -⟩ := (fX_o (by decide)).mp f2
          cases e9
          rw [fSu_u wu w9]
          exact h9
    ), (fun j hj => by
      have hh : j = 0 ∨ j = 1 := by have h9 : j ≤ 1 := hj; omega
      rcases hh with rfl | rfl
      · show fGood (fLe q gm 0).1 (fLe q gm 0).2
        rw [E0]
        obtain ⟨a9, m9, g9, e9, w9, h9, hk9⟩ := (fX_o (by decide)).mp f2
        exact hk9.1
      · show fGood (fLe q gm 1).1 (fLe q gm 1).2
        rw [E1]
        exact hg.1
    ), (show fAt K n σ x1 (fLe q gm 1).1 (fLe q gm 1).2 from by rw [E1]; exact hA), ?_⟩
    show fM (fLe q gm 1).1 (fLe q gm 1).2 x3
    rw [E1]
    obtain ⟨m9, e9, h9⟩ := f4
    cases e9
    exact h9
  exact ⟨.inl q, fun _ => rfl, ⟨(fun q h => by cases h), fun q h => (by cases h), (fun f h => by cases h), (aAllc ⟨_, rfl, (fF_b (r := 6548) (by decide) rfl).mpr q0⟩ (fun f h => by cases h))⟩, [], List.mem_cons_self, fun f h => (by cases h)⟩
set_option maxRecDepth 8192 in
theorem rw_ruLNu1 {K : Nat → Nat} {n : Nat} : aGho (fF K n) fa_T K n (fJX K n) ag_ruLNu1 := by
  refine aGho_of ⟨rfl, rfl⟩ ?_
  intro p σ ρ hH hX hA hM
  have hG := aAG_of hA.1 (fun i e v he hv => (hA.2 i e v he hv).1)
  clear hA
  obtain ⟨v0, v1, v2, v3, rfl, g0, g1, g2, g3⟩ := fA_4 hG
  clear hG
  obtain ⟨x0, rfl, b0, d0⟩ := fG_ref (by decide) g0
  obtain ⟨x1, rfl, b1, d1⟩ := fG_ref (by decide) g1
  obtain ⟨x2, rfl, b2, d2⟩ := aG_int g2
  dsimp only at b2 d2
  obtain ⟨x3, rfl, b3, d3⟩ := fG_ref (by decide) g3
  obtain ⟨m1, m2, m3, m4⟩ := hM
  obtain ⟨a0, c0, fs0, w0, e1, s0, t0, e4⟩ := m1 (0, 2, 3) (List.mem_of_getElem? (i := 0) rfl)
  obtain rfl : x0 = a0 := Sum.inl.inj (Option.some.inj (Sum.inr.inj (Sum.inr.inj (Option.some.inj (show some (fR x0) = some _ from e1)))))
  obtain rfl : fR x3 = w0 := Option.some.inj (show some (fR x3) = some w0 from e4)
  clear e1 e4
  obtain ⟨a, mc0, ty0, gc0, ic0, e1, sc0, jc0, e4, e5⟩ := m2 (3, ([], 0), 2) (List.mem_of_getElem? (i := 0) rfl)
  obtain rfl : x3 = a := Sum.inl.inj (Option.some.inj (Sum.inr.inj (Sum.inr.inj (Option.some.inj (show some (fR x3) = some _ from e1)))))
  obtain ⟨gc0, rfl⟩ : ∃ g, gc0 = .inl g := by
    rcases gc0 with g | g
    · exact ⟨g, rfl⟩
    · exact absurd (show some (fI x2) = some (.inr (.inl (g ic0))) from e5) (fun h => by cases h)
  have sc0 : σ x3 = .inl (ty0, mc0, .inl gc0) := sc0
  have ec0 : x2 = gc0 ic0 := Sum.inl.inj (Option.some.inj (show some (fI x2) = some _ from e5))
  have kc0 : (ic0 : Int) = 0 + 0 := by
    obtain ⟨z, e6, e7⟩ := e4
    obtain rfl : 0 = z := Option.some.inj (show some 0 = some z from e6)
    exact e7
  clear e1 e4 e5
  have f0 : fB K n p 403 [fR x0, fR x1, fR x0] σ := by
    obtain ⟨w, e6, e7⟩ := m4 (6451, [0, 1, 0]) (List.mem_of_getElem? (i := 0) rfl)
    obtain rfl : [fR x0, fR x1, fR x0] = w := Option.some.inj (show some [fR x0, fR x1, fR x0] = some w from e6)
    exact (fF_b (r := 6451) (by decide) rfl).mp e7
  clear m1 m2 m3 m4
  obtain ⟨a, b, rest, gm, gu, e, wm, wu, ⟨q, hq⟩, hS, hG, hA⟩ := (fX_o (by decide)).mp f0
  cases e
  subst hq
  have e0_ : gm 0 = x2 := by
    rw [fSw_c wm s0 t0 sc0, show 0 = ic0 by omega]
    exact ec0.symm
  have E0 : fLe q gm 0 = q := by
    show q = _
    rfl
  have E1 : fLe q gm 1 = (fPl q x2) := by
    show fPl (fLe q gm 0) (gm 0) = _
    rw [E0, e0_]
  have hG1_ : fGood (fLe q gm 1).1 (fLe q gm 1).2 := hG 1 (Nat.le_refl _)
  have hA_ : fAt K n σ x1 (fLe q gm 1).1 (fLe q gm 1).2 := hA
  rw [E1] at hG1_ hA_
  have q0 : fB K n (fSh (.inl q) [fI x2]) 1 [fR x1] σ := by
    exact ⟨x1, rfl, hA_, hG1_, _, rfl⟩
  have q1 : fB K n (.inl q) 3 [fI x2] σ := by
    have h8 : fM (fLe q gm 0).1 (fLe q gm 0).2 (gm 0) := (hS 0 (show 0 < 1 by decide)).1
    rw [E0, e0_] at h8
    exact ⟨_, rfl, h8⟩
  have q2 : fB K n (.inl q) 400 [fR x0, fI x2] σ := by
    have h9 : fU (fLe q gm 0) (gm 0) (gu 0) := (hS 0 (show 0 < 1 by decide)).2
    have h8 : fGood (fLe q gm 0).1 (fLe q gm 0).2 := hG 0 (show 0 ≤ 1 by decide)
    rw [E0, e0_] at h9
    rw [E0] at h8
    exact (fX_o (by decide)).mpr ⟨_, _, gu, rfl, wu, h9, h8, _, rfl⟩
  have q3 : fB K n (.inl q) 240 [fR x0, fI x2] σ := by
    exact (fS_o (by decide) (by decide)).mpr ⟨by decide, _, _, gm, rfl, wm, e0_⟩
  exact ⟨.inl q, fun _ => rfl, ⟨(fun q h => by cases h), fun q h => (by cases h), (fun f h => by cases h), (aAllc ⟨_, rfl, (fF_g (r := 17) (by decide)).mpr q0⟩ (aAllc ⟨_, rfl, (fF_b (r := 49) (by decide) rfl).mpr q1⟩ (aAllc ⟨_, rfl, (fF_b (r := 6402) (by decide) rfl).mpr q2⟩ (aAllc ⟨_, rfl, (fF_b (r := 3842) (by decide) rfl).mpr q3⟩ (fun f h => by cases h)))))⟩, [], List.mem_cons_self, fun f h => (by cases h)⟩
set_option maxRecDepth 8192 in
theorem rw_ruLNv1 {K : Nat → Nat} {n : Nat} : aGho (fF K n) fa_T K n (fJX K n) ag_ruLNv1 := by
  refine aGho_of ⟨rfl, rfl⟩ ?_
  intro p σ ρ hH hX hA hM
  have hG := aAG_of hA.1 (fun i e v he hv => (hA.2 i e v he hv).1)
  clear hA
  obtain ⟨v0, v1, v2, v3, v4, rfl, g0, g1, g2, g3, g4⟩ := fA_5 hG
  clear hG
  obtain ⟨x0, rfl, b0, d0⟩ := fG_ref (by decide) g0
  obtain ⟨x1, rfl, b1, d1⟩ := fG_ref (by decide) g1
  obtain ⟨x2, rfl, b2, d2⟩ := aG_int g2
  dsimp only at b2 d2
  obtain ⟨x3, rfl, b3, d3⟩ := aG_int g3
  dsimp only at b3 d3
  obtain ⟨x4, rfl, b4, d4⟩ := fG_ref (by decide) g4
  obtain ⟨m1, m2, m3, m4⟩ := hM
  obtain ⟨a0, c0, fs0, w0, e1, s0, t0, e4⟩ := m1 (0, 2, 4) (List.mem_of_getElem? (i := 0) rfl)
  obtain rfl : x0 = a0 := Sum.inl.inj (Option.some.inj (Sum.inr.inj (Sum.inr.inj (Option.some.inj (show some (fR x0) = some _ from e1)))))
  obtain rfl : fR x4 = w0 := Option.some.inj (show some (fR x4) = some w0 from e4)
  clear e1 e4
  obtain ⟨a, mc0, ty0, gc0, ic0, e1, sc0, jc0, e4, e5⟩ := m2 (4, ([], 0), 2) (List.mem_of_getElem? (i := 0) rfl)
  obtain rfl : x4 = a := Sum.inl.inj (Option.some.inj (Sum.inr.inj (Sum.inr.inj (Option.some.inj (show some (fR x4) = some _ from e1)))))
  obtain ⟨gc0, rfl⟩ : ∃ g, gc0 = .inl g := by
    rcases gc0 with g | g
    · exact ⟨g, rfl⟩
    · exact absurd (show some (fI x2) = some (.inr (.inl (g ic0))) from e5) (fun h => by cases h)
  have sc0 : σ x4 = .inl (ty0, mc0, .inl gc0) := sc0
  have ec0 : x2 = gc0 ic0 := Sum.inl.inj (Option.some.inj (show some (fI x2) = some _ from e5))
  have kc0 : (ic0 : Int) = 0 + 0 := by
    obtain ⟨z, e6, e7⟩ := e4
    obtain rfl : 0 = z := Option.some.inj (show some 0 = some z from e6)
    exact e7
  clear e1 e4 e5
  have f0 : fB K n p 409 [fR x0, fR x1, fI x3, fR x0] σ := by
    obtain ⟨w, e6, e7⟩ := m4 (6548, [0, 1, 3, 0]) (List.mem_of_getElem? (i := 0) rfl)
    obtain rfl : [fR x0, fR x1, fI x3, fR x0] = w := Option.some.inj (show some [fR x0, fR x1, fI x3, fR x0] = some w from e6)
    exact (fF_b (r := 6548) (by decide) rfl).mp e7
  clear m1 m2 m3 m4
  obtain ⟨a, b, m, rest, gm, gu, e, wm, wu, ⟨q, hq⟩, hS, hG, hA, hM⟩ := (fX_o (by decide)).mp f0
  cases e
  subst hq
  have e0_ : gm 0 = x2 := by
    rw [fSw_c wm s0 t0 sc0, show 0 = ic0 by omega]
    exact ec0.symm
  have E0 : fLe q gm 0 = q := by
    show q = _
    rfl
  have E1 : fLe q gm 1 = (fPl q x2) := by
    show fPl (fLe q gm 0) (gm 0) = _
    rw [E0, e0_]
  have hG1_ : fGood (fLe q gm 1).1 (fLe q gm 1).2 := hG 1 (Nat.le_refl _)
  have hA_ : fAt K n σ x1 (fLe q gm 1).1 (fLe q gm 1).2 := hA
  rw [E1] at hG1_ hA_
  have q0 : fB K n (fSh (.inl q) [fI x2]) 1 [fR x1] σ := by
    exact ⟨x1, rfl, hA_, hG1_, _, rfl⟩
  have q1 : fB K n (.inl q) 3 [fI x2] σ := by
    have h8 : fM (fLe q gm 0).1 (fLe q gm 0).2 (gm 0) := (hS 0 (show 0 < 1 by decide)).1
    rw [E0, e0_] at h8
    exact ⟨_, rfl, h8⟩
  have q2 : fB K n (.inl q) 400 [fR x0, fI x2] σ := by
    have h9 : fU (fLe q gm 0) (gm 0) (gu 0) := (hS 0 (show 0 < 1 by decide)).2
    have h8 : fGood (fLe q gm 0).1 (fLe q gm 0).2 := hG 0 (show 0 ≤ 1 by decide)
    rw [E0, e0_] at h9
    rw [E0] at h8
    exact (fX_o (by decide)).mpr ⟨_, _, gu, rfl, wu, h9, h8, _, rfl⟩
  have q3 : fB K n (.inl q) 240 [fR x0, fI x2] σ := by
    exact (fS_o (by decide) (by decide)).mpr ⟨by decide, _, _, gm, rfl, wm, e0_⟩
  have q4 : fB K n (fSh (.inl q) [fI x2]) 3 [fI x3] σ := by
    have h9 : fM (fLe q gm 1).1 (fLe q gm 1).2 x3 := hM
    rw [E1] at h9
    exact ⟨_, rfl, h9⟩
  exact ⟨.inl q, fun _ => rfl, ⟨(fun q h => by cases h), fun q h => (by cases h), (fun f h => by cases h), (aAllc ⟨_, rfl, (fF_g (r := 17) (by decide)).mpr q0⟩ (aAllc ⟨_, rfl, (fF_b (r := 49) (by decide) rfl).mpr q1⟩ (aAllc ⟨_, rfl, (fF_b (r := 6402) (by decide) rfl).mpr q2⟩ (aAllc ⟨_, rfl, (fF_b (r := 3842) (by decide) rfl).mpr q3⟩ (aAllc ⟨_, rfl, (fF_g (r := 49) (by decide)).mpr q4⟩ (fun f h => by cases h))))))⟩, [], List.mem_cons_self, fun f h => (by cases h)⟩
set_option maxRecDepth 8192 in
theorem rw_ruLNp2 {K : Nat → Nat} {n : Nat} : aGho (fF K n) fa_T K n (fJX K n) ag_ruLNp2 := by
  refine aGho_of ⟨rfl, rfl⟩ ?_
  intro p σ ρ hH hX hA hM
  have hG := aAG_of hA.1 (fun i e v he hv => (hA.2 i e v he hv).1)
  clear hA
  obtain ⟨v0, v1, v2, v3, v4, rfl, g0, g1, g2, g3, g4⟩ := fA_5 hG
  clear hG
  obtain ⟨x0, rfl, b0, d0⟩ := fG_ref (by decide) g0
  obtain ⟨x1, rfl, b1, d1⟩ := fG_ref (by decide) g1
  obtain ⟨x2, rfl, b2, d2⟩ := aG_int g2
  dsimp only at b2 d2
  obtain ⟨x3, rfl, b3, d3⟩ := aG_int g3
  dsimp only at b3 d3
  obtain ⟨x4, rfl, b4, d4⟩ := aG_int g4
  dsimp only at b4 d4
  obtain ⟨m1, m2, m3, m4⟩ := hM
  have f0 : fB K n (fSh p [fI x3, fI x2]) 1 [fR x1] σ := by
    obtain ⟨w, e6, e7⟩ := m4 (17, [1, 3, 2]) (List.mem_of_getElem? (i := 0) rfl)
    obtain rfl : [fR x1, fI x3, fI x2] = w := Option.some.inj (show some [fR x1, fI x3, fI x2] = some w from e6)
    exact (fF_g (r := 17) (by decide)).mp e7
  have f1 : fB K n p 3 [fI x2] σ := by
    obtain ⟨w, e6, e7⟩ := m4 (49, [2]) (List.mem_of_getElem? (i := 1) rfl)
    obtain rfl : [fI x2] = w := Option.some.inj (show some [fI x2] = some w from e6)
    exact (fF_b (r := 49) (by decide) rfl).mp e7
  have f2 : fB K n p 400 [fR x0, fI x2] σ := by
    obtain ⟨w, e6, e7⟩ := m4 (6402, [0, 2]) (List.mem_of_getElem? (i := 2) rfl)
    obtain rfl : [fR x0, fI x2] = w := Option.some.inj (show some [fR x0, fI x2] = some w from e6)
    exact (fF_b (r := 6402) (by decide) rfl).mp e7
  have f3 : fB K n p 240 [fR x0, fI x2] σ := by
    obtain ⟨w, e6, e7⟩ := m4 (3842, [0, 2]) (List.mem_of_getElem? (i := 3) rfl)
    obtain rfl : [fR x0, fI x2] = w := Option.some.inj (show some [fR x0, fI x2] = some w from e6)
    exact (fF_b (r := 3842) (by decide) rfl).mp e7
  have f4 : fB K n (fSh p [fI x2]) 3 [fI x3] σ := by
    obtain ⟨w, e6, e7⟩ := m4 (49, [3, 2]) (List.mem_of_getElem? (i := 4) rfl)
    obtain rfl : [fI x3, fI x2] = w := Option.some.inj (show some [fI x3, fI x2] = some w from e6)
    exact (fF_g (r := 49) (by decide)).mp e7
  have f5 : fB K n (fSh p [fI x2]) 401 [fR x0, fI x3] σ := by
    obtain ⟨w, e6, e7⟩ := m4 (6418, [0, 3, 2]) (List.mem_of_getElem? (i := 5) rfl)
    obtain rfl : [fR x0, fI x3, fI x2] = w := Option.some.inj (show some [fR x0, fI x3, fI x2] = some w from e6)
    exact (fF_g (r := 6418) (by decide)).mp e7
  have f6 : fB K n p 241 [fR x0, fI x3] σ := by
    obtain ⟨w, e6, e7⟩ := m4 (3858, [0, 3]) (List.mem_of_getElem? (i := 6) rfl)
    obtain rfl : [fR x0, fI x3] = w := Option.some.inj (show some [fR x0, fI x3] = some w from e6)
    exact (fF_b (r := 3858) (by decide) rfl).mp e7
  clear m1 m2 m3 m4
  obtain ⟨q, rfl⟩ : ∃ q, p = .inl q := by
    obtain ⟨a9, e9, hA, hg, q', hq'⟩ := f0
    rcases p with q | q
    · exact ⟨q, rfl⟩
    · cases hq'
  obtain ⟨gm, wm⟩ := fSw_ex hH b0 d0
  obtain ⟨gu, wu⟩ := fSu_ex hH b0 d0
  have e0_ : gm 0 = x2 := by
    obtain ⟨-, a, m, g, e, w, hg⟩ := (fS_o (by decide) (by decide)).mp f3
    cases e
    rw [fSw_u wm w]
    exact hg
  have e1_ : gm 1 = x3 := by
    obtain ⟨-, a, m, g, e, w, hg⟩ := (fS_o (by decide) (by decide)).mp f6
    cases e
    rw [fSw_u wm w]
    exact hg
  have E0 : fLe q gm 0 = q := by
    show q = _
    rfl
  have E1 : fLe q gm 1 = (fPl q x2) := by
    show fPl (fLe q gm 0) (gm 0) = _
    rw [E0, e0_]
  have E2 : fLe q gm 2 = (fPl (fPl q x2) x3) := by
    show fPl (fLe q gm 1) (gm 1) = _
    rw [E1, e1_]
  obtain ⟨a9, e9, hA, hg⟩ := f0
  cases e9
  have q0 : fB K n (.inl q) 403 [fR x0, fR x1, fR x0, fR x0] σ := by
    exact (fX_o (by decide)).mpr ⟨x0, x1, _, gm, gu, rfl, wm, wu, ⟨q, rfl⟩, (fun j hj => by
      have hh : j = 0 ∨ j = 1 := by have h9 : j < 2 := hj; omega
      rcases hh with rfl | rfl
      · show fM (fLe q gm 0).1 (fLe q gm 0).2 (gm 0) ∧ fU (fLe q gm 0) (gm 0) (gu 0)
        rw [E0, e0_]
        refine ⟨?_, ?_⟩
        · obtain ⟨m9, e9, h9⟩ := f1
          cases e9
          exact h9
        · obtain ⟨a9, m9, g9, e9, w9, h9, -⟩ := (fX_o (by decide)).mp f2
          cases e9
          rw [fSu_u wu w9]
          exact h9
      · show fM (fLe q gm 1).1 (fLe q gm 1).2 (gm 1) ∧ fU (fLe q gm 1) (gm 1) (gu 1)
        rw [E1, e1_]
        refine ⟨?_, ?_⟩
        · obtain ⟨m9, e9, h9⟩ := f4
          cases e9
          exact h9
        · obtain ⟨a9, m9, g9, e9, w9, h9, -⟩ := (fX_o (by decide)).mp f5
          cases e9
          rw [fSu_u wu w9]
          exact h9
    ), (fun j hj => by
      have hh : j = 0 ∨ j = 1 ∨ j = 2 := by have h9 : j ≤ 2 := hj; omega
      rcases hh with rfl | rfl | rfl
      · show fGood (fLe q gm 0).1 (fLe q gm 0).2
        rw [E0]
        obtain ⟨a9, m9, g9, e9, w9, h9, hk9⟩ := (fX_o (by decide)).mp f2
        exact hk9.1
      · show fGood (fLe q gm 1).1 (fLe q gm 1).2
        rw [E1]
        obtain ⟨a9, m9, g9, e9, w9, h9, hk9⟩ := (fX_o (by decide)).mp f5
        exact hk9.1
      · show fGood (fLe q gm 2).1 (fLe q gm 2).2
        rw [E2]
        exact hg.1
    ), (show fAt K n σ x1 (fLe q gm 2).1 (fLe q gm 2).2 from by rw [E2]; exact hA)⟩
  exact ⟨.inl q, fun _ => rfl, ⟨(fun q h => by cases h), fun q h => (by cases h), (fun f h => by cases h), (aAllc ⟨_, rfl, (fF_b (r := 6452) (by decide) rfl).mpr q0⟩ (fun f h => by cases h))⟩, [], List.mem_cons_self, fun f h => (by cases h)⟩
set_option maxRecDepth 8192 in
theorem rw_ruLNb2 {K : Nat → Nat} {n : Nat} : aGho (fF K n) fa_T K n (fJX K n) ag_ruLNb2 := by
  refine aGho_of ⟨rfl, rfl⟩ ?_
  intro p σ ρ hH hX hA hM
  have hG := aAG_of hA.1 (fun i e v he hv => (hA.2 i e v he hv).1)
  clear hA
  obtain ⟨v0, v1, v2, v3, v4, v5, rfl, g0, g1, g2, g3, g4, g5⟩ := fA_6 hG
  clear hG
  obtain ⟨x0, rfl, b0, d0⟩ := fG_ref (by decide) g0
  obtain ⟨x1, rfl, b1, d1⟩ := fG_ref (by decide) g1
  obtain ⟨x2, rfl, b2, d2⟩ := aG_int g2
  dsimp only at b2 d2
  obtain ⟨x3, rfl, b3, d3⟩ := aG_int g3
  dsimp only at b3 d3
  obtain ⟨x4, rfl, b4, d4⟩ := aG_int g4
  dsimp only at b4 d4
  obtain ⟨x5, rfl, b5, d5⟩ := aG_int g5
  dsimp only at b5 d5
  obtain ⟨m1, m2, m3, m4⟩ := hM
  have f0 : fB K n (fSh p [fI x3, fI x2]) 1 [fR x1] σ := by
    obtain ⟨w, e6, e7⟩ := m4 (17, [1, 3, 2]) (List.mem_of_getElem? (i := 0) rfl)
    obtain rfl : [fR x1, fI x3, fI x2] = w := Option.some.inj (show some [fR x1, fI x3, fI x2] = some w from e6)
    exact (fF_g (r := 17) (by decide)).mp e7
  have f1 : fB K n p 3 [fI x2] σ := by
    obtain ⟨w, e6, e7⟩ := m4 (49, [2]) (List.mem_of_getElem? (i := 1) rfl)
    obtain rfl : [fI x2] = w := Option.some.inj (show some [fI x2] = some w from e6)
    exact (fF_b (r := 49) (by decide) rfl).mp e7
  have f2 : fB K n p 400 [fR x0, fI x2] σ := by
    obtain ⟨w, e6, e7⟩ := m4 (6402, [0, 2]) (List.mem_of_getElem? (i := 2) rfl)
    obtain rfl : [fR x0, fI x2] = w := Option.some.inj (show some [fR x0, fI x2] = some w from e6)
    exact (fF_b (r := 6402) (by decide) rfl).mp e7
  have f3 : fB K n p 240 [fR x0, fI x2] σ := by
    obtain ⟨w, e6, e7⟩ := m4 (3842, [0, 2]) (List.mem_of_getElem? (i := 3) rfl)
    obtain rfl : [fR x0, fI x2] = w := Option.some.inj (show some [fR x0, fI x2] = some w from e6)
    exact (fF_b (r := 3842) (by decide) rfl).mp e7
  have f4 : fB K n (fSh p [fI x2]) 3 [fI x3] σ := by
    obtain ⟨w, e6, e7⟩ := m4 (49, [3, 2]) (List.mem_of_getElem? (i := 4) rfl)
    obtain rfl : [fI x3, fI x2] = w := Option.some.inj (show some [fI x3, fI x2] = some w from e6)
    exact (fF_g (r := 49) (by decide)).mp e7
  have f5 : fB K n (fSh p [fI x2]) 401 [fR x0, fI x3] σ := by
    obtain ⟨w, e6, e7⟩ := m4 (6418, [0, 3, 2]) (List.mem_of_getElem? (i := 5) rfl)
    obtain rfl : [fR x0, fI x3, fI x2] = w := Option.some.inj (show some [fR x0, fI x3, fI x2] = some w from e6)
    exact (fF_g (r := 6418) (by decide)).mp e7
  have f6 : fB K n p 241 [fR x0, fI x3] σ := by
    obtain ⟨w, e6, e7⟩ := m4 (3858, [0, 3]) (List.mem_of_getElem? (i := 6) rfl)
    obtain rfl : [fR x0, fI x3] = w := Option.some.inj (show some [fR x0, fI x3] = some w from e6)
    exact (fF_b (r := 3858) (by decide) rfl).mp e7
  have f7 : fB K n (fSh p [fI x3, fI x2]) 3 [fI x4] σ := by
    obtain ⟨w, e6, e7⟩ := m4 (49, [4, 3, 2]) (List.mem_of_getElem? (i := 7) rfl)
    obtain rfl : [fI x4, fI x3, fI x2] = w := Option.some.inj (show some [fI x4, fI x3, fI x2] = some w from e6)
    exact (fF_g (r := 49) (by decide)).mp e7
  clear m1 m2 m3 m4
  obtain ⟨q, rfl⟩ : ∃ q, p = .inl q := by
    obtain ⟨a9, e9, hA, hg, q', hq'⟩ := f0
    rcases p with q | q
    · exact ⟨q, rfl⟩
    · cases hq'
  obtain ⟨gm, wm⟩ := fSw_ex hH b0 d0
  obtain ⟨gu, wu⟩ := fSu_ex hH b0 d0
  have e0_ : gm 0 = x2 := by
    obtain ⟨-, a, m, g, e, w, hg⟩ := (fS_o (by decide) (by decide)).mp f3
    cases e
    rw [fSw_u wm w]
    exact hg
  have e1_ : gm 1 = x3 := by
    obtain ⟨-, a, m, g, e, w, hg⟩ := (fS_o (by decide) (by decide)).mp f6
    cases e
    rw [fSw_u wm w]
    exact hg
  have E0 : fLe q gm 0 = q := by
    show q = _
    rfl
  have E1 : fLe q gm 1 = (fPl q x2) := by
    show fPl (fLe q gm 0) (gm 0) = _
    rw [E0, e0_]
  have E2 : fLe q gm 2 = (fPl (fPl q x2) x3) := by
    show fPl (fLe q gm 1) (gm 1) = _
    rw [E1, e1_]
  obtain ⟨a9, e9, hA, hg⟩ := f0
  cases e9
  have q0 : fB K n (.inl q) 409 [fR x0, fR x1, fI x4, fR x0, fR x0] σ := by
    refine (fX_o (by decide)).mpr ⟨x0, x1, x4, _, gm, gu, rfl, wm, wu, ⟨q, rfl⟩, (fun j hj => by
      have hh : j = 0 ∨ j = 1 := by have h9 : j < 2 := hj; omega
      rcases hh with rfl | rfl
      · show fM (fLe q gm 0).1 (fLe q gm 0).2 (gm 0) ∧ fU (fLe q gm 0) (gm 0) (gu 0)
        rw [E0, e0_]
        refine ⟨?_, ?_⟩
        · obtain ⟨m9, e9, h9⟩ := f1
          cases e9
          exact h9
        · obtain ⟨a9, m9, g9, e9, w9, h9, -⟩ := (fX_o (by decide)).mp f2
          cases e9
          rw [fSu_u wu w9]
          exact h9
      · show fM (fLe q gm 1).1 (fLe q gm 1).2 (gm 1) ∧ fU (fLe q gm 1) (gm 1) (gu 1)
        rw [E1, e1_]
        refine ⟨?_, ?_⟩
        · obtain ⟨m9, e9, h9⟩ := f4
          cases e9
          exact h9
        · obtain ⟨a9, m9, g9, e9, w9, h9, -⟩ := (fX_o (by decide)).mp f5
          cases e9
          rw [fSu_u wu w9]
          exact h9
    ), (fun j hj => by
      have hh : j = 0 ∨ j = 1 ∨ j = 2 := by have h9 : j ≤ 2 := hj; omega
      rcases hh with rfl | rfl | rfl
      · show fGood (fLe q gm 0).1 (fLe q gm 0).2
        rw [E0]
        obtain ⟨a9, m9, g9, e9, w9, h9, hk9⟩ := (fX_o (by decide)).mp f2
        exact hk9.1
      · show fGood (fLe q gm 1).1 (fLe q gm 1).2
        rw [E1]
        obtain ⟨a9, m9, g9, e9, w9, h9, hk9⟩ := (fX_o (by decide)).mp f5
        exact hk9.1
      · show fGood (fLe q gm 2).1 (fLe q gm 2).2
        rw [E2]
        exact hg.1
    ), (show fAt K n σ x1 (fLe q gm 2).1 (fLe q gm 2).2 from by rw [E2]; exact hA), ?_⟩
    show fM (fLe q gm 2).1 (fLe q gm 2).2 x4
    rw [E2]
    obtain ⟨m9, e9, h9⟩ := f7
    cases e9
    exact h9
  exact ⟨.inl q, fun _ => rfl, ⟨(fun q h => by cases h), fun q h => (by cases h), (fun f h => by cases h), (aAllc ⟨_, rfl, (fF_b (r := 6549) (by decide) rfl).mpr q0⟩ (fun f h => by cases h))⟩, [], List.mem_cons_self, fun f h => (by cases h)⟩
set_option maxRecDepth 8192 in
theorem rw_ruLNu2 {K : Nat → Nat} {n : Nat} : aGho (fF K n) fa_T K n (fJX K n) ag_ruLNu2 := by
  refine aGho_of ⟨rfl, rfl⟩ ?_
  intro p σ ρ hH hX hA hM
  have hG := aAG_of hA.1 (fun i e v he hv => (hA.2 i e v he hv).1)
  clear hA
  obtain ⟨v0, v1, v2, v3, v4, rfl, g0, g1, g2, g3, g4⟩ := fA_5 hG
  clear hG
  obtain ⟨x0, rfl, b0, d0⟩ := fG_ref (by decide) g0
  obtain ⟨x1, rfl, b1, d1⟩ := fG_ref (by decide) g1
  obtain ⟨x2, rfl, b2, d2⟩ := aG_int g2
  dsimp only at b2 d2
  obtain ⟨x3, rfl, b3, d3⟩ := aG_int g3
  dsimp only at b3 d3
  obtain ⟨x4, rfl, b4, d4⟩ := fG_ref (by decide) g4
  obtain ⟨m1, m2, m3, m4⟩ := hM
  obtain ⟨a0, c0, fs0, w0, e1, s0, t0, e4⟩ := m1 (0, 2, 4) (List.mem_of_getElem? (i := 0) rfl)
  obtain rfl : x0 = a0 := Sum.inl.inj (Option.some.inj (Sum.inr.inj (Sum.inr.inj (Option.some.inj (show some (fR x0) = some _ from e1)))))
  obtain rfl : fR x4 = w0 := Option.some.inj (show some (fR x4) = some w0 from e4)
  clear e1 e4
  obtain ⟨a, mc0, ty0, gc0, ic0, e1, sc0, jc0, e4, e5⟩ := m2 (4, ([], 0), 2) (List.mem_of_getElem? (i := 0) rfl)
  obtain rfl : x4 = a := Sum.inl.inj (Option.some.inj (Sum.inr.inj (Sum.inr.inj (Option.some.inj (show some (fR x4) = some _ from e1)))))
  obtain ⟨gc0, rfl⟩ : ∃ g, gc0 = .inl g := by
    rcases gc0 with g | g
    · exact ⟨g, rfl⟩
    · exact absurd (show some (fI x2) = some (.inr (.inl (g ic0))) from e5) (fun h => by cases h)
  have sc0 : σ x4 = .inl (ty0, mc0, .inl gc0) := sc0
  have ec0 : x2 = gc0 ic0 := Sum.inl.inj (Option.some.inj (show some (fI x2) = some _ from e5))
  have kc0 : (ic0 : Int) = 0 + 0 := by
    obtain ⟨z, e6, e7⟩ := e4
    obtain rfl : 0 = z := Option.some.inj (show some 0 = some z from e6)
    exact e7
  clear e1 e4 e5
  obtain ⟨a, mc1, ty1, gc1, ic1, e1, sc1, jc1, e4, e5⟩ := m2 (4, ([], 1), 3) (List.mem_of_getElem? (i := 1) rfl)
  obtain rfl : x4 = a := Sum.inl.inj (Option.some.inj (Sum.inr.inj (Sum.inr.inj (Option.some.inj (show some (fR x4) = some _ from e1)))))
  obtain ⟨gc1, rfl⟩ : ∃ g, gc1 = .inl g := by
    rcases gc1 with g | g
    · exact ⟨g, rfl⟩
    · exact absurd (show some (fI x3) = some (.inr (.inl (g ic1))) from e5) (fun h => by cases h)
  have sc1 : σ x4 = .inl (ty1, mc1, .inl gc1) := sc1
  have ec1 : x3 = gc1 ic1 := Sum.inl.inj (Option.some.inj (show some (fI x3) = some _ from e5))
  have kc1 : (ic1 : Int) = 0 + 1 := by
    obtain ⟨z, e6, e7⟩ := e4
    obtain rfl : 0 = z := Option.some.inj (show some 0 = some z from e6)
    exact e7
  clear e1 e4 e5
  have f0 : fB K n p 403 [fR x0, fR x1, fR x0, fR x0] σ := by
    obtain ⟨w, e6, e7⟩ := m4 (6452, [0, 1, 0, 0]) (List.mem_of_getElem? (i := 0) rfl)
    obtain rfl : [fR x0, fR x1, fR x0, fR x0] = w := Option.some.inj (show some [fR x0, fR x1, fR x0, fR x0] = some w from e6)
    exact (fF_b (r := 6452) (by decide) rfl).mp e7
  clear m1 m2 m3 m4
  obtain ⟨a, b, rest, gm, gu, e, wm, wu, ⟨q, hq⟩, hS, hG, hA⟩ := (fX_o (by decide)).mp f0
  cases e
  subst hq
  have e0_ : gm 0 = x2 := by
    rw [fSw_c wm s0 t0 sc0, show 0 = ic0 by omega]
    exact ec0.symm
  have e1_ : gm 1 = x3 := by
    rw [fSw_c wm s0 t0 sc1, show 1 = ic1 by omega]
    exact ec1.symm
  have E0 : fLe q gm 0 = q := by
    show q = _
    rfl
  have E1 : fLe q gm 1 = (fPl q x2) := by
    show fPl (fLe q gm 0) (gm 0) = _
    rw [E0, e0_]
  have E2 : fLe q gm 2 = (fPl (fPl q x2) x3) := by
    show fPl (fLe q gm 1) (gm 1) = _
    rw [E1, e1_]
  have hG2_ : fGood (fLe q gm 2).1 (fLe q gm 2).2 := hG 2 (Nat.le_refl _)
  have hA_ : fAt K n σ x1 (fLe q gm 2).1 (fLe q gm 2).2 := hA
  rw [E2] at hG2_ hA_
  have q0 : fB K n (fSh (.inl q) [fI x3, fI x2]) 1 [fR x1] σ := by
    exact ⟨x1, rfl, hA_, hG2_, _, rfl⟩
  have q1 : fB K n (.inl q) 3 [fI x2] σ := by
    have h8 : fM (fLe q gm 0).1 (fLe q gm 0).2 (gm 0) := (hS 0 (show 0 < 2 by decide)).1
    rw [E0, e0_] at h8
    exact ⟨_, rfl, h8⟩
  have q2 : fB K n (.inl q) 400 [fR x0, fI x2] σ := by
    have h9 : fU (fLe q gm 0) (gm 0) (gu 0) := (hS 0 (show 0 < 2 by decide)).2
    have h8 : fGood (fLe q gm 0).1 (fLe q gm 0).2 := hG 0 (show 0 ≤ 2 by decide)
    rw [E0, e0_] at h9
    rw [E0] at h8
    exact (fX_o (by decide)).mpr ⟨_, _, gu, rfl, wu, h9, h8, _, rfl⟩
  have q3 : fB K n (.inl q) 240 [fR x0, fI x2] σ := by
    exact (fS_o (by decide) (by decide)).mpr ⟨by decide, _, _, gm, rfl, wm, e0_⟩
  have q4 : fB K n (fSh (.inl q) [fI x2]) 3 [fI x3] σ := by
    have h8 : fM (fLe q gm 1).1 (fLe q gm 1).2 (gm 1) := (hS 1 (show 1 < 2 by decide)).1
    rw [E1, e1_] at h8
    exact ⟨_, rfl, h8⟩
  have q5 : fB K n (fSh (.inl q) [fI x2]) 401 [fR x0, fI x3] σ := by
    have h9 : fU (fLe q gm 1) (gm 1) (gu 1) := (hS 1 (show 1 < 2 by decide)).2
    have h8 : fGood (fLe q gm 1).1 (fLe q gm 1).2 := hG 1 (show 1 ≤ 2 by decide)
    rw [E1, e1_] at h9
    rw [E1] at h8
    exact (fX_o (by decide)).mpr ⟨_, _, gu, rfl, wu, h9, h8, _, rfl⟩
  have q6 : fB K n (.inl q) 241 [fR x0, fI x3] σ := by
    exact (fS_o (by decide) (by decide)).mpr ⟨by decide, _, _, gm, rfl, wm, e1_⟩
  exact ⟨.inl q, fun _ => rfl, ⟨(fun q h => by cases h), fun q h => (by cases h), (fun f h => by cases h), (aAllc ⟨_, rfl, (fF_g (r := 17) (by decide)).mpr q0⟩ (aAllc ⟨_, rfl, (fF_b (r := 49) (by decide) rfl).mpr q1⟩ (aAllc ⟨_, rfl, (fF_b (r := 6402) (by decide) rfl).mpr q2⟩ (aAllc ⟨_, rfl, (fF_b (r := 3842) (by decide) rfl).mpr q3⟩ (aAllc ⟨_, rfl, (fF_g (r := 49) (by decide)).mpr q4⟩ (aAllc ⟨_, rfl, (fF_g (r := 6418) (by decide)).mpr q5⟩ (aAllc ⟨_, rfl, (fF_b (r := 3858) (by decide) rfl).mpr q6⟩ (fun f h => by cases h))))))))⟩, [], List.mem_cons_self, fun f h => (by cases h)⟩
set_option maxRecDepth 8192 in
theorem rw_ruLNv2 {K : Nat → Nat} {n : Nat} : aGho (fF K n) fa_T K n (fJX K n) ag_ruLNv2 := by
  refine aGho_of ⟨rfl, rfl⟩ ?_
  intro p σ ρ hH hX hA hM
  have hG := aAG_of hA.1 (fun i e v he hv => (hA.2 i e v he hv).1)
  clear hA
  obtain ⟨v0, v1, v2, v3, v4, v5, rfl, g0, g1, g2, g3, g4, g5⟩ := fA_6 hG
  clear hG
  obtain ⟨x0, rfl, b0, d0⟩ := fG_ref (by decide) g0
  obtain ⟨x1, rfl, b1, d1⟩ := fG_ref (by decide) g1
  obtain ⟨x2, rfl, b2, d2⟩ := aG_int g2
  dsimp only at b2 d2
  obtain ⟨x3, rfl, b3, d3⟩ := aG_int g3
  dsimp only at b3 d3
  obtain ⟨x4, rfl, b4, d4⟩ := aG_int g4
  dsimp only at b4 d4
  obtain ⟨x5, rfl, b5, d5⟩ := fG_ref (by decide) g5
  obtain ⟨m1, m2, m3, m4⟩ := hM
  obtain ⟨a0, c0, fs0, w0, e1, s0, t0, e4⟩ := m1 (0, 2, 5) (List.mem_of_getElem? (i := 0) rfl)
  obtain rfl : x0 = a0 := Sum.inl.inj (Option.some.inj (Sum.inr.inj (Sum.inr.inj (Option.some.inj (show some (fR x0) = some _ from e1)))))
  obtain rfl : fR x5 = w0 := Option.some.inj (show some (fR x5) = some w0 from e4)
  clear e1 e4
  obtain ⟨a, mc0, ty0, gc0, ic0, e1, sc0, jc0, e4, e5⟩ := m2 (5, ([], 0), 2) (List.mem_of_getElem? (i := 0) rfl)
  obtain rfl : x5 = a := Sum.inl.inj (Option.some.inj (Sum.inr.inj (Sum.inr.inj (Option.some.inj (show some (fR x5) = some _ from e1)))))
  obtain ⟨gc0, rfl⟩ : ∃ g, gc0 = .inl g := by
    rcases gc0 with g | g
    · exact ⟨g, rfl⟩
    · exact absurd (show some (fI x2) = some (.inr (.inl (g ic0))) from e5) (fun h => by cases h)
  have sc0 : σ x5 = .inl (ty0, mc0, .inl gc0) := sc0
  have ec0 : x2 = gc0 ic0 := Sum.inl.inj (Option.some.inj (show some (fI x2) = some _ from e5))
  have kc0 : (ic0 : Int) = 0 + 0 := by
    obtain ⟨z, e6, e7⟩ := e4
    obtain rfl : 0 = z := Option.some.inj (show some 0 = some z from e6)
    exact e7
  clear e1 e4 e5
  obtain ⟨a, mc1, ty1, gc1, ic1, e1, sc1, jc1, e4, e5⟩ := m2 (5, ([], 1), 3) (List.mem_of_getElem? (i := 1) rfl)
  obtain rfl : x5 = a := Sum.inl.inj (Option.some.inj (Sum.inr.inj (Sum.inr.inj (Option.some.inj (show some (fR x5) = some _ from e1)))))
  obtain ⟨gc1, rfl⟩ : ∃ g, gc1 = .inl g := by
    rcases gc1 with g | g
    · exact ⟨g, rfl⟩
    · exact absurd (show some (fI x3) = some (.inr (.inl (g ic1))) from e5) (fun h => by cases h)
  have sc1 : σ x5 = .inl (ty1, mc1, .inl gc1) := sc1
  have ec1 : x3 = gc1 ic1 := Sum.inl.inj (Option.some.inj (show some (fI x3) = some _ from e5))
  have kc1 : (ic1 : Int) = 0 + 1 := by
    obtain ⟨z, e6, e7⟩ := e4
    obtain rfl : 0 = z := Option.some.inj (show some 0 = some z from e6)
    exact e7
  clear e1 e4 e5
  have f0 : fB K n p 409 [fR x0, fR x1, fI x4, fR x0, fR x0] σ := by
    obtain ⟨w, e6, e7⟩ := m4 (6549, [0, 1, 4, 0, 0]) (List.mem_of_getElem? (i := 0) rfl)
    obtain rfl : [fR x0, fR x1, fI x4, fR x0, fR x0] = w := Option.some.inj (show some [fR x0, fR x1, fI x4, fR x0, fR x0] = some w from e6)
    exact (fF_b (r := 6549) (by decide) rfl).mp e7
  clear m1 m2 m3 m4
  obtain ⟨a, b, m, rest, gm, gu, e, wm, wu, ⟨q, hq⟩, hS, hG, hA, hM⟩ := (fX_o (by decide)).mp f0
  cases e
  subst hq
  have e0_ : gm 0 = x2 := by
    rw [fSw_c wm s0 t0 sc0, show 0 = ic0 by omega]
    exact ec0.symm
  have e1_ : gm 1 = x3 := by
    rw [fSw_c wm s0 t0 sc1, show 1 = ic1 by omega]
    exact ec1.symm
  have E0 : fLe q gm 0 = q := by
    show q = _
    rfl
  have E1 : fLe q gm 1 = (fPl q x2) := by
    show fPl (fLe q gm 0) (gm 0) = _
    rw [E0, e0_]
  have E2 : fLe q gm 2 = (fPl (fPl q x2) x3) := by
    show fPl (fLe q gm 1) (gm 1) = _
    rw [E1, e1_]
  have hG2_ : fGood (fLe q gm 2).1 (fLe q gm 2).2 := hG 2 (Nat.le_refl _)
  have hA_ : fAt K n σ x1 (fLe q gm 2).1 (fLe q gm 2).2 := hA
  rw [E2] at hG2_ hA_
  have q0 : fB K n (fSh (.inl q) [fI x3, fI x2]) 1 [fR x1] σ := by
    exact ⟨x1, rfl, hA_, hG2_, _, rfl⟩
  have q1 : fB K n (.inl q) 3 [fI x2] σ := by
    have h8 : fM (fLe q gm 0).1 (fLe q gm 0).2 (gm 0) := (hS 0 (show 0 < 2 by decide)).1
    rw [E0, e0_] at h8
    exact ⟨_, rfl, h8⟩
  have q2 : fB K n (.inl q) 400 [fR x0, fI x2] σ := by
    have h9 : fU (fLe q gm 0) (gm 0) (gu 0) := (hS 0 (show 0 < 2 by decide)).2
    have h8 : fGood (fLe q gm 0).1 (fLe q gm 0).2 := hG 0 (show 0 ≤ 2 by decide)
    rw [E0, e0_] at h9
    rw [E0] at h8
    exact (fX_o (by decide)).mpr ⟨_, _, gu, rfl, wu, h9, h8, _, rfl⟩
  have q3 : fB K n (.inl q) 240 [fR x0, fI x2] σ := by
    exact (fS_o (by decide) (by decide)).mpr ⟨by decide, _, _, gm, rfl, wm, e0_⟩
  have q4 : fB K n (fSh (.inl q) [fI x2]) 3 [fI x3] σ := by
    have h8 : fM (fLe q gm 1).1 (fLe q gm 1).2 (gm 1) := (hS 1 (show 1 < 2 by decide)).1
    rw [E1, e1_] at h8
    exact ⟨_, rfl, h8⟩
  have q5 : fB K n (fSh (.inl q) [fI x2]) 401 [fR x0, fI x3] σ := by
    have h9 : fU (fLe q gm 1) (gm 1) (gu 1) := (hS 1 (show 1 < 2 by decide)).2
    have h8 : fGood (fLe q gm 1).1 (fLe q gm 1).2 := hG 1 (show 1 ≤ 2 by decide)
    rw [E1, e1_] at h9
    rw [E1] at h8
    exact (fX_o (by decide)).mpr ⟨_, _, gu, rfl, wu, h9, h8, _, rfl⟩
  have q6 : fB K n (.inl q) 241 [fR x0, fI x3] σ := by
    exact (fS_o (by decide) (by decide)).mpr ⟨by decide, _, _, gm, rfl, wm, e1_⟩
  have q7 : fB K n (fSh (.inl q) [fI x3, fI x2]) 3 [fI x4] σ := by
    have h9 : fM (fLe q gm 2).1 (fLe q gm 2).2 x4 := hM
    rw [E2] at h9
    exact ⟨_, rfl, h9⟩
  exact ⟨.inl q, fun _ => rfl, ⟨(fun q h => by cases h), fun q h => (by cases h), (fun f h => by cases h), (aAllc ⟨_, rfl, (fF_g (r := 17) (by decide)).mpr q0⟩ (aAllc ⟨_, rfl, (fF_b (r := 49) (by decide) rfl).mpr q1⟩ (aAllc ⟨_, rfl, (fF_b (r := 6402) (by decide) rfl).mpr q2⟩ (aAllc ⟨_, rfl, (fF_b (r := 3842) (by decide) rfl).mpr q3⟩ (aAllc ⟨_, rfl, (fF_g (r := 49) (by decide)).mpr q4⟩ (aAllc ⟨_, rfl, (fF_g (r := 6418) (by decide)).mpr q5⟩ (aAllc ⟨_, rfl, (fF_b (r := 3858) (by decide) rfl).mpr q6⟩ (aAllc ⟨_, rfl, (fF_g (r := 49) (by decide)).mpr q7⟩ (fun f h => by cases h)))))))))⟩, [], List.mem_cons_self, fun f h => (by cases h)⟩
set_option maxRecDepth 8192 in
theorem rw_ruLNp3 {K : Nat → Nat} {n : Nat} : aGho (fF K n) fa_T K n (fJX K n) ag_ruLNp3 := by
  refine aGho_of ⟨rfl, rfl⟩ ?_
  intro p σ ρ hH hX hA hM
  have hG := aAG_of hA.1 (fun i e v he hv => (hA.2 i e v he hv).1)
  clear hA
  obtain ⟨v0, v1, v2, v3, v4, v5, rfl, g0, g1, g2, g3, g4, g5⟩ := fA_6 hG
  clear hG
  obtain ⟨x0, rfl, b0, d0⟩ := fG_ref (by decide) g0
  obtain ⟨x1, rfl, b1, d1⟩ := fG_ref (by decide) g1
  obtain ⟨x2, rfl, b2, d2⟩ := aG_int g2
  dsimp only at b2 d2
  obtain ⟨x3, rfl, b3, d3⟩ := aG_int g3
  dsimp only at b3 d3
  obtain ⟨x4, rfl, b4, d4⟩ := aG_int g4
  dsimp only at b4 d4
  obtain ⟨x5, rfl, b5, d5⟩ := aG_int g5
  dsimp only at b5 d5
  obtain ⟨m1, m2, m3, m4⟩ := hM
  have f0 : fB K n (fSh p [fI x4, fI x3, fI x2]) 1 [fR x1] σ := by
    obtain ⟨w, e6, e7⟩ := m4 (17, [1, 4, 3, 2]) (List.mem_of_getElem? (i := 0) rfl)
    obtain rfl : [fR x1, fI x4, fI x3, fI x2] = w := Option.some.inj (show some [fR x1, fI x4, fI x3, fI x2] = some w from e6)
    exact (fF_g (r := 17) (by decide)).mp e7
  have f1 : fB K n p 3 [fI x2] σ := by
    obtain ⟨w, e6, e7⟩ := m4 (49, [2]) (List.mem_of_getElem? (i := 1) rfl)
    obtain rfl : [fI x2] = w := Option.some.inj (show some [fI x2] = some w from e6)
    exact (fF_b (r := 49) (by decide) rfl).mp e7
  have f2 : fB K n p 400 [fR x0, fI x2] σ := by
    obtain ⟨w, e6, e7⟩ := m4 (6402, [0, 2]) (List.mem_of_getElem? (i := 2) rfl)
    obtain rfl : [fR x0, fI x2] = w := Option.some.inj (show some [fR x0, fI x2] = some w from e6)
    exact (fF_b (r := 6402) (by decide) rfl).mp e7
  have f3 : fB K n p 240 [fR x0, fI x2] σ := by
    obtain ⟨w, e6, e7⟩ := m4 (3842, [0, 2]) (List.mem_of_getElem? (i := 3) rfl)
    obtain rfl : [fR x0, fI x2] = w := Option.some.inj (show some [fR x0, fI x2] = some w from e6)
    exact (fF_b (r := 3842) (by decide) rfl).mp e7
  have f4 : fB K n (fSh p [fI x2]) 3 [fI x3] σ := by
    obtain ⟨w, e6, e7⟩ := m4 (49, [3, 2]) (List.mem_of_getElem? (i := 4) rfl)
    obtain rfl : [fI x3, fI x2] = w := Option.some.inj (show some [fI x3, fI x2] = some w from e6)
    exact (fF_g (r := 49) (by decide)).mp e7
  have f5 : fB K n (fSh p [fI x2]) 401 [fR x0, fI x3] σ := by
    obtain ⟨w, e6, e7⟩ := m4 (6418, [0, 3, 2]) (List.mem_of_getElem? (i := 5) rfl)
    obtain rfl : [fR x0, fI x3, fI x2] = w := Option.some.inj (show some [fR x0, fI x3, fI x2] = some w from e6)
    exact (fF_g (r := 6418) (by decide)).mp e7
  have f6 : fB K n p 241 [fR x0, fI x3] σ := by
    obtain ⟨w, e6, e7⟩ := m4 (3858, [0, 3]) (List.mem_of_getElem? (i := 6) rfl)
    obtain rfl : [fR x0, fI x3] = w := Option.some.inj (show some [fR x0, fI x3] = some w from e6)
    exact (fF_b (r := 3858) (by decide) rfl).mp e7
  have f7 : fB K n (fSh p [fI x3, fI x2]) 3 [fI x4] σ := by
    obtain ⟨w, e6, e7⟩ := m4 (49, [4, 3, 2]) (List.mem_of_getElem? (i := 7) rfl)
    obtain rfl : [fI x4, fI x3, fI x2] = w := Option.some.inj (show some [fI x4, fI x3, fI x2] = some w from e6)
    exact (fF_g (r := 49) (by decide)).mp e7
  have f8 : fB K n (fSh p [fI x3, fI x2]) 402 [fR x0, fI x4] σ := by
    obtain ⟨w, e6, e7⟩ := m4 (6434, [0, 4, 3, 2]) (List.mem_of_getElem? (i := 8) rfl)
    obtain rfl : [fR x0, fI x4, fI x3, fI x2] = w := Option.some.inj (show some [fR x0, fI x4, fI x3, fI x2] = some w from e6)
    exact (fF_g (r := 6434) (by decide)).mp e7
  have f9 : fB K n p 242 [fR x0, fI x4] σ := by
    obtain ⟨w, e6, e7⟩ := m4 (3874, [0, 4]) (List.mem_of_getElem? (i := 9) rfl)
    obtain rfl : [fR x0, fI x4] = w := Option.some.inj (show some [fR x0, fI x4] = some w from e6)
    exact (fF_b (r := 3874) (by decide) rfl).mp e7
  clear m1 m2 m3 m4
  obtain ⟨q, rfl⟩ : ∃ q, p = .inl q := by
    obtain ⟨a9, e9, hA, hg, q', hq'⟩ := f0
    rcases p with q | q
    · exact ⟨q, rfl⟩
    · cases hq'
  obtain ⟨gm, wm⟩ := fSw_ex hH b0 d0
  obtain ⟨gu, wu⟩ := fSu_ex hH b0 d0
  have e0_ : gm 0 = x2 := by
    obtain ⟨-, a, m, g, e, w, hg⟩ := (fS_o (by decide) (by decide)).mp f3
    cases e
    rw [fSw_u wm w]
    exact hg
  have e1_ : gm 1 = x3 := by
    obtain ⟨-, a, m, g, e, w, hg⟩ := (fS_o (by decide) (by decide)).mp f6
    cases e
    rw [fSw_u wm w]
    exact hg
  have e2_ : gm 2 = x4 := by
    obtain ⟨-, a, m, g, e, w, hg⟩ := (fS_o (by decide) (by decide)).mp f9
    cases e
    rw [fSw_u wm w]
    exact hg
  have E0 : fLe q gm 0 = q := by
    show q = _
    rfl
  have E1 : fLe q gm 1 = (fPl q x2) := by
    show fPl (fLe q gm 0) (gm 0) = _
    rw [E0, e0_]
  have E2 : fLe q gm 2 = (fPl (fPl q x2) x3) := by
    show fPl (fLe q gm 1) (gm 1) = _
    rw [E1, e1_]
  have E3 : fLe q gm 3 = (fPl (fPl (fPl q x2) x3) x4) := by
    show fPl (fLe q gm 2) (gm 2) = _
    rw [E2, e2_]
  obtain ⟨a9, e9, hA, hg⟩ := f0
  cases e9
  have q0 : fB K n (.inl q) 403 [fR x0, fR x1, fR x0, fR x0, fR x0] σ := by
    exact (fX_o (by decide)).mpr ⟨x0, x1, _, gm, gu, rfl, wm, wu, ⟨q, rfl⟩, (fun j hj => by
      have hh : j = 0 ∨ j = 1 ∨ j = 2 := by have h9 : j < 3 := hj; omega
      rcases hh with rfl | rfl | rfl
      · show fM (fLe q gm 0).1 (fLe q gm 0).2 (gm 0) ∧ fU (fLe q gm 0) (gm 0) (gu 0)
        rw [E0, e0_]
        refine ⟨?_, ?_⟩
        · obtain ⟨m9, e9, h9⟩ := f1
          cases e9
          exact h9
        · obtain ⟨a9, m9, g9, e9, w9, h9, -⟩ := (fX_o (by decide)).mp f2
          cases e9
          rw [fSu_u wu w9]
          exact h9
      · show fM (fLe q gm 1).1 (fLe q gm 1).2 (gm 1) ∧ fU (fLe q gm 1) (gm 1) (gu 1)
        rw [E1, e1_]
        refine ⟨?_, ?_⟩
        · obtain ⟨m9, e9, h9⟩ := f4
          cases e9
          exact h9
        · obtain ⟨a9, m9, g9, e9, w9, h9, -⟩ := (fX_o (by decide)).mp f5
          cases e9
          rw [fSu_u wu w9]
          exact h9
      · show fM (fLe q gm 2).1 (fLe q gm 2).2 (gm 2) ∧ fU (fLe q gm 2) (gm 2) (gu 2)
        rw [E2, e2_]
        refine ⟨?_, ?_⟩
        · obtain ⟨m9, e9, h9⟩ := f7
          cases e9
          exact h9
        · obtain ⟨a9, m9, g9, e9, w9, h9, -⟩ := (fX_o (by decide)).mp f8
          cases e9
          rw [fSu_u wu w9]
          exact h9
    ), (fun j hj => by
      have hh : j = 0 ∨ j = 1 ∨ j = 2 ∨ j = 3 := by have h9 : j ≤ 3 := hj; omega
      rcases hh with rfl | rfl | rfl | rfl
      · show fGood (fLe q gm 0).1 (fLe q gm 0).2
        rw [E0]
        obtain ⟨a9, m9, g9, e9, w9, h9, hk9⟩ := (fX_o (by decide)).mp f2
        exact hk9.1
      · show fGood (fLe q gm 1).1 (fLe q gm 1).2
        rw [E1]
        obtain ⟨a9, m9, g9, e9, w9, h9, hk9⟩ := (fX_o (by decide)).mp f5
        exact hk9.1
      · show fGood (fLe q gm 2).1 (fLe q gm 2).2
        rw [E2]
        obtain ⟨a9, m9, g9, e9, w9, h9, hk9⟩ := (fX_o (by decide)).mp f8
        exact hk9.1
      · show fGood (fLe q gm 3).1 (fLe q gm 3).2
        rw [E3]
        exact hg.1
    ), (show fAt K n σ x1 (fLe q gm 3).1 (fLe q gm 3).2 from by rw [E3]; exact hA)⟩
  exact ⟨.inl q, fun _ => rfl, ⟨(fun q h => by cases h), fun q h => (by cases h), (fun f h => by cases h), (aAllc ⟨_, rfl, (fF_b (r := 6453) (by decide) rfl).mpr q0⟩ (fun f h => by cases h))⟩, [], List.mem_cons_self, fun f h => (by cases h)⟩
set_option maxRecDepth 8192 in
theorem rw_ruLNu3 {K : Nat → Nat} {n : Nat} : aGho (fF K n) fa_T K n (fJX K n) ag_ruLNu3 := by
  refine aGho_of ⟨rfl, rfl⟩ ?_
  intro p σ ρ hH hX hA hM
  have hG := aAG_of hA.1 (fun i e v he hv => (hA.2 i e v he hv).1)
  clear hA
  obtain ⟨v0, v1, v2, v3, v4, v5, rfl, g0, g1, g2, g3, g4, g5⟩ := fA_6 hG
  clear hG
  obtain ⟨x0, rfl, b0, d0⟩ := fG_ref (by decide) g0
  obtain ⟨x1, rfl, b1, d1⟩ := fG_ref (by decide) g1
  obtain ⟨x2, rfl, b2, d2⟩ := aG_int g2
  dsimp only at b2 d2
  obtain ⟨x3, rfl, b3, d3⟩ := aG_int g3
  dsimp only at b3 d3
  obtain ⟨x4, rfl, b4, d4⟩ := aG_int g4
  dsimp only at b4 d4
  obtain ⟨x5, rfl, b5, d5⟩ := fG_ref (by decide) g5
  obtain ⟨m1, m2, m3, m4⟩ := hM
  obtain ⟨a0, c0, fs0, w0, e1, s0, t0, e4⟩ := m1 (0, 2, 5) (List.mem_of_getElem? (i := 0) rfl)
  obtain rfl : x0 = a0 := Sum.inl.inj (Option.some.inj (Sum.inr.inj (Sum.inr.inj (Option.some.inj (show some (fR x0) = some _ from e1)))))
  obtain rfl : fR x5 = w0 := Option.some.inj (show some (fR x5) = some w0 from e4)
  clear e1 e4
  obtain ⟨a, mc0, ty0, gc0, ic0, e1, sc0, jc0, e4, e5⟩ := m2 (5, ([], 0), 2) (List.mem_of_getElem? (i := 0) rfl)
  obtain rfl : x5 = a := Sum.inl.inj (Option.some.inj (Sum.inr.inj (Sum.inr.inj (Option.some.inj (show some (fR x5) = some _ from e1)))))
  obtain ⟨gc0, rfl⟩ : ∃ g, gc0 = .inl g := by
    rcases gc0 with g | g
    · exact ⟨g, rfl⟩
    · exact absurd (show some (fI x2) = some (.inr (.inl (g ic0))) from e5) (fun h => by cases h)
  have sc0 : σ x5 = .inl (ty0, mc0, .inl gc0) := sc0
  have ec0 : x2 = gc0 ic0 := Sum.inl.inj (Option.some.inj (show some (fI x2) = some _ from e5))
  have kc0 : (ic0 : Int) = 0 + 0 := by
    obtain ⟨z, e6, e7⟩ := e4
    obtain rfl : 0 = z := Option.some.inj (show some 0 = some z from e6)
    exact e7
  clear e1 e4 e5
  obtain ⟨a, mc1, ty1, gc1, ic1, e1, sc1, jc1, e4, e5⟩ := m2 (5, ([], 1), 3) (List.mem_of_getElem? (i := 1) rfl)
  obtain rfl : x5 = a := Sum.inl.inj (Option.some.inj (Sum.inr.inj (Sum.inr.inj (Option.some.inj (show some (fR x5) = some _ from e1)))))
  obtain ⟨gc1, rfl⟩ : ∃ g, gc1 = .inl g := by
    rcases gc1 with g | g
    · exact ⟨g, rfl⟩
    · exact absurd (show some (fI x3) = some (.inr (.inl (g ic1))) from e5) (fun h => by cases h)
  have sc1 : σ x5 = .inl (ty1, mc1, .inl gc1) := sc1
  have ec1 : x3 = gc1 ic1 := Sum.inl.inj (Option.some.inj (show some (fI x3) = some _ from e5))
  have kc1 : (ic1 : Int) = 0 + 1 := by
    obtain ⟨z, e6, e7⟩ := e4
    obtain rfl : 0 = z := Option.some.inj (show some 0 = some z from e6)
    exact e7
  clear e1 e4 e5
  obtain ⟨a, mc2, ty2, gc2, ic2, e1, sc2, jc2, e4, e5⟩ := m2 (5, ([], 2), 4) (List.mem_of_getElem? (i := 2) rfl)
  obtain rfl : x5 = a := Sum.inl.inj (Option.some.inj (Sum.inr.inj (Sum.inr.inj (Option.some.inj (show some (fR x5) = some _ from e1)))))
  obtain ⟨gc2, rfl⟩ : ∃ g, gc2 = .inl g := by
    rcases gc2 with g | g
    · exact ⟨g, rfl⟩
    · exact absurd (show some (fI x4) = some (.inr (.inl (g ic2))) from e5) (fun h => by cases h)
  have sc2 : σ x5 = .inl (ty2, mc2, .inl gc2) := sc2
  have ec2 : x4 = gc2 ic2 := Sum.inl.inj (Option.some.inj (show some (fI x4) = some _ from e5))
  have kc2 : (ic2 : Int) = 0 + 2 := by
    obtain ⟨z, e6, e7⟩ := e4
    obtain rfl : 0 = z := Option.some.inj (show some 0 = some z from e6)
    exact e7
  clear e1 e4 e5
  have f0 : fB K n p 403 [fR x0, fR x1, fR x0, fR x0, fR x0] σ := by
    obtain ⟨w, e6, e7⟩ := m4 (6453, [0, 1, 0, 0, 0]) (List.mem_of_getElem? (i := 0) rfl)
    obtain rfl : [fR x0, fR x1, fR x0, fR x0, fR x0] = w := Option.some.inj (show some [fR x0, fR x1, fR x0, fR x0, fR x0] = some w from e6)
    exact (fF_b (r := 6453) (by decide) rfl).mp e7
  clear m1 m2 m3 m4
  obtain ⟨a, b, rest, gm, gu, e, wm, wu, ⟨q, hq⟩, hS, hG, hA⟩ := (fX_o (by decide)).mp f0
  cases e
  subst hq
  have e0_ : gm 0 = x2 := by
    rw [fSw_c wm s0 t0 sc0, show 0 = ic0 by omega]
    exact ec0.symm
  have e1_ : gm 1 = x3 := by
    rw [fSw_c wm s0 t0 sc1, show 1 = ic1 by omega]
    exact ec1.symm
  have e2_ : gm 2 = x4 := by
    rw [fSw_c wm s0 t0 sc2, show 2 = ic2 by omega]
    exact ec2.symm
  have E0 : fLe q gm 0 = q := by
    show q = _
    rfl
  have E1 : fLe q gm 1 = (fPl q x2) := by
    show fPl (fLe q gm 0) (gm 0) = _
    rw [E0, e0_]
  have E2 : fLe q gm 2 = (fPl (fPl q x2) x3) := by
    show fPl (fLe q gm 1) (gm 1) = _
    rw [E1, e1_]
  have E3 : fLe q gm 3 = (fPl (fPl (fPl q x2) x3) x4) := by
    show fPl (fLe q gm 2) (gm 2) = _
    rw [E2, e2_]
  have hG3_ : fGood (fLe q gm 3).1 (fLe q gm 3).2 := hG 3 (Nat.le_refl _)
  have hA_ : fAt K n σ x1 (fLe q gm 3).1 (fLe q gm 3).2 := hA
  rw [E3] at hG3_ hA_
  have q0 : fB K n (fSh (.inl q) [fI x4, fI x3, fI x2]) 1 [fR x1] σ := by
    exact ⟨x1, rfl, hA_, hG3_, _, rfl⟩
  have q1 : fB K n (.inl q) 3 [fI x2] σ := by
    have h8 : fM (fLe q gm 0).1 (fLe q gm 0).2 (gm 0) := (hS 0 (show 0 < 3 by decide)).1
    rw [E0, e0_] at h8
    exact ⟨_, rfl, h8⟩
  have q2 : fB K n (.inl q) 400 [fR x0, fI x2] σ := by
    have h9 : fU (fLe q gm 0) (gm 0) (gu 0) := (hS 0 (show 0 < 3 by decide)).2
    have h8 : fGood (fLe q gm 0).1 (fLe q gm 0).2 := hG 0 (show 0 ≤ 3 by decide)
    rw [E0, e0_] at h9
    rw [E0] at h8
    exact (fX_o (by decide)).mpr ⟨_, _, gu, rfl, wu, h9, h8, _, rfl⟩
  have q3 : fB K n (.inl q) 240 [fR x0, fI x2] σ := by
    exact (fS_o (by decide) (by decide)).mpr ⟨by decide, _, _, gm, rfl, wm, e0_⟩
  have q4 : fB K n (fSh (.inl q) [fI x2]) 3 [fI x3] σ := by
    have h8 : fM (fLe q gm 1).1 (fLe q gm 1).2 (gm 1) := (hS 1 (show 1 < 3 by decide)).1
    rw [E1, e1_] at h8
    exact ⟨_, rfl, h8⟩
  have q5 : fB K n (fSh (.inl q) [fI x2]) 401 [fR x0, fI x3] σ := by
    have h9 : fU (fLe q gm 1) (gm 1) (gu 1) := (hS 1 (show 1 < 3 by decide)).2
    have h8 : fGood (fLe q gm 1).1 (fLe q gm 1).2 := hG 1 (show 1 ≤ 3 by decide)
    rw [E1, e1_] at h9
    rw [E1] at h8
    exact (fX_o (by decide)).mpr ⟨_, _, gu, rfl, wu, h9, h8, _, rfl⟩
  have q6 : fB K n (.inl q) 241 [fR x0, fI x3] σ := by
    exact (fS_o (by decide) (by decide)).mpr ⟨by decide, _, _, gm, rfl, wm, e1_⟩
  have q7 : fB K n (fSh (.inl q) [fI x3, fI x2]) 3 [fI x4] σ := by
    have h8 : fM (fLe q gm 2).1 (fLe q gm 2).2 (gm 2) := (hS 2 (show 2 < 3 by decide)).1
    rw [E2, e2_] at h8
    exact ⟨_, rfl, h8⟩
  have q8 : fB K n (fSh (.inl q) [fI x3, fI x2]) 402 [fR x0, fI x4] σ := by
    have h9 : fU (fLe q gm 2) (gm 2) (gu 2) := (hS 2 (show 2 < 3 by decide)).2
    have h8 : fGood (fLe q gm 2).1 (fLe q gm 2).2 := hG 2 (show 2 ≤ 3 by decide)
    rw [E2, e2_] at h9
    rw [E2] at h8
    exact (fX_o (by decide)).mpr ⟨_, _, gu, rfl, wu, h9, h8, _, rfl⟩
  have q9 : fB K n (.inl q) 242 [fR x0, fI x4] σ := by
    exact (fS_o (by decide) (by decide)).mpr ⟨by decide, _, _, gm, rfl, wm, e2_⟩
  exact ⟨.inl q, fun _ => rfl, ⟨(fun q h => by cases h), fun q h => (by cases h), (fun f h => by cases h), (aAllc ⟨_, rfl, (fF_g (r := 17) (by decide)).mpr q0⟩ (aAllc ⟨_, rfl, (fF_b (r := 49) (by decide) rfl).mpr q1⟩ (aAllc ⟨_, rfl, (fF_b (r := 6402) (by decide) rfl).mpr q2⟩ (aAllc ⟨_, rfl, (fF_b (r := 3842) (by decide) rfl).mpr q3⟩ (aAllc ⟨_, rfl, (fF_g (r := 49) (by decide)).mpr q4⟩ (aAllc ⟨_, rfl, (fF_g (r := 6418) (by decide)).mpr q5⟩ (aAllc ⟨_, rfl, (fF_b (r := 3858) (by decide) rfl).mpr q6⟩ (aAllc ⟨_, rfl, (fF_g (r := 49) (by decide)).mpr q7⟩ (aAllc ⟨_, rfl, (fF_g (r := 6434) (by decide)).mpr q8⟩ (aAllc ⟨_, rfl, (fF_b (r := 3874) (by decide) rfl).mpr q9⟩ (fun f h => by cases h)))))))))))⟩, [], List.mem_cons_self, fun f h => (by cases h)⟩
set_option maxRecDepth 8192 in
theorem rw_ruSUu10 {K : Nat → Nat} {n : Nat} : aGho (fF K n) fa_T K n (fJX K n) ag_ruSUu10 := by
  refine aGho_of ⟨rfl, rfl⟩ ?_
  intro p σ ρ hH hX hA hM
  have hG := aAG_of hA.1 (fun i e v he hv => (hA.2 i e v he hv).1)
  clear hA
  obtain ⟨v0, v1, v2, v3, v4, rfl, g0, g1, g2, g3, g4⟩ := fA_5 hG
  clear hG
  obtain ⟨x0, rfl, b0, d0⟩ := fG_ref (by decide) g0
  obtain ⟨x1, rfl, b1, d1⟩ := fG_ref (by decide) g1
  obtain ⟨x2, rfl, b2, d2⟩ := aG_int g2
  dsimp only at b2 d2
  obtain ⟨x3, rfl⟩ := aG_lng g3
  obtain ⟨x4, rfl, b4, d4⟩ := aG_int g4
  dsimp only at b4 d4
  obtain ⟨m1, m2, m3, m4⟩ := hM
  obtain ⟨a0, c0, fs0, w0, e1, s0, t0, e4⟩ := m1 (0, 3, 1) (List.mem_of_getElem? (i := 0) rfl)
  obtain rfl : x0 = a0 := Sum.inl.inj (Option.some.inj (Sum.inr.inj (Sum.inr.inj (Option.some.inj (show some (fR x0) = some _ from e1)))))
  obtain rfl : fR x1 = w0 := Option.some.inj (show some (fR x1) = some w0 from e4)
  clear e1 e4
  obtain ⟨a, mc0, ty0, gc0, ic0, e1, sc0, jc0, e4, e5⟩ := m2 (1, ([(4, 1)], 0), 3) (List.mem_of_getElem? (i := 0) rfl)
  obtain rfl : x1 = a := Sum.inl.inj (Option.some.inj (Sum.inr.inj (Sum.inr.inj (Option.some.inj (show some (fR x1) = some _ from e1)))))
  obtain ⟨gc0, rfl⟩ : ∃ g, gc0 = .inr g := by
    rcases gc0 with g | g
    · exact absurd (show some ((.inr (.inl x3) : jv)) = some (.inl (g ic0)) from e5) (fun h => by cases h)
    · exact ⟨g, rfl⟩
  have sc0 : σ x1 = .inl (ty0, mc0, .inr (.inl gc0)) := sc0
  have ec0 : x3 = gc0 ic0 := Sum.inl.inj (Sum.inr.inj (Option.some.inj (show some ((.inr (.inl x3) : jv)) = some _ from e5)))
  have kc0 : (ic0 : Int) = (1 * x4.toInt + 0) + 0 := by
    obtain ⟨z, e6, e7⟩ := e4
    obtain rfl : (1 * x4.toInt + 0) = z := Option.some.inj (show some (1 * x4.toInt + 0) = some z from e6)
    exact e7
  clear e1 e4 e5
  obtain rfl : ic0 = x4.toInt.toNat := by omega
  have f0 : fB K n p 400 [fR x0, fI x2] σ := by
    obtain ⟨w, e6, e7⟩ := m4 (6402, [0, 2]) (List.mem_of_getElem? (i := 0) rfl)
    obtain rfl : [fR x0, fI x2] = w := Option.some.inj (show some [fR x0, fI x2] = some w from e6)
    exact (fF_b (r := 6402) (by decide) rfl).mp e7
  clear m1 m2 m3 m4
  obtain ⟨a, m, g, e, w, hu, hk⟩ := (fX_o (by decide)).mp f0
  cases e
  obtain rfl := fSu_c w s0 t0 sc0
  have q0 : fB K n (p) 4 [fI x2, (.inr (.inl x3) : jv)] σ := by
    rw [ec0, show x4.toInt.toNat = 0 by omega]
    exact ⟨_, _, rfl, hu.1, hu.2, hk⟩
  exact ⟨p, fun _ => rfl, ⟨(fun q h => by cases h), fun q h => (by cases h), (fun f h => by cases h), (aAllc ⟨_, rfl, (fF_b (r := 66) (by decide) rfl).mpr q0⟩ (fun f h => by cases h))⟩, [], List.mem_cons_self, fun f h => (by cases h)⟩
set_option maxRecDepth 8192 in
theorem rw_ruEQ10 {K : Nat → Nat} {n : Nat} : aGho (fF K n) fa_T K n (fJX K n) ag_ruEQ10 := by
  refine aGho_of ⟨rfl, rfl⟩ ?_
  intro p σ ρ hH hX hA hM
  have hG := aAG_of hA.1 (fun i e v he hv => (hA.2 i e v he hv).1)
  clear hA
  obtain ⟨v0, v1, v2, v3, v4, v5, rfl, g0, g1, g2, g3, g4, g5⟩ := fA_6 hG
  clear hG
  obtain ⟨x0, rfl, b0, d0⟩ := fG_ref (by decide) g0
  obtain ⟨x1, rfl, b1, d1⟩ := fG_ref (by decide) g1
  obtain ⟨x2, rfl, b2, d2⟩ := fG_ref (by decide) g2
  obtain ⟨x3, rfl, b3, d3⟩ := aG_int g3
  dsimp only at b3 d3
  obtain ⟨x4, rfl, b4, d4⟩ := aG_int g4
  dsimp only at b4 d4
  obtain ⟨x5, rfl, b5, d5⟩ := aG_int g5
  dsimp only at b5 d5
  obtain ⟨m1, m2, m3, m4⟩ := hM
  obtain ⟨a0, c0, fs0, w0, e1, s0, t0, e4⟩ := m1 (0, 2, 2) (List.mem_of_getElem? (i := 0) rfl)
  obtain rfl : x0 = a0 := Sum.inl.inj (Option.some.inj (Sum.inr.inj (Sum.inr.inj (Option.some.inj (show some (fR x0) = some _ from e1)))))
  obtain rfl : fR x2 = w0 := Option.some.inj (show some (fR x2) = some w0 from e4)
  clear e1 e4
  obtain ⟨a, mc0, ty0, gc0, ic0, e1, sc0, jc0, e4, e5⟩ := m2 (2, ([], 0), 5) (List.mem_of_getElem? (i := 0) rfl)
  obtain rfl : x2 = a := Sum.inl.inj (Option.some.inj (Sum.inr.inj (Sum.inr.inj (Option.some.inj (show some (fR x2) = some _ from e1)))))
  obtain ⟨gc0, rfl⟩ : ∃ g, gc0 = .inl g := by
    rcases gc0 with g | g
    · exact ⟨g, rfl⟩
    · exact absurd (show some (fI x5) = some (.inr (.inl (g ic0))) from e5) (fun h => by cases h)
  have sc0 : σ x2 = .inl (ty0, mc0, .inl gc0) := sc0
  have ec0 : x5 = gc0 ic0 := Sum.inl.inj (Option.some.inj (show some (fI x5) = some _ from e5))
  have kc0 : (ic0 : Int) = 0 + 0 := by
    obtain ⟨z, e6, e7⟩ := e4
    obtain rfl : 0 = z := Option.some.inj (show some 0 = some z from e6)
    exact e7
  clear e1 e4 e5
  obtain ⟨a, mc1, ty1, gc1, ic1, e1, sc1, jc1, e4, e5⟩ := m2 (2, ([(3, 1)], 0), 4) (List.mem_of_getElem? (i := 1) rfl)
  obtain rfl : x2 = a := Sum.inl.inj (Option.some.inj (Sum.inr.inj (Sum.inr.inj (Option.some.inj (show some (fR x2) = some _ from e1)))))
  obtain ⟨gc1, rfl⟩ : ∃ g, gc1 = .inl g := by
    rcases gc1 with g | g
    · exact ⟨g, rfl⟩
    · exact absurd (show some (fI x4) = some (.inr (.inl (g ic1))) from e5) (fun h => by cases h)
  have sc1 : σ x2 = .inl (ty1, mc1, .inl gc1) := sc1
  have ec1 : x4 = gc1 ic1 := Sum.inl.inj (Option.some.inj (show some (fI x4) = some _ from e5))
  have kc1 : (ic1 : Int) = (1 * x3.toInt + 0) + 0 := by
    obtain ⟨z, e6, e7⟩ := e4
    obtain rfl : (1 * x3.toInt + 0) = z := Option.some.inj (show some (1 * x3.toInt + 0) = some z from e6)
    exact e7
  clear e1 e4 e5
  obtain rfl : ic1 = x3.toInt.toNat := by omega
  have f0 : fB K n (fSh p [fI x5]) 1 [fR x1] σ := by
    obtain ⟨w, e6, e7⟩ := m4 (17, [1, 5]) (List.mem_of_getElem? (i := 0) rfl)
    obtain rfl : [fR x1, fI x5] = w := Option.some.inj (show some [fR x1, fI x5] = some w from e6)
    exact (fF_g (r := 17) (by decide)).mp e7
  have f1 : fB K n p 3 [fI x5] σ := by
    obtain ⟨w, e6, e7⟩ := m4 (49, [5]) (List.mem_of_getElem? (i := 1) rfl)
    obtain rfl : [fI x5] = w := Option.some.inj (show some [fI x5] = some w from e6)
    exact (fF_b (r := 49) (by decide) rfl).mp e7
  have f2 : fB K n p 400 [fR x0, fI x5] σ := by
    obtain ⟨w, e6, e7⟩ := m4 (6402, [0, 5]) (List.mem_of_getElem? (i := 2) rfl)
    obtain rfl : [fR x0, fI x5] = w := Option.some.inj (show some [fR x0, fI x5] = some w from e6)
    exact (fF_b (r := 6402) (by decide) rfl).mp e7
  clear m1 m2 m3 m4
  rw [sc0] at sc1
  cases sc1
  obtain rfl : x4 = x5 := by rw [ec0, ec1, show ic0 = x3.toInt.toNat by omega]
  have q0 : fB K n (fSh (p) [fI x4]) 1 [fR x1] σ := by
    exact f0
  have q1 : fB K n (p) 3 [fI x4] σ := by
    exact f1
  have q2 : fB K n (p) 400 [fR x0, fI x4] σ := by
    exact f2
  exact ⟨p, fun _ => rfl, ⟨(fun q h => by cases h), fun q h => (by cases h), (fun f h => by cases h), (aAllc ⟨_, rfl, (fF_g (r := 17) (by decide)).mpr q0⟩ (aAllc ⟨_, rfl, (fF_b (r := 49) (by decide) rfl).mpr q1⟩ (aAllc ⟨_, rfl, (fF_b (r := 6402) (by decide) rfl).mpr q2⟩ (fun f h => by cases h))))⟩, [], List.mem_cons_self, fun f h => (by cases h)⟩
set_option maxRecDepth 8192 in
theorem rw_ruSUu20 {K : Nat → Nat} {n : Nat} : aGho (fF K n) fa_T K n (fJX K n) ag_ruSUu20 := by
  refine aGho_of ⟨rfl, rfl⟩ ?_
  intro p σ ρ hH hX hA hM
  have hG := aAG_of hA.1 (fun i e v he hv => (hA.2 i e v he hv).1)
  clear hA
  obtain ⟨v0, v1, v2, v3, v4, rfl, g0, g1, g2, g3, g4⟩ := fA_5 hG
  clear hG
  obtain ⟨x0, rfl, b0, d0⟩ := fG_ref (by decide) g0
  obtain ⟨x1, rfl, b1, d1⟩ := fG_ref (by decide) g1
  obtain ⟨x2, rfl, b2, d2⟩ := aG_int g2
  dsimp only at b2 d2
  obtain ⟨x3, rfl⟩ := aG_lng g3
  obtain ⟨x4, rfl, b4, d4⟩ := aG_int g4
  dsimp only at b4 d4
  obtain ⟨m1, m2, m3, m4⟩ := hM
  obtain ⟨a0, c0, fs0, w0, e1, s0, t0, e4⟩ := m1 (0, 3, 1) (List.mem_of_getElem? (i := 0) rfl)
  obtain rfl : x0 = a0 := Sum.inl.inj (Option.some.inj (Sum.inr.inj (Sum.inr.inj (Option.some.inj (show some (fR x0) = some _ from e1)))))
  obtain rfl : fR x1 = w0 := Option.some.inj (show some (fR x1) = some w0 from e4)
  clear e1 e4
  obtain ⟨a, mc0, ty0, gc0, ic0, e1, sc0, jc0, e4, e5⟩ := m2 (1, ([(4, 1)], 0), 3) (List.mem_of_getElem? (i := 0) rfl)
  obtain rfl : x1 = a := Sum.inl.inj (Option.some.inj (Sum.inr.inj (Sum.inr.inj (Option.some.inj (show some (fR x1) = some _ from e1)))))
  obtain ⟨gc0, rfl⟩ : ∃ g, gc0 = .inr g := by
    rcases gc0 with g | g
    · exact absurd (show some ((.inr (.inl x3) : jv)) = some (.inl (g ic0)) from e5) (fun h => by cases h)
    · exact ⟨g, rfl⟩
  have sc0 : σ x1 = .inl (ty0, mc0, .inr (.inl gc0)) := sc0
  have ec0 : x3 = gc0 ic0 := Sum.inl.inj (Sum.inr.inj (Option.some.inj (show some ((.inr (.inl x3) : jv)) = some _ from e5)))
  have kc0 : (ic0 : Int) = (1 * x4.toInt + 0) + 0 := by
    obtain ⟨z, e6, e7⟩ := e4
    obtain rfl : (1 * x4.toInt + 0) = z := Option.some.inj (show some (1 * x4.toInt + 0) = some z from e6)
    exact e7
  clear e1 e4 e5
  obtain rfl : ic0 = x4.toInt.toNat := by omega
  have f0 : fB K n p 401 [fR x0, fI x2] σ := by
    obtain ⟨w, e6, e7⟩ := m4 (6418, [0, 2]) (List.mem_of_getElem? (i := 0) rfl)
    obtain rfl : [fR x0, fI x2] = w := Option.some.inj (show some [fR x0, fI x2] = some w from e6)
    exact (fF_b (r := 6418) (by decide) rfl).mp e7
  clear m1 m2 m3 m4
  obtain ⟨a, m, g, e, w, hu, hk⟩ := (fX_o (by decide)).mp f0
  cases e
  obtain rfl := fSu_c w s0 t0 sc0
  have q0 : fB K n (p) 4 [fI x2, (.inr (.inl x3) : jv)] σ := by
    rw [ec0, show x4.toInt.toNat = 1 by omega]
    exact ⟨_, _, rfl, hu.1, hu.2, hk⟩
  exact ⟨p, fun _ => rfl, ⟨(fun q h => by cases h), fun q h => (by cases h), (fun f h => by cases h), (aAllc ⟨_, rfl, (fF_b (r := 66) (by decide) rfl).mpr q0⟩ (fun f h => by cases h))⟩, [], List.mem_cons_self, fun f h => (by cases h)⟩
set_option maxRecDepth 8192 in
theorem rw_ruEQ20 {K : Nat → Nat} {n : Nat} : aGho (fF K n) fa_T K n (fJX K n) ag_ruEQ20 := by
  refine aGho_of ⟨rfl, rfl⟩ ?_
  intro p σ ρ hH hX hA hM
  have hG := aAG_of hA.1 (fun i e v he hv => (hA.2 i e v he hv).1)
  clear hA
  obtain ⟨v0, v1, v2, v3, v4, v5, v6, rfl, g0, g1, g2, g3, g4, g5, g6⟩ := fA_7 hG
  clear hG
  obtain ⟨x0, rfl, b0, d0⟩ := fG_ref (by decide) g0
  obtain ⟨x1, rfl, b1, d1⟩ := fG_ref (by decide) g1
  obtain ⟨x2, rfl, b2, d2⟩ := fG_ref (by decide) g2
  obtain ⟨x3, rfl, b3, d3⟩ := aG_int g3
  dsimp only at b3 d3
  obtain ⟨x4, rfl, b4, d4⟩ := aG_int g4
  dsimp only at b4 d4
  obtain ⟨x5, rfl, b5, d5⟩ := aG_int g5
  dsimp only at b5 d5
  obtain ⟨x6, rfl, b6, d6⟩ := aG_int g6
  dsimp only at b6 d6
  obtain ⟨m1, m2, m3, m4⟩ := hM
  obtain ⟨a0, c0, fs0, w0, e1, s0, t0, e4⟩ := m1 (0, 2, 2) (List.mem_of_getElem? (i := 0) rfl)
  obtain rfl : x0 = a0 := Sum.inl.inj (Option.some.inj (Sum.inr.inj (Sum.inr.inj (Option.some.inj (show some (fR x0) = some _ from e1)))))
  obtain rfl : fR x2 = w0 := Option.some.inj (show some (fR x2) = some w0 from e4)
  clear e1 e4
  obtain ⟨a, mc0, ty0, gc0, ic0, e1, sc0, jc0, e4, e5⟩ := m2 (2, ([], 1), 5) (List.mem_of_getElem? (i := 0) rfl)
  obtain rfl : x2 = a := Sum.inl.inj (Option.some.inj (Sum.inr.inj (Sum.inr.inj (Option.some.inj (show some (fR x2) = some _ from e1)))))
  obtain ⟨gc0, rfl⟩ : ∃ g, gc0 = .inl g := by
    rcases gc0 with g | g
    · exact ⟨g, rfl⟩
    · exact absurd (show some (fI x5) = some (.inr (.inl (g ic0))) from e5) (fun h => by cases h)
  have sc0 : σ x2 = .inl (ty0, mc0, .inl gc0) := sc0
  have ec0 : x5 = gc0 ic0 := Sum.inl.inj (Option.some.inj (show some (fI x5) = some _ from e5))
  have kc0 : (ic0 : Int) = 0 + 1 := by
    obtain ⟨z, e6, e7⟩ := e4
    obtain rfl : 0 = z := Option.some.inj (show some 0 = some z from e6)
    exact e7
  clear e1 e4 e5
  obtain ⟨a, mc1, ty1, gc1, ic1, e1, sc1, jc1, e4, e5⟩ := m2 (2, ([(3, 1)], 0), 4) (List.mem_of_getElem? (i := 1) rfl)
  obtain rfl : x2 = a := Sum.inl.inj (Option.some.inj (Sum.inr.inj (Sum.inr.inj (Option.some.inj (show some (fR x2) = some _ from e1)))))
  obtain ⟨gc1, rfl⟩ : ∃ g, gc1 = .inl g := by
    rcases gc1 with g | g
    · exact ⟨g, rfl⟩
    · exact absurd (show some (fI x4) = some (.inr (.inl (g ic1))) from e5) (fun h => by cases h)
  have sc1 : σ x2 = .inl (ty1, mc1, .inl gc1) := sc1
  have ec1 : x4 = gc1 ic1 := Sum.inl.inj (Option.some.inj (show some (fI x4) = some _ from e5))
  have kc1 : (ic1 : Int) = (1 * x3.toInt + 0) + 0 := by
    obtain ⟨z, e6, e7⟩ := e4
    obtain rfl : (1 * x3.toInt + 0) = z := Option.some.inj (show some (1 * x3.toInt + 0) = some z from e6)
    exact e7
  clear e1 e4 e5
  obtain rfl : ic1 = x3.toInt.toNat := by omega
  have f0 : fB K n (fSh p [fI x5, fI x6]) 1 [fR x1] σ := by
    obtain ⟨w, e6, e7⟩ := m4 (17, [1, 5, 6]) (List.mem_of_getElem? (i := 0) rfl)
    obtain rfl : [fR x1, fI x5, fI x6] = w := Option.some.inj (show some [fR x1, fI x5, fI x6] = some w from e6)
    exact (fF_g (r := 17) (by decide)).mp e7
  have f1 : fB K n (fSh p [fI x6]) 3 [fI x5] σ := by
    obtain ⟨w, e6, e7⟩ := m4 (49, [5, 6]) (List.mem_of_getElem? (i := 1) rfl)
    obtain rfl : [fI x5, fI x6] = w := Option.some.inj (show some [fI x5, fI x6] = some w from e6)
    exact (fF_g (r := 49) (by decide)).mp e7
  have f2 : fB K n (fSh p [fI x6]) 401 [fR x0, fI x5] σ := by
    obtain ⟨w, e6, e7⟩ := m4 (6418, [0, 5, 6]) (List.mem_of_getElem? (i := 2) rfl)
    obtain rfl : [fR x0, fI x5, fI x6] = w := Option.some.inj (show some [fR x0, fI x5, fI x6] = some w from e6)
    exact (fF_g (r := 6418) (by decide)).mp e7
  clear m1 m2 m3 m4
  rw [sc0] at sc1
  cases sc1
  obtain rfl : x4 = x5 := by rw [ec0, ec1, show ic0 = x3.toInt.toNat by omega]
  have q0 : fB K n (fSh (p) [fI x4, fI x6]) 1 [fR x1] σ := by
    exact f0
  have q1 : fB K n (fSh (p) [fI x6]) 3 [fI x4] σ := by
    exact f1
  have q2 : fB K n (fSh (p) [fI x6]) 401 [fR x0, fI x4] σ := by
    exact f2
  exact ⟨p, fun _ => rfl, ⟨(fun q h => by cases h), fun q h => (by cases h), (fun f h => by cases h), (aAllc ⟨_, rfl, (fF_g (r := 17) (by decide)).mpr q0⟩ (aAllc ⟨_, rfl, (fF_g (r := 49) (by decide)).mpr q1⟩ (aAllc ⟨_, rfl, (fF_g (r := 6418) (by decide)).mpr q2⟩ (fun f h => by cases h))))⟩, [], List.mem_cons_self, fun f h => (by cases h)⟩
set_option maxRecDepth 8192 in
theorem rw_ruSUu30 {K : Nat → Nat} {n : Nat} : aGho (fF K n) fa_T K n (fJX K n) ag_ruSUu30 := by
  refine aGho_of ⟨rfl, rfl⟩ ?_
  intro p σ ρ hH hX hA hM
  have hG := aAG_of hA.1 (fun i e v he hv => (hA.2 i e v he hv).1)
  clear hA
  obtain ⟨v0, v1, v2, v3, v4, rfl, g0, g1, g2, g3, g4⟩ := fA_5 hG
  clear hG
  obtain ⟨x0, rfl, b0, d0⟩ := fG_ref (by decide) g0
  obtain ⟨x1, rfl, b1, d1⟩ := fG_ref (by decide) g1
  obtain ⟨x2, rfl, b2, d2⟩ := aG_int g2
  dsimp only at b2 d2
  obtain ⟨x3, rfl⟩ := aG_lng g3
  obtain ⟨x4, rfl, b4, d4⟩ := aG_int g4
  dsimp only at b4 d4
  obtain ⟨m1, m2, m3, m4⟩ := hM
  obtain ⟨a0, c0, fs0, w0, e1, s0, t0, e4⟩ := m1 (0, 3, 1) (List.mem_of_getElem? (i := 0) rfl)
  obtain rfl : x0 = a0 := Sum.inl.inj (Option.some.inj (Sum.inr.inj (Sum.inr.inj (Option.some.inj (show some (fR x0) = some _ from e1)))))
  obtain rfl : fR x1 = w0 := Option.some.inj (show some (fR x1) = some w0 from e4)
  clear e1 e4
  obtain ⟨a, mc0, ty0, gc0, ic0, e1, sc0, jc0, e4, e5⟩ := m2 (1, ([(4, 1)], 0), 3) (List.mem_of_getElem? (i := 0) rfl)
  obtain rfl : x1 = a := Sum.inl.inj (Option.some.inj (Sum.inr.inj (Sum.inr.inj (Option.some.inj (show some (fR x1) = some _ from e1)))))
  obtain ⟨gc0, rfl⟩ : ∃ g, gc0 = .inr g := by
    rcases gc0 with g | g
    · exact absurd (show some ((.inr (.inl x3) : jv)) = some (.inl (g ic0)) from e5) (fun h => by cases h)
    · exact ⟨g, rfl⟩
  have sc0 : σ x1 = .inl (ty0, mc0, .inr (.inl gc0)) := sc0
  have ec0 : x3 = gc0 ic0 := Sum.inl.inj (Sum.inr.inj (Option.some.inj (show some ((.inr (.inl x3) : jv)) = some _ from e5)))
  have kc0 : (ic0 : Int) = (1 * x4.toInt + 0) + 0 := by
    obtain ⟨z, e6, e7⟩ := e4
    obtain rfl : (1 * x4.toInt + 0) = z := Option.some.inj (show some (1 * x4.toInt + 0) = some z from e6)
    exact e7
  clear e1 e4 e5
  obtain rfl : ic0 = x4.toInt.toNat := by omega
  have f0 : fB K n p 402 [fR x0, fI x2] σ := by
    obtain ⟨w, e6, e7⟩ := m4 (6434, [0, 2]) (List.mem_of_getElem? (i := 0) rfl)
    obtain rfl : [fR x0, fI x2] = w := Option.some.inj (show some [fR x0, fI x2] = some w from e6)
    exact (fF_b (r := 6434) (by decide) rfl).mp e7
  clear m1 m2 m3 m4
  obtain ⟨a, m, g, e, w, hu, hk⟩ := (fX_o (by decide)).mp f0
  cases e
  obtain rfl := fSu_c w s0 t0 sc0
  have q0 : fB K n (p) 4 [fI x2, (.inr (.inl x3) : jv)] σ := by
    rw [ec0, show x4.toInt.toNat = 2 by omega]
    exact ⟨_, _, rfl, hu.1, hu.2, hk⟩
  exact ⟨p, fun _ => rfl, ⟨(fun q h => by cases h), fun q h => (by cases h), (fun f h => by cases h), (aAllc ⟨_, rfl, (fF_b (r := 66) (by decide) rfl).mpr q0⟩ (fun f h => by cases h))⟩, [], List.mem_cons_self, fun f h => (by cases h)⟩
set_option maxRecDepth 8192 in
theorem rw_ruEQ30 {K : Nat → Nat} {n : Nat} : aGho (fF K n) fa_T K n (fJX K n) ag_ruEQ30 := by
  refine aGho_of ⟨rfl, rfl⟩ ?_
  intro p σ ρ hH hX hA hM
  have hG := aAG_of hA.1 (fun i e v he hv => (hA.2 i e v he hv).1)
  clear hA
  obtain ⟨v0, v1, v2, v3, v4, v5, v6, v7, rfl, g0, g1, g2, g3, g4, g5, g6, g7⟩ := fA_8 hG
  clear hG
  obtain ⟨x0, rfl, b0, d0⟩ := fG_ref (by decide) g0
  obtain ⟨x1, rfl, b1, d1⟩ := fG_ref (by decide) g1
  obtain ⟨x2, rfl, b2, d2⟩ := fG_ref (by decide) g2
  obtain ⟨x3, rfl, b3, d3⟩ := aG_int g3
  dsimp only at b3 d3
  obtain ⟨x4, rfl, b4, d4⟩ := aG_int g4
  dsimp only at b4 d4
  obtain ⟨x5, rfl, b5, d5⟩ := aG_int g5
  dsimp only at b5 d5
  obtain ⟨x6, rfl, b6, d6⟩ := aG_int g6
  dsimp only at b6 d6
  obtain ⟨x7, rfl, b7, d7⟩ := aG_int g7
  dsimp only at b7 d7
  obtain ⟨m1, m2, m3, m4⟩ := hM
  obtain ⟨a0, c0, fs0, w0, e1, s0, t0, e4⟩ := m1 (0, 2, 2) (List.mem_of_getElem? (i := 0) rfl)
  obtain rfl : x0 = a0 := Sum.inl.inj (Option.some.inj (Sum.inr.inj (Sum.inr.inj (Option.some.inj (show some (fR x0) = some _ from e1)))))
  obtain rfl : fR x2 = w0 := Option.some.inj (show some (fR x2) = some w0 from e4)
  clear e1 e4
  obtain ⟨a, mc0, ty0, gc0, ic0, e1, sc0, jc0, e4, e5⟩ := m2 (2, ([], 2), 5) (List.mem_of_getElem? (i := 0) rfl)
  obtain rfl : x2 = a := Sum.inl.inj (Option.some.inj (Sum.inr.inj (Sum.inr.inj (Option.some.inj (show some (fR x2) = some _ from e1)))))
  obtain ⟨gc0, rfl⟩ : ∃ g, gc0 = .inl g := by
    rcases gc0 with g | g
    · exact ⟨g, rfl⟩
    · exact absurd (show some (fI x5) = some (.inr (.inl (g ic0))) from e5) (fun h => by cases h)
  have sc0 : σ x2 = .inl (ty0, mc0, .inl gc0) := sc0
  have ec0 : x5 = gc0 ic0 := Sum.inl.inj (Option.some.inj (show some (fI x5) = some _ from e5))
  have kc0 : (ic0 : Int) = 0 + 2 := by
    obtain ⟨z, e6, e7⟩ := e4
    obtain rfl : 0 = z := Option.some.inj (show some 0 = some z from e6)
    exact e7
  clear e1 e4 e5
  obtain ⟨a, mc1, ty1, gc1, ic1, e1, sc1, jc1, e4, e5⟩ := m2 (2, ([(3, 1)], 0), 4) (List.mem_of_getElem? (i := 1) rfl)
  obtain rfl : x2 = a := Sum.inl.inj (Option.some.inj (Sum.inr.inj (Sum.inr.inj (Option.some.inj (show some (fR x2) = some _ from e1)))))
  obtain ⟨gc1, rfl⟩ : ∃ g, gc1 = .inl g := by
    rcases gc1 with g | g
    · exact ⟨g, rfl⟩
    · exact absurd (show some (fI x4) = some (.inr (.inl (g ic1))) from e5) (fun h => by cases h)
  have sc1 : σ x2 = .inl (ty1, mc1, .inl gc1) := sc1
  have ec1 : x4 = gc1 ic1 := Sum.inl.inj (Option.some.inj (show some (fI x4) = some _ from e5))
  have kc1 : (ic1 : Int) = (1 * x3.toInt + 0) + 0 := by
    obtain ⟨z, e6, e7⟩ := e4
    obtain rfl : (1 * x3.toInt + 0) = z := Option.some.inj (show some (1 * x3.toInt + 0) = some z from e6)
    exact e7
  clear e1 e4 e5
  obtain rfl : ic1 = x3.toInt.toNat := by omega
  have f0 : fB K n (fSh p [fI x5, fI x6, fI x7]) 1 [fR x1] σ := by
    obtain ⟨w, e6, e7⟩ := m4 (17, [1, 5, 6, 7]) (List.mem_of_getElem? (i := 0) rfl)
    obtain rfl : [fR x1, fI x5, fI x6, fI x7] = w := Option.some.inj (show some [fR x1, fI x5, fI x6, fI x7] = some w from e6)
    exact (fF_g (r := 17) (by decide)).mp e7
  have f1 : fB K n (fSh p [fI x6, fI x7]) 3 [fI x5] σ := by
    obtain ⟨w, e6, e7⟩ := m4 (49, [5, 6, 7]) (List.mem_of_getElem? (i := 1) rfl)
    obtain rfl : [fI x5, fI x6, fI x7] = w := Option.some.inj (show some [fI x5, fI x6, fI x7] = some w from e6)
    exact (fF_g (r := 49) (by decide)).mp e7
  have f2 : fB K n (fSh p [fI x6, fI x7]) 402 [fR x0, fI x5] σ := by
    obtain ⟨w, e6, e7⟩ := m4 (6434, [0, 5, 6, 7]) (List.mem_of_getElem? (i := 2) rfl)
    obtain rfl : [fR x0, fI x5, fI x6, fI x7] = w := Option.some.inj (show some [fR x0, fI x5, fI x6, fI x7] = some w from e6)
    exact (fF_g (r := 6434) (by decide)).mp e7
  clear m1 m2 m3 m4
  rw [sc0] at sc1
  cases sc1
  obtain rfl : x4 = x5 := by rw [ec0, ec1, show ic0 = x3.toInt.toNat by omega]
  have q0 : fB K n (fSh (p) [fI x4, fI x6, fI x7]) 1 [fR x1] σ := by
    exact f0
  have q1 : fB K n (fSh (p) [fI x6, fI x7]) 3 [fI x4] σ := by
    exact f1
  have q2 : fB K n (fSh (p) [fI x6, fI x7]) 402 [fR x0, fI x4] σ := by
    exact f2
  exact ⟨p, fun _ => rfl, ⟨(fun q h => by cases h), fun q h => (by cases h), (fun f h => by cases h), (aAllc ⟨_, rfl, (fF_g (r := 17) (by decide)).mpr q0⟩ (aAllc ⟨_, rfl, (fF_g (r := 49) (by decide)).mpr q1⟩ (aAllc ⟨_, rfl, (fF_g (r := 6434) (by decide)).mpr q2⟩ (fun f h => by cases h))))⟩, [], List.mem_cons_self, fun f h => (by cases h)⟩
set_option maxRecDepth 8192 in
theorem rw_ruK7 {K : Nat → Nat} {n : Nat} : aGho (fF K n) fa_T K n (fJX K n) ag_ruK7 := by
  refine aGho_of ⟨rfl, rfl⟩ ?_
  intro p σ ρ hH hX hA hM
  have hG := aAG_of hA.1 (fun i e v he hv => (hA.2 i e v he hv).1)
  clear hA
  obtain ⟨v0, v1, v2, v3, v4, v5, rfl, g0, g1, g2, g3, g4, g5⟩ := fA_6 hG
  clear hG
  obtain ⟨x0, rfl, b0, d0⟩ := fG_ref (by decide) g0
  obtain ⟨x1, rfl, b1, d1⟩ := aG_int g1
  dsimp only at b1 d1
  obtain ⟨x2, rfl, b2, d2⟩ := aG_int g2
  dsimp only at b2 d2
  obtain ⟨x3, rfl, b3, d3⟩ := aG_int g3
  dsimp only at b3 d3
  obtain ⟨x4, rfl, b4, d4⟩ := aG_int g4
  dsimp only at b4 d4
  obtain ⟨x5, rfl, b5, d5⟩ := fG_ref (by decide) g5
  obtain ⟨m1, m2, m3, m4⟩ := hM
  obtain ⟨a0, c0, fs0, w0, e1, s0, t0, e4⟩ := m1 (0, 0, 5) (List.mem_of_getElem? (i := 0) rfl)
  obtain rfl : x0 = a0 := Sum.inl.inj (Option.some.inj (Sum.inr.inj (Sum.inr.inj (Option.some.inj (show some (fR x0) = some _ from e1)))))
  obtain rfl : fR x5 = w0 := Option.some.inj (show some (fR x5) = some w0 from e4)
  clear e1 e4
  obtain ⟨a, mc0, ty0, gc0, ic0, e1, sc0, jc0, e4, e5⟩ := m2 (5, ([(1, 1)], 0), 3) (List.mem_of_getElem? (i := 0) rfl)
  obtain rfl : x5 = a := Sum.inl.inj (Option.some.inj (Sum.inr.inj (Sum.inr.inj (Option.some.inj (show some (fR x5) = some _ from e1)))))
  obtain ⟨gc0, rfl⟩ : ∃ g, gc0 = .inl g := by
    rcases gc0 with g | g
    · exact ⟨g, rfl⟩
    · exact absurd (show some (fI x3) = some (.inr (.inl (g ic0))) from e5) (fun h => by cases h)
  have sc0 : σ x5 = .inl (ty0, mc0, .inl gc0) := sc0
  have ec0 : x3 = gc0 ic0 := Sum.inl.inj (Option.some.inj (show some (fI x3) = some _ from e5))
  have kc0 : (ic0 : Int) = (1 * x1.toInt + 0) + 0 := by
    obtain ⟨z, e6, e7⟩ := e4
    obtain rfl : (1 * x1.toInt + 0) = z := Option.some.inj (show some (1 * x1.toInt + 0) = some z from e6)
    exact e7
  clear e1 e4 e5
  obtain rfl : ic0 = x1.toInt.toNat := by omega
  have l0 : 0 ≤ (1 * x3.toInt + (-1 * x2.toInt + (-8 * x4.toInt + 0))) + 0 := by
    obtain ⟨z, e6, e7⟩ := m3 ([(3, 1), (2, -1), (4, -8)], 0) (List.mem_of_getElem? (i := 0) rfl)
    obtain rfl : (1 * x3.toInt + (-1 * x2.toInt + (-8 * x4.toInt + 0))) = z := Option.some.inj (show some (1 * x3.toInt + (-1 * x2.toInt + (-8 * x4.toInt + 0))) = some z from e6)
    exact e7
  have l1 : 0 ≤ (-1 * x3.toInt + (1 * x2.toInt + (8 * x4.toInt + 0))) + 0 := by
    obtain ⟨z, e6, e7⟩ := m3 ([(3, -1), (2, 1), (4, 8)], 0) (List.mem_of_getElem? (i := 1) rfl)
    obtain rfl : (-1 * x3.toInt + (1 * x2.toInt + (8 * x4.toInt + 0))) = z := Option.some.inj (show some (-1 * x3.toInt + (1 * x2.toInt + (8 * x4.toInt + 0))) = some z from e6)
    exact e7
  have f0 : fB K n p 1 [fR x0] σ := by
    obtain ⟨w, e6, e7⟩ := m4 (17, [0]) (List.mem_of_getElem? (i := 0) rfl)
    obtain rfl : [fR x0] = w := Option.some.inj (show some [fR x0] = some w from e6)
    exact (fF_b (r := 17) (by decide) rfl).mp e7
  clear m1 m2 m3 m4
  obtain ⟨a9, e9, h0, g0⟩ := f0
  cases e9
  have hF := fAt_of h0 s0
  obtain ⟨gB, hr1, hr2⟩ := hF.1 x5 t0
  rw [hr1] at sc0
  cases sc0
  have hm := g0.1.2.2.2.2 x1.toInt.toNat (by omega)
  rw [← hr2 _ (by omega), ← ec0] at hm
  have r0 : 0 ≤ (-1 * x2.toInt + 0) + 6 := by
    omega
  exact ⟨p, fun _ => rfl, ⟨(fun q h => by cases h), fun q h => (by cases h), (aAllc ⟨_, rfl, r0⟩ (fun f h => by cases h)), (fun f h => by cases h)⟩, [], List.mem_cons_self, fun f h => (by cases h)⟩
set_option maxRecDepth 8192 in
theorem rw_ruP1 {K : Nat → Nat} {n : Nat} : aGho (fF K n) fa_T K n (fJX K n) ag_ruP1 := by
  refine aGho_of ⟨rfl, rfl⟩ ?_
  intro p σ ρ hH hX hA hM
  have hG := aAG_of hA.1 (fun i e v he hv => (hA.2 i e v he hv).1)
  clear hA
  obtain ⟨v0, v1, v2, v3, v4, v5, rfl, g0, g1, g2, g3, g4, g5⟩ := fA_6 hG
  clear hG
  obtain ⟨x0, rfl, b0, d0⟩ := fG_ref (by decide) g0
  obtain ⟨x1, rfl, b1, d1⟩ := aG_int g1
  dsimp only at b1 d1
  obtain ⟨x2, rfl, b2, d2⟩ := aG_int g2
  dsimp only at b2 d2
  obtain ⟨x3, rfl, b3, d3⟩ := aG_int g3
  dsimp only at b3 d3
  obtain ⟨x4, rfl, b4, d4⟩ := aG_int g4
  dsimp only at b4 d4
  obtain ⟨x5, rfl, b5, d5⟩ := fG_ref (by decide) g5
  obtain ⟨m1, m2, m3, m4⟩ := hM
  obtain ⟨a0, c0, fs0, w0, e1, s0, t0, e4⟩ := m1 (0, 0, 5) (List.mem_of_getElem? (i := 0) rfl)
  obtain rfl : x0 = a0 := Sum.inl.inj (Option.some.inj (Sum.inr.inj (Sum.inr.inj (Option.some.inj (show some (fR x0) = some _ from e1)))))
  obtain rfl : fR x5 = w0 := Option.some.inj (show some (fR x5) = some w0 from e4)
  clear e1 e4
  obtain ⟨a, mc0, ty0, gc0, ic0, e1, sc0, jc0, e4, e5⟩ := m2 (5, ([(1, 1)], 0), 3) (List.mem_of_getElem? (i := 0) rfl)
  obtain rfl : x5 = a := Sum.inl.inj (Option.some.inj (Sum.inr.inj (Sum.inr.inj (Option.some.inj (show some (fR x5) = some _ from e1)))))
  obtain ⟨gc0, rfl⟩ : ∃ g, gc0 = .inl g := by
    rcases gc0 with g | g
    · exact ⟨g, rfl⟩
    · exact absurd (show some (fI x3) = some (.inr (.inl (g ic0))) from e5) (fun h => by cases h)
  have sc0 : σ x5 = .inl (ty0, mc0, .inl gc0) := sc0
  have ec0 : x3 = gc0 ic0 := Sum.inl.inj (Option.some.inj (show some (fI x3) = some _ from e5))
  have kc0 : (ic0 : Int) = (1 * x1.toInt + 0) + 0 := by
    obtain ⟨z, e6, e7⟩ := e4
    obtain rfl : (1 * x1.toInt + 0) = z := Option.some.inj (show some (1 * x1.toInt + 0) = some z from e6)
    exact e7
  clear e1 e4 e5
  obtain rfl : ic0 = x1.toInt.toNat := by omega
  have l0 : 0 ≤ (1 * x3.toInt + (-1 * x2.toInt + (-8 * x4.toInt + 0))) + 0 := by
    obtain ⟨z, e6, e7⟩ := m3 ([(3, 1), (2, -1), (4, -8)], 0) (List.mem_of_getElem? (i := 0) rfl)
    obtain rfl : (1 * x3.toInt + (-1 * x2.toInt + (-8 * x4.toInt + 0))) = z := Option.some.inj (show some (1 * x3.toInt + (-1 * x2.toInt + (-8 * x4.toInt + 0))) = some z from e6)
    exact e7
  have l1 : 0 ≤ (-1 * x3.toInt + (1 * x2.toInt + (8 * x4.toInt + 0))) + 0 := by
    obtain ⟨z, e6, e7⟩ := m3 ([(3, -1), (2, 1), (4, 8)], 0) (List.mem_of_getElem? (i := 1) rfl)
    obtain rfl : (-1 * x3.toInt + (1 * x2.toInt + (8 * x4.toInt + 0))) = z := Option.some.inj (show some (-1 * x3.toInt + (1 * x2.toInt + (8 * x4.toInt + 0))) = some z from e6)
    exact e7
  have l2 : 0 ≤ (1 * x2.toInt + 0) + -1 := by
    obtain ⟨z, e6, e7⟩ := m3 ([(2, 1)], -1) (List.mem_of_getElem? (i := 2) rfl)
    obtain rfl : (1 * x2.toInt + 0) = z := Option.some.inj (show some (1 * x2.toInt + 0) = some z from e6)
    exact e7
  have l3 : 0 ≤ (-1 * x2.toInt + 0) + 1 := by
    obtain ⟨z, e6, e7⟩ := m3 ([(2, -1)], 1) (List.mem_of_getElem? (i := 3) rfl)
    obtain rfl : (-1 * x2.toInt + 0) = z := Option.some.inj (show some (-1 * x2.toInt + 0) = some z from e6)
    exact e7
  have f0 : fB K n p 1 [fR x0] σ := by
    obtain ⟨w, e6, e7⟩ := m4 (17, [0]) (List.mem_of_getElem? (i := 0) rfl)
    obtain rfl : [fR x0] = w := Option.some.inj (show some [fR x0] = some w from e6)
    exact (fF_b (r := 17) (by decide) rfl).mp e7
  clear m1 m2 m3 m4
  obtain ⟨a9, e9, h0, g0⟩ := f0
  cases e9
  have hF := fAt_of h0 s0
  obtain ⟨gB, hr1, hr2⟩ := hF.1 x5 t0
  rw [hr1] at sc0
  cases sc0
  have hm := g0.1.2.2.2.2 x1.toInt.toNat (by omega)
  rw [← hr2 _ (by omega), ← ec0] at hm
  have r0 : 0 ≤ (1 * x1.toInt + 0) + -8 := by
    omega
  have r1 : 0 ≤ (-1 * x1.toInt + 0) + 55 := by
    omega
  exact ⟨p, fun _ => rfl, ⟨(fun q h => by cases h), fun q h => (by cases h), (aAllc ⟨_, rfl, r0⟩ (aAllc ⟨_, rfl, r1⟩ (fun f h => by cases h))), (fun f h => by cases h)⟩, [], List.mem_cons_self, fun f h => (by cases h)⟩
set_option maxRecDepth 8192 in
theorem rw_ruP8 {K : Nat → Nat} {n : Nat} : aGho (fF K n) fa_T K n (fJX K n) ag_ruP8 := by
  refine aGho_of ⟨rfl, rfl⟩ ?_
  intro p σ ρ hH hX hA hM
  have hG := aAG_of hA.1 (fun i e v he hv => (hA.2 i e v he hv).1)
  clear hA
  obtain ⟨v0, rfl, g0⟩ := fA_1 hG
  clear hG
  obtain ⟨x0, rfl, b0, d0⟩ := aG_int g0
  dsimp only at b0 d0
  obtain ⟨m1, m2, m3, m4⟩ := hM
  have l0 : 0 ≤ (1 * x0.toInt + 0) + -8 := by
    obtain ⟨z, e6, e7⟩ := m3 ([(0, 1)], -8) (List.mem_of_getElem? (i := 0) rfl)
    obtain rfl : (1 * x0.toInt + 0) = z := Option.some.inj (show some (1 * x0.toInt + 0) = some z from e6)
    exact e7
  have l1 : 0 ≤ (-1 * x0.toInt + 0) + 55 := by
    obtain ⟨z, e6, e7⟩ := m3 ([(0, -1)], 55) (List.mem_of_getElem? (i := 1) rfl)
    obtain rfl : (-1 * x0.toInt + 0) = z := Option.some.inj (show some (-1 * x0.toInt + 0) = some z from e6)
    exact e7
  clear m1 m2 m3 m4
  have r0 : 0 ≤ (1 * x0.toInt + 0) + -8 := by
    omega
  have r1 : 0 ≤ (-1 * x0.toInt + 0) + 55 := by
    omega
  exact ⟨p, fun _ => rfl, ⟨(fun q h => by cases h), fun q h => (by cases h), (aAllc ⟨_, rfl, r0⟩ (aAllc ⟨_, rfl, r1⟩ (fun f h => by cases h))), (fun f h => by cases h)⟩, [], List.mem_cons_self, fun f h => (by cases h)⟩
set_option maxRecDepth 8192 in
theorem rw_ruKT0 {K : Nat → Nat} {n : Nat} : aGho (fF K n) fa_T K n (fJX K n) ag_ruKT0 := by
  refine aGho_of ⟨rfl, rfl⟩ ?_
  intro p σ ρ hH hX hA hM
  have hG := aAG_of hA.1 (fun i e v he hv => (hA.2 i e v he hv).1)
  clear hA
  obtain ⟨v0, rfl, g0⟩ := fA_1 hG
  clear hG
  obtain ⟨x0, rfl, b0, d0⟩ := aG_int g0
  dsimp only at b0 d0
  obtain ⟨m1, m2, m3, m4⟩ := hM
  have l0 : 0 ≤ (1 * x0.toInt + 0) + 0 := by
    obtain ⟨z, e6, e7⟩ := m3 ([(0, 1)], 0) (List.mem_of_getElem? (i := 0) rfl)
    obtain rfl : (1 * x0.toInt + 0) = z := Option.some.inj (show some (1 * x0.toInt + 0) = some z from e6)
    exact e7
  have l1 : 0 ≤ (-1 * x0.toInt + 0) + 0 := by
    obtain ⟨z, e6, e7⟩ := m3 ([(0, -1)], 0) (List.mem_of_getElem? (i := 1) rfl)
    obtain rfl : (-1 * x0.toInt + 0) = z := Option.some.inj (show some (-1 * x0.toInt + 0) = some z from e6)
    exact e7
  clear m1 m2 m3 m4
  have r0 : 0 ≤ (1 * x0.toInt + 0) + 0 := by
    omega
  have r1 : 0 ≤ (-1 * x0.toInt + 0) + 0 := by
    omega
  exact ⟨p, fun _ => rfl, ⟨(fun q h => by cases h), fun q h => (by cases h), (aAllc ⟨_, rfl, r0⟩ (aAllc ⟨_, rfl, r1⟩ (fun f h => by cases h))), (fun f h => by cases h)⟩, [], List.mem_cons_self, fun f h => (by cases h)⟩
set_option maxRecDepth 8192 in
theorem rw_ruKT1 {K : Nat → Nat} {n : Nat} : aGho (fF K n) fa_T K n (fJX K n) ag_ruKT1 := by
  refine aGho_of ⟨rfl, rfl⟩ ?_
  intro p σ ρ hH hX hA hM
  have hG := aAG_of hA.1 (fun i e v he hv => (hA.2 i e v he hv).1)
  clear hA
  obtain ⟨v0, rfl, g0⟩ := fA_1 hG
  clear hG
  obtain ⟨x0, rfl, b0, d0⟩ := aG_int g0
  dsimp only at b0 d0
  obtain ⟨m1, m2, m3, m4⟩ := hM
  have l0 : 0 ≤ (1 * x0.toInt + 0) + -1 := by
    obtain ⟨z, e6, e7⟩ := m3 ([(0, 1)], -1) (List.mem_of_getElem? (i := 0) rfl)
    obtain rfl : (1 * x0.toInt + 0) = z := Option.some.inj (show some (1 * x0.toInt + 0) = some z from e6)
    exact e7
  have l1 : 0 ≤ (-1 * x0.toInt + 0) + 1 := by
    obtain ⟨z, e6, e7⟩ := m3 ([(0, -1)], 1) (List.mem_of_getElem? (i := 1) rfl)
    obtain rfl : (-1 * x0.toInt + 0) = z := Option.some.inj (show some (-1 * x0.toInt + 0) = some z from e6)
    exact e7
  clear m1 m2 m3 m4
  have r0 : 0 ≤ (1 * x0.toInt + 0) + -1 := by
    omega
  have r1 : 0 ≤ (-1 * x0.toInt + 0) + 1 := by
    omega
  exact ⟨p, fun _ => rfl, ⟨(fun q h => by cases h), fun q h => (by cases h), (aAllc ⟨_, rfl, r0⟩ (aAllc ⟨_, rfl, r1⟩ (fun f h => by cases h))), (fun f h => by cases h)⟩, [], List.mem_cons_self, fun f h => (by cases h)⟩
set_option maxRecDepth 8192 in
theorem rw_ruKT2 {K : Nat → Nat} {n : Nat} : aGho (fF K n) fa_T K n (fJX K n) ag_ruKT2 := by
  refine aGho_of ⟨rfl, rfl⟩ ?_
  intro p σ ρ hH hX hA hM
  have hG := aAG_of hA.1 (fun i e v he hv => (hA.2 i e v he hv).1)
  clear hA
  obtain ⟨v0, rfl, g0⟩ := fA_1 hG
  clear hG
  obtain ⟨x0, rfl, b0, d0⟩ := aG_int g0
  dsimp only at b0 d0
  obtain ⟨m1, m2, m3, m4⟩ := hM
  have l0 : 0 ≤ (1 * x0.toInt + 0) + -2 := by
    obtain ⟨z, e6, e7⟩ := m3 ([(0, 1)], -2) (List.mem_of_getElem? (i := 0) rfl)
    obtain rfl : (1 * x0.toInt + 0) = z := Option.some.inj (show some (1 * x0.toInt + 0) = some z from e6)
    exact e7
  have l1 : 0 ≤ (-1 * x0.toInt + 0) + 6 := by
    obtain ⟨z, e6, e7⟩ := m3 ([(0, -1)], 6) (List.mem_of_getElem? (i := 1) rfl)
    obtain rfl : (-1 * x0.toInt + 0) = z := Option.some.inj (show some (-1 * x0.toInt + 0) = some z from e6)
    exact e7
  clear m1 m2 m3 m4
  have r0 : 0 ≤ (1 * x0.toInt + 0) + -2 := by
    omega
  have r1 : 0 ≤ (-1 * x0.toInt + 0) + 6 := by
    omega
  exact ⟨p, fun _ => rfl, ⟨(fun q h => by cases h), fun q h => (by cases h), (aAllc ⟨_, rfl, r0⟩ (aAllc ⟨_, rfl, r1⟩ (fun f h => by cases h))), (fun f h => by cases h)⟩, [], List.mem_cons_self, fun f h => (by cases h)⟩
set_option maxRecDepth 8192 in
theorem rw_ruRTS {K : Nat → Nat} {n : Nat} : aGho (fF K n) fa_T K n (fJX K n) ag_ruRTS := by
  refine aGho_of ⟨rfl, rfl⟩ ?_
  intro p σ ρ hH hX hA hM
  have hG := aAG_of hA.1 (fun i e v he hv => (hA.2 i e v he hv).1)
  clear hA
  obtain ⟨v0, v1, rfl, g0, g1⟩ := fA_2 hG
  clear hG
  obtain ⟨x0, rfl, b0, d0⟩ := fG_ref (by decide) g0
  obtain ⟨x1, rfl, b1, d1⟩ := aG_int g1
  dsimp only at b1 d1
  obtain ⟨m1, m2, m3, m4⟩ := hM
  obtain ⟨a0, c0, fs0, w0, e1, s0, t0, e4⟩ := m1 (0, 3, 1) (List.mem_of_getElem? (i := 0) rfl)
  obtain rfl : x0 = a0 := Sum.inl.inj (Option.some.inj (Sum.inr.inj (Sum.inr.inj (Option.some.inj (show some (fR x0) = some _ from e1)))))
  obtain rfl : fI x1 = w0 := Option.some.inj (show some (fI x1) = some w0 from e4)
  clear e1 e4
  have f0 : fB K n p 1 [fR x0] σ := by
    obtain ⟨w, e6, e7⟩ := m4 (17, [0]) (List.mem_of_getElem? (i := 0) rfl)
    obtain rfl : [fR x0] = w := Option.some.inj (show some [fR x0] = some w from e6)
    exact (fF_b (r := 17) (by decide) rfl).mp e7
  clear m1 m2 m3 m4
  obtain ⟨a9, e9, h0, g0⟩ := f0
  cases e9
  have hF := fAt_of h0 s0
  have q0 : fB K n (p) 408 [fI x1] σ := by
    refine (fX_o (by decide)).mpr ⟨x1, rfl, (hF.2.2.1 x1 t0).symm, g0⟩
  exact ⟨p, fun _ => rfl, ⟨(fun q h => by cases h), fun q h => (by cases h), (fun f h => by cases h), (aAllc ⟨_, rfl, (fF_b (r := 6529) (by decide) rfl).mpr q0⟩ (fun f h => by cases h))⟩, [], List.mem_cons_self, fun f h => (by cases h)⟩
set_option maxRecDepth 8192 in
theorem rw_ruRT0 {K : Nat → Nat} {n : Nat} : aGho (fF K n) fa_T K n (fJX K n) ag_ruRT0 := by
  refine aGho_of ⟨rfl, rfl⟩ ?_
  intro p σ ρ hH hX hA hM
  have hG := aAG_of hA.1 (fun i e v he hv => (hA.2 i e v he hv).1)
  clear hA
  obtain ⟨v0, v1, v2, rfl, g0, g1, g2⟩ := fA_3 hG
  clear hG
  obtain ⟨x0, rfl, b0, d0⟩ := fG_ref (by decide) g0
  obtain ⟨x1, rfl, b1, d1⟩ := aG_int g1
  dsimp only at b1 d1
  obtain ⟨x2, rfl, b2, d2⟩ := fG_ref (by decide) g2
  obtain ⟨m1, m2, m3, m4⟩ := hM
  have f0 : fB K n p 1 [fR x0] σ := by
    obtain ⟨w, e6, e7⟩ := m4 (17, [0]) (List.mem_of_getElem? (i := 0) rfl)
    obtain rfl : [fR x0] = w := Option.some.inj (show some [fR x0] = some w from e6)
    exact (fF_b (r := 17) (by decide) rfl).mp e7
  clear m1 m2 m3 m4
  obtain ⟨a9, e9, h0, g0, q, hq⟩ := f0
  cases e9
  subst hq
  have hx1 : x1 = 0 := fI0 (by rw [show (0 : Int32).toInt = 0 by decide]; omega)
  have q0 : fB K n (fSh (.inl q) [fR x2]) 1 [fR x0] (jup σ x0 (jstf (σ x0) 3 (fI x1))) := by
    rw [hx1]
    exact ⟨x0, rfl, fAt_rt h0, fGood_rt g0, _, rfl⟩
  exact ⟨.inl q, fun _ => rfl, ⟨(fun q h => by cases h), fun q h => (by cases h), (fun f h => by cases h), (aAllc ⟨_, rfl, fF_pf (r := 17) (f := 3) (by decide) (by decide) (Nat.le_of_ble_eq_true rfl) q0⟩ (fun f h => by cases h))⟩, [], List.mem_cons_self, fun f h => (by cases h)⟩
set_option maxRecDepth 8192 in
theorem rw_ruRT1 {K : Nat → Nat} {n : Nat} : aGho (fF K n) fa_T K n (fJX K n) ag_ruRT1 := by
  refine aGho_of ⟨rfl, rfl⟩ ?_
  intro p σ ρ hH hX hA hM
  have hG := aAG_of hA.1 (fun i e v he hv => (hA.2 i e v he hv).1)
  clear hA
  obtain ⟨v0, v1, v2, rfl, g0, g1, g2⟩ := fA_3 hG
  clear hG
  obtain ⟨x0, rfl, b0, d0⟩ := fG_ref (by decide) g0
  obtain ⟨x1, rfl, b1, d1⟩ := aG_int g1
  dsimp only at b1 d1
  obtain ⟨x2, rfl, b2, d2⟩ := fG_ref (by decide) g2
  obtain ⟨m1, m2, m3, m4⟩ := hM
  have f0 : fB K n (fSh p [fR x2]) 1 [fR x0] σ := by
    obtain ⟨w, e6, e7⟩ := m4 (17, [0, 2]) (List.mem_of_getElem? (i := 0) rfl)
    obtain rfl : [fR x0, fR x2] = w := Option.some.inj (show some [fR x0, fR x2] = some w from e6)
    exact (fF_g (r := 17) (by decide)).mp e7
  have f1 : fB K n p 408 [fI x1] σ := by
    obtain ⟨w, e6, e7⟩ := m4 (6529, [1]) (List.mem_of_getElem? (i := 1) rfl)
    obtain rfl : [fI x1] = w := Option.some.inj (show some [fI x1] = some w from e6)
    exact (fF_b (r := 6529) (by decide) rfl).mp e7
  clear m1 m2 m3 m4
  obtain ⟨v9, e8, hv, hg, q, hq⟩ := (fX_o (by decide)).mp f1
  cases e8
  subst hq
  obtain ⟨a9, e9, h0, -⟩ := f0
  cases e9
  have q0 : fB K n (fSh (.inl q) []) 1 [fR x0] (jup σ x0 (jstf (σ x0) 3 (fI x1))) := by
    refine ⟨x0, rfl, ?_, hg, q, rfl⟩
    obtain ⟨h1, h2, fs, r, g, h3, h4, h5, h6, h7, h8, k2, k3, k4⟩ := fAt_rt (x := x1) h0
    exact ⟨h1, h2, fs, r, g, h3, h4, h5, h6, h7, h8, k2, by rw [k3]; exact congrArg some (congrArg Sum.inl hv.symm), k4⟩
  exact ⟨.inl q, fun _ => rfl, ⟨(fun q h => by cases h), fun q h => (by cases h), (fun f h => by cases h), (aAllc ⟨_, rfl, fF_pf (r := 17) (f := 3) (by decide) (by decide) (Nat.le_of_ble_eq_true rfl) q0⟩ (fun f h => by cases h))⟩, [], List.mem_cons_self, fun f h => (by cases h)⟩
set_option maxRecDepth 8192 in
theorem rw_ruLOx {K : Nat → Nat} {n : Nat} : aGho (fF K n) fa_T K n (fJX K n) ag_ruLOx := by
  refine aGho_of ⟨rfl, rfl⟩ ?_
  intro p σ ρ hH hX hA hM
  have hG := aAG_of hA.1 (fun i e v he hv => (hA.2 i e v he hv).1)
  clear hA
  obtain ⟨v0, v1, rfl, g0, g1⟩ := fA_2 hG
  clear hG
  obtain ⟨x0, rfl, b0, d0⟩ := aG_int g0
  dsimp only at b0 d0
  obtain ⟨x1, rfl, b1, d1⟩ := fG_ref (by decide) g1
  obtain ⟨m1, m2, m3, m4⟩ := hM
  have f0 : fB K n (fSh p [fR x1]) 46 [fI x0] σ := by
    obtain ⟨w, e6, e7⟩ := m4 (737, [0, 1]) (List.mem_of_getElem? (i := 0) rfl)
    obtain rfl : [fI x0, fR x1] = w := Option.some.inj (show some [fI x0, fR x1] = some w from e6)
    exact (fF_g (r := 737) (by decide)).mp e7
  clear m1 m2 m3 m4
  have q0 : fB K n (p) 46 [fI x0] σ := by
    obtain ⟨v, e, h⟩ := f0
    cases e
    refine ⟨x0, rfl, h.imp id (fun h => ?_)⟩
    rcases p with q | q
    · exact h
    · exact h
  exact ⟨p, fun _ => rfl, ⟨(fun q h => by cases h), fun q h => (by cases h), (fun f h => by cases h), (aAllc ⟨_, rfl, (fF_b (r := 737) (by decide) rfl).mpr q0⟩ (fun f h => by cases h))⟩, [], List.mem_cons_self, fun f h => (by cases h)⟩
set_option maxRecDepth 8192 in
theorem rw_ruLTa {K : Nat → Nat} {n : Nat} : aGho (fF K n) fa_T K n (fJX K n) ag_ruLTa := by
  refine aGho_of ⟨rfl, rfl⟩ ?_
  intro p σ ρ hH hX hA hM
  have hG := aAG_of hA.1 (fun i e v he hv => (hA.2 i e v he hv).1)
  clear hA
  obtain ⟨v0, v1, v2, rfl, g0, g1, g2⟩ := fA_3 hG
  clear hG
  obtain ⟨x0, rfl, b0, d0⟩ := fG_ref (by decide) g0
  obtain ⟨x1, rfl, b1, d1⟩ := aG_int g1
  dsimp only at b1 d1
  obtain ⟨x2, rfl, b2, d2⟩ := fG_ref (by decide) g2
  obtain ⟨m1, m2, m3, m4⟩ := hM
  have f0 : fB K n p 1 [fR x2] σ := by
    obtain ⟨w, e6, e7⟩ := m4 (17, [2]) (List.mem_of_getElem? (i := 0) rfl)
    obtain rfl : [fR x2] = w := Option.some.inj (show some [fR x2] = some w from e6)
    exact (fF_b (r := 17) (by decide) rfl).mp e7
  clear m1 m2 m3 m4
  obtain ⟨gR, hR⟩ := fRow hH b0 d0 rfl (by decide)
  have q0 : fB K n (p) 404 [fR x0, fI x1] σ := by
    refine (fX_o (by decide)).mpr ⟨x0, x1, rfl, b0, by unfold fRw; omega, _, gR, hR, fun k hk => by dsimp only at hk; omega⟩
  exact ⟨p, fun _ => rfl, ⟨(fun q h => by cases h), fun q h => (by cases h), (fun f h => by cases h), (aAllc ⟨_, rfl, (fF_b (r := 6466) (by decide) rfl).mpr q0⟩ (fun f h => by cases h))⟩, [], List.mem_cons_self, fun f h => (by cases h)⟩
set_option maxRecDepth 8192 in
theorem rw_ruLTs {K : Nat → Nat} {n : Nat} : aGho (fF K n) fa_T K n (fJX K n) ag_ruLTs := by
  refine aGho_of ⟨rfl, rfl⟩ ?_
  intro p σ ρ hH hX hA hM
  have hG := aAG_of hA.1 (fun i e v he hv => (hA.2 i e v he hv).1)
  clear hA
  obtain ⟨v0, v1, v2, v3, v4, v5, v6, v7, rfl, g0, g1, g2, g3, g4, g5, g6, g7⟩ := fA_8 hG
  clear hG
  obtain ⟨x0, rfl, b0, d0⟩ := fG_ref (by decide) g0
  obtain ⟨x1, rfl, b1, d1⟩ := aG_int g1
  dsimp only at b1 d1
  obtain ⟨x2, rfl, b2, d2⟩ := aG_int g2
  dsimp only at b2 d2
  obtain ⟨x3, rfl, b3, d3⟩ := aG_int g3
  dsimp only at b3 d3
  obtain ⟨x4, rfl, b4, d4⟩ := aG_int g4
  dsimp only at b4 d4
  obtain ⟨x5, rfl, b5, d5⟩ := aG_int g5
  dsimp only at b5 d5
  obtain ⟨x6, rfl, b6, d6⟩ := aG_int g6
  dsimp only at b6 d6
  obtain ⟨x7, rfl, b7, d7⟩ := aG_int g7
  dsimp only at b7 d7
  obtain ⟨m1, m2, m3, m4⟩ := hM
  have l0 : 0 ≤ (1 * x2.toInt + (-1 * x3.toInt + (128 * x4.toInt + (-1024 * x5.toInt + (8192 * x6.toInt + 0))))) + -29120 := by
    obtain ⟨z, e6, e7⟩ := m3 ([(2, 1), (3, -1), (4, 128), (5, -1024), (6, 8192)], -29120) (List.mem_of_getElem? (i := 0) rfl)
    obtain rfl : (1 * x2.toInt + (-1 * x3.toInt + (128 * x4.toInt + (-1024 * x5.toInt + (8192 * x6.toInt + 0))))) = z := Option.some.inj (show some (1 * x2.toInt + (-1 * x3.toInt + (128 * x4.toInt + (-1024 * x5.toInt + (8192 * x6.toInt + 0))))) = some z from e6)
    exact e7
  have l1 : 0 ≤ (-1 * x2.toInt + (1 * x3.toInt + (-128 * x4.toInt + (1024 * x5.toInt + (-8192 * x6.toInt + 0))))) + 29120 := by
    obtain ⟨z, e6, e7⟩ := m3 ([(2, -1), (3, 1), (4, -128), (5, 1024), (6, -8192)], 29120) (List.mem_of_getElem? (i := 1) rfl)
    obtain rfl : (-1 * x2.toInt + (1 * x3.toInt + (-128 * x4.toInt + (1024 * x5.toInt + (-8192 * x6.toInt + 0))))) = z := Option.some.inj (show some (-1 * x2.toInt + (1 * x3.toInt + (-128 * x4.toInt + (1024 * x5.toInt + (-8192 * x6.toInt + 0))))) = some z from e6)
    exact e7
  have l2 : 0 ≤ (1 * x3.toInt + (-64 * x4.toInt + 0)) + 0 := by
    obtain ⟨z, e6, e7⟩ := m3 ([(3, 1), (4, -64)], 0) (List.mem_of_getElem? (i := 2) rfl)
    obtain rfl : (1 * x3.toInt + (-64 * x4.toInt + 0)) = z := Option.some.inj (show some (1 * x3.toInt + (-64 * x4.toInt + 0)) = some z from e6)
    exact e7
  have l3 : 0 ≤ (-1 * x3.toInt + (64 * x4.toInt + 0)) + 63 := by
    obtain ⟨z, e6, e7⟩ := m3 ([(3, -1), (4, 64)], 63) (List.mem_of_getElem? (i := 3) rfl)
    obtain rfl : (-1 * x3.toInt + (64 * x4.toInt + 0)) = z := Option.some.inj (show some (-1 * x3.toInt + (64 * x4.toInt + 0)) = some z from e6)
    exact e7
  have l4 : 0 ≤ (1 * x3.toInt + (-512 * x5.toInt + 0)) + 0 := by
    obtain ⟨z, e6, e7⟩ := m3 ([(3, 1), (5, -512)], 0) (List.mem_of_getElem? (i := 4) rfl)
    obtain rfl : (1 * x3.toInt + (-512 * x5.toInt + 0)) = z := Option.some.inj (show some (1 * x3.toInt + (-512 * x5.toInt + 0)) = some z from e6)
    exact e7
  have l5 : 0 ≤ (-1 * x3.toInt + (512 * x5.toInt + 0)) + 511 := by
    obtain ⟨z, e6, e7⟩ := m3 ([(3, -1), (5, 512)], 511) (List.mem_of_getElem? (i := 5) rfl)
    obtain rfl : (-1 * x3.toInt + (512 * x5.toInt + 0)) = z := Option.some.inj (show some (-1 * x3.toInt + (512 * x5.toInt + 0)) = some z from e6)
    exact e7
  have l6 : 0 ≤ (1 * x3.toInt + (-4096 * x6.toInt + 0)) + 0 := by
    obtain ⟨z, e6, e7⟩ := m3 ([(3, 1), (6, -4096)], 0) (List.mem_of_getElem? (i := 6) rfl)
    obtain rfl : (1 * x3.toInt + (-4096 * x6.toInt + 0)) = z := Option.some.inj (show some (1 * x3.toInt + (-4096 * x6.toInt + 0)) = some z from e6)
    exact e7
  have l7 : 0 ≤ (-1 * x3.toInt + (4096 * x6.toInt + 0)) + 4095 := by
    obtain ⟨z, e6, e7⟩ := m3 ([(3, -1), (6, 4096)], 4095) (List.mem_of_getElem? (i := 7) rfl)
    obtain rfl : (-1 * x3.toInt + (4096 * x6.toInt + 0)) = z := Option.some.inj (show some (-1 * x3.toInt + (4096 * x6.toInt + 0)) = some z from e6)
    exact e7
  have f0 : fB K n p 404 [fR x0, fI x1] σ := by
    obtain ⟨w, e6, e7⟩ := m4 (6466, [0, 1]) (List.mem_of_getElem? (i := 0) rfl)
    obtain rfl : [fR x0, fI x1] = w := Option.some.inj (show some [fR x0, fI x1] = some w from e6)
    exact (fF_b (r := 6466) (by decide) rfl).mp e7
  have f1 : fB K n p 3 [fI x3] σ := by
    obtain ⟨w, e6, e7⟩ := m4 (49, [3]) (List.mem_of_getElem? (i := 1) rfl)
    obtain rfl : [fI x3] = w := Option.some.inj (show some [fI x3] = some w from e6)
    exact (fF_b (r := 49) (by decide) rfl).mp e7
  have f2 : fB K n p 2 [fR x0, fI x1, fI x7] σ := by
    obtain ⟨w, e6, e7⟩ := m4 (35, [0, 1, 7]) (List.mem_of_getElem? (i := 2) rfl)
    obtain rfl : [fR x0, fI x1, fI x7] = w := Option.some.inj (show some [fR x0, fI x1, fI x7] = some w from e6)
    exact (fF_b (r := 35) (by decide) rfl).mp e7
  clear m1 m2 m3 m4
  obtain ⟨a, hi, e, h0⟩ := (fX_o (by decide)).mp f0
  cases e
  obtain ⟨m9, e9, hM⟩ := f1
  cases e9
  obtain ⟨a8, lo8, hi8, e8, h8⟩ := f2
  cases e8
  have hx := fXor (x := x2) (m := x3) (a := x4) (b := x5) (c := x6) (by omega) (by omega) (by omega) (by omega) (by omega)
  have q0 : fB K n (p) 405 [fR x0, fI x1] (jup σ x0 (jsto (σ x0) x1.toNatClampNeg x2)) := by
    refine (fX_o (by decide)).mpr ⟨x0, x1, rfl, fLl_st h0 (fun _ => by rw [hx, fXx]; exact hM) (fun k hk h9 => ?_)⟩
    rw [fNc] at hk
    try dsimp only at h9 ⊢
    omega
  have q1 : fB K n (p) 406 [fR x0, fI x1, fI x7] (jup σ x0 (jsto (σ x0) x1.toNatClampNeg x2)) := by
    refine (fX_o (by decide)).mpr ⟨x0, x1, x7, rfl, fLl_st h8 (fun h => ?_) (fun k hk h9 => ?_)⟩
    · exfalso
      rw [fNc] at h
      try dsimp only at h
      omega
    · try dsimp only at h9 ⊢
      omega
  exact ⟨p, fun _ => rfl, ⟨(fun q h => by cases h), fun q h => (by cases h), (fun f h => by cases h), (aAllc ⟨_, rfl, fF_p (r := 6482) (by decide) (by decide) rfl q0⟩ (aAllc ⟨_, rfl, fF_p (r := 6499) (by decide) (by decide) rfl q1⟩ (fun f h => by cases h)))⟩, [], List.mem_cons_self, fun f h => (by cases h)⟩
set_option maxRecDepth 8192 in
theorem rw_ruLTn {K : Nat → Nat} {n : Nat} : aGho (fF K n) fa_T K n (fJX K n) ag_ruLTn := by
  refine aGho_of ⟨rfl, rfl⟩ ?_
  intro p σ ρ hH hX hA hM
  have hG := aAG_of hA.1 (fun i e v he hv => (hA.2 i e v he hv).1)
  clear hA
  obtain ⟨v0, v1, v2, v3, rfl, g0, g1, g2, g3⟩ := fA_4 hG
  clear hG
  obtain ⟨x0, rfl, b0, d0⟩ := fG_ref (by decide) g0
  obtain ⟨x1, rfl, b1, d1⟩ := aG_int g1
  dsimp only at b1 d1
  obtain ⟨x2, rfl, b2, d2⟩ := aG_int g2
  dsimp only at b2 d2
  obtain ⟨x3, rfl, b3, d3⟩ := aG_int g3
  dsimp only at b3 d3
  obtain ⟨m1, m2, m3, m4⟩ := hM
  have l0 : 0 ≤ (1 * x2.toInt + (-1 * x1.toInt + 0)) + -1 := by
    obtain ⟨z, e6, e7⟩ := m3 ([(2, 1), (1, -1)], -1) (List.mem_of_getElem? (i := 0) rfl)
    obtain rfl : (1 * x2.toInt + (-1 * x1.toInt + 0)) = z := Option.some.inj (show some (1 * x2.toInt + (-1 * x1.toInt + 0)) = some z from e6)
    exact e7
  have l1 : 0 ≤ (-1 * x2.toInt + (1 * x1.toInt + 0)) + 1 := by
    obtain ⟨z, e6, e7⟩ := m3 ([(2, -1), (1, 1)], 1) (List.mem_of_getElem? (i := 1) rfl)
    obtain rfl : (-1 * x2.toInt + (1 * x1.toInt + 0)) = z := Option.some.inj (show some (-1 * x2.toInt + (1 * x1.toInt + 0)) = some z from e6)
    exact e7
  have f0 : fB K n p 405 [fR x0, fI x1] σ := by
    obtain ⟨w, e6, e7⟩ := m4 (6482, [0, 1]) (List.mem_of_getElem? (i := 0) rfl)
    obtain rfl : [fR x0, fI x1] = w := Option.some.inj (show some [fR x0, fI x1] = some w from e6)
    exact (fF_b (r := 6482) (by decide) rfl).mp e7
  have f1 : fB K n p 406 [fR x0, fI x1, fI x3] σ := by
    obtain ⟨w, e6, e7⟩ := m4 (6499, [0, 1, 3]) (List.mem_of_getElem? (i := 1) rfl)
    obtain rfl : [fR x0, fI x1, fI x3] = w := Option.some.inj (show some [fR x0, fI x1, fI x3] = some w from e6)
    exact (fF_b (r := 6499) (by decide) rfl).mp e7
  clear m1 m2 m3 m4
  obtain ⟨a, hi, e, h1, h2, m, g, h3, h4⟩ := (fX_o (by decide)).mp f0
  cases e
  obtain ⟨a8, lo8, hi8, e8, k1, k2, m8, g8, k3, k4⟩ := (fX_o (by decide)).mp f1
  cases e8
  have q0 : fB K n (p) 404 [fR x0, fI x2] σ := by
    refine (fX_o (by decide)).mpr ⟨x0, x2, rfl, h1, h2, m, g, h3, fun k hk => h4 k (by dsimp only at hk ⊢; omega)⟩
  have q1 : fB K n (p) 2 [fR x0, fI x2, fI x3] σ := by
    exact ⟨x0, x2, x3, rfl, k1, k2, m8, g8, k3, fun k hk => k4 k (by dsimp only at hk ⊢; omega)⟩
  exact ⟨p, fun _ => rfl, ⟨(fun q h => by cases h), fun q h => (by cases h), (fun f h => by cases h), (aAllc ⟨_, rfl, (fF_b (r := 6466) (by decide) rfl).mpr q0⟩ (aAllc ⟨_, rfl, (fF_b (r := 35) (by decide) rfl).mpr q1⟩ (fun f h => by cases h)))⟩, [], List.mem_cons_self, fun f h => (by cases h)⟩
set_option maxRecDepth 8192 in
theorem rw_ruLTw {K : Nat → Nat} {n : Nat} : aGho (fF K n) fa_T K n (fJX K n) ag_ruLTw := by
  refine aGho_of ⟨rfl, rfl⟩ ?_
  intro p σ ρ hH hX hA hM
  have hG := aAG_of hA.1 (fun i e v he hv => (hA.2 i e v he hv).1)
  clear hA
  obtain ⟨v0, v1, v2, rfl, g0, g1, g2⟩ := fA_3 hG
  clear hG
  obtain ⟨x0, rfl, b0, d0⟩ := fG_ref (by decide) g0
  obtain ⟨x1, rfl, b1, d1⟩ := aG_int g1
  dsimp only at b1 d1
  obtain ⟨x2, rfl, b2, d2⟩ := aG_int g2
  dsimp only at b2 d2
  obtain ⟨m1, m2, m3, m4⟩ := hM
  have l0 : 0 ≤ (1 * x1.toInt + (-1 * x2.toInt + 0)) + 0 := by
    obtain ⟨z, e6, e7⟩ := m3 ([(1, 1), (2, -1)], 0) (List.mem_of_getElem? (i := 0) rfl)
    obtain rfl : (1 * x1.toInt + (-1 * x2.toInt + 0)) = z := Option.some.inj (show some (1 * x1.toInt + (-1 * x2.toInt + 0)) = some z from e6)
    exact e7
  have f0 : fB K n p 404 [fR x0, fI x1] σ := by
    obtain ⟨w, e6, e7⟩ := m4 (6466, [0, 1]) (List.mem_of_getElem? (i := 0) rfl)
    obtain rfl : [fR x0, fI x1] = w := Option.some.inj (show some [fR x0, fI x1] = some w from e6)
    exact (fF_b (r := 6466) (by decide) rfl).mp e7
  clear m1 m2 m3 m4
  obtain ⟨a, hi, e, h1, h2, m, g, h3, h4⟩ := (fX_o (by decide)).mp f0
  cases e
  have q0 : fB K n (p) 404 [fR x0, fI x2] σ := by
    refine (fX_o (by decide)).mpr ⟨x0, x2, rfl, h1, h2, m, g, h3, fun k hk => h4 k (by dsimp only at hk ⊢; omega)⟩
  exact ⟨p, fun _ => rfl, ⟨(fun q h => by cases h), fun q h => (by cases h), (fun f h => by cases h), (aAllc ⟨_, rfl, (fF_b (r := 6466) (by decide) rfl).mpr q0⟩ (fun f h => by cases h))⟩, [], List.mem_cons_self, fun f h => (by cases h)⟩
set_option maxRecDepth 8192 in
theorem rw_ruXMl {K : Nat → Nat} {n : Nat} : aGho (fF K n) fa_T K n (fJX K n) ag_ruXMl := by
  refine aGho_of ⟨rfl, rfl⟩ ?_
  intro p σ ρ hH hX hA hM
  have hG := aAG_of hA.1 (fun i e v he hv => (hA.2 i e v he hv).1)
  clear hA
  obtain ⟨v0, v1, v2, v3, rfl, g0, g1, g2, g3⟩ := fA_4 hG
  clear hG
  obtain ⟨x0, rfl, b0, d0⟩ := fG_ref (by decide) g0
  obtain ⟨x1, rfl, b1, d1⟩ := aG_int g1
  dsimp only at b1 d1
  obtain ⟨x2, rfl, b2, d2⟩ := aG_int g2
  dsimp only at b2 d2
  obtain ⟨x3, rfl, b3, d3⟩ := aG_int g3
  dsimp only at b3 d3
  obtain ⟨m1, m2, m3, m4⟩ := hM
  obtain ⟨a, mc0, ty0, gc0, ic0, e1, sc0, jc0, e4, e5⟩ := m2 (0, ([(2, 1)], 0), 3) (List.mem_of_getElem? (i := 0) rfl)
  obtain rfl : x0 = a := Sum.inl.inj (Option.some.inj (Sum.inr.inj (Sum.inr.inj (Option.some.inj (show some (fR x0) = some _ from e1)))))
  obtain ⟨gc0, rfl⟩ : ∃ g, gc0 = .inl g := by
    rcases gc0 with g | g
    · exact ⟨g, rfl⟩
    · exact absurd (show some (fI x3) = some (.inr (.inl (g ic0))) from e5) (fun h => by cases h)
  have sc0 : σ x0 = .inl (ty0, mc0, .inl gc0) := sc0
  have ec0 : x3 = gc0 ic0 := Sum.inl.inj (Option.some.inj (show some (fI x3) = some _ from e5))
  have kc0 : (ic0 : Int) = (1 * x2.toInt + 0) + 0 := by
    obtain ⟨z, e6, e7⟩ := e4
    obtain rfl : (1 * x2.toInt + 0) = z := Option.some.inj (show some (1 * x2.toInt + 0) = some z from e6)
    exact e7
  clear e1 e4 e5
  obtain rfl : ic0 = x2.toInt.toNat := by omega
  have l0 : 0 ≤ (1 * x1.toInt + (-1 * x2.toInt + 0)) + -1 := by
    obtain ⟨z, e6, e7⟩ := m3 ([(1, 1), (2, -1)], -1) (List.mem_of_getElem? (i := 0) rfl)
    obtain rfl : (1 * x1.toInt + (-1 * x2.toInt + 0)) = z := Option.some.inj (show some (1 * x1.toInt + (-1 * x2.toInt + 0)) = some z from e6)
    exact e7
  have f0 : fB K n p 404 [fR x0, fI x1] σ := by
    obtain ⟨w, e6, e7⟩ := m4 (6466, [0, 1]) (List.mem_of_getElem? (i := 0) rfl)
    obtain rfl : [fR x0, fI x1] = w := Option.some.inj (show some [fR x0, fI x1] = some w from e6)
    exact (fF_b (r := 6466) (by decide) rfl).mp e7
  clear m1 m2 m3 m4
  obtain ⟨a, hi, e, h1, h2, m, g, h3, h4⟩ := (fX_o (by decide)).mp f0
  cases e
  rw [h3] at sc0
  cases sc0
  have q0 : fB K n (p) 407 [fI x3] σ := by
    refine (fX_o (by decide)).mpr ⟨x3, rfl, ?_⟩
    rw [ec0]
    exact h4 _ (by dsimp only; omega)
  exact ⟨p, fun _ => rfl, ⟨(fun q h => by cases h), fun q h => (by cases h), (fun f h => by cases h), (aAllc ⟨_, rfl, (fF_b (r := 6513) (by decide) rfl).mpr q0⟩ (fun f h => by cases h))⟩, [], List.mem_cons_self, fun f h => (by cases h)⟩
set_option maxRecDepth 8192 in
theorem rw_ruXMp {K : Nat → Nat} {n : Nat} : aGho (fF K n) fa_T K n (fJX K n) ag_ruXMp := by
  refine aGho_of ⟨rfl, rfl⟩ ?_
  intro p σ ρ hH hX hA hM
  have hG := aAG_of hA.1 (fun i e v he hv => (hA.2 i e v he hv).1)
  clear hA
  obtain ⟨v0, v1, v2, v3, rfl, g0, g1, g2, g3⟩ := fA_4 hG
  clear hG
  obtain ⟨x0, rfl, b0, d0⟩ := fG_ref (by decide) g0
  obtain ⟨x1, rfl, b1, d1⟩ := aG_int g1
  dsimp only at b1 d1
  obtain ⟨x2, rfl, b2, d2⟩ := aG_int g2
  dsimp only at b2 d2
  obtain ⟨x3, rfl, b3, d3⟩ := aG_int g3
  dsimp only at b3 d3
  obtain ⟨m1, m2, m3, m4⟩ := hM
  obtain ⟨a, mc0, ty0, gc0, ic0, e1, sc0, jc0, e4, e5⟩ := m2 (0, ([(2, 1)], -1), 3) (List.mem_of_getElem? (i := 0) rfl)
  obtain rfl : x0 = a := Sum.inl.inj (Option.some.inj (Sum.inr.inj (Sum.inr.inj (Option.some.inj (show some (fR x0) = some _ from e1)))))
  obtain ⟨gc0, rfl⟩ : ∃ g, gc0 = .inl g := by
    rcases gc0 with g | g
    · exact ⟨g, rfl⟩
    · exact absurd (show some (fI x3) = some (.inr (.inl (g ic0))) from e5) (fun h => by cases h)
  have sc0 : σ x0 = .inl (ty0, mc0, .inl gc0) := sc0
  have ec0 : x3 = gc0 ic0 := Sum.inl.inj (Option.some.inj (show some (fI x3) = some _ from e5))
  have kc0 : (ic0 : Int) = (1 * x2.toInt + 0) + -1 := by
    obtain ⟨z, e6, e7⟩ := e4
    obtain rfl : (1 * x2.toInt + 0) = z := Option.some.inj (show some (1 * x2.toInt + 0) = some z from e6)
    exact e7
  clear e1 e4 e5
  have l0 : 0 ≤ (1 * x2.toInt + 0) + -1 := by
    obtain ⟨z, e6, e7⟩ := m3 ([(2, 1)], -1) (List.mem_of_getElem? (i := 0) rfl)
    obtain rfl : (1 * x2.toInt + 0) = z := Option.some.inj (show some (1 * x2.toInt + 0) = some z from e6)
    exact e7
  have l1 : 0 ≤ (1 * x1.toInt + (-1 * x2.toInt + 0)) + 0 := by
    obtain ⟨z, e6, e7⟩ := m3 ([(1, 1), (2, -1)], 0) (List.mem_of_getElem? (i := 1) rfl)
    obtain rfl : (1 * x1.toInt + (-1 * x2.toInt + 0)) = z := Option.some.inj (show some (1 * x1.toInt + (-1 * x2.toInt + 0)) = some z from e6)
    exact e7
  have f0 : fB K n p 404 [fR x0, fI x1] σ := by
    obtain ⟨w, e6, e7⟩ := m4 (6466, [0, 1]) (List.mem_of_getElem? (i := 0) rfl)
    obtain rfl : [fR x0, fI x1] = w := Option.some.inj (show some [fR x0, fI x1] = some w from e6)
    exact (fF_b (r := 6466) (by decide) rfl).mp e7
  clear m1 m2 m3 m4
  obtain ⟨a, hi, e, h1, h2, m, g, h3, h4⟩ := (fX_o (by decide)).mp f0
  cases e
  rw [h3] at sc0
  cases sc0
  have q0 : fB K n (p) 407 [fI x3] σ := by
    refine (fX_o (by decide)).mpr ⟨x3, rfl, ?_⟩
    rw [ec0]
    exact h4 _ (by dsimp only; omega)
  exact ⟨p, fun _ => rfl, ⟨(fun q h => by cases h), fun q h => (by cases h), (fun f h => by cases h), (aAllc ⟨_, rfl, (fF_b (r := 6513) (by decide) rfl).mpr q0⟩ (fun f h => by cases h))⟩, [], List.mem_cons_self, fun f h => (by cases h)⟩
set_option maxRecDepth 8192 in
theorem rw_ruLTt {K : Nat → Nat} {n : Nat} : aGho (fF K n) fa_T K n (fJX K n) ag_ruLTt := by
  refine aGho_of ⟨rfl, rfl⟩ ?_
  intro p σ ρ hH hX hA hM
  have hG := aAG_of hA.1 (fun i e v he hv => (hA.2 i e v he hv).1)
  clear hA
  obtain ⟨v0, v1, v2, v3, rfl, g0, g1, g2, g3⟩ := fA_4 hG
  clear hG
  obtain ⟨x0, rfl, b0, d0⟩ := fG_ref (by decide) g0
  obtain ⟨x1, rfl, b1, d1⟩ := aG_int g1
  dsimp only at b1 d1
  obtain ⟨x2, rfl, b2, d2⟩ := aG_int g2
  dsimp only at b2 d2
  obtain ⟨x3, rfl, b3, d3⟩ := aG_int g3
  dsimp only at b3 d3
  obtain ⟨m1, m2, m3, m4⟩ := hM
  have f0 : fB K n p 404 [fR x0, fI x1] σ := by
    obtain ⟨w, e6, e7⟩ := m4 (6466, [0, 1]) (List.mem_of_getElem? (i := 0) rfl)
    obtain rfl : [fR x0, fI x1] = w := Option.some.inj (show some [fR x0, fI x1] = some w from e6)
    exact (fF_b (r := 6466) (by decide) rfl).mp e7
  have f1 : fB K n p 407 [fI x3] σ := by
    obtain ⟨w, e6, e7⟩ := m4 (6513, [3]) (List.mem_of_getElem? (i := 1) rfl)
    obtain rfl : [fI x3] = w := Option.some.inj (show some [fI x3] = some w from e6)
    exact (fF_b (r := 6513) (by decide) rfl).mp e7
  clear m1 m2 m3 m4
  obtain ⟨a, hi, e, h0⟩ := (fX_o (by decide)).mp f0
  cases e
  obtain ⟨m9, e9, hM⟩ := (fX_o (by decide)).mp f1
  cases e9
  have q0 : fB K n (p) 404 [fR x0, fI x1] (jup σ x0 (jsto (σ x0) x2.toNatClampNeg x3)) := by
    refine (fX_o (by decide)).mpr ⟨x0, x1, rfl, fLl_st h0 (fun _ => hM) (fun k _ h9 => h9)⟩
  exact ⟨p, fun _ => rfl, ⟨(fun q h => by cases h), fun q h => (by cases h), (fun f h => by cases h), (aAllc ⟨_, rfl, fF_p (r := 6466) (by decide) (by decide) rfl q0⟩ (fun f h => by cases h))⟩, [], List.mem_cons_self, fun f h => (by cases h)⟩
set_option maxRecDepth 8192 in
theorem rw_ruXMm {K : Nat → Nat} {n : Nat} : aGho (fF K n) fa_T K n (fJX K n) ag_ruXMm := by
  refine aGho_of ⟨rfl, rfl⟩ ?_
  intro p σ ρ hH hX hA hM
  have hG := aAG_of hA.1 (fun i e v he hv => (hA.2 i e v he hv).1)
  clear hA
  obtain ⟨v0, v1, v2, v3, v4, rfl, g0, g1, g2, g3, g4⟩ := fA_5 hG
  clear hG
  obtain ⟨x0, rfl, b0, d0⟩ := aG_int g0
  dsimp only at b0 d0
  obtain ⟨x1, rfl, b1, d1⟩ := aG_int g1
  dsimp only at b1 d1
  obtain ⟨x2, rfl, b2, d2⟩ := aG_int g2
  dsimp only at b2 d2
  obtain ⟨x3, rfl, b3, d3⟩ := aG_int g3
  dsimp only at b3 d3
  obtain ⟨x4, rfl, b4, d4⟩ := aG_int g4
  dsimp only at b4 d4
  obtain ⟨m1, m2, m3, m4⟩ := hM
  have l0 : 0 ≤ (1 * x0.toInt + (-1 * x1.toInt + (128 * x2.toInt + (-1024 * x3.toInt + (8192 * x4.toInt + 0))))) + -29120 := by
    obtain ⟨z, e6, e7⟩ := m3 ([(0, 1), (1, -1), (2, 128), (3, -1024), (4, 8192)], -29120) (List.mem_of_getElem? (i := 0) rfl)
    obtain rfl : (1 * x0.toInt + (-1 * x1.toInt + (128 * x2.toInt + (-1024 * x3.toInt + (8192 * x4.toInt + 0))))) = z := Option.some.inj (show some (1 * x0.toInt + (-1 * x1.toInt + (128 * x2.toInt + (-1024 * x3.toInt + (8192 * x4.toInt + 0))))) = some z from e6)
    exact e7
  have l1 : 0 ≤ (-1 * x0.toInt + (1 * x1.toInt + (-128 * x2.toInt + (1024 * x3.toInt + (-8192 * x4.toInt + 0))))) + 29120 := by
    obtain ⟨z, e6, e7⟩ := m3 ([(0, -1), (1, 1), (2, -128), (3, 1024), (4, -8192)], 29120) (List.mem_of_getElem? (i := 1) rfl)
    obtain rfl : (-1 * x0.toInt + (1 * x1.toInt + (-128 * x2.toInt + (1024 * x3.toInt + (-8192 * x4.toInt + 0))))) = z := Option.some.inj (show some (-1 * x0.toInt + (1 * x1.toInt + (-128 * x2.toInt + (1024 * x3.toInt + (-8192 * x4.toInt + 0))))) = some z from e6)
    exact e7
  have l2 : 0 ≤ (1 * x1.toInt + (-64 * x2.toInt + 0)) + 0 := by
    obtain ⟨z, e6, e7⟩ := m3 ([(1, 1), (2, -64)], 0) (List.mem_of_getElem? (i := 2) rfl)
    obtain rfl : (1 * x1.toInt + (-64 * x2.toInt + 0)) = z := Option.some.inj (show some (1 * x1.toInt + (-64 * x2.toInt + 0)) = some z from e6)
    exact e7
  have l3 : 0 ≤ (-1 * x1.toInt + (64 * x2.toInt + 0)) + 63 := by
    obtain ⟨z, e6, e7⟩ := m3 ([(1, -1), (2, 64)], 63) (List.mem_of_getElem? (i := 3) rfl)
    obtain rfl : (-1 * x1.toInt + (64 * x2.toInt + 0)) = z := Option.some.inj (show some (-1 * x1.toInt + (64 * x2.toInt + 0)) = some z from e6)
    exact e7
  have l4 : 0 ≤ (1 * x1.toInt + (-512 * x3.toInt + 0)) + 0 := by
    obtain ⟨z, e6, e7⟩ := m3 ([(1, 1), (3, -512)], 0) (List.mem_of_getElem? (i := 4) rfl)
    obtain rfl : (1 * x1.toInt + (-512 * x3.toInt + 0)) = z := Option.some.inj (show some (1 * x1.toInt + (-512 * x3.toInt + 0)) = some z from e6)
    exact e7
  have l5 : 0 ≤ (-1 * x1.toInt + (512 * x3.toInt + 0)) + 511 := by
    obtain ⟨z, e6, e7⟩ := m3 ([(1, -1), (3, 512)], 511) (List.mem_of_getElem? (i := 5) rfl)
    obtain rfl : (-1 * x1.toInt + (512 * x3.toInt + 0)) = z := Option.some.inj (show some (-1 * x1.toInt + (512 * x3.toInt + 0)) = some z from e6)
    exact e7
  have l6 : 0 ≤ (1 * x1.toInt + (-4096 * x4.toInt + 0)) + 0 := by
    obtain ⟨z, e6, e7⟩ := m3 ([(1, 1), (4, -4096)], 0) (List.mem_of_getElem? (i := 6) rfl)
    obtain rfl : (1 * x1.toInt + (-4096 * x4.toInt + 0)) = z := Option.some.inj (show some (1 * x1.toInt + (-4096 * x4.toInt + 0)) = some z from e6)
    exact e7
  have l7 : 0 ≤ (-1 * x1.toInt + (4096 * x4.toInt + 0)) + 4095 := by
    obtain ⟨z, e6, e7⟩ := m3 ([(1, -1), (4, 4096)], 4095) (List.mem_of_getElem? (i := 7) rfl)
    obtain rfl : (-1 * x1.toInt + (4096 * x4.toInt + 0)) = z := Option.some.inj (show some (-1 * x1.toInt + (4096 * x4.toInt + 0)) = some z from e6)
    exact e7
  have f0 : fB K n p 407 [fI x1] σ := by
    obtain ⟨w, e6, e7⟩ := m4 (6513, [1]) (List.mem_of_getElem? (i := 0) rfl)
    obtain rfl : [fI x1] = w := Option.some.inj (show some [fI x1] = some w from e6)
    exact (fF_b (r := 6513) (by decide) rfl).mp e7
  clear m1 m2 m3 m4
  obtain ⟨m, e, hM⟩ := (fX_o (by decide)).mp f0
  cases e
  have hx := fXor (x := x0) (m := x1) (a := x2) (b := x3) (c := x4) (by omega) (by omega) (by omega) (by omega) (by omega)
  have q0 : fB K n (p) 3 [fI x0] σ := by
    rw [hx]
    exact ⟨_, rfl, hM⟩
  exact ⟨p, fun _ => rfl, ⟨(fun q h => by cases h), fun q h => (by cases h), (fun f h => by cases h), (aAllc ⟨_, rfl, (fF_b (r := 49) (by decide) rfl).mpr q0⟩ (fun f h => by cases h))⟩, [], List.mem_cons_self, fun f h => (by cases h)⟩
set_option maxRecDepth 8192 in
theorem rw_ruM0a {K : Nat → Nat} {n : Nat} : aGho (fF K n) fa_T K n (fJX K n) ag_ruM0a := by
  refine aGho_of ⟨rfl, rfl⟩ ?_
  intro p σ ρ hH hX hA hM
  have hG := aAG_of hA.1 (fun i e v he hv => (hA.2 i e v he hv).1)
  clear hA
  obtain ⟨v0, v1, v2, rfl, g0, g1, g2⟩ := fA_3 hG
  clear hG
  obtain ⟨x0, rfl, b0, d0⟩ := fG_ref (by decide) g0
  obtain ⟨x1, rfl, b1, d1⟩ := aG_int g1
  dsimp only at b1 d1
  obtain ⟨x2, rfl, b2, d2⟩ := aG_int g2
  dsimp only at b2 d2
  obtain ⟨m1, m2, m3, m4⟩ := hM
  have f0 : fB K n p 2 [fR x0, fI x1, fI x2] σ := by
    obtain ⟨w, e6, e7⟩ := m4 (35, [0, 1, 2]) (List.mem_of_getElem? (i := 0) rfl)
    obtain rfl : [fR x0, fI x1, fI x2] = w := Option.some.inj (show some [fR x0, fI x1, fI x2] = some w from e6)
    exact (fF_b (r := 35) (by decide) rfl).mp e7
  clear m1 m2 m3 m4
  obtain ⟨a, lo, hi, e, h1, h2, m, g, h3, h4⟩ := f0
  cases e
  have q0 : fB K n (p) 66 [fR x0, fI x2] σ := by
    exact ⟨x0, x2, rfl, d0, h1, h2, m, g, h3, fun k hk => h4 k (by dsimp only at hk ⊢; omega)⟩
  exact ⟨p, fun _ => rfl, ⟨(fun q h => by cases h), fun q h => (by cases h), (fun f h => by cases h), (aAllc ⟨_, rfl, (fF_b (r := 1058) (by decide) rfl).mpr q0⟩ (fun f h => by cases h))⟩, [], List.mem_cons_self, fun f h => (by cases h)⟩
set_option maxRecDepth 8192 in
theorem rw_ruM0m {K : Nat → Nat} {n : Nat} : aGho (fF K n) fa_T K n (fJX K n) ag_ruM0m := by
  refine aGho_of ⟨rfl, rfl⟩ ?_
  intro p σ ρ hH hX hA hM
  have hG := aAG_of hA.1 (fun i e v he hv => (hA.2 i e v he hv).1)
  clear hA
  obtain ⟨v0, v1, v2, v3, rfl, g0, g1, g2, g3⟩ := fA_4 hG
  clear hG
  obtain ⟨x0, rfl, b0, d0⟩ := fG_ref (by decide) g0
  obtain ⟨x1, rfl, b1, d1⟩ := aG_int g1
  dsimp only at b1 d1
  obtain ⟨x2, rfl, b2, d2⟩ := aG_int g2
  dsimp only at b2 d2
  obtain ⟨x3, rfl, b3, d3⟩ := aG_int g3
  dsimp only at b3 d3
  obtain ⟨m1, m2, m3, m4⟩ := hM
  obtain ⟨a, mc0, ty0, gc0, ic0, e1, sc0, jc0, e4, e5⟩ := m2 (0, ([(2, 1)], 0), 3) (List.mem_of_getElem? (i := 0) rfl)
  obtain rfl : x0 = a := Sum.inl.inj (Option.some.inj (Sum.inr.inj (Sum.inr.inj (Option.some.inj (show some (fR x0) = some _ from e1)))))
  obtain ⟨gc0, rfl⟩ : ∃ g, gc0 = .inl g := by
    rcases gc0 with g | g
    · exact ⟨g, rfl⟩
    · exact absurd (show some (fI x3) = some (.inr (.inl (g ic0))) from e5) (fun h => by cases h)
  have sc0 : σ x0 = .inl (ty0, mc0, .inl gc0) := sc0
  have ec0 : x3 = gc0 ic0 := Sum.inl.inj (Option.some.inj (show some (fI x3) = some _ from e5))
  have kc0 : (ic0 : Int) = (1 * x2.toInt + 0) + 0 := by
    obtain ⟨z, e6, e7⟩ := e4
    obtain rfl : (1 * x2.toInt + 0) = z := Option.some.inj (show some (1 * x2.toInt + 0) = some z from e6)
    exact e7
  clear e1 e4 e5
  obtain rfl : ic0 = x2.toInt.toNat := by omega
  have l0 : 0 ≤ (1 * x1.toInt + (-1 * x2.toInt + 0)) + -1 := by
    obtain ⟨z, e6, e7⟩ := m3 ([(1, 1), (2, -1)], -1) (List.mem_of_getElem? (i := 0) rfl)
    obtain rfl : (1 * x1.toInt + (-1 * x2.toInt + 0)) = z := Option.some.inj (show some (1 * x1.toInt + (-1 * x2.toInt + 0)) = some z from e6)
    exact e7
  have f0 : fB K n p 66 [fR x0, fI x1] σ := by
    obtain ⟨w, e6, e7⟩ := m4 (1058, [0, 1]) (List.mem_of_getElem? (i := 0) rfl)
    obtain rfl : [fR x0, fI x1] = w := Option.some.inj (show some [fR x0, fI x1] = some w from e6)
    exact (fF_b (r := 1058) (by decide) rfl).mp e7
  clear m1 m2 m3 m4
  obtain ⟨a, hi, e, hk, h1, h2, m, g, h3, h4⟩ := f0
  cases e
  rw [h3] at sc0
  cases sc0
  have q0 : fB K n (p) 3 [fI x3] σ := by
    rw [ec0]
    exact ⟨_, rfl, h4 _ (by dsimp only; omega)⟩
  exact ⟨p, fun _ => rfl, ⟨(fun q h => by cases h), fun q h => (by cases h), (fun f h => by cases h), (aAllc ⟨_, rfl, (fF_b (r := 49) (by decide) rfl).mpr q0⟩ (fun f h => by cases h))⟩, [], List.mem_cons_self, fun f h => (by cases h)⟩
set_option maxRecDepth 8192 in
theorem rw_ruM0s {K : Nat → Nat} {n : Nat} : aGho (fF K n) fa_T K n (fJX K n) ag_ruM0s := by
  refine aGho_of ⟨rfl, rfl⟩ ?_
  intro p σ ρ hH hX hA hM
  have hG := aAG_of hA.1 (fun i e v he hv => (hA.2 i e v he hv).1)
  clear hA
  obtain ⟨v0, v1, v2, v3, rfl, g0, g1, g2, g3⟩ := fA_4 hG
  clear hG
  obtain ⟨x0, rfl, b0, d0⟩ := fG_ref (by decide) g0
  obtain ⟨x1, rfl, b1, d1⟩ := aG_int g1
  dsimp only at b1 d1
  obtain ⟨x2, rfl, b2, d2⟩ := aG_int g2
  dsimp only at b2 d2
  obtain ⟨x3, rfl, b3, d3⟩ := aG_int g3
  dsimp only at b3 d3
  obtain ⟨m1, m2, m3, m4⟩ := hM
  have f0 : fB K n p 66 [fR x0, fI x1] σ := by
    obtain ⟨w, e6, e7⟩ := m4 (1058, [0, 1]) (List.mem_of_getElem? (i := 0) rfl)
    obtain rfl : [fR x0, fI x1] = w := Option.some.inj (show some [fR x0, fI x1] = some w from e6)
    exact (fF_b (r := 1058) (by decide) rfl).mp e7
  have f1 : fB K n p 3 [fI x3] σ := by
    obtain ⟨w, e6, e7⟩ := m4 (49, [3]) (List.mem_of_getElem? (i := 1) rfl)
    obtain rfl : [fI x3] = w := Option.some.inj (show some [fI x3] = some w from e6)
    exact (fF_b (r := 49) (by decide) rfl).mp e7
  clear m1 m2 m3 m4
  obtain ⟨a, hi, e, hk, h0⟩ := f0
  cases e
  obtain ⟨m9, e9, hM⟩ := f1
  cases e9
  have q0 : fB K n (p) 66 [fR x0, fI x1] (jup σ x0 (jsto (σ x0) x2.toNatClampNeg x3)) := by
    exact ⟨x0, x1, rfl, hk, fLl_st h0 (fun _ => hM) (fun k _ h9 => h9)⟩
  exact ⟨p, fun _ => rfl, ⟨(fun q h => by cases h), fun q h => (by cases h), (fun f h => by cases h), (aAllc ⟨_, rfl, fF_p (r := 1058) (by decide) (by decide) rfl q0⟩ (fun f h => by cases h))⟩, [], List.mem_cons_self, fun f h => (by cases h)⟩
set_option maxRecDepth 8192 in
theorem rw_ruM0l {K : Nat → Nat} {n : Nat} : aGho (fF K n) fa_T K n (fJX K n) ag_ruM0l := by
  refine aGho_of ⟨rfl, rfl⟩ ?_
  intro p σ ρ hH hX hA hM
  have hG := aAG_of hA.1 (fun i e v he hv => (hA.2 i e v he hv).1)
  clear hA
  obtain ⟨v0, v1, v2, rfl, g0, g1, g2⟩ := fA_3 hG
  clear hG
  obtain ⟨x0, rfl, b0, d0⟩ := fG_ref (by decide) g0
  obtain ⟨x1, rfl, b1, d1⟩ := aG_int g1
  dsimp only at b1 d1
  obtain ⟨x2, rfl, b2, d2⟩ := aG_int g2
  dsimp only at b2 d2
  obtain ⟨m1, m2, m3, m4⟩ := hM
  have f0 : fB K n p 66 [fR x0, fI x2] σ := by
    obtain ⟨w, e6, e7⟩ := m4 (1058, [0, 2]) (List.mem_of_getElem? (i := 0) rfl)
    obtain rfl : [fR x0, fI x2] = w := Option.some.inj (show some [fR x0, fI x2] = some w from e6)
    exact (fF_b (r := 1058) (by decide) rfl).mp e7
  clear m1 m2 m3 m4
  obtain ⟨a, hi, e, hk, h1, h2, m, g, h3, h4⟩ := f0
  cases e
  have q0 : fB K n (p) 2 [fR x0, fI x1, fI x2] σ := by
    exact ⟨x0, x1, x2, rfl, h1, h2, m, g, h3, fun k hk => h4 k hk.2⟩
  exact ⟨p, fun _ => rfl, ⟨(fun q h => by cases h), fun q h => (by cases h), (fun f h => by cases h), (aAllc ⟨_, rfl, (fF_b (r := 35) (by decide) rfl).mpr q0⟩ (fun f h => by cases h))⟩, [], List.mem_cons_self, fun f h => (by cases h)⟩

