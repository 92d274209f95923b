/-! GROWTH: how much has been made is told by the picture -/
noncomputable def gLen (c : jcell) : Nat := match c with
  | .inl (_, m, _) => m
  | .inr _ => 0
noncomputable def gAr (c : jcell) : Prop := ∃ ty m g, c = .inl (ty, m, g) ∧ ty ∈ jtys
noncomputable def gTi (n0 n : Nat) (σ : Nat → jcell) (ca sl : Nat) : Prop := n0 ≤ n ∧ n ≤ n0 + ca ∧ (∀ a, n0 ≤ a → a < n → gAr (σ a)) ∧ ((List.range (n - n0)).map (fun i => gLen (σ (n0 + i)))).sum ≤ sl
theorem gr_len (cA : ClassId) (m : Nat) (g : (Nat → Int32) ⊕ (Nat → Int64) ⊕ (Nat → UInt32) ⊕ (Nat → UInt64) ⊕ (Nat → Option Nat)) : (vp_cell cA (m, g)).slots.size = m := by
  rcases g with f | f | f | f | f
  all_goals exact arrV_size _ _ _
section GTI
variable {E : jE} {cl : List vw_C} {nL n : Nat} {M : jM} {Q : State → Prop}
theorem jJ_ti {n0 ca sl c2 s2 pc : Nat} (h0 : M.2.2.2.2.1.heap.size = E.2.2.2 + n0) {lv : List (Option jv)} {st : List jv} {σ : Nat → jcell} (hg : gTi n0 n σ ca sl) (h : jJ E cl nL M Q n ca sl pc lv st σ) : jJ E cl nL M Q n c2 s2 pc lv st σ := by
  intro H locs ls hW hS hL T hT X
  obtain ⟨g1, g2, g3, g4⟩ := hg
  obtain ⟨s1, s2, s3, s4, s5, s6⟩ := X.same
  have hsz := hW.1
  have e : (H.toList.drop (E.2.2.2 + n0)).map (fun c => c.slots.size) = (List.range (n - n0)).map (fun i => gLen (σ (n0 + i))) := by
    apply List.ext_getElem?
    intro i
    rw [List.getElem?_map, List.getElem?_drop, List.getElem?_map, Array.getElem?_toList]
    by_cases hi : i < n - n0
    · obtain ⟨ty, m, g, e1, e2⟩ := g3 (n0 + i) (by omega) (by omega)
      have h1 := hW.2 (n0 + i) (by omega) (by rw [e1]; exact e2)
      rw [e1] at h1
      have h2 : H[E.2.2.2 + (n0 + i)]? = some (vp_cell (E.2.1 ty) (m, g)) := h1
      rw [show E.2.2.2 + n0 + i = E.2.2.2 + (n0 + i) by omega, h2, List.getElem?_range hi]
      show some (vp_cell (E.2.1 ty) (m, g)).slots.size = some (gLen (σ (n0 + i)))
      rw [e1]
      exact congrArg some (gr_len _ _ _)
    · rw [Array.getElem?_eq_none (by omega), List.getElem?_eq_none (by rw [List.length_range]; omega)]
      rfl
  have hT2 : (T.setVm M.2.2.2.2.1.vm).heap = H := hT
  refine h H locs ls hW hS hL T hT { X with same := ⟨s1, s2, ?_, s4, ?_, s6⟩ }
  · rw [hT2, h0, hsz]
    omega
  · rw [hT2, h0, e]
    exact g4
end GTI
section GMT
variable {l : Launch} {E : jE} {cl : List vw_C} {tb : jTb} {Ts : List Jvm.Cond}
theorem jMet_ofG {Y : jY} {own nm ds : String} {cc : ByteArray} {nL : Nat} {ret : Option FieldType} {rm : Room} {vals : List jv} {σ : Nat → jcell} {n : Nat} {post : jPo} (hY : Y = (⟨own, nm, ds⟩, cc, nL, ret)) (ini : Bool) (hini : ini = true → nm = "<init>") (hy : plainName own = true) (hlen : (lg_sl (vals.map (jc E))).length ≤ nL) (lv0 : List (Option jv)) (hlv : jent vals nL = lv0)
    (body : ∀ M : jM, M.2.1 = l → M.2.2.2.1 = rm → jX E own Ts cl tb nL ini cc M → M.2.2.2.2.2.2.2.2.1.sig.returnType = ret → M.2.2.2.2.1.heap.size = E.2.2.2 + n → jJ E cl nL M (jQ E cl M post rm.cells rm.slots) n 0 0 0 lv0 [] σ) : jMet l E cl tb Ts Y rm vals σ n post := by
  subst hlv
  subst hY
  refine Met.ofW (cc := cc) (maxL := nL) (ret := ret) hy rfl ?_
  intro p e s m args below meth c s₁ B hml hv
  obtain ⟨rfl, hW, hK⟩ := hv
  have h := body (p, l, e, rm, s, m, (vals.map (jc E)).toArray, below, meth, c) rfl rfl
    ⟨B.exec, B.bytes, hml, findClass_of_methodNamed B.named, fun w hw => atoms_spec (ws := jws Ts (⟨own, nm, ds⟩, cc, nL, ret)) B.pre w (List.mem_cons_of_mem _ hw), hK, B.notSynchronized, fun hi => by
      have hn := (name_of_methodNamed B.named B.method).1
      rw [hn]
      exact hini hi⟩ B.returns hW.1
  have hl := lv_entry (vals.map (jc E)) (n := nL) hlen
  rw [lg_entry_eq]
  exact h s.heap [] _ hW va_S.rf ⟨hl.1, hl.2.1, fun i v hi => by
    have h1 := jar_in (E := E) vals 0 i v (jent_at hi)
    rw [Nat.zero_add] at h1
    exact hl.2.2 _ h1⟩
end GMT
/-! GROWTH: the check of a method whose calls may make cells -/
abbrev gV : Type := (Nat → Nat) × Nat × (Nat → jcell) × Nat × Nat
noncomputable def gMo (mo : List Nat) (dep : List (List aDe)) (md : List (Nat × Nat)) (S : aS) : Bool := S.2.2.2.2.2.2.all (fun q => Nat.beq q.1 0 || (mo.any (fun k => Nat.beq k q.1) || gDr dep md q.1))
noncomputable def gIv (I : Instr) : Bool := match I with
  | .invokevirtual _ => true
  | _ => false
noncomputable def gM (m : aMi) (lk : List (Nat × Nat × Nat)) (mg : List aCon) : aMi := ((m.1.1, m.1.2.1, m.1.2.2.1, m.1.2.2.2.1, lk, m.1.2.2.2.2.2), m.2.1, mg, m.2.2.2)
noncomputable def gMq (m : aMi) (mg : List aCon) (mo : List Nat) (x : jI) (S : aS) : Bool := match mg[x.2.2.1]? with
  | some G => gMo mo m.2.1.2.2.2.2.2.1 G.2.2.2.2.2.1.1 S
  | none => false
noncomputable def gSt (m : aMi) (lk : List (Nat × Nat × Nat)) (mg : List aCon) (gi mo : List Nat) (x : jI) (pc : Nat) (S : aS) : Option (List (Nat × aS)) := if gi.any (fun k => Nat.beq k pc) = true then (if gIv x.1 = true ∧ gMq m mg mo x S = true then aNe (gM m lk mg) x pc S else none) else aNe3 m x pc S
noncomputable def gRun (m : aMi) (lk : List (Nat × Nat × Nat)) (mg : List aCon) (gi mo : List Nat) (rk0 : List aF) : Nat → List jI → Nat → aS → Bool
  | 0, _, _, _ => false
  | _ + 1, [], _, _ => false
  | f + 1, x :: r, pc, S => aGk m pc S (fun S => (!Nat.beq x.2.2.1 999 && aRet m.2.1 m.2.2.2.1 m.1.2.2.2.1 x.1 S) || (match gSt m lk mg gi mo x pc S with
    | some L => L.all (fun q => aNn q.1 (fun p => aNy L q.2 (fun S => if m.2.2.2.2.2.any (fun c => Nat.beq c.1 p) = true then m.2.2.2.2.2.any (fun c => Nat.beq c.1 p && aTo m.2.1 rk0 c S) else (if p = pc + x.2.1 then gRun m lk mg gi mo rk0 f r p S else (match aSuf m.2.2.2.2.1 0 p with
        | some is => gRun m lk mg gi mo rk0 f is p S
        | none => false)))))
    | none => false))
noncomputable def gCk1 (m : aMi) (lk : List (Nat × Nat × Nat)) (mg : List aCon) (gi mo ex : List Nat) (f : Nat) (c : aCu) : Bool := aRo c.2.1.2.2.1.length c.2.2.2 && (ex.any (fun k => Nat.beq k c.1) || (match aSuf m.2.2.2.2.1 0 c.1 with
  | some is => gRun m lk mg gi mo c.2.2.2 f is c.1 c.2.1
  | none => false))
noncomputable def gChk (m : aMi) (lk : List (Nat × Nat × Nat)) (mg : List aCon) (gi mo ex : List Nat) (f : Nat) : Bool := aOkc m.2.1 m.2.2.2.1 && m.2.2.2.2.2.all (gCk1 m lk mg gi mo ex f)
/-- what the tables say of a method that may make cells -/
noncomputable def gGd (Ts : List Jvm.Cond) (G : aCon) : Prop := jmth Ts G.1 (G.2.2.1 - 1) ∧ Jvm.Cond.instanceMethod G.1.1 ∈ jTA Ts ∧ Jvm.Cond.selects G.1.1.cls G.1.1 G.1.1 ∈ jTA Ts
section GPO
variable {P : Type} (F : (Nat → Nat) → Nat → aFt P) (T : List aKd) (JX : (Nat → Nat) → Nat → (Nat → jcell) → Prop)
noncomputable def gPost (Wn : (Nat → Nat) → Nat → (Nat → jcell) → Prop) (K : Nat → Nat) (n : Nat) (p : P) (σ : Nat → jcell) (ρ : List jv) (G : aCon) : jPo := fun r σ' n' => aFr K n G.2.2.2.2.2.1.1 σ σ' ∧ aFa K n G.2.2.2.2.2.1.2 ρ σ σ' ∧ r.isSome = G.2.2.2.2.1.1.isSome ∧ ∃ K', gW K n K' n' ∧ (n' = n → K' = K) ∧ (¬ n' = n → Wn K' n' σ') ∧ aH T K' n' σ' ∧ JX K' n' σ' ∧ ∃ xs, aR K' n' (aPe G) (ρ ++ (r.toList ++ xs)) ∧ aMm (F K' n') p (ρ ++ (r.toList ++ xs)) σ' G.2.2.2.2.1.2.2.1 ∧ ∃ A ∈ G.2.2.2.2.1.2.2.2, ∀ f ∈ A, aHd (ρ ++ (r.toList ++ xs)) f
/-- what is asked of a method that may make cells, in each world of its caller -/
noncomputable def gCal (l : Launch) (E : jE) (cl : List vw_C) (tb : jTb) (Ts : List Jvm.Cond) (R : Room) (n0 : Nat) (Wp : gV → Prop) (G : aCon) : Prop := ∀ (K : Nat → Nat) (n : Nat) (σ0 : Nat → jcell) (ca sl : Nat), Wp (K, n, σ0, ca, sl) → ∀ (p : P) (σ : Nat → jcell) (ρ : List jv), aH T K n σ → JX K n σ → aR K n G.2.2.2.1.1 ρ → aMm (F K n) p ρ σ G.2.2.2.1.2 → ∃ rc : Room, rc.frames = G.2.2.2.2.2.2.frames ∧ rc.locals = G.2.2.2.2.2.2.locals ∧ ca + rc.cells ≤ R.cells ∧ sl + rc.slots ≤ R.slots ∧ jMet l E cl tb Ts G.1 rc (ρ.take G.2.2.1) σ n (gPost F T JX (fun K' n' σ' => ∃ ca' sl', Wp (K', n', gS n σ0 σ', ca', sl') ∧ ((ca + rc.cells ≤ ca' ∧ sl + rc.slots ≤ sl') ∨ gTi n0 n' σ' ca' sl')) K n p σ ρ G)
end GPO
/-- what the check of a method that may make cells leaves to be shown -/
noncomputable def gMe {P : Type} (F : (Nat → Nat) → Nat → aFt P) (JX : (Nat → Nat) → Nat → (Nat → jcell) → Prop) (l : Launch) (E : jE) (tb : jTb) (m : aMi) (mg : List aCon) (ex : List Nat) (nL : Nat) (cc : ByteArray) (ini : Bool) : Prop := ∀ (post : jPo) (rm : Room), (m.2.2.2.1.2.2.2.2.2.2.frames ≤ rm.frames ∧ m.2.2.2.1.2.2.2.2.2.2.locals ≤ rm.locals) → ∀ (K : Nat → Nat) (n : Nat) (p : P) (σ : Nat → jcell) (ρ : List jv), aH m.2.1.1 K n σ → JX K n σ → aR K n m.2.2.2.1.2.2.2.1.1 ρ → aMm (F K n) p ρ σ m.2.2.2.1.2.2.2.1.2 → ∀ (Wp : gV → Prop), Wp (K, n, σ, 0, 0) → (∀ G ∈ mg, gGd m.1.2.1 G ∧ gCal F m.2.1.1 JX l E m.1.2.2.1 tb m.1.2.1 rm n Wp G) →
    (∀ (K : Nat → Nat) (n : Nat) (σ0 : Nat → jcell) (ca sl : Nat), Wp (K, n, σ0, ca, sl) → (ca ≤ rm.cells ∧ sl ≤ rm.slots) ∧ ∀ (r : Option jv) (σ' : Nat → jcell), aPo m.2.1 K n (JX K n) (F K n) p ρ σ0 m.2.2.2.1 r σ' n → post r σ' n) →
    (∀ (M : jM), M.2.1 = l → M.2.2.2.1 = rm → M.2.2.2.2.1.heap.size = E.2.2.2 + n → jX E m.1.1 m.1.2.1 m.1.2.2.1 tb nL ini cc M → jokLQ m.1.1 m.1.2.1 m.1.2.2.1 tb nL false cc 0 m.2.2.2.2.1 = true → ∀ c ∈ m.2.2.2.2.2, ex.any (fun k => Nat.beq k c.1) = true → ∀ (K : Nat → Nat) (n : Nat) (σ0 : Nat → jcell) (ca sl : Nat), Wp (K, n, σ0, ca, sl) → ∀ (ρ' : List jv) (lv : List (Option jv)) (st : List jv) (σ : Nat → jcell), aX ρ ρ' → aCx (aFq (F K n) p) (aHp m.2.1 K n (JX K n) ρ σ0) K n c.2.1 ρ' lv st σ →
      (∀ (K : Nat → Nat) (n : Nat) (σ0 : Nat → jcell) (ca sl : Nat), Wp (K, n, σ0, ca, sl) → ∀ c2 ∈ m.2.2.2.2.2, ∀ (ρ2 : List jv) (lv : List (Option jv)) (st : List jv) (σ : Nat → jcell), aLt (c2.2.2.2.map (aRn ρ2)) (c.2.2.2.map (aRn ρ')) → aX ρ ρ2 → aCx (aFq (F K n) p) (aHp m.2.1 K n (JX K n) ρ σ0) K n c2.2.1 ρ2 lv st σ → jJ E m.1.2.2.1 nL M (jQ E m.1.2.2.1 M post rm.cells rm.slots) n ca sl c2.1 lv st σ) →
      jJ E m.1.2.2.1 nL M (jQ E m.1.2.2.1 M post rm.cells rm.slots) n ca sl c.1 lv st σ) →
    jMet l E m.1.2.2.1 tb m.1.2.1 m.2.2.2.1.1 rm (ρ.take m.2.2.2.1.2.2.1) σ n post
section GRN
variable {P : Type} {F : (Nat → Nat) → Nat → aFt P} {JX : (Nat → Nat) → Nat → (Nat → jcell) → Prop} {l : Launch} {E : jE} {tb : jTb} {nL : Nat} {ini : Bool} {cc : ByteArray} {M : jM} {ρ0 : List jv} {m : aMi} {pe : P} {sh : P → List jv → P} {lk : List (Nat × Nat × Nat)} {mg : List aCon} {gi mo ex : List Nat} {Wp : gV → Prop} {n0 : Nat}
theorem gMo_ok {K K' : Nat → Nat} {n n' : Nat} (hmn : ∀ r ∈ mo, ∀ (p : P) (vs : List jv) (σ : Nat → jcell), F K n p r vs σ → F K' n' p r vs σ) {dep : List (List aDe)} {md : List (Nat × Nat)} {S : aS} (h : gMo mo dep md S = true) : ∀ f ∈ S.2.2.2.2.2.2, gDr dep md f.1 = true ∨ ∀ (p : P) (vs : List jv) (σ : Nat → jcell), aFq (F K n) pe p f.1 vs σ → aFq (F K' n') pe p f.1 vs σ := by
  intro f hf
  have h2 := List.all_eq_true.mp h f hf
  rw [Bool.or_eq_true, Bool.or_eq_true] at h2
  rcases h2 with h2 | h2 | h2
  · refine Or.inr (fun p vs σ h1 => ?_)
    unfold aFq at h1 ⊢
    rw [if_pos (Nat.eq_of_beq_eq_true h2)] at h1 ⊢
    exact h1
  · refine Or.inr (fun p vs σ h1 => ?_)
    unfold aFq at h1 ⊢
    by_cases h0 : f.1 = 0
    · rw [if_pos h0] at h1 ⊢
      exact h1
    · rw [if_neg h0] at h1 ⊢
      obtain ⟨k, k1, k2⟩ := List.any_eq_true.mp h2
      rw [← Nat.eq_of_beq_eq_true k2] at h1 ⊢
      exact hmn k k1 p vs σ h1
  · exact Or.inl h2
theorem gNe_ok {Q : State → Prop} {rm9 : Room} (hfl : m.2.2.2.1.2.2.2.2.2.2.frames ≤ rm9.frames ∧ m.2.2.2.1.2.2.2.2.2.2.locals ≤ rm9.locals) (hg : ∀ q ∈ lk, ∀ G, mg[q.2.2]? = some G → jlm m.1.2.1 q.2.1 m.1.1 q.1 G.1.1 = true) (X : jX E m.1.1 m.1.2.1 m.1.2.2.1 tb nL ini cc M) (hl : M.2.1 = l) (hR : M.2.2.2.1 = rm9) (h0 : M.2.2.2.2.1.heap.size = E.2.2.2 + n0) (hG : ∀ G ∈ mg, gGd m.1.2.1 G ∧ gCal F m.2.1.1 JX l E m.1.2.2.1 tb m.1.2.1 rm9 n0 Wp G) (hS : ∀ K n, aShf (F K n) sh) (hD : ∀ K n, aDp (F K n) K n m.2.1.2.2.2.2.2.1) (hmn : ∀ K n K' n', gW K n K' n' → ∀ r ∈ mo, ∀ (p : P) (vs : List jv) (σ : Nat → jcell), F K n p r vs σ → F K' n' p r vs σ) (hDT : aDT m.2.1.2.2.2.2.2.1 m.2.1.1 = true) (hE : m.2.1.2.2.2.2.2.2 = ρ0.length) {x : jI} {pc : Nat} (hd : decode cc pc = .ok (x.1, x.2.1)) {S : aS} {L : List (Nat × aS)} (hb : aNe (gM m lk mg) x pc S = some L) (hiv : gIv x.1 = true) (hmo : gMq m mg mo x S = true) {K : Nat → Nat} {n : Nat} {σ0 : Nat → jcell} {ca sl : Nat} (hw : Wp (K, n, σ0, ca, sl)) {ρ : List jv} (hx0 : aX ρ0 ρ) {lv : List (Option jv)} {st : List jv} {σ : Nat → jcell} (hc : aCx (aFq (F K n) pe) (aHp m.2.1 K n (JX K n) ρ0 σ0) K n S ρ lv st σ)
    (h : ∀ (K : Nat → Nat) (n : Nat) (σ0 : Nat → jcell) (ca sl : Nat), Wp (K, n, σ0, ca, sl) → aNx (aFq (F K n) pe) (aHp m.2.1 K n (JX K n) ρ0 σ0) K n (jJ E m.1.2.2.1 nL M Q n ca sl) ρ L) : jJ E m.1.2.2.1 nL M Q n ca sl pc lv st σ := by
  subst hl
  obtain ⟨I, ln, py⟩ := x
  dsimp only at hd hiv
  unfold gIv at hiv
  split at hiv
  next i =>
    replace hb : (match mg[py.1]? with
      | some G => if ln = 3 ∧ G.2.1 = false ∧ jin3 i py.2.2.1 py.1 lk = true ∧ aRoom m.2.2.2.1.2.2.2.2.2.2 G.2.2.2.2.2.2 G.1.2.2.1 = true ∧ (S.2.1.drop G.2.2.1).length ≤ 4 ∧ aCs m.1.2.2.1 m.2.1.1 G = true ∧ 1 ≤ G.2.2.1 then aCall m.2.1 S G (pc + 3) else none
      | none => none) = some L := hb
    split at hb
    next G hg1 =>
      unfold gMq at hmo
      dsimp only at hmo
      rw [hg1] at hmo
      replace hmo : gMo mo m.2.1.2.2.2.2.2.1 G.2.2.2.2.2.1.1 S = true := hmo
      split at hb
      next hz =>
        obtain ⟨z0, z1, z2, z3, z4, z5, z6⟩ := hz
        subst z0
        obtain ⟨⟨q1, q2, q3⟩, g4⟩ := hG G (List.mem_of_getElem? hg1)
        obtain ⟨vs, s, ρ1, mm, pc1, rfl, v1, v2, v3, v4, v5, v6⟩ := aCallG_ok (aFq_sh (hS K n) pe) (aFq_dp (hD K n) pe) hDT hE hb hx0 hc
        obtain ⟨n1, n2⟩ := aCall_no hb
        simp only [aRoom, Bool.and_eq_true, decide_eq_true_eq] at z3
        obtain ⟨rc, r1, r2, r3, r4, hM⟩ := g4 K n σ0 ca sl hw pc1 σ (aVal ρ1 mm) hc.2.2.2.2.1 hc.2.2.2.2.2.1 v3 ((aFq_mm n1).mp v4)
        rw [v5] at hM
        unfold aCs at z5
        split at z5
        next k o es hes =>
          split at z5
          next q hq =>
            split at z5
            next w hw2 =>
              rw [Bool.and_eq_true, decide_eq_true_eq, decide_eq_true_eq] at z5
              obtain ⟨z5, z9⟩ := z5
              have hln : vs.reverse.length = G.2.2.1 := by rw [List.length_reverse]; exact v1
              cases hv : vs.reverse with
              | nil =>
                rw [hv] at hln
                simp at hln
                omega
              | cons v0 vr =>
                rw [hv] at hM hln v5
                have h00 : (aVal ρ1 mm)[0]? = some v0 := by
                  have : ((aVal ρ1 mm).take G.2.2.1)[0]? = some v0 := by rw [v5]; rfl
                  rw [List.getElem?_take_of_lt (by omega)] at this
                  exact this
                obtain ⟨a, rfl, b1, b2⟩ := aG_obj z9 (v3.2 0 (.inr (some (.inl (false, k))), o) v0 (by rw [hes]; rfl) h00).1
                obtain ⟨fs, e1, -⟩ := aCe_obj (hc.2.2.2.2.1 a b1 _ (by rw [b2]; exact hq))
                refine jk_callVD (vals := vr) (k := G.2.2.1 - 1) X hR hd (hg _ (jin3_ok z2) _ hg1) q1 q2 q3 hw2 z5 b1 e1 hM ?_ (by simp at hln; omega) ⟨by rw [r1]; exact Nat.le_trans z3.1 hfl.1, by rw [r2]; exact Nat.le_trans z3.2 hfl.2⟩ ⟨r3, r4⟩ (r := s) (by have q1 := jcat_le s; omega) (fun v σ' n' hp => ?_)
                · have e9 : vs = (.inr (.inr (some (.inl a))) :: vr).reverse := by rw [← hv, List.reverse_reverse]
                  rw [e9, List.reverse_cons, List.append_assoc]
                  rfl
                · obtain ⟨p3, p4, p5, K', k1, k2, k3, p1, p2, xs, p6, p7, p8⟩ := hp
                  refine ⟨fun en => ?_, fun en => ?_⟩
                  · subst en
                    obtain rfl := k2 rfl
                    exact v6 K' n' (aFq (F K' n') pe) (JX K' n') σ0 gW_rf (aFq_sh (hS K' n') pe) (fun _ _ => Or.inr (fun _ _ _ h9 => h9)) _ v σ' xs (fun a b => ⟨a, b⟩) (h K' n' σ0 ca sl hw) p1 p2 p3 p4 p5 p6 ((aFq_mm n2).mpr p7) p8
                  · obtain ⟨ca', sl', w1, w2⟩ := k3 en
                    have hj := v6 K' n' (aFq (F K' n') pe) (JX K' n') (gS n σ0 σ') k1 (aFq_sh (hS K' n') pe) (gMo_ok (hmn K n K' n' k1) hmo) _ v σ' xs (fun a b => ⟨aFr_gw k1 a, aFa_gw k1 b⟩) (h K' n' (gS n σ0 σ') ca' sl' w1) p1 p2 p3 p4 p5 p6 ((aFq_mm n2).mpr p7) p8
                    rcases w2 with w2 | w2
                    · exact jJ_widen w2.1 w2.2 hj
                    · exact jJ_ti h0 w2 hj
            next => cases z5
          next => cases z5
        next => cases z5
      next => cases hb
    next => cases hb
  next => cases hiv
theorem gRun_ok {rm9 : Room} {post : jPo} (hsp : ∀ q ∈ m.1.2.2.2.2.2.1, aSpP m.1.1 m.1.2.1 q) (hg : ∀ q ∈ m.1.2.2.2.2.1, ∀ G, m.2.2.1[q.2.2]? = some G → jlm m.1.2.1 q.2.1 m.1.1 q.1 G.1.1 = true) (hg2 : ∀ q ∈ lk, ∀ G, mg[q.2.2]? = some G → jlm m.1.2.1 q.2.1 m.1.1 q.1 G.1.1 = true) (hC : jCl m.1.2.1 m.1.2.2.1) (X : jX E m.1.1 m.1.2.1 m.1.2.2.1 tb nL ini cc M) (hl : M.2.1 = l) (hfl : m.2.2.2.1.2.2.2.2.2.2.frames ≤ rm9.frames ∧ m.2.2.2.1.2.2.2.2.2.2.locals ≤ rm9.locals) (hR : M.2.2.2.1 = rm9) (h0 : M.2.2.2.2.1.heap.size = E.2.2.2 + n0) (hrt : M.2.2.2.2.2.2.2.2.1.sig.returnType = m.1.2.2.2.1) (hG : ∀ K n, ∀ G ∈ m.2.2.1, aGd m.1.2.1 G ∧ aMe (F K n) l E m.1.2.2.1 tb m.1.2.1 m.2.1.1 K n (JX K n) G) (hG2 : ∀ G ∈ mg, gGd m.1.2.1 G ∧ gCal F m.2.1.1 JX l E m.1.2.2.1 tb m.1.2.1 rm9 n0 Wp G) (hU : ∀ K n, ∀ G ∈ m.1.2.2.2.2.2.2.2.1, aGho (F K n) m.2.1.1 K n (JX K n) G) (hT : aTB m.2.1.2.1 tb) (hJ : ∀ K n, aJx K n m.2.1.2.2.1 (JX K n)) (hS : ∀ K n, aShf (F K n) sh) (hD : ∀ K n, aDp (F K n) K n m.2.1.2.2.2.2.2.1) (hmn : ∀ K n K' n', gW K n K' n' → ∀ r ∈ mo, ∀ (p : P) (vs : List jv) (σ : Nat → jcell), F K n p r vs σ → F K' n' p r vs σ) (hDT : aDT m.2.1.2.2.2.2.2.1 m.2.1.1 = true) (hE : m.2.1.2.2.2.2.2.2 = ρ0.length) (hok : jokLQ m.1.1 m.1.2.1 m.1.2.2.1 tb nL ini cc 0 m.2.2.2.2.1 = true)
    (hW1 : ∀ (K : Nat → Nat) (n : Nat) (σ0 : Nat → jcell) (ca sl : Nat), Wp (K, n, σ0, ca, sl) → (ca ≤ rm9.cells ∧ sl ≤ rm9.slots) ∧ ∀ (r : Option jv) (σ' : Nat → jcell), aPo m.2.1 K n (JX K n) (F K n) pe ρ0 σ0 m.2.2.2.1 r σ' n → post r σ' n) {rk0 : List aF} {R0 : List Nat}
    (hI : ∀ (K : Nat → Nat) (n : Nat) (σ0 : Nat → jcell) (ca sl : Nat), Wp (K, n, σ0, ca, sl) → ∀ c ∈ m.2.2.2.2.2, ∀ (ρ' : List jv) (lv' : List (Option jv)) (st' : List jv) (σ' : Nat → jcell), aLt (c.2.2.2.map (aRn ρ')) R0 → aX ρ0 ρ' → aCx (aFq (F K n) pe) (aHp m.2.1 K n (JX K n) ρ0 σ0) K n c.2.1 ρ' lv' st' σ' → jJ E m.1.2.2.1 nL M (jQ E m.1.2.2.1 M post rm9.cells rm9.slots) n ca sl c.1 lv' st' σ') : ∀ (f : Nat) (is : List jI) (pc : Nat) (S : aS) (K : Nat → Nat) (n : Nat) (σ0 : Nat → jcell) (ca sl : Nat), Wp (K, n, σ0, ca, sl) → ∀ (ρ : List jv) (lv : List (Option jv)) (st : List jv) (σ : Nat → jcell), gRun m lk mg gi mo rk0 f is pc S = true → jokLQ m.1.1 m.1.2.1 m.1.2.2.1 tb nL ini cc pc is = true → aX ρ0 ρ → aDef ρ rk0 → rk0.map (aRn ρ) = R0 → aCx (aFq (F K n) pe) (aHp m.2.1 K n (JX K n) ρ0 σ0) K n S ρ lv st σ → jJ E m.1.2.2.1 nL M (jQ E m.1.2.2.1 M post rm9.cells rm9.slots) n ca sl pc lv st σ
  | 0, _, _, _, _, _, _, _, _, _, _, _, _, _, h, _, _, _, _, _ => by unfold gRun at h; cases h
  | _ + 1, [], _, _, _, _, _, _, _, _, _, _, _, _, h, _, _, _, _, _ => by unfold gRun at h; cases h
  | f + 1, x :: r, pc, S, K, n, σ0, ca, sl, hw, ρ, lv, st, σ, h, hk, hx0, hdf, hr0, hc => by
    have hk2 : jokQ m.1.1 m.1.2.1 m.1.2.2.1 tb nL ini cc pc x = true ∧ jokLQ m.1.1 m.1.2.1 m.1.2.2.1 tb nL ini cc (pc + x.2.1) r = true := by
      have h9 := hk
      unfold jokLQ at h9
      rwa [Bool.and_eq_true] at h9
    unfold gRun at h
    refine aGk_ok (hU K n) (hS K n) (hD K n) hDT hE h hx0 hc (fun S9 h ρ9 lv9 st9 σ9 hx9 hc9 => ?_)
    have hdf := aDef_mo hx9 hdf
    have hr0 : rk0.map (aRn ρ9) = R0 := (aRn_mo hx9 ‹aDef ρ rk0›).trans hr0
    have hx0 := hx0.tr hx9
    have hc := hc9
    rw [Bool.or_eq_true] at h
    rcases h with h | h
    · rw [Bool.and_eq_true] at h
      exact aRetG_ok (hW1 K n σ0 ca sl hw).1.1 (hW1 K n σ0 ca sl hw).1.2 (hS K n).2 hE X hrt (jokQ_n hk2.1 (by have := h.1; simpa using this)) h.2 hx0 hc (hW1 K n σ0 ca sl hw).2
    · split at h
      next L hL =>
        have hnext : ∀ (K : Nat → Nat) (n : Nat) (σ0 : Nat → jcell) (ca sl : Nat), Wp (K, n, σ0, ca, sl) → aNx (aFq (F K n) pe) (aHp m.2.1 K n (JX K n) ρ0 σ0) K n (jJ E m.1.2.2.1 nL M (jQ E m.1.2.2.1 M post rm9.cells rm9.slots) n ca sl) ρ9 L := by
          intro K n σ0 ca sl hw q hq ρ' lv' st' σ' hx hc'
          have h1 := List.all_eq_true.mp h q hq
          rw [aNn_e, aNy_e] at h1
          have hdf' := aDef_mo hx hdf
          have hr0' : rk0.map (aRn ρ') = R0 := (aRn_mo hx hdf).trans hr0
          have hx0' := hx0.tr hx
          split at h1
          next =>
            obtain ⟨c, k1, k3⟩ := List.any_eq_true.mp h1
            rw [Bool.and_eq_true] at k3
            have k2 := Nat.eq_of_beq_eq_true k3.1
            obtain ⟨ρ2, g0, g1, g2⟩ := aTo_ok hE k3.2 hx0' hdf' hc'
            rw [hr0'] at g2
            rw [← k2]
            exact hI K n σ0 ca sl hw c k1 ρ2 lv' st' σ' g2 g0 g1
          next =>
            split at h1
            next e =>
              rw [e] at h1 ⊢
              exact gRun_ok hsp hg hg2 hC X hl hfl hR h0 hrt hG hG2 hU hT hJ hS hD hmn hDT hE hok hW1 hI f r _ _ K n σ0 ca sl hw ρ' lv' st' σ' h1 hk2.2 hx0' hdf' hr0' hc'
            next =>
              split at h1
              next is2 hs2 => exact gRun_ok hsp hg hg2 hC X hl hfl hR h0 hrt hG hG2 hU hT hJ hS hD hmn hDT hE hok hW1 hI f is2 _ _ K n σ0 ca sl hw ρ' lv' st' σ' h1 (aSuf_ok hok hs2) hx0' hdf' hr0' hc'
              next => cases h1
        have hd9 := hk2.1
        unfold jokQ at hd9
        rw [Bool.and_eq_true, decide_eq_true_eq] at hd9
        unfold gSt at hL
        split at hL
        next =>
          split at hL
          next hz => exact gNe_ok hfl hg2 X hl hR h0 hG2 hS hD hmn hDT hE hd9.1 hL hz.1 hz.2 hw hx0 hc hnext
          next => cases hL
        next =>
          have hstep : ∀ (S : aS) (L : List (Nat × aS)) (ρ : List jv) (lv : List (Option jv)) (st : List jv) (σ : Nat → jcell), aNe2 m x pc S = some L → aX ρ0 ρ → aCx (aFq (F K n) pe) (aHp m.2.1 K n (JX K n) ρ0 σ0) K n S ρ lv st σ → aNx (aFq (F K n) pe) (aHp m.2.1 K n (JX K n) ρ0 σ0) K n (jJ E m.1.2.2.1 nL M (jQ E m.1.2.2.1 M post rm9.cells rm9.slots) n ca sl) ρ L → jJ E m.1.2.2.1 nL M (jQ E m.1.2.2.1 M post rm9.cells rm9.slots) n ca sl pc lv st σ := by
            intro S L ρ lv st σ hL hx0 hc
            unfold aNe2 at hL
            split at hL
            next => exact aSpe_ok (hW1 K n σ0 ca sl hw).1 hfl hsp hg hC X hl hR (hG K n) hT (hJ K n) (hS K n) (hD K n) hDT hE hd9.1 hL hx0 hc
            next hn => exact aNe_ok (hW1 K n σ0 ca sl hw).1 hfl hg hC X hl hR (hG K n) hT (hJ K n) (hS K n) (hD K n) hDT hE (jokQ_n hk2.1 hn) hL hx0 hc
          exact aNe3_ok hstep hL hx0 hc (hnext K n σ0 ca sl hw)
      next => cases h
/-- a method of the check that may make cells; cuts of ex are left to the hand -/
theorem gMe_of {f : Nat} {g : Nat → Option Jvm.Cond} {L : jLk} {own nm ds : String} {ret : Option FieldType} (hY : m.2.2.2.1.1 = (⟨own, nm, ds⟩, cc, nL, ret)) (hini : ini = true → nm = "<init>") (hm1 : m.1.1 = own) (hm2 : m.1.2.2.2.1 = ret) (hy : plainName own = true)
    (hgg : ∀ i w, g i = some w → m.1.2.1[i]? = some w) (hL : jLkOk m.1.1 m.1.2.1 m.1.2.2.1 tb L) (hsp : ∀ q ∈ m.1.2.2.2.2.2.1, aSpP m.1.1 m.1.2.1 q) (hg : ∀ q ∈ m.1.2.2.2.2.1, ∀ G, m.2.2.1[q.2.2]? = some G → jlm m.1.2.1 q.2.1 m.1.1 q.1 G.1.1 = true) (hg2 : ∀ q ∈ lk, ∀ G, mg[q.2.2]? = some G → jlm m.1.2.1 q.2.1 m.1.1 q.1 G.1.1 = true) (hC : jCl m.1.2.1 m.1.2.2.1) (hG : ∀ K n, ∀ G ∈ m.2.2.1, aGd m.1.2.1 G ∧ aMe (F K n) l E m.1.2.2.1 tb m.1.2.1 m.2.1.1 K n (JX K n) G) (hU : ∀ K n, ∀ G ∈ m.1.2.2.2.2.2.2.2.1, aGho (F K n) m.2.1.1 K n (JX K n) G) (hT : aTB m.2.1.2.1 tb) (hJ : ∀ K n, aJx K n m.2.1.2.2.1 (JX K n)) (hS : ∀ K n, aShf (F K n) sh) (hD : ∀ K n, aDp (F K n) K n m.2.1.2.2.2.2.2.1) (hmn : ∀ K n K' n', gW K n K' n' → ∀ r ∈ mo, ∀ (p : P) (vs : List jv) (σ : Nat → jcell), F K n p r vs σ → F K' n' p r vs σ) (hok : jokLG g L m.1.1 m.1.2.2.1 tb nL cc 0 m.2.2.2.2.1 = true) (hch : gChk m lk mg gi mo ex f = true) {rk : List aF} (hc0 : (0, aEn m.2.2.2.1, [], rk) ∈ m.2.2.2.2.2) : gMe F JX l E tb m mg ex nL cc ini := by
  intro post rm hfl K n p σ ρ hH hX hA hM Wp hw0 hG2 hW1 hex
  unfold gChk at hch
  rw [Bool.and_eq_true] at hch
  obtain ⟨h0, h1⟩ := hch
  simp only [aOkc, Bool.and_eq_true, decide_eq_true_eq] at h0
  obtain ⟨o1, o2, o3, o4, o5, o6, o7, o8⟩ := h0
  have hlr : ρ.length = m.2.2.2.1.2.2.2.1.1.length := hA.1
  have hAG : aAG K n ((m.2.2.2.1.2.2.2.1.1.take m.2.2.2.1.2.2.1).map (·.1)) (ρ.take m.2.2.2.1.2.2.1) := by
    refine aAG_of (by rw [List.length_take, List.length_take, hlr]) (fun i e v he hv => ?_)
    have hi : i < m.2.2.2.1.2.2.1 := by
      have := (List.getElem?_eq_some_iff.mp he).1
      rw [List.length_take] at this
      omega
    rw [List.getElem?_take_of_lt hi] at he hv
    exact (hA.2 i e v he hv).1
  obtain ⟨e1, e2, e3⟩ := aEnt_ok (E := E) 0 hAG
  have hnl : m.2.2.2.1.1.2.2.1 = nL := by rw [hY]
  have hcx : aCx (aFq (F K n) p) (aHp m.2.1 K n (JX K n) ρ σ) K n (aEn m.2.2.2.1) ρ (jent (ρ.take m.2.2.2.1.2.2.1) nL) [] σ := by
    refine ⟨hA, ⟨?_, fun i k hk => ?_⟩, trivial, ⟨p, hM.1, fun q hq => (by cases hq), hM.2.2.1, fun q hq => ?_⟩, hH, hX, aFr_rf, aFa_rf⟩
    · unfold aEn jent
      simp only [List.length_append, List.length_replicate]
      rw [e1, hnl]
    · unfold aEn at hk
      dsimp only at hk
      by_cases hi : i < (aEnt ((m.2.2.2.1.2.2.2.1.1.take m.2.2.2.1.2.2.1).map (·.1)) 0).length
      · rw [List.getElem?_append_left hi] at hk
        obtain ⟨v, -, v2, v3⟩ := e3 i k hk
        have hk2 : k - 0 < m.2.2.2.1.2.2.1 := by
          have := (List.getElem?_eq_some_iff.mp v2).1
          rw [List.length_take] at this
          omega
        rw [List.getElem?_take_of_lt hk2] at v2
        refine ⟨v, by simpa using v2, ?_⟩
        unfold jent
        rw [List.getElem?_append_left (by rw [← e1]; exact hi)]
        exact v3
      · rw [List.getElem?_append_right (by omega), List.getElem?_replicate] at hk
        split at hk <;> simp at hk
    · rcases List.mem_cons.mp hq with rfl | hq
      · exact ⟨[], rfl, rfl⟩
      · exact ((aFq_mm o6).mpr hM).2.2.2 q hq
  have hln : (lg_sl ((ρ.take m.2.2.2.1.2.2.1).map (jc E))).length ≤ nL := by rw [e2, ← hnl]; exact o8
  refine jMet_ofG hY ini hini hy hln (jent (ρ.take m.2.2.2.1.2.2.1) nL) rfl ?_
  intro M hl hR X0 hr hsz
  rw [← hm1] at X0
  have X : jX E m.1.1 m.1.2.1 m.1.2.2.1 tb nL false cc M := ⟨X0.1, X0.2.1, X0.2.2.1, X0.2.2.2.1, X0.2.2.2.2.1, X0.2.2.2.2.2.1, X0.2.2.2.2.2.2.1, fun h => by cases h⟩
  have hok9 := jokLG_ok hgg hL hok
  have key : ∀ (R : List Nat), ∀ (K : Nat → Nat) (n : Nat) (σ0 : Nat → jcell) (ca sl : Nat), Wp (K, n, σ0, ca, sl) → ∀ c ∈ m.2.2.2.2.2, ∀ (ρ' : List jv) (lv : List (Option jv)) (st : List jv) (σ : Nat → jcell), c.2.2.2.map (aRn ρ') = R → aX ρ ρ' → aCx (aFq (F K n) p) (aHp m.2.1 K n (JX K n) ρ σ0) K n c.2.1 ρ' lv st σ → jJ E m.1.2.2.1 nL M (jQ E m.1.2.2.1 M post rm.cells rm.slots) n ca sl c.1 lv st σ := by
    intro R
    induction aLt_acc R.length R rfl with
    | intro R _ ih =>
      intro K n σ0 ca sl hw c hcm ρ' lv st σ hR0 hx0 hc
      have h2 := List.all_eq_true.mp h1 c hcm
      unfold gCk1 at h2
      rw [Bool.and_eq_true, Bool.or_eq_true] at h2
      obtain ⟨h2, h3⟩ := h2
      rcases h3 with h3 | h3
      · exact hex M hl hR hsz X0 hok9 c hcm h3 K n σ0 ca sl hw ρ' lv st σ hx0 hc (fun K n σ0 ca sl hw c2 hc2 ρ2 lv st σ hlt hx hcx => ih _ (by rw [← hR0]; exact hlt) K n σ0 ca sl hw c2 hc2 ρ2 lv st σ rfl hx hcx)
      · split at h3
        next is hs =>
          refine gRun_ok hsp hg hg2 hC X hl hfl hR hsz (hr.trans hm2.symm) hG hG2 hU hT hJ hS hD hmn o4 (o3.trans hlr.symm) hok9 hW1 (R0 := R) (fun K n σ0 ca sl hw c2 hc2 ρ2 lv' st' σ' hlt hx hcx => ih _ hlt K n σ0 ca sl hw c2 hc2 ρ2 lv' st' σ' rfl hx hcx) f is c.1 c.2.1 K n σ0 ca sl hw ρ' lv st σ h3 (aSuf_ok hok9 hs) hx0 (fun g hg => ?_) hR0 hc
          exact aEv_df (by rw [hc.1.1]; exact List.all_eq_true.mp h2 g hg)
        next => cases h3
  exact key _ K n σ 0 0 hw0 _ hc0 ρ _ [] σ rfl aX_rf hcx
end GRN
theorem gChk_1 {m : aMi} {lk : List (Nat × Nat × Nat)} {mg : List aCon} {gi mo ex : List Nat} {f : Nat} (h0 : aOkc m.2.1 m.2.2.2.1 = true) (h : m.2.2.2.2.2.all (gCk1 m lk mg gi mo ex f) = true) : gChk m lk mg gi mo ex f = true := by
  unfold gChk
  rw [Bool.and_eq_true]
  exact ⟨h0, h⟩
noncomputable def gMn {P : Type} (F : (Nat → Nat) → Nat → aFt P) (mo : List Nat) : Prop := ∀ K n K' n', gW K n K' n' → ∀ r ∈ mo, ∀ (p : P) (vs : List jv) (σ : Nat → jcell), F K n p r vs σ → F K' n' p r vs σ
