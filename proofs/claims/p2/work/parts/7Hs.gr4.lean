/-! GROWTH of the reference: the tables of endings are made once -/
def zNo (K : Nat → Nat) (n : Nat) : Prop := ∀ a, a < n → ¬ K a = 109
/-- new cells are the reference's -/
def zKi (n : Nat) (K' : Nat → Nat) (n' : Nat) : Prop := ∀ a, n ≤ a → a < n' → 55 ≤ K' a ∧ K' a ≤ 113
section GZ
variable {cG sG : Nat} {P : Type} {F : (Nat → Nat) → Nat → aFt P} {JX : (Nat → Nat) → Nat → (Nat → jcell) → Prop}
theorem aFr_un {K K' : Nat → Nat} {n n' : Nat} (h : gW K n K' n') {md : List (Nat × Nat)} {σ σ0 σ' : Nat → jcell} (hs : ∀ a, a < n → σ0 a = σ a) (hf : aFr K' n' md σ0 σ') : aFr K n md σ σ' := by
  intro a ha c fs he
  obtain ⟨fs', e1, e2, e3⟩ := hf a (Nat.lt_of_lt_of_le ha h.1) c fs (by rw [hs a ha]; exact he)
  exact ⟨fs', e1, e2, fun f v hv hm => e3 f v hv (by rw [h.2 a ha]; exact hm)⟩
theorem aFa_un {K K' : Nat → Nat} {n n' : Nat} (h : gW K n K' n') {mk : List (Nat × aF)} {ρ : List jv} {σ σ0 σ' : Nat → jcell} (hs : ∀ a, a < n → σ0 a = σ a) (hf : aFa K' n' mk ρ σ0 σ') : aFa K n mk ρ σ σ' := by
  intro a ha
  obtain ⟨h1, h2⟩ := hf a (Nat.lt_of_lt_of_le ha h.1)
  refine ⟨fun ty m g he => ?_, fun ty m g he => ?_⟩
  · obtain ⟨g', e1, e2⟩ := h1 ty m g (by rw [hs a ha]; exact he)
    exact ⟨g', e1, fun i hi => e2 i (fun q hq hk => hi q hq (hk.trans (h.2 a ha)))⟩
  · obtain ⟨g', e1, e2⟩ := h2 ty m g (by rw [hs a ha]; exact he)
    exact ⟨g', e1, fun i hi => e2 i (fun q hq hk => hi q hq (hk.trans (h.2 a ha)))⟩
theorem gPost_mo {T : List aKd} {Wn Wn' : (Nat → Nat) → Nat → (Nat → jcell) → Prop} {K : Nat → Nat} {n : Nat} {p : P} {σ : Nat → jcell} {ρ : List jv} {G : aCon} (h : ∀ K' n' σ', gW K n K' n' → ¬ n' = n → Wn K' n' σ' → Wn' K' n' σ') (r : Option jv) (σ' : Nat → jcell) (n' : Nat) (hp : gPost F T JX Wn K n p σ ρ G r σ' n') : gPost F T JX Wn' K n p σ ρ G r σ' n' := by
  obtain ⟨p3, p4, p5, K', k1, k2, k3, p1⟩ := hp
  exact ⟨p3, p4, p5, K', k1, k2, fun en => h K' n' σ' k1 en (k3 en), p1⟩
/-- a method that may make the tables, if they are not there -/
def zCon (cG sG : Nat) (F : (Nat → Nat) → Nat → aFt P) (T : List aKd) (JX : (Nat → Nat) → Nat → (Nat → jcell) → Prop) (l : Launch) (E : jE) (cl : List vw_C) (tb : jTb) (Ts : List Jvm.Cond) (G : aCon) : Prop := ∀ (K : Nat → Nat) (n : Nat) (p : P) (σ : Nat → jcell) (ρ : List jv), aH T K n σ → JX K n σ → aR K n G.2.2.2.1.1 ρ → aMm (F K n) p ρ σ G.2.2.2.1.2 → ∀ (rc : Room), rc.frames = G.2.2.2.2.2.2.frames → rc.locals = G.2.2.2.2.2.2.locals → (zNo K n → rc.cells = cG ∧ rc.slots = sG) → (¬ zNo K n → rc.cells = 0 ∧ rc.slots = 0) → jMet l E cl tb Ts G.1 rc (ρ.take G.2.2.1) σ n (gPost F T JX (fun K' n' _ => zNo K n ∧ ¬ zNo K' n' ∧ zKi n K' n') K n p σ ρ G)
def zWp (cG sG : Nat) (K : Nat → Nat) (n : Nat) (σ : Nat → jcell) (w : gV) : Prop := w = (K, n, σ, 0, 0) ∨ (zNo K n ∧ gW K n w.1 w.2.1 ∧ ¬ w.2.1 = n ∧ ¬ zNo w.1 w.2.1 ∧ (∀ a, a < n → w.2.2.1 a = σ a) ∧ w.2.2.2 = (cG, sG) ∧ zKi n w.1 w.2.1)
/-- what is left of a cut that the check leaves to the hand -/
def zEx (cG sG : Nat) (F : (Nat → Nat) → Nat → aFt P) (JX : (Nat → Nat) → Nat → (Nat → jcell) → Prop) (l : Launch) (E : jE) (tb : jTb) (m : aMi) (ex : List Nat) (nL : Nat) (cc : ByteArray) : Prop := ∀ (post : jPo) (rm : Room), m.2.2.2.1.2.2.2.2.2.2.frames ≤ rm.frames → m.2.2.2.1.2.2.2.2.2.2.locals ≤ rm.locals → ∀ (K : Nat → Nat) (n : Nat) (p : P) (σ : Nat → jcell) (ρ : List jv), (zNo K n → rm.cells = cG ∧ rm.slots = sG) → (¬ zNo K n → rm.cells = 0 ∧ rm.slots = 0) →
    (∀ (M : jM), M.2.1 = l → M.2.2.2.1 = rm → M.2.2.2.2.1.heap.size = E.2.2.2 + n → jX E m.1.1 m.1.2.1 m.1.2.2.1 tb nL false cc M → jokLQ m.1.1 m.1.2.1 m.1.2.2.1 tb nL false cc 0 m.2.2.2.2.1 = true → ∀ c ∈ m.2.2.2.2.2, ex.any (fun k => Nat.beq k c.1) = true → ∀ (K1 : Nat → Nat) (n1 : Nat) (σ0 : Nat → jcell) (ca sl : Nat), zWp cG sG K n σ (K1, n1, σ0, ca, sl) → ∀ (ρ' : List jv) (lv : List (Option jv)) (st : List jv) (σ1 : Nat → jcell), aX ρ ρ' → aCx (aFq (F K1 n1) p) (aHp m.2.1 K1 n1 (JX K1 n1) ρ σ0) K1 n1 c.2.1 ρ' lv st σ1 →
      (∀ (K1 : Nat → Nat) (n1 : Nat) (σ0 : Nat → jcell) (ca sl : Nat), zWp cG sG K n σ (K1, n1, σ0, ca, sl) → ∀ c2 ∈ m.2.2.2.2.2, ∀ (ρ2 : List jv) (lv : List (Option jv)) (st : List jv) (σ1 : Nat → jcell), aLt (c2.2.2.2.map (aRn ρ2)) (c.2.2.2.map (aRn ρ')) → aX ρ ρ2 → aCx (aFq (F K1 n1) p) (aHp m.2.1 K1 n1 (JX K1 n1) ρ σ0) K1 n1 c2.2.1 ρ2 lv st σ1 → jJ E m.1.2.2.1 nL M (jQ E m.1.2.2.1 M post rm.cells rm.slots) n1 ca sl c2.1 lv st σ1) →
      jJ E m.1.2.2.1 nL M (jQ E m.1.2.2.1 M post rm.cells rm.slots) n1 ca sl c.1 lv st σ1)
theorem zEx_nil {l : Launch} {E : jE} {tb : jTb} {m : aMi} {nL : Nat} {cc : ByteArray} : zEx cG sG F JX l E tb m [] nL cc := fun _ _ _ _ _ _ _ _ _ _ _ _ _ _ _ _ _ _ _ h => by cases h
theorem zMe {l : Launch} {E : jE} {tb : jTb} {m : aMi} {mg : List aCon} {ex : List Nat} {nL : Nat} {cc : ByteArray} (h : gMe F JX l E tb m mg ex nL cc false) (e1 : m.2.1.2.2.2.1 = m.2.2.2.1.2.2.2.2.2.1.1) (e2 : m.2.1.2.2.2.2.1 = m.2.2.2.1.2.2.2.2.2.1.2) (hG : ∀ G ∈ mg, gGd m.1.2.1 G ∧ zCon cG sG F m.2.1.1 JX l E m.1.2.2.1 tb m.1.2.1 G) (hx : zEx cG sG F JX l E tb m ex nL cc) : zCon cG sG F m.2.1.1 JX l E m.1.2.2.1 tb m.1.2.1 m.2.2.2.1 := by
  intro K n p σ ρ hH hX hA hM rc r1 r2 r3 r4
  refine h _ rc ⟨by rw [r1]; exact Nat.le_refl _, by rw [r2]; exact Nat.le_refl _⟩ K n p σ ρ hH hX hA hM (zWp cG sG K n σ) (Or.inl rfl) (fun G hGm => ⟨(hG G hGm).1, ?_⟩) ?_ (hx _ rc (by rw [r1]; exact Nat.le_refl _) (by rw [r2]; exact Nat.le_refl _) K n p σ ρ r3 r4)
  · intro K1 n1 σ0 ca sl hw p1 σ1 ρ1 hH1 hX1 hA1 hM1
    have hz := (hG G hGm).2 K1 n1 p1 σ1 ρ1 hH1 hX1 hA1 hM1
    by_cases hn : zNo K1 n1
    · rcases hw with hw | hw
      · cases hw
        obtain ⟨c1, c2⟩ := r3 hn
        refine ⟨{ frames := G.2.2.2.2.2.2.frames, cells := cG, slots := sG, locals := G.2.2.2.2.2.2.locals }, rfl, rfl, by rw [c1, Nat.zero_add]; exact Nat.le_refl _, by rw [c2, Nat.zero_add]; exact Nat.le_refl _, jMet_post (hz _ rfl rfl (fun _ => ⟨rfl, rfl⟩) (fun h9 => absurd hn h9)) (gPost_mo (fun K' n' σ' w1 w2 w3 => ⟨cG, sG, Or.inr ⟨hn, w1, w2, w3.2.1, fun a ha => if_pos ha, rfl, w3.2.2⟩, Or.inl ⟨by rw [Nat.zero_add]; exact Nat.le_refl _, by rw [Nat.zero_add]; exact Nat.le_refl _⟩⟩))⟩
      · exact absurd hn hw.2.2.2.1
    · refine ⟨{ frames := G.2.2.2.2.2.2.frames, cells := 0, slots := 0, locals := G.2.2.2.2.2.2.locals }, rfl, rfl, ?_, ?_, jMet_post (hz _ rfl rfl (fun h9 => absurd h9 hn) (fun _ => ⟨rfl, rfl⟩)) (gPost_mo (fun K' n' σ' w1 w2 w3 => absurd w3.1 hn))⟩
      · rcases hw with hw | hw
        · cases hw
          exact Nat.zero_le _
        · have e := hw.2.2.2.2.2.1
          cases e
          rw [(r3 hw.1).1]
          exact Nat.le_refl _
      · rcases hw with hw | hw
        · cases hw
          exact Nat.zero_le _
        · have e := hw.2.2.2.2.2.1
          cases e
          rw [(r3 hw.1).2]
          exact Nat.le_refl _
  · intro K1 n1 σ0 ca sl hw
    rcases hw with hw | hw
    · cases hw
      refine ⟨⟨Nat.zero_le _, Nat.zero_le _⟩, fun r σ' hp => ?_⟩
      obtain ⟨-, p1, p2, p3, p4, p5, p6⟩ := hp
      rw [e1] at p3
      rw [e2] at p4
      exact ⟨p3, p4, p5, K, gW_rf, fun _ => rfl, fun h9 => absurd rfl h9, p1, p2, p6⟩
    · obtain ⟨w1, w2, w3, w4, w5, w6, w7⟩ := hw
      cases w6
      refine ⟨by rw [(r3 w1).1, (r3 w1).2]; exact ⟨Nat.le_refl _, Nat.le_refl _⟩, fun r σ' hp => ?_⟩
      obtain ⟨-, p1, p2, p3, p4, p5, p6⟩ := hp
      rw [e1] at p3
      rw [e2] at p4
      exact ⟨aFr_un w2 w5 p3, aFa_un w2 w5 p4, p5, K1, w2, fun h9 => absurd h9 w3, fun _ => ⟨w1, w4, w7⟩, p1, p2, p6⟩
end GZ
