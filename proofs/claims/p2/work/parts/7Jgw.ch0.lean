/-! CLASS: methods with exits, what they return is told -/
/-- what the check of a method that may make cells leaves to be shown; what the method returns is told -/
def gMr {P : Type} (F : (Nat → Nat) → Nat → aFt P) (JX : (Nat → Nat) → Nat → (Nat → jcell) → Prop) (l : Launch) (E : jE) (tb : jTb) (m : aMi) (mg : List aCon) (ex : List Nat) (nL : Nat) (cc : ByteArray) (ini : Bool) : Prop := ∀ (post : jPo) (rm : Room), (m.2.2.2.1.2.2.2.2.2.2.frames ≤ rm.frames ∧ m.2.2.2.1.2.2.2.2.2.2.locals ≤ rm.locals) → ∀ (K : Nat → Nat) (n : Nat) (p : P) (σ : Nat → jcell) (ρ : List jv), aH m.2.1.1 K n σ → JX K n σ → aR K n m.2.2.2.1.2.2.2.1.1 ρ → aMm (F K n) p ρ σ m.2.2.2.1.2.2.2.1.2 → ∀ (Wp : gV → Prop), Wp (K, n, σ, 0, 0) → (∀ G ∈ mg, gGd m.1.2.1 G ∧ gCal F m.2.1.1 JX l E m.1.2.2.1 tb m.1.2.1 rm n Wp G) →
    (∀ (K : Nat → Nat) (n : Nat) (σ0 : Nat → jcell) (ca sl : Nat), Wp (K, n, σ0, ca, sl) → (ca ≤ rm.cells ∧ sl ≤ rm.slots) ∧ ∀ (r : Option jv) (σ' : Nat → jcell), aPo m.2.1 K n (JX K n) (F K n) p ρ σ0 m.2.2.2.1 r σ' n → post r σ' n) →
    (∀ (M : jM), M.2.1 = l → M.2.2.2.1 = rm → M.2.2.2.2.1.heap.size = E.2.2.2 + n → jX E m.1.1 m.1.2.1 m.1.2.2.1 tb nL ini cc M → M.2.2.2.2.2.2.2.2.1.sig.returnType = m.1.2.2.2.1 → jokLQ m.1.1 m.1.2.1 m.1.2.2.1 tb nL false cc 0 m.2.2.2.2.1 = true → ∀ c ∈ m.2.2.2.2.2, ex.any (fun k => Nat.beq k c.1) = true → ∀ (K : Nat → Nat) (n : Nat) (σ0 : Nat → jcell) (ca sl : Nat), Wp (K, n, σ0, ca, sl) → ∀ (ρ' : List jv) (lv : List (Option jv)) (st : List jv) (σ : Nat → jcell), aX ρ ρ' → aCx (aFq (F K n) p) (aHp m.2.1 K n (JX K n) ρ σ0) K n c.2.1 ρ' lv st σ →
      (∀ (K : Nat → Nat) (n : Nat) (σ0 : Nat → jcell) (ca sl : Nat), Wp (K, n, σ0, ca, sl) → ∀ c2 ∈ m.2.2.2.2.2, ∀ (ρ2 : List jv) (lv : List (Option jv)) (st : List jv) (σ : Nat → jcell), aLt (c2.2.2.2.map (aRn ρ2)) (c.2.2.2.map (aRn ρ')) → aX ρ ρ2 → aCx (aFq (F K n) p) (aHp m.2.1 K n (JX K n) ρ σ0) K n c2.2.1 ρ2 lv st σ → jJ E m.1.2.2.1 nL M (jQ E m.1.2.2.1 M post rm.cells rm.slots) n ca sl c2.1 lv st σ) →
      jJ E m.1.2.2.1 nL M (jQ E m.1.2.2.1 M post rm.cells rm.slots) n ca sl c.1 lv st σ) →
    jMet l E m.1.2.2.1 tb m.1.2.1 m.2.2.2.1.1 rm (ρ.take m.2.2.2.1.2.2.1) σ n post
section GRN
variable {P : Type} {F : (Nat → Nat) → Nat → aFt P} {JX : (Nat → Nat) → Nat → (Nat → jcell) → Prop} {l : Launch} {E : jE} {tb : jTb} {nL : Nat} {ini : Bool} {cc : ByteArray} {M : jM} {ρ0 : List jv} {m : aMi} {pe : P} {sh : P → List jv → P} {lk : List (Nat × Nat × Nat)} {mg : List aCon} {gi mo ex : List Nat} {Wp : gV → Prop} {n0 : Nat}
/-- a method of the check that may make cells; cuts of ex are left to the hand, with what the method returns -/
theorem gMr_of {f : Nat} {g : Nat → Option Jvm.Cond} {L : jLk} {own nm ds : String} {ret : Option FieldType} (hY : m.2.2.2.1.1 = (⟨own, nm, ds⟩, cc, nL, ret)) (hini : ini = true → nm = "<init>") (hm1 : m.1.1 = own) (hm2 : m.1.2.2.2.1 = ret) (hy : plainName own = true)
    (hgg : ∀ i w, g i = some w → m.1.2.1[i]? = some w) (hL : jLkOk m.1.1 m.1.2.1 m.1.2.2.1 tb L) (hsp : ∀ q ∈ m.1.2.2.2.2.2.1, aSpP m.1.1 m.1.2.1 q) (hg : ∀ q ∈ m.1.2.2.2.2.1, ∀ G, m.2.2.1[q.2.2]? = some G → jlm m.1.2.1 q.2.1 m.1.1 q.1 G.1.1 = true) (hg2 : ∀ q ∈ lk, ∀ G, mg[q.2.2]? = some G → jlm m.1.2.1 q.2.1 m.1.1 q.1 G.1.1 = true) (hC : jCl m.1.2.1 m.1.2.2.1) (hG : ∀ K n, ∀ G ∈ m.2.2.1, aGd m.1.2.1 G ∧ aMe (F K n) l E m.1.2.2.1 tb m.1.2.1 m.2.1.1 K n (JX K n) G) (hU : ∀ K n, ∀ G ∈ m.1.2.2.2.2.2.2.2.1, aGho (F K n) m.2.1.1 K n (JX K n) G) (hT : aTB m.2.1.2.1 tb) (hJ : ∀ K n, aJx K n m.2.1.2.2.1 (JX K n)) (hS : ∀ K n, aShf (F K n) sh) (hD : ∀ K n, aDp (F K n) K n m.2.1.2.2.2.2.2.1) (hmn : ∀ K n K' n', gW K n K' n' → ∀ r ∈ mo, ∀ (p : P) (vs : List jv) (σ : Nat → jcell), F K n p r vs σ → F K' n' p r vs σ) (hok : jokLG g L m.1.1 m.1.2.2.1 tb nL cc 0 m.2.2.2.2.1 = true) (hch : gChk m lk mg gi mo ex f = true) {rk : List aF} (hc0 : (0, aEn m.2.2.2.1, [], rk) ∈ m.2.2.2.2.2) : gMr F JX l E tb m mg ex nL cc ini := by
  intro post rm hfl K n p σ ρ hH hX hA hM Wp hw0 hG2 hW1 hex
  unfold gChk at hch
  rw [Bool.and_eq_true] at hch
  obtain ⟨h0, h1⟩ := hch
  simp only [aOkc, Bool.and_eq_true, decide_eq_true_eq] at h0
  obtain ⟨o1, o2, o3, o4, o5, o6, o7, o8⟩ := h0
  have hlr : ρ.length = m.2.2.2.1.2.2.2.1.1.length := hA.1
  have hAG : aAG K n ((m.2.2.2.1.2.2.2.1.1.take m.2.2.2.1.2.2.1).map (·.1)) (ρ.take m.2.2.2.1.2.2.1) := by
    refine aAG_of (by rw [List.length_take, List.length_take, hlr]) (fun i e v he hv => ?_)
    have hi : i < m.2.2.2.1.2.2.1 := by
      have := (List.getElem?_eq_some_iff.mp he).1
      rw [List.length_take] at this
      omega
    rw [List.getElem?_take_of_lt hi] at he hv
    exact (hA.2 i e v he hv).1
  obtain ⟨e1, e2, e3⟩ := aEnt_ok (E := E) 0 hAG
  have hnl : m.2.2.2.1.1.2.2.1 = nL := by rw [hY]
  have hcx : aCx (aFq (F K n) p) (aHp m.2.1 K n (JX K n) ρ σ) K n (aEn m.2.2.2.1) ρ (jent (ρ.take m.2.2.2.1.2.2.1) nL) [] σ := by
    refine ⟨hA, ⟨?_, fun i k hk => ?_⟩, trivial, ⟨p, hM.1, fun q hq => (by cases hq), hM.2.2.1, fun q hq => ?_⟩, hH, hX, aFr_rf, aFa_rf⟩
    · unfold aEn jent
      simp only [List.length_append, List.length_replicate]
      rw [e1, hnl]
    · unfold aEn at hk
      dsimp only at hk
      by_cases hi : i < (aEnt ((m.2.2.2.1.2.2.2.1.1.take m.2.2.2.1.2.2.1).map (·.1)) 0).length
      · rw [List.getElem?_append_left hi] at hk
        obtain ⟨v, -, v2, v3⟩ := e3 i k hk
        have hk2 : k - 0 < m.2.2.2.1.2.2.1 := by
          have := (List.getElem?_eq_some_iff.mp v2).1
          rw [List.length_take] at this
          omega
        rw [List.getElem?_take_of_lt hk2] at v2
        refine ⟨v, by simpa using v2, ?_⟩
        unfold jent
        rw [List.getElem?_append_left (by rw [← e1]; exact hi)]
        exact v3
      · rw [List.getElem?_append_right (by omega), List.getElem?_replicate] at hk
        split at hk <;> simp at hk
    · rcases List.mem_cons.mp hq with rfl | hq
      · exact ⟨[], rfl, rfl⟩
      · exact ((aFq_mm o6).mpr hM).2.2.2 q hq
  have hln : (lg_sl ((ρ.take m.2.2.2.1.2.2.1).map (jc E))).length ≤ nL := by rw [e2, ← hnl]; exact o8
  refine jMet_ofG hY ini hini hy hln (jent (ρ.take m.2.2.2.1.2.2.1) nL) rfl ?_
  intro M hl hR X0 hr hsz
  rw [← hm1] at X0
  have X : jX E m.1.1 m.1.2.1 m.1.2.2.1 tb nL false cc M := ⟨X0.1, X0.2.1, X0.2.2.1, X0.2.2.2.1, X0.2.2.2.2.1, X0.2.2.2.2.2.1, X0.2.2.2.2.2.2.1, fun h => by cases h⟩
  have hok9 := jokLG_ok hgg hL hok
  have key : ∀ (R : List Nat), ∀ (K : Nat → Nat) (n : Nat) (σ0 : Nat → jcell) (ca sl : Nat), Wp (K, n, σ0, ca, sl) → ∀ c ∈ m.2.2.2.2.2, ∀ (ρ' : List jv) (lv : List (Option jv)) (st : List jv) (σ : Nat → jcell), c.2.2.2.map (aRn ρ') = R → aX ρ ρ' → aCx (aFq (F K n) p) (aHp m.2.1 K n (JX K n) ρ σ0) K n c.2.1 ρ' lv st σ → jJ E m.1.2.2.1 nL M (jQ E m.1.2.2.1 M post rm.cells rm.slots) n ca sl c.1 lv st σ := by
    intro R
    induction aLt_acc R.length R rfl with
    | intro R _ ih =>
      intro K n σ0 ca sl hw c hcm ρ' lv st σ hR0 hx0 hc
      have h2 := List.all_eq_true.mp h1 c hcm
      unfold gCk1 at h2
      rw [Bool.and_eq_true, Bool.or_eq_true] at h2
      obtain ⟨h2, h3⟩ := h2
      rcases h3 with h3 | h3
      · exact hex M hl hR hsz X0 (hr.trans hm2.symm) hok9 c hcm h3 K n σ0 ca sl hw ρ' lv st σ hx0 hc (fun K n σ0 ca sl hw c2 hc2 ρ2 lv st σ hlt hx hcx => ih _ (by rw [← hR0]; exact hlt) K n σ0 ca sl hw c2 hc2 ρ2 lv st σ rfl hx hcx)
      · split at h3
        next is hs =>
          refine gRun_ok hsp hg hg2 hC X hl hfl hR hsz (hr.trans hm2.symm) hG hG2 hU hT hJ hS hD hmn o4 (o3.trans hlr.symm) hok9 hW1 (R0 := R) (fun K n σ0 ca sl hw c2 hc2 ρ2 lv' st' σ' hlt hx hcx => ih _ hlt K n σ0 ca sl hw c2 hc2 ρ2 lv' st' σ' rfl hx hcx) f is c.1 c.2.1 K n σ0 ca sl hw ρ' lv st σ h3 (aSuf_ok hok9 hs) hx0 (fun g hg => ?_) hR0 hc
          exact aEv_df (by rw [hc.1.1]; exact List.all_eq_true.mp h2 g hg)
        next => cases h3
  exact key _ K n σ 0 0 hw0 _ hc0 ρ _ [] σ rfl aX_rf hcx
end GRN
