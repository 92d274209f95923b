/-! GROWTH: from a cut on (constructors) -/
section GCU
variable {P : Type} {F : (Nat → Nat) → Nat → aFt P} {JX : (Nat → Nat) → Nat → (Nat → jcell) → Prop} {l : Launch} {E : jE} {tb : jTb} {nL : Nat} {cc : ByteArray} {m : aMi} {sh : P → List jv → P}
def gCut (F : (Nat → Nat) → Nat → aFt P) (JX : (Nat → Nat) → Nat → (Nat → jcell) → Prop) (l : Launch) (E : jE) (tb : jTb) (m : aMi) (nL : Nat) (cc : ByteArray) : Prop := ∀ (post : jPo) (rm : Room), (m.2.2.2.1.2.2.2.2.2.2.frames ≤ rm.frames ∧ m.2.2.2.1.2.2.2.2.2.2.locals ≤ rm.locals) → ∀ (n0 : Nat) (p : P) (ρ : List jv) (Wp : gV → Prop), m.2.1.2.2.2.2.2.2 = ρ.length →
    (∀ (K : Nat → Nat) (n : Nat) (σ0 : Nat → jcell) (ca sl : Nat), Wp (K, n, σ0, ca, sl) → (ca ≤ rm.cells ∧ sl ≤ rm.slots) ∧ ∀ (r : Option jv) (σ' : Nat → jcell), aPo m.2.1 K n (JX K n) (F K n) p ρ σ0 m.2.2.2.1 r σ' n → post r σ' n) →
    ∀ (M : jM), M.2.1 = l → M.2.2.2.1 = rm → M.2.2.2.2.1.heap.size = E.2.2.2 + n0 → jX E m.1.1 m.1.2.1 m.1.2.2.1 tb nL false cc M → M.2.2.2.2.2.2.2.2.1.sig.returnType = m.1.2.2.2.1 →
    ∀ (K : Nat → Nat) (n : Nat) (σ0 : Nat → jcell) (ca sl : Nat), Wp (K, n, σ0, ca, sl) → ∀ c ∈ m.2.2.2.2.2, ∀ (ρ' : List jv) (lv : List (Option jv)) (st : List jv) (σ : Nat → jcell), aX ρ ρ' → aCx (aFq (F K n) p) (aHp m.2.1 K n (JX K n) ρ σ0) K n c.2.1 ρ' lv st σ → jJ E m.1.2.2.1 nL M (jQ E m.1.2.2.1 M post rm.cells rm.slots) n ca sl c.1 lv st σ
theorem gCut_of {f : Nat} {g : Nat → Option Jvm.Cond} {L : jLk} (hgg : ∀ i w, g i = some w → m.1.2.1[i]? = some w) (hL : jLkOk m.1.1 m.1.2.1 m.1.2.2.1 tb L) (hsp : ∀ q ∈ m.1.2.2.2.2.2.1, aSpP m.1.1 m.1.2.1 q) (hg : ∀ q ∈ m.1.2.2.2.2.1, ∀ G, m.2.2.1[q.2.2]? = some G → jlm m.1.2.1 q.2.1 m.1.1 q.1 G.1.1 = true) (hC : jCl m.1.2.1 m.1.2.2.1) (hG : ∀ K n, ∀ G ∈ m.2.2.1, aGd m.1.2.1 G ∧ aMe (F K n) l E m.1.2.2.1 tb m.1.2.1 m.2.1.1 K n (JX K n) G) (hU : ∀ K n, ∀ G ∈ m.1.2.2.2.2.2.2.2.1, aGho (F K n) m.2.1.1 K n (JX K n) G) (hT : aTB m.2.1.2.1 tb) (hJ : ∀ K n, aJx K n m.2.1.2.2.1 (JX K n)) (hS : ∀ K n, aShf (F K n) sh) (hD : ∀ K n, aDp (F K n) K n m.2.1.2.2.2.2.2.1) (hok : jokLG g L m.1.1 m.1.2.2.1 tb nL cc 0 m.2.2.2.2.1 = true) (hch : gChk m [] [] [] [] [] f = true) : gCut F JX l E tb m nL cc := by
  intro post rm hfl n0 p ρ Wp hρ hW1 M hl hR hsz X hr
  unfold gChk at hch
  rw [Bool.and_eq_true] at hch
  obtain ⟨h0, h1⟩ := hch
  simp only [aOkc, Bool.and_eq_true, decide_eq_true_eq] at h0
  obtain ⟨o1, o2, o3, o4, o5, o6, o7, o8⟩ := h0
  have hok9 := jokLG_ok hgg hL hok
  have key : ∀ (R : List Nat), ∀ (K : Nat → Nat) (n : Nat) (σ0 : Nat → jcell) (ca sl : Nat), Wp (K, n, σ0, ca, sl) → ∀ c ∈ m.2.2.2.2.2, ∀ (ρ' : List jv) (lv : List (Option jv)) (st : List jv) (σ : Nat → jcell), c.2.2.2.map (aRn ρ') = R → aX ρ ρ' → aCx (aFq (F K n) p) (aHp m.2.1 K n (JX K n) ρ σ0) K n c.2.1 ρ' lv st σ → jJ E m.1.2.2.1 nL M (jQ E m.1.2.2.1 M post rm.cells rm.slots) n ca sl c.1 lv st σ := by
    intro R
    induction aLt_acc R.length R rfl with
    | intro R _ ih =>
      intro K n σ0 ca sl hw c hcm ρ' lv st σ hR0 hx0 hc
      have h2 := List.all_eq_true.mp h1 c hcm
      unfold gCk1 at h2
      rw [Bool.and_eq_true, Bool.or_eq_true] at h2
      obtain ⟨h2, h3⟩ := h2
      rcases h3 with h3 | h3
      · cases h3
      · split at h3
        next is hs =>
          refine gRun_ok (lk := []) (mg := []) (gi := []) (mo := []) (n0 := n0) hsp hg (fun q hq => by cases hq) hC X hl hfl hR hsz hr hG (fun G hG => by cases hG) hU hT hJ hS hD (fun _ _ _ _ _ r hr => by cases hr) o4 hρ hok9 hW1 (R0 := R) (fun K n σ0 ca sl hw c2 hc2 ρ2 lv' st' σ' hlt hx hcx => ih _ hlt K n σ0 ca sl hw c2 hc2 ρ2 lv' st' σ' rfl hx hcx) f is c.1 c.2.1 K n σ0 ca sl hw ρ' lv st σ h3 (aSuf_ok hok9 hs) hx0 (fun g hg => ?_) hR0 hc
          exact aEv_df (by rw [hc.1.1]; exact List.all_eq_true.mp h2 g hg)
        next => cases h3
  exact fun K n σ0 ca sl hw c hcm ρ' lv st σ hx hc => key _ K n σ0 ca sl hw c hcm ρ' lv st σ rfl hx hc
end GCU
