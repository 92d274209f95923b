/-! the entry of a method, and its contract -/
def aIsL (t : aT) : Bool := match t with
  | .inr none => true
  | _ => false
def aEnt : List aT → Nat → List (Option Nat)
  | [], _ => []
  | t :: ts, i => if aIsL t = true then some i :: none :: aEnt ts (i + 1) else some i :: aEnt ts (i + 1)
def aEn (ts : List aT) (nL : Nat) : aS := (aEnt ts 0 ++ List.replicate (nL - (aEnt ts 0).length) none, [], ts.map (fun t => (t, none)), [])
section ASM
variable {K : Nat → Nat} {n : Nat}
theorem aIsL_cat {t : aT} {v : jv} (h : aG K n t v) : aIsL t = true ↔ jcat v = 2 := by
  rcases t with q | _ | q
  · obtain ⟨x, rfl, -⟩ := aG_int h; simp [aIsL, jcat]
  · obtain ⟨x, rfl⟩ := aG_lng h; simp [aIsL, jcat]
  · rcases v with x | x | x
    · rcases q with q | q <;> exact h.elim
    · rcases q with q | q <;> exact h.elim
    · simp [aIsL, jcat]
theorem aEnt_ok {E : jE} : ∀ {ts : List aT} {vs : List jv} (i : Nat), aAG K n ts vs → (aEnt ts i).length = (jar vs).length ∧ (lg_sl (vs.map (jc E))).length = (aEnt ts i).length ∧ ∀ (j k : Nat), (aEnt ts i)[j]? = some (some k) → ∃ v : jv, i ≤ k ∧ vs[k - i]? = some v ∧ (jar vs)[j]? = some (some v)
  | [], [], _, _ => ⟨rfl, by simp [lg_sl, aEnt], fun j k h => by simp [aEnt] at h⟩
  | [], _ :: _, _, h => h.elim
  | _ :: _, [], _, h => h.elim
  | t :: ts, v :: vs, i, h => by
    obtain ⟨i1, i2, i3⟩ := aEnt_ok (E := E) (i + 1) h.2
    have hc := aIsL_cat h.1
    have step : ∀ (j k : Nat), (aEnt ts (i + 1))[j]? = some (some k) → ∃ w : jv, i ≤ k ∧ (v :: vs)[k - i]? = some w ∧ (jar vs)[j]? = some (some w) := fun j k hk => by
      obtain ⟨w, w1, w2, w3⟩ := i3 j k hk
      refine ⟨w, by omega, ?_, w3⟩
      rw [show k - i = (k - (i + 1)) + 1 by omega]
      simpa using w2
    have hcat := jc_cat E v
    by_cases hl : aIsL t = true
    · have h2 := hc.mp hl
      rw [h2] at hcat
      unfold aEnt jar
      rw [if_pos hl, if_pos h2]
      refine ⟨by simp [i1], ?_, fun j k hk => ?_⟩
      · have e : lg_sl ((v :: vs).map (jc E)) = [.val (jc E v), .second] ++ lg_sl (vs.map (jc E)) := by simp [lg_sl, hcat]
        rw [e]
        simp only [List.length_append, List.length_cons, List.length_nil]
        omega
      · match j, hk with
        | 0, hk => cases hk; exact ⟨v, Nat.le_refl _, by simp, rfl⟩
        | 1, hk => simp at hk
        | j + 2, hk =>
          obtain ⟨w, w1, w2, w3⟩ := step j k (by simpa using hk)
          exact ⟨w, w1, w2, by simpa using w3⟩
    · have h2 : ¬ jcat v = 2 := fun q => hl (hc.mpr q)
      have hcat2 : ¬ (jc E v).category = 2 := by rw [hcat]; exact h2
      unfold aEnt jar
      rw [if_neg hl, if_neg h2]
      refine ⟨by simp [i1], ?_, fun j k hk => ?_⟩
      · have e : lg_sl ((v :: vs).map (jc E)) = [.val (jc E v)] ++ lg_sl (vs.map (jc E)) := by simp [lg_sl, hcat2]
        rw [e]
        simp only [List.length_append, List.length_cons, List.length_nil]
        omega
      · match j, hk with
        | 0, hk => cases hk; exact ⟨v, Nat.le_refl _, by simp, rfl⟩
        | j + 1, hk =>
          obtain ⟨w, w1, w2, w3⟩ := step j k (by simpa using hk)
          exact ⟨w, w1, w2, by simpa using w3⟩
theorem aAG_at : ∀ {ts : List aT} {vs : List jv}, aAG K n ts vs → ∀ (i : Nat) (t : aT) (v : jv), ts[i]? = some t → vs[i]? = some v → aG K n t v
  | [], [], _, i, t, v, h, _ => by simp at h
  | _ :: _, _ :: _, h, 0, _, _, h1, h2 => by cases h1; cases h2; exact h.1
  | _ :: _, _ :: _, h, i + 1, t, v, h1, h2 => aAG_at h.2 i t v (by simpa using h1) (by simpa using h2)
  | [], _ :: _, h, _, _, _, _, _ => h.elim
  | _ :: _, [], h, _, _, _, _, _ => h.elim
theorem aEn_ok {E : jE} {ts : List aT} {vs : List jv} {nL : Nat} (h : aAG K n ts vs) {Hp : (Nat → jcell) → Prop} {σ : Nat → jcell} (hp : Hp σ) : aCx Hp K n (aEn ts nL) vs (jent vs nL) [] σ := by
  obtain ⟨e1, -, e3⟩ := aEnt_ok (E := E) 0 h
  refine ⟨⟨by unfold aEn; rw [List.length_map]; exact aAG_len h, fun i e v he hv => ?_⟩, ⟨?_, fun i k hk => ?_⟩, trivial, fun q hq => (by cases hq), hp⟩
  · unfold aEn at he
    rw [List.getElem?_map] at he
    cases ht : ts[i]? with
    | none => rw [ht] at he; cases he
    | some t =>
      rw [ht] at he
      cases he
      exact ⟨aAG_at h i t v ht hv, trivial⟩
  · unfold aEn jent
    simp [e1]
  · unfold aEn at hk
    dsimp only at hk
    by_cases hi : i < (aEnt ts 0).length
    · rw [List.getElem?_append_left hi] at hk
      obtain ⟨v, -, v2, v3⟩ := e3 i k hk
      refine ⟨v, by simpa using v2, ?_⟩
      unfold jent
      rw [List.getElem?_append_left (by rw [← e1]; exact hi)]
      exact v3
    · rw [List.getElem?_append_right (by omega), List.getElem?_replicate] at hk
      split at hk <;> simp at hk
/-- a method of the check keeps its contract -/
theorem aMe_of {l : Launch} {E : jE} {tb : jTb} {JX : (Nat → jcell) → Prop} {m : aMi} {f : Nat} {G : aCon} {own nm ds : String} {cc : ByteArray} {nL : Nat} {ret : Option FieldType} (hY : G.1 = (⟨own, nm, ds⟩, cc, nL, ret)) (hm1 : m.1.1 = own) (hm2 : m.1.2.2.2.1 = ret) (hm3 : m.1.2.2.2.2 = G.2.2.2.1) (hm4 : m.2.2.1 = G.2.2.2.2.2) (hm5 : m.2.2.2.1 = G.2.2.2.2.1) (hrc : G.2.2.2.2.2.cells = 0) (hrs : G.2.2.2.2.2.slots = 0) (hy : plainName own = true)
    (hC : jCl m.1.2.1 m.1.2.2.1) (hG : ∀ G ∈ m.2.1.2.2.2, aGd m.1.2.1 G ∧ aMe l E m.1.2.2.1 tb m.1.2.1 m.2.1.1 K n JX G) (hT : aTB m.2.1.2.1 tb) (hJ : aJx K n m.2.1.2.2.1 JX) (hok : jokL m.1.1 m.1.2.1 m.1.2.2.1 tb nL false cc 0 m.2.2.2.2.1 = true) (hch : aChk m f = true) {src : List aSc2} {rk : List aRk} (hc0 : (0, aEn G.2.2.1 nL, src, rk) ∈ m.2.2.2.2.2) (hln : (aEnt G.2.2.1 0).length ≤ nL) : aMe l E m.1.2.2.1 tb m.1.2.1 m.2.1.1 K n JX G := by
  intro σ vals hH hX hA
  have e2 := (aEnt_ok (E := E) 0 hA).2.1
  refine jMet_of hY false (fun h => (by cases h)) hy (by rw [e2]; exact hln) (jent vals nL) rfl ?_
  intro M hl hR X hr
  rw [← hm1] at X
  have h9 := aChk_ok (σ0 := σ) (K := K) (n := n) (JX := JX) hC X hl (hR.trans hm4.symm) (hr.trans hm2.symm) hG hT hJ hok hch _ _ hc0 vals (jent vals nL) [] σ rfl (aEn_ok (E := E) hA ⟨hH, hX, aFr_rf⟩)
  rw [hm3, hm5] at h9
  rw [hrc, hrs]
  exact h9
end ASM
