/-! past positions, lists read again -/
def rPaq (gM gS gP : Nat → Int32) (t : Int) : rQ := (fun i => if 0 ≤ i ∧ i ≤ 63 then (gM (64 * t + i).toNat).toInt else 0, (gS t.toNat).toInt, 0, (gP t.toNat).toInt)
def rPG0 (K : Nat → Nat) (n : Nat) (σ : Nat → jcell) (a : Nat) (b : Int) : Prop := ∃ gM gS gP, rRo K n σ a 88 9 91 19520 gM ∧ rRo K n σ a 88 10 92 305 gS ∧ rRo K n σ a 88 12 94 305 gP ∧ ∀ t, 0 ≤ t → t < b → rPs (rPaq gM gS gP t)
def rAS (K : Nat → Nat) (n : Nat) (σ : Nat → jcell) (a : Nat) (t i : Int) : Prop := ∃ gM gS M v, rRo K n σ a 88 9 91 19520 gM ∧ rRo K n σ a 88 10 92 305 gS ∧ rMe K n σ a M ∧ rOb K n σ a 88 3 (rI v) ∧ 0 ≤ t ∧ (gS t.toNat).toInt = v.toInt ∧ ∀ j, 0 ≤ j → j < i → j ≤ 63 → (gM (64 * t + j).toNat).toInt = M j
def rEN (K : Nat → Nat) (n : Nat) (σ : Nat → jcell) (a : Nat) (t i : Int) (M : Int → Int) : Prop := ∃ gM, rRo K n σ a 88 9 91 19520 gM ∧ (0 ≤ t → ∀ j, 0 ≤ j → j < i → (gM (64 * t + j).toNat).toInt = M j)
def rAP (K : Nat → Nat) (n : Nat) (σ : Nat → jcell) (a : Nat) (t : Int) (q : rQ) : Prop := ∃ gM gS, rRo K n σ a 88 9 91 19520 gM ∧ rRo K n σ a 88 10 92 305 gS ∧ 0 ≤ t ∧ (gS t.toNat).toInt = q.2.1 ∧ ∀ j, 0 ≤ j → j ≤ 63 → (gM (64 * t + j).toNat).toInt = q.1 j
theorem rPs_m {q q' : rQ} (h1 : ∀ j, 0 ≤ j → j ≤ 63 → q.1 j = q'.1 j) (h2 : q.2.1 = q'.2.1) (h3 : q.2.2.2 = q'.2.2.2) (h : rPs q) : rPs q' := by
  unfold rPs at h ⊢
  rw [← h2, ← h3]
  rcases h with h | ⟨p0, p1, p2, p3⟩
  · exact Or.inl h
  · refine Or.inr ⟨p0, p1, by rw [← h1 _ p0 p1]; exact p2, ?_⟩
    rcases p3 with ⟨p3, p4, p5⟩ | ⟨p3, p4, p5⟩
    · exact Or.inl ⟨p3, p4, by rw [← h1 _ (by omega) (by omega)]; exact p5⟩
    · exact Or.inr ⟨p3, p4, by rw [← h1 _ (by omega) (by omega)]; exact p5⟩
/-- a field of a Board is set: its men stay -/
theorem rOb_sf {K : Nat → Nat} {n : Nat} {σ : Nat → jcell} {a k f f' : Nat} {v w : jv} (h : rOb K n σ a k f v) (hn : ¬ f' = f) : rOb K n (jup σ a (jstf (σ a) f' w)) a k f v := by
  obtain ⟨h1, h2, c, fs, e1, e2⟩ := h
  refine ⟨h1, h2, c, fs.set f' w, by rw [jup_s, e1]; rfl, ?_⟩
  rw [List.getElem?_set_ne hn]
  exact e2
theorem rOb_ss {K : Nat → Nat} {n : Nat} {σ : Nat → jcell} {a k f : Nat} {v w : jv} (h : rOb K n σ a k f v) : rOb K n (jup σ a (jstf (σ a) f w)) a k f w := by
  obtain ⟨h1, h2, c, fs, e1, e2⟩ := h
  refine ⟨h1, h2, c, fs.set f w, by rw [jup_s, e1]; rfl, ?_⟩
  rw [List.getElem?_set_self (List.getElem?_eq_some_iff.mp e2).1]
theorem rRo_sf {K : Nat → Nat} {n : Nat} {σ : Nat → jcell} {a k f f' kr len : Nat} {w : jv} {g : Nat → Int32} (h : rRo K n σ a k f kr len g) (hn : ¬ f' = f) : rRo K n (jup σ a (jstf (σ a) f' w)) a k f kr len g := by
  obtain ⟨r, o, h1, h2, e⟩ := h
  refine ⟨r, rOb_sf o hn, h1, h2, ?_⟩
  have hab : ¬ r = a := by
    intro e2
    obtain ⟨-, -, c, fs, e1, -⟩ := o
    rw [e2, e1] at e
    cases e
  rw [jup_n hab]
  exact e
theorem rRX_p {K : Nat → Nat} {n : Nat} {σ : Nat → jcell} {a : Nat} {q : rQ} {x : Int32} (h : rRX K n σ a q) : rRX K n (jup σ a (jstf (σ a) 5 (rI x))) a (q.1, q.2.1, q.2.2.1, x.toInt) := by
  obtain ⟨⟨g, h1, e⟩, ⟨v1, o1, e1⟩, ⟨v2, o2, e2⟩, ⟨v3, o3, -⟩⟩ := h
  exact ⟨⟨g, rRo_sf h1 (by decide), e⟩, ⟨v1, rOb_sf o1 (by decide), e1⟩, ⟨v2, rOb_sf o2 (by decide), e2⟩, ⟨x, rOb_ss o3, rfl⟩⟩
