/-! GROWTH of the reference: what is known stays known in a larger world -/
def gY (ok : Nat → Prop) (K : Nat → Nat) (n : Nat) (σ : Nat → jcell) (K' : Nat → Nat) (n' : Nat) (σ' : Nat → jcell) : Prop := ∀ a, a < n → ok (K a) → a < n' ∧ K' a = K a ∧ σ' a = σ a
section GQ
variable {ok : Nat → Prop} {K K' : Nat → Nat} {n n' : Nat} {σ σ' : Nat → jcell}
theorem rOb_gy (h : gY ok K n σ K' n' σ') {a k f : Nat} {v : jv} (hk : ok k) (o : rOb K n σ a k f v) : rOb K' n' σ' a k f v := by
  obtain ⟨h1, h2, c, fs, h3, h4⟩ := o
  obtain ⟨q1, q2, q3⟩ := h a h1 (by rw [h2]; exact hk)
  exact ⟨q1, q2.trans h2, c, fs, q3.trans h3, h4⟩
theorem rRo_gy (h : gY ok K n σ K' n' σ') {a k f kr len : Nat} {g : Nat → Int32} (hk : ok k) (hr : ok kr) (o : rRo K n σ a k f kr len g) : rRo K' n' σ' a k f kr len g := by
  obtain ⟨r, o1, o2, o3, o4⟩ := o
  obtain ⟨q1, q2, q3⟩ := h r o2 (by rw [o3]; exact hr)
  exact ⟨r, rOb_gy h hk o1, q1, q2.trans o3, q3.trans o4⟩
theorem rRy9_gy (h : gY ok K n σ K' n' σ') (hO : ∀ k, 62 ≤ k → k ≤ 87 → ok k) {a f kr : Nat} {o : Int} {fn : Int → Int} (h1 : 62 ≤ kr) (h2 : kr ≤ 87) (q : rRy9 K n σ a f kr o fn) : rRy9 K' n' σ' a f kr o fn := by
  obtain ⟨g, q1, q2⟩ := q
  exact ⟨g, rRo_gy h (hO _ (by decide) (by decide)) (hO _ h1 h2) q1, q2⟩
theorem rSt9_gy (h : gY ok K n σ K' n' σ') (hO : ∀ k, 62 ≤ k → k ≤ 87 → ok k) {a : Nat} {o : Int} {q : rQ} {z : Int} (k : rSt9 K n σ a o q z) : rSt9 K' n' σ' a o q z := by
  obtain ⟨g5, g6, q1, q2, q3⟩ := k
  exact ⟨g5, g6, rRo_gy h (hO _ (by decide) (by decide)) (hO _ (by decide) (by decide)) q1, rRo_gy h (hO _ (by decide) (by decide)) (hO _ (by decide) (by decide)) q2, q3⟩
theorem rTY_gy (h : gY ok K n σ K' n' σ') (hO : ∀ k, 62 ≤ k → k ≤ 87 → ok k) {a : Nat} {o C : Int} {y : rY} (k : rTY K n σ a o C y) : rTY K' n' σ' a o C y := by
  obtain ⟨⟨k1, k2, k3, k4, k5⟩, ⟨g, q1, q2⟩, k7⟩ := k
  exact ⟨⟨rRy9_gy h hO (by decide) (by decide) k1, rRy9_gy h hO (by decide) (by decide) k2, rRy9_gy h hO (by decide) (by decide) k3, rRy9_gy h hO (by decide) (by decide) k4, rSt9_gy h hO k5⟩, ⟨g, rRo_gy h (hO _ (by decide) (by decide)) (hO _ (by decide) (by decide)) q1, q2⟩, k7⟩
theorem rTX_gy (h : gY ok K n σ K' n' σ') (hO : ∀ k, 62 ≤ k → k ≤ 87 → ok k) {a : Nat} {q : rQ} (k : rTX K n σ a q) : rTX K' n' σ' a q := by
  obtain ⟨⟨g, k1, k2⟩, ⟨v3, k3, k4⟩, ⟨v5, k5, k6⟩, v7, k7, k8⟩ := k
  exact ⟨⟨g, rRo_gy h (hO _ (by decide) (by decide)) (hO _ (by decide) (by decide)) k1, k2⟩, ⟨v3, rOb_gy h (hO _ (by decide) (by decide)) k3, k4⟩, ⟨v5, rOb_gy h (hO _ (by decide) (by decide)) k5, k6⟩, v7, rOb_gy h (hO _ (by decide) (by decide)) k7, k8⟩
theorem rSL9_gy (h : gY ok K n σ K' n' σ') (hO : ∀ k, 62 ≤ k → k ≤ 87 → ok k) {a : Nat} {o nd : Int} (k : rSL9 K n σ a o nd) : rSL9 K' n' σ' a o nd := by
  obtain ⟨pa, mo, q0, z, c, v, k1, k2, k3, k4, k5, ⟨k6, k7, g, k8, k9⟩, kb, kc⟩ := k
  exact ⟨pa, mo, q0, z, c, v, rRy9_gy h hO (by decide) (by decide) k1, rRy9_gy h hO (by decide) (by decide) k2, rSt9_gy h hO k3, rTX_gy h hO k4, k5, ⟨rOb_gy h (hO _ (by decide) (by decide)) k6, k7, g, rRo_gy h (hO _ (by decide) (by decide)) (hO _ (by decide) (by decide)) k8, k9⟩, rOb_gy h (hO _ (by decide) (by decide)) kb, kc⟩
theorem rGT_gy (h : gY ok K n σ K' n' σ') (hO : ∀ k, 62 ≤ k → k ≤ 87 → ok k) {N : Int} {p p' : rP} {x0 : Nat} (k : rB3 N K n p 367 [rR x0] σ) : rB3 N K' n' p' 367 [rR x0] σ' := by
  obtain ⟨g, h1, k1, k2, ⟨C, y, k3, k4⟩, k5⟩ := ro3_367.mp k
  exact ro3_367.mpr ⟨g, h1, rOb_gy h (hO _ (by decide) (by decide)) k1, rOb_gy h (hO _ (by decide) (by decide)) k2, ⟨C, y, rTY_gy h hO k3, k4⟩, rSL9_gy h hO k5⟩
theorem rMNV_gy (h : gY ok K n σ K' n' σ') (hO : ∀ k, 62 ≤ k → k ≤ 87 → ok k) {N : Int} {p : rP} {x0 : Nat} {x1 : Int32} (k : rB3 N K n p 398 [rR x0, rI x1] σ) : rB3 N K' n' p 398 [rR x0, rI x1] σ' := by
  obtain ⟨k1, k2, g, k3, k4⟩ := ro3_398.mp k
  exact ro3_398.mpr ⟨k1, k2, g, rRo_gy h (hO _ (by decide) (by decide)) (hO _ (by decide) (by decide)) k3, k4⟩
theorem rGW_y (h : gW K n K' n') : gY (fun _ => True) K n σ K' n' σ := fun a ha _ => ⟨Nat.lt_of_lt_of_le ha h.1, h.2 a ha, rfl⟩
theorem rMn_rH (N : Int) : gMn (fun K n => rH N K n) [5922, 5954] := by
  intro K n K' n' hw r hr p vs σ h
  have hq : gY (fun _ => True) K n σ K' n' σ := rGW_y hw
  rcases List.mem_cons.mp hr with rfl | hr
  · have h1 : rb_370 N K n (vs.take 2) σ := h
    refine (show rb_370 N K' n' (vs.take 2) σ from rC_ri_m (fun a0 a1 k => ?_) h1)
    obtain ⟨g, k1, k2⟩ := k
    exact ⟨g, rRo_gy hq trivial trivial k1, k2⟩
  · rcases List.mem_cons.mp hr with rfl | hr
    · have h1 : rb_372 N K n (vs.take 2) σ := h
      refine (show rb_372 N K' n' (vs.take 2) σ from rC_ri_m (fun a0 a1 k => ?_) h1)
      obtain ⟨g, g2, k1, k2, k3⟩ := k
      exact ⟨g, g2, rRo_gy hq trivial trivial k1, rRo_gy hq trivial trivial k2, k3⟩
    · cases hr
theorem rMn_nil {P : Type} {F : (Nat → Nat) → Nat → aFt P} : gMn F [] := fun _ _ _ _ _ r hr => by cases hr
end GQ
