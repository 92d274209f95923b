/-! the reference: what its facts say -/
noncomputable def rC_ (f : Prop) : List jv → Prop
  | [] => f
  | _ => False
noncomputable def rC_i (f : Int → Prop) : List jv → Prop
  | [.inl a0] => f a0.toInt
  | _ => False
noncomputable def rC_ii (f : Int → Int → Prop) : List jv → Prop
  | [.inl a0, .inl a1] => f a0.toInt a1.toInt
  | _ => False
noncomputable def rC_iii (f : Int → Int → Int → Prop) : List jv → Prop
  | [.inl a0, .inl a1, .inl a2] => f a0.toInt a1.toInt a2.toInt
  | _ => False
noncomputable def rC_iiii (f : Int → Int → Int → Int → Prop) : List jv → Prop
  | [.inl a0, .inl a1, .inl a2, .inl a3] => f a0.toInt a1.toInt a2.toInt a3.toInt
  | _ => False
noncomputable def rC_iiiii (f : Int → Int → Int → Int → Int → Prop) : List jv → Prop
  | [.inl a0, .inl a1, .inl a2, .inl a3, .inl a4] => f a0.toInt a1.toInt a2.toInt a3.toInt a4.toInt
  | _ => False
noncomputable def rC_iil (f : Int → Int → Int64 → Prop) : List jv → Prop
  | [.inl a0, .inl a1, .inr (.inl a2)] => f a0.toInt a1.toInt a2
  | _ => False
noncomputable def rC_il (f : Int → Int64 → Prop) : List jv → Prop
  | [.inl a0, .inr (.inl a1)] => f a0.toInt a1
  | _ => False
noncomputable def rC_li (f : Int64 → Int → Prop) : List jv → Prop
  | [.inr (.inl a0), .inl a1] => f a0 a1.toInt
  | _ => False
noncomputable def rC_lil (f : Int64 → Int → Int64 → Prop) : List jv → Prop
  | [.inr (.inl a0), .inl a1, .inr (.inl a2)] => f a0 a1.toInt a2
  | _ => False
noncomputable def rC_r (f : Nat → Prop) : List jv → Prop
  | [.inr (.inr (some (.inl a0)))] => f a0
  | _ => False
theorem rC_r_e {f : Nat → Prop} {l : List jv} (h : rC_r f l) : ∃ (a0 : Nat), l = [rR a0] ∧ f a0 := by
  unfold rC_r at h
  split at h
  · exact ⟨_, rfl, h⟩
  · exact h.elim
noncomputable def rC_ri (f : Nat → Int → Prop) : List jv → Prop
  | [.inr (.inr (some (.inl a0))), .inl a1] => f a0 a1.toInt
  | _ => False
theorem rC_ri_e {f : Nat → Int → Prop} {l : List jv} (h : rC_ri f l) : ∃ (a0 : Nat) (a1 : Int32), l = [rR a0, rI a1] ∧ f a0 a1.toInt := by
  unfold rC_ri at h
  split at h
  · exact ⟨_, _, rfl, h⟩
  · exact h.elim
theorem rC_ri_m {f g : Nat → Int → Prop} {l : List jv} (hm : ∀ a0 a1, f a0 a1 → g a0 a1) (h : rC_ri f l) : rC_ri g l := by
  obtain ⟨a0, a1, rfl, h1⟩ := rC_ri_e h
  exact hm _ _ h1
noncomputable def rC_rii (f : Nat → Int → Int → Prop) : List jv → Prop
  | [.inr (.inr (some (.inl a0))), .inl a1, .inl a2] => f a0 a1.toInt a2.toInt
  | _ => False
theorem rC_rii_e {f : Nat → Int → Int → Prop} {l : List jv} (h : rC_rii f l) : ∃ (a0 : Nat) (a1 : Int32) (a2 : Int32), l = [rR a0, rI a1, rI a2] ∧ f a0 a1.toInt a2.toInt := by
  unfold rC_rii at h
  split at h
  · exact ⟨_, _, _, rfl, h⟩
  · exact h.elim
noncomputable def rC_riii (f : Nat → Int → Int → Int → Prop) : List jv → Prop
  | [.inr (.inr (some (.inl a0))), .inl a1, .inl a2, .inl a3] => f a0 a1.toInt a2.toInt a3.toInt
  | _ => False
theorem rC_riii_e {f : Nat → Int → Int → Int → Prop} {l : List jv} (h : rC_riii f l) : ∃ (a0 : Nat) (a1 : Int32) (a2 : Int32) (a3 : Int32), l = [rR a0, rI a1, rI a2, rI a3] ∧ f a0 a1.toInt a2.toInt a3.toInt := by
  unfold rC_riii at h
  split at h
  · exact ⟨_, _, _, _, rfl, h⟩
  · exact h.elim
noncomputable def rC_riiii (f : Nat → Int → Int → Int → Int → Prop) : List jv → Prop
  | [.inr (.inr (some (.inl a0))), .inl a1, .inl a2, .inl a3, .inl a4] => f a0 a1.toInt a2.toInt a3.toInt a4.toInt
  | _ => False
theorem rC_riiii_e {f : Nat → Int → Int → Int → Int → Prop} {l : List jv} (h : rC_riiii f l) : ∃ (a0 : Nat) (a1 : Int32) (a2 : Int32) (a3 : Int32) (a4 : Int32), l = [rR a0, rI a1, rI a2, rI a3, rI a4] ∧ f a0 a1.toInt a2.toInt a3.toInt a4.toInt := by
  unfold rC_riiii at h
  split at h
  · exact ⟨_, _, _, _, _, rfl, h⟩
  · exact h.elim
noncomputable def rC_riiiii (f : Nat → Int → Int → Int → Int → Int → Prop) : List jv → Prop
  | [.inr (.inr (some (.inl a0))), .inl a1, .inl a2, .inl a3, .inl a4, .inl a5] => f a0 a1.toInt a2.toInt a3.toInt a4.toInt a5.toInt
  | _ => False
theorem rC_riiiii_e {f : Nat → Int → Int → Int → Int → Int → Prop} {l : List jv} (h : rC_riiiii f l) : ∃ (a0 : Nat) (a1 : Int32) (a2 : Int32) (a3 : Int32) (a4 : Int32) (a5 : Int32), l = [rR a0, rI a1, rI a2, rI a3, rI a4, rI a5] ∧ f a0 a1.toInt a2.toInt a3.toInt a4.toInt a5.toInt := by
  unfold rC_riiiii at h
  split at h
  · exact ⟨_, _, _, _, _, _, rfl, h⟩
  · exact h.elim
noncomputable def rC_riiiil (f : Nat → Int → Int → Int → Int → Int64 → Prop) : List jv → Prop
  | [.inr (.inr (some (.inl a0))), .inl a1, .inl a2, .inl a3, .inl a4, .inr (.inl a5)] => f a0 a1.toInt a2.toInt a3.toInt a4.toInt a5
  | _ => False
theorem rC_riiiil_e {f : Nat → Int → Int → Int → Int → Int64 → Prop} {l : List jv} (h : rC_riiiil f l) : ∃ (a0 : Nat) (a1 : Int32) (a2 : Int32) (a3 : Int32) (a4 : Int32) (a5 : Int64), l = [rR a0, rI a1, rI a2, rI a3, rI a4, rL a5] ∧ f a0 a1.toInt a2.toInt a3.toInt a4.toInt a5 := by
  unfold rC_riiiil at h
  split at h
  · exact ⟨_, _, _, _, _, _, rfl, h⟩
  · exact h.elim
noncomputable def rC_riiil (f : Nat → Int → Int → Int → Int64 → Prop) : List jv → Prop
  | [.inr (.inr (some (.inl a0))), .inl a1, .inl a2, .inl a3, .inr (.inl a4)] => f a0 a1.toInt a2.toInt a3.toInt a4
  | _ => False
theorem rC_riiil_e {f : Nat → Int → Int → Int → Int64 → Prop} {l : List jv} (h : rC_riiil f l) : ∃ (a0 : Nat) (a1 : Int32) (a2 : Int32) (a3 : Int32) (a4 : Int64), l = [rR a0, rI a1, rI a2, rI a3, rL a4] ∧ f a0 a1.toInt a2.toInt a3.toInt a4 := by
  unfold rC_riiil at h
  split at h
  · exact ⟨_, _, _, _, _, rfl, h⟩
  · exact h.elim
noncomputable def rC_ril (f : Nat → Int → Int64 → Prop) : List jv → Prop
  | [.inr (.inr (some (.inl a0))), .inl a1, .inr (.inl a2)] => f a0 a1.toInt a2
  | _ => False
theorem rC_ril_e {f : Nat → Int → Int64 → Prop} {l : List jv} (h : rC_ril f l) : ∃ (a0 : Nat) (a1 : Int32) (a2 : Int64), l = [rR a0, rI a1, rL a2] ∧ f a0 a1.toInt a2 := by
  unfold rC_ril at h
  split at h
  · exact ⟨_, _, _, rfl, h⟩
  · exact h.elim
noncomputable def rC_vvv (f : jv → jv → jv → Prop) : List jv → Prop
  | [a0, a1, a2] => f a0 a1 a2
  | _ => False
noncomputable def rb_22 (K : Nat → Nat) (n : Nat) (p : rP) (vs : List jv) (σ : Nat → jcell) : Prop := rC_r (fun (a0 : Nat) => p.2 = none ∧ rRX K n σ a0 p.1) vs
noncomputable def rb_23 (K : Nat → Nat) (n : Nat) (p : rP) (vs : List jv) (σ : Nat → jcell) : Prop := rC_ri (fun (a0 : Nat) (a1 : Int) => p.2 = none ∧ rUD K n σ a0 0 p.1 a1) vs
noncomputable def rb_24 (K : Nat → Nat) (n : Nat) (p : rP) (vs : List jv) (σ : Nat → jcell) : Prop := rC_ (rGd p.1) vs
noncomputable def rb_25 (K : Nat → Nat) (n : Nat) (p : rP) (vs : List jv) (σ : Nat → jcell) : Prop := rC_i (fun (a0 : Int) => rLm p.1 a0) vs
noncomputable def rb_26 (K : Nat → Nat) (n : Nat) (p : rP) (vs : List jv) (σ : Nat → jcell) : Prop := rC_ri (fun (a0 : Nat) (a1 : Int) => p.2 = none ∧ rUD K n σ a0 1 p.1 a1) vs
noncomputable def rb_27 (K : Nat → Nat) (n : Nat) (p : rP) (vs : List jv) (σ : Nat → jcell) : Prop := rC_ri (fun (a0 : Nat) (a1 : Int) => p.2 = none ∧ rUD K n σ a0 2 p.1 a1) vs
noncomputable def rb_28 (K : Nat → Nat) (n : Nat) (p : rP) (vs : List jv) (σ : Nat → jcell) : Prop := rC_rii (fun (a0 : Nat) (a1 : Int) (a2 : Int) => p.2 = none ∧ rUD K n σ a0 a1 p.1 a2) vs
noncomputable def rb_29 (K : Nat → Nat) (n : Nat) (p : rP) (vs : List jv) (σ : Nat → jcell) : Prop := rC_ii (fun (a0 : Int) (a1 : Int) => (a1 = 1 ∧ rGd (rMk p.1 a0)) ∨ (a1 = 0 ∧ ¬ rGd (rMk p.1 a0))) vs
noncomputable def rb_30 (K : Nat → Nat) (n : Nat) (p : rP) (vs : List jv) (σ : Nat → jcell) : Prop := rC_il (fun (a0 : Int) (a1 : Int64) => ∀ u, 0 ≤ u → u ≤ 63 → (rBt a1 u ↔ rGO p.1 a0 u)) vs
noncomputable def rb_31 (K : Nat → Nat) (n : Nat) (p : rP) (vs : List jv) (σ : Nat → jcell) : Prop := rC_i (fun (a0 : Int) => rLm p.1 a0 ∧ rGd (rMk p.1 a0)) vs
noncomputable def rb_32 (K : Nat → Nat) (n : Nat) (p : rP) (vs : List jv) (σ : Nat → jcell) : Prop := rC_ii (fun (a0 : Int) (a1 : Int) => (a1 = 1 ∧ rCa p.1 a0) ∨ (a1 = 0 ∧ ¬ rCa p.1 a0)) vs
noncomputable def rb_33 (K : Nat → Nat) (n : Nat) (p : rP) (vs : List jv) (σ : Nat → jcell) : Prop := rC_ii (fun (a0 : Int) (a1 : Int) => ∀ j, 56 * p.1.2.1 + (if a0 = 1 then 5 else 1) ≤ j → j < a1 → p.1.1 j = 0) vs
noncomputable def rb_34 (K : Nat → Nat) (n : Nat) (p : rP) (vs : List jv) (σ : Nat → jcell) : Prop := rC_il (fun (a0 : Int) (a1 : Int64) => p.1.1 a0 % 8 = 6 ∧ ∀ u, 0 ≤ u → u ≤ 63 → (rBt a1 u ↔ rRe p.1.1 (p.1.1 a0 % 8) a0 u ∨ (rCa p.1 1 ∧ u = a0 + 2))) vs
noncomputable def rb_35 (K : Nat → Nat) (n : Nat) (p : rP) (vs : List jv) (σ : Nat → jcell) : Prop := rC_ii (fun (a0 : Int) (a1 : Int) => a1 = rSp a0 0 (rUpw p.1)) vs
noncomputable def rb_36 (K : Nat → Nat) (n : Nat) (p : rP) (vs : List jv) (σ : Nat → jcell) : Prop := rC_ii (fun (a0 : Int) (a1 : Int) => a1 = rSp a0 0 (rUpw p.1)) vs
noncomputable def rb_37 (K : Nat → Nat) (n : Nat) (p : rP) (vs : List jv) (σ : Nat → jcell) : Prop := rC_ii (fun (a0 : Int) (a1 : Int) => p.1.1 a0 = a1) vs
noncomputable def rb_38 (K : Nat → Nat) (n : Nat) (p : rP) (vs : List jv) (σ : Nat → jcell) : Prop := rC_iil (fun (a0 : Int) (a1 : Int) (a2 : Int64) => a1 = rSp a0 0 (rUpw p.1) ∧ p.1.1 a1 = 0 ∧ ∀ u, 0 ≤ u → u ≤ 63 → (rBt a2 u ↔ u = a1)) vs
noncomputable def rb_39 (K : Nat → Nat) (n : Nat) (p : rP) (vs : List jv) (σ : Nat → jcell) : Prop := rC_il (fun (a0 : Int) (a1 : Int64) => ∀ u, 0 ≤ u → u ≤ 63 → (rBt a1 u ↔ rPF p.1 a0 u)) vs
noncomputable def rb_40 (K : Nat → Nat) (n : Nat) (p : rP) (vs : List jv) (σ : Nat → jcell) : Prop := rC_iil (fun (a0 : Int) (a1 : Int) (a2 : Int64) => (a1 = -1 ∨ a1 = 1 ∨ a1 = 3) ∧ ∀ u, 0 ≤ u → u ≤ 63 → (rBt a2 u ↔ rPF p.1 a0 u ∨ ∃ f, f < a1 ∧ rPT p.1 a0 f u)) vs
noncomputable def rb_41 (K : Nat → Nat) (n : Nat) (p : rP) (vs : List jv) (σ : Nat → jcell) : Prop := rC_iil (fun (a0 : Int) (a1 : Int) (a2 : Int64) => (a1 = -1 ∨ a1 = 1) ∧ ∀ u, 0 ≤ u → u ≤ 63 → (rBt a2 u ↔ rPF p.1 a0 u ∨ ∃ f, f < a1 + 2 ∧ rPT p.1 a0 f u)) vs
noncomputable def rb_42 (K : Nat → Nat) (n : Nat) (p : rP) (vs : List jv) (σ : Nat → jcell) : Prop := rC_i (fun (a0 : Int) => rTk p.1 a0) vs
noncomputable def rb_43 (K : Nat → Nat) (n : Nat) (p : rP) (vs : List jv) (σ : Nat → jcell) : Prop := rC_il (fun (a0 : Int) (a1 : Int64) => ∀ u, 0 ≤ u → u ≤ 63 → (rBt a1 u ↔ rPG p.1 a0 u)) vs
noncomputable def rb_45 (K : Nat → Nat) (n : Nat) (p : rP) (vs : List jv) (σ : Nat → jcell) : Prop := rC_i (fun (a0 : Int) => rHas p.1.2.2.1 ((if a0 = 1 then 1 else 2) * (if p.1.2.1 = 0 then 1 else 4))) vs
noncomputable def rb_46 (K : Nat → Nat) (n : Nat) (p : rP) (vs : List jv) (σ : Nat → jcell) : Prop := rC_iii (fun (a0 : Int) (a1 : Int) (a2 : Int) => a2 = rSp a0 a1 (rUpw p.1)) vs
noncomputable def rb_47 (K : Nat → Nat) (n : Nat) (p : rP) (vs : List jv) (σ : Nat → jcell) : Prop := rC_i (fun (a0 : Int) => ¬ p.1.1 a0 % 8 = 1) vs
noncomputable def rb_48 (K : Nat → Nat) (n : Nat) (p : rP) (vs : List jv) (σ : Nat → jcell) : Prop := rC_ri (fun (a0 : Nat) (a1 : Int) => p.2 = none ∧ rUD K n σ a0 3 p.1 a1) vs
noncomputable def rb_49 (K : Nat → Nat) (n : Nat) (p : rP) (vs : List jv) (σ : Nat → jcell) : Prop := rC_r (fun (a0 : Nat) => p.2 = none ∧ ∃ c, 1 ≤ c ∧ c ≤ 2048 ∧ rCT K n σ a0 0 c ∧ rLF K n σ a0 0 c p.1) vs
noncomputable def rb_50 (K : Nat → Nat) (n : Nat) (p : rP) (vs : List jv) (σ : Nat → jcell) : Prop := rC_ri (fun (a0 : Nat) (a1 : Int) => ∃ M, rMe K n σ a0 M ∧ (p.2 = none ∧ M = rM1 p.1 a1)) vs
noncomputable def rb_51 (K : Nat → Nat) (n : Nat) (p : rP) (vs : List jv) (σ : Nat → jcell) : Prop := rC_ri (fun (a0 : Nat) (a1 : Int) => ∃ M, rMe K n σ a0 M ∧ (p.2 = none ∧ M = rM2 p.1 a1)) vs
noncomputable def rb_52 (K : Nat → Nat) (n : Nat) (p : rP) (vs : List jv) (σ : Nat → jcell) : Prop := rC_ri (fun (a0 : Nat) (a1 : Int) => ∃ M, rMe K n σ a0 M ∧ (p.2 = none ∧ M = rM3 p.1 a1)) vs
noncomputable def rb_53 (K : Nat → Nat) (n : Nat) (p : rP) (vs : List jv) (σ : Nat → jcell) : Prop := rC_ri (fun (a0 : Nat) (a1 : Int) => ∃ M, rMe K n σ a0 M ∧ (p.2 = none ∧ M = rM4 p.1 a1)) vs
noncomputable def rb_54 (K : Nat → Nat) (n : Nat) (p : rP) (vs : List jv) (σ : Nat → jcell) : Prop := rC_rii (fun (a0 : Nat) (a1 : Int) (a2 : Int) => ∃ M, rMe K n σ a0 M ∧ (p.2 = none ∧ M = rM3 p.1 (a1 + 64 * a2))) vs
noncomputable def rb_55 (K : Nat → Nat) (n : Nat) (p : rP) (vs : List jv) (σ : Nat → jcell) : Prop := rC_rii (fun (a0 : Nat) (a1 : Int) (a2 : Int) => ∃ M, rMe K n σ a0 M ∧ (p.2 = none ∧ M = rUp (rM3 p.1 (a1 + 64 * a2)) (rOv a1 a2) (rM3 p.1 (a1 + 64 * a2) (rCo a1 a2)))) vs
noncomputable def rb_56 (K : Nat → Nat) (n : Nat) (p : rP) (vs : List jv) (σ : Nat → jcell) : Prop := rC_rii (fun (a0 : Nat) (a1 : Int) (a2 : Int) => ∃ M, rMe K n σ a0 M ∧ (p.2 = none ∧ M = rM4c p.1 (a1 + 64 * a2))) vs
noncomputable def rb_57 (K : Nat → Nat) (n : Nat) (p : rP) (vs : List jv) (σ : Nat → jcell) : Prop := rC_rii (fun (a0 : Nat) (a1 : Int) (a2 : Int) => ∃ M, rMe K n σ a0 M ∧ (p.2 = none ∧ rIsC p.1 (a1 + 64 * a2) ∧ M = rT0c p.1 (a1 + 64 * a2))) vs
noncomputable def rb_58 (K : Nat → Nat) (n : Nat) (p : rP) (vs : List jv) (σ : Nat → jcell) : Prop := rC_ri (fun (a0 : Nat) (a1 : Int) => ∃ M, rMe K n σ a0 M ∧ (p.2 = none ∧ M = rT0 p.1 a1)) vs
noncomputable def rb_59 (K : Nat → Nat) (n : Nat) (p : rP) (vs : List jv) (σ : Nat → jcell) : Prop := rC_ri (fun (a0 : Nat) (a1 : Int) => ∃ M, rMe K n σ a0 M ∧ (p.2 = none ∧ M = rT1 p.1 a1)) vs
noncomputable def rb_60 (K : Nat → Nat) (n : Nat) (p : rP) (vs : List jv) (σ : Nat → jcell) : Prop := rC_ri (fun (a0 : Nat) (a1 : Int) => ∃ M, rMe K n σ a0 M ∧ (p.2 = none ∧ M = rT2 p.1 a1)) vs
noncomputable def rb_61 (K : Nat → Nat) (n : Nat) (p : rP) (vs : List jv) (σ : Nat → jcell) : Prop := rC_ri (fun (a0 : Nat) (a1 : Int) => ∃ M, rMe K n σ a0 M ∧ (p.2 = none ∧ M = rT3 p.1 a1)) vs
noncomputable def rb_62 (K : Nat → Nat) (n : Nat) (p : rP) (vs : List jv) (σ : Nat → jcell) : Prop := rC_rii (fun (a0 : Nat) (a1 : Int) (a2 : Int) => ∃ M, rMe K n σ a0 M ∧ (p.2 = none ∧ rIsC p.1 (a1 + 64 * a2) ∧ M = rM4c p.1 (a1 + 64 * a2))) vs
noncomputable def rb_63 (K : Nat → Nat) (n : Nat) (p : rP) (vs : List jv) (σ : Nat → jcell) : Prop := rC_rii (fun (a0 : Nat) (a1 : Int) (a2 : Int) => ∃ M, rMe K n σ a0 M ∧ (p.2 = none ∧ rIsC p.1 (a1 + 64 * a2) ∧ M = rUp (rM4c p.1 (a1 + 64 * a2)) (rCo a1 a2) (rM4c p.1 (a1 + 64 * a2) (rOv a1 a2)))) vs
noncomputable def rb_64 (K : Nat → Nat) (n : Nat) (p : rP) (vs : List jv) (σ : Nat → jcell) : Prop := rC_ii (fun (a0 : Int) (a1 : Int) => a1 = rWh p.1 a0) vs
noncomputable def rb_65 (K : Nat → Nat) (n : Nat) (p : rP) (vs : List jv) (σ : Nat → jcell) : Prop := rC_ii (fun (a0 : Int) (a1 : Int) => a1 = p.1.1 (rFr a0)) vs
noncomputable def rb_66 (K : Nat → Nat) (n : Nat) (p : rP) (vs : List jv) (σ : Nat → jcell) : Prop := rC_ii (fun (a0 : Int) (a1 : Int) => a1 = p.1.1 (rWh p.1 a0)) vs
noncomputable def rb_67 (K : Nat → Nat) (n : Nat) (p : rP) (vs : List jv) (σ : Nat → jcell) : Prop := rC_i (fun (a0 : Int) => a0 = p.1.2.1) vs
noncomputable def rb_68 (K : Nat → Nat) (n : Nat) (p : rP) (vs : List jv) (σ : Nat → jcell) : Prop := rC_i (fun (a0 : Int) => a0 = p.1.2.2.1) vs
noncomputable def rb_69 (K : Nat → Nat) (n : Nat) (p : rP) (vs : List jv) (σ : Nat → jcell) : Prop := rC_i (fun (a0 : Int) => a0 = p.1.2.2.2) vs
noncomputable def rb_70 (K : Nat → Nat) (n : Nat) (p : rP) (vs : List jv) (σ : Nat → jcell) : Prop := rC_ii (fun (a0 : Int) (a1 : Int) => a1 = rAn (rAn p.1.2.2.1 (rLo (rFr a0))) (rLo (rTo a0))) vs
noncomputable def rb_71 (K : Nat → Nat) (n : Nat) (p : rP) (vs : List jv) (σ : Nat → jcell) : Prop := rC_ii (fun (a0 : Int) (a1 : Int) => a1 = rNp p.1 a0) vs
noncomputable def rb_72 (K : Nat → Nat) (n : Nat) (p : rP) (vs : List jv) (σ : Nat → jcell) : Prop := rC_i (fun (a0 : Int) => ¬ rNbr (rM4 p.1 a0) (rTo a0) (-1) (1 + 8 * (1 - p.1.2.1))) vs
noncomputable def rb_73 (K : Nat → Nat) (n : Nat) (p : rP) (vs : List jv) (σ : Nat → jcell) : Prop := rC_ii (fun (a0 : Int) (a1 : Int) => rCB p.1 a0 0 a1) vs
noncomputable def rb_74 (K : Nat → Nat) (n : Nat) (p : rP) (vs : List jv) (σ : Nat → jcell) : Prop := rC_iii (fun (a0 : Int) (a1 : Int) (a2 : Int) => rCB p.1 a0 a1 a2) vs
noncomputable def rb_75 (K : Nat → Nat) (n : Nat) (p : rP) (vs : List jv) (σ : Nat → jcell) : Prop := rC_iiii (fun (a0 : Int) (a1 : Int) (a2 : Int) (a3 : Int) => rCJ p.1 a0 a1 a2 a3) vs
noncomputable def rb_76 (K : Nat → Nat) (n : Nat) (p : rP) (vs : List jv) (σ : Nat → jcell) : Prop := rC_rii (fun (a0 : Nat) (a1 : Int) (a2 : Int) => p.2 = none ∧ a2 ≤ 2048 ∧ rLF K n σ a0 a1 a2 p.1) vs
noncomputable def rb_77 (K : Nat → Nat) (n : Nat) (p : rP) (vs : List jv) (σ : Nat → jcell) : Prop := rC_rii (fun (a0 : Nat) (a1 : Int) (a2 : Int) => p.2 = none ∧ a2 ≤ 2048 ∧ rLF K n σ a0 a1 (a2 + 1) p.1) vs ∨ rC_riii (fun (a0 : Nat) (a1 : Int) (a2 : Int) (a3 : Int) => p.2 = none ∧ a2 ≤ 2048 ∧ rLF K n σ a0 (a1 + 1) a2 p.1) vs
noncomputable def rb_78 (K : Nat → Nat) (n : Nat) (p : rP) (vs : List jv) (σ : Nat → jcell) : Prop := rC_i (fun (a0 : Int) => a0 = 0 → ∀ m, rLm p.1 m → ¬ rGd (rMk p.1 m)) vs
noncomputable def rb_79 (K : Nat → Nat) (n : Nat) (p : rP) (vs : List jv) (σ : Nat → jcell) : Prop := rC_ii (fun (a0 : Int) (a1 : Int) => (a1 = 1 ∧ p.1.1 (rFr a0) % 8 = 1) ∨ (a1 = 0 ∧ ¬ p.1.1 (rFr a0) % 8 = 1)) vs
noncomputable def rb_80 (K : Nat → Nat) (n : Nat) (p : rP) (vs : List jv) (σ : Nat → jcell) : Prop := rC_ri (fun (a0 : Nat) (a1 : Int) => p.2 = none ∧ a1 ≤ 2048 ∧ rLF K n σ a0 1 a1 p.1) vs
noncomputable def rb_81 (K : Nat → Nat) (n : Nat) (p : rP) (vs : List jv) (σ : Nat → jcell) : Prop := rC_ii (fun (a0 : Int) (a1 : Int) => a1 = 1 - p.1.2.1) vs
noncomputable def rb_82 (K : Nat → Nat) (n : Nat) (p : rP) (vs : List jv) (σ : Nat → jcell) : Prop := rC_ii (fun (a0 : Int) (a1 : Int) => 0 ≤ p.1.2.1 ∧ p.1.2.1 ≤ 1 ∧ ((a1 = 1 ∧ rOwn p.1 a0) ∨ (a1 = 0 ∧ ¬ rOwn p.1 a0))) vs
noncomputable def rb_83 (K : Nat → Nat) (n : Nat) (p : rP) (vs : List jv) (σ : Nat → jcell) : Prop := rC_il (fun (a0 : Int) (a1 : Int64) => ∀ u, 0 ≤ u → u ≤ 63 → (rBt a1 u ↔ rOwn p.1 a0 ∧ rGO p.1 a0 u)) vs
noncomputable def rb_84 (K : Nat → Nat) (n : Nat) (p : rP) (vs : List jv) (σ : Nat → jcell) : Prop := rC_iii (fun (a0 : Int) (a1 : Int) (a2 : Int) => rCB p.1 a0 (a1 + 1) a2) vs
noncomputable def rb_85 (K : Nat → Nat) (n : Nat) (p : rP) (vs : List jv) (σ : Nat → jcell) : Prop := rC_ii (fun (a0 : Int) (a1 : Int) => rCB p.1 (a0 + 1) 0 a1) vs
noncomputable def rb_86 (K : Nat → Nat) (n : Nat) (p : rP) (vs : List jv) (σ : Nat → jcell) : Prop := rC_iii (fun (a0 : Int) (a1 : Int) (a2 : Int) => (a2 = 1 ∧ rLs p.1 a0 a1) ∨ (a2 = 0 ∧ ¬ rLs p.1 a0 a1)) vs
noncomputable def rb_87 (K : Nat → Nat) (n : Nat) (p : rP) (vs : List jv) (σ : Nat → jcell) : Prop := rC_iiii (fun (a0 : Int) (a1 : Int) (a2 : Int) (a3 : Int) => rCJ p.1 a0 a1 (a2 + 1) a3) vs
noncomputable def rb_88 (K : Nat → Nat) (n : Nat) (p : rP) (vs : List jv) (σ : Nat → jcell) : Prop := rC_rii (fun (a0 : Nat) (a1 : Int) (a2 : Int) => rEN K n σ a0 a1 a2 p.1.1) vs
noncomputable def rb_89 (K : Nat → Nat) (n : Nat) (p : rP) (vs : List jv) (σ : Nat → jcell) : Prop := rC_rii (fun (a0 : Nat) (a1 : Int) (a2 : Int) => rEN K n σ a0 a1 (a2 + 1) p.1.1) vs
noncomputable def rb_90 (K : Nat → Nat) (n : Nat) (p : rP) (vs : List jv) (σ : Nat → jcell) : Prop := rC_ri (fun (a0 : Nat) (a1 : Int) => p.2 = none ∧ rAP K n σ a0 a1 p.1) vs
noncomputable def rb_91 (K : Nat → Nat) (n : Nat) (p : rP) (vs : List jv) (σ : Nat → jcell) : Prop := rC_ri (fun (a0 : Nat) (a1 : Int) => p.2 = none ∧ ∃ c, c ≤ 2048 ∧ rCT K n σ a0 a1 c ∧ rLF K n σ a0 a1 c p.1) vs
noncomputable def rb_92 (K : Nat → Nat) (n : Nat) (p : rP) (vs : List jv) (σ : Nat → jcell) : Prop := rC_rii (fun (a0 : Nat) (a1 : Int) (a2 : Int) => p.2 = none ∧ a2 ≤ 2048 ∧ rCT K n σ a0 a1 a2 ∧ rLF K n σ a0 a1 a2 p.1) vs
noncomputable def rb_93 (K : Nat → Nat) (n : Nat) (p : rP) (vs : List jv) (σ : Nat → jcell) : Prop := rC_i (fun (a0 : Int) => rLm p.1 a0 ∧ rGd (rSh rS1 p [rR 0, rI (Int32.ofInt a0)]).1) vs
noncomputable def rb_94 (K : Nat → Nat) (n : Nat) (p : rP) (vs : List jv) (σ : Nat → jcell) : Prop := rC_r (fun (a0 : Nat) => ∃ v : Int32, rOb K n σ a0 88 25 (rI v) ∧ rLm p.1 v.toInt ∧ rGd (rSh rS1 p [rR 0, rI (Int32.ofInt v.toInt)]).1) vs
noncomputable def rb_95 (K : Nat → Nat) (n : Nat) (p : rP) (vs : List jv) (σ : Nat → jcell) : Prop := rC_ (∃ m, rLm p.1 m ∧ rGd (rMk p.1 m)) vs
noncomputable def rb_96 (K : Nat → Nat) (n : Nat) (p : rP) (vs : List jv) (σ : Nat → jcell) : Prop := rC_ri (fun (a0 : Nat) (a1 : Int) => ∃ g a, (rRw K n σ a0 105 4 g ∨ rRw K n σ a0 107 4 g) ∧ rLn a p g 0 a1.toNat) vs
noncomputable def rb_97 (K : Nat → Nat) (n : Nat) (p : rP) (vs : List jv) (σ : Nat → jcell) : Prop := rC_rii (fun (a0 : Nat) (a1 : Int) (a2 : Int) => ∃ g, rRo K n σ a0 88 33 107 4 g ∧ rLn a0 p g a1.toNat a2.toNat) vs ∨ rC_riii (fun (a0 : Nat) (a1 : Int) (a2 : Int) (a3 : Int) => a3 = 1 → ∃ g, rRo K n σ a0 88 33 107 4 g ∧ rLn a0 p g a1.toNat a2.toNat) vs
noncomputable def rb_98 (K : Nat → Nat) (n : Nat) (p : rP) (vs : List jv) (σ : Nat → jcell) : Prop := rC_ri (fun (a0 : Nat) (a1 : Int) => p.2 = none ∧ a1 ≤ 2048 ∧ rCT K n σ a0 0 a1 ∧ rLF K n σ a0 0 a1 p.1) vs
noncomputable def rb_99 (K : Nat → Nat) (n : Nat) (p : rP) (vs : List jv) (σ : Nat → jcell) : Prop := rC_ri (fun (a0 : Nat) (a1 : Int) => p.2 = none ∧ a1 ≤ 2048 ∧ rLF K n σ a0 0 a1 p.1) vs
noncomputable def rb_100 (K : Nat → Nat) (n : Nat) (vs : List jv) (σ : Nat → jcell) : Prop := rC_vvv (fun (a0 : jv) (a1 : jv) (a2 : jv) => aOv 0 a0 a1 a2) vs
noncomputable def rb_101 (K : Nat → Nat) (n : Nat) (vs : List jv) (σ : Nat → jcell) : Prop := rC_vvv (fun (a0 : jv) (a1 : jv) (a2 : jv) => aOv 1 a0 a1 a2) vs
noncomputable def rb_102 (K : Nat → Nat) (n : Nat) (vs : List jv) (σ : Nat → jcell) : Prop := rC_vvv (fun (a0 : jv) (a1 : jv) (a2 : jv) => aOv 2 a0 a1 a2) vs
noncomputable def rb_103 (K : Nat → Nat) (n : Nat) (vs : List jv) (σ : Nat → jcell) : Prop := rC_vvv (fun (a0 : jv) (a1 : jv) (a2 : jv) => aOv 3 a0 a1 a2) vs
noncomputable def rb_104 (K : Nat → Nat) (n : Nat) (vs : List jv) (σ : Nat → jcell) : Prop := rC_vvv (fun (a0 : jv) (a1 : jv) (a2 : jv) => aOv 4 a0 a1 a2) vs
noncomputable def rb_105 (K : Nat → Nat) (n : Nat) (vs : List jv) (σ : Nat → jcell) : Prop := rC_vvv (fun (a0 : jv) (a1 : jv) (a2 : jv) => aOv 5 a0 a1 a2) vs
noncomputable def rb_106 (K : Nat → Nat) (n : Nat) (vs : List jv) (σ : Nat → jcell) : Prop := rC_vvv (fun (a0 : jv) (a1 : jv) (a2 : jv) => aOv 6 a0 a1 a2) vs
noncomputable def rb_107 (K : Nat → Nat) (n : Nat) (vs : List jv) (σ : Nat → jcell) : Prop := rC_vvv (fun (a0 : jv) (a1 : jv) (a2 : jv) => aOv 7 a0 a1 a2) vs
noncomputable def rb_108 (K : Nat → Nat) (n : Nat) (vs : List jv) (σ : Nat → jcell) : Prop := rC_vvv (fun (a0 : jv) (a1 : jv) (a2 : jv) => aOv 8 a0 a1 a2) vs
noncomputable def rb_109 (K : Nat → Nat) (n : Nat) (vs : List jv) (σ : Nat → jcell) : Prop := rC_vvv (fun (a0 : jv) (a1 : jv) (a2 : jv) => aOv 9 a0 a1 a2) vs
noncomputable def rb_110 (K : Nat → Nat) (n : Nat) (vs : List jv) (σ : Nat → jcell) : Prop := rC_vvv (fun (a0 : jv) (a1 : jv) (a2 : jv) => aOv 10 a0 a1 a2) vs
noncomputable def rb_111 (K : Nat → Nat) (n : Nat) (vs : List jv) (σ : Nat → jcell) : Prop := rC_vvv (fun (a0 : jv) (a1 : jv) (a2 : jv) => aOv 11 a0 a1 a2) vs
noncomputable def rb_112 (K : Nat → Nat) (n : Nat) (vs : List jv) (σ : Nat → jcell) : Prop := rC_vvv (fun (a0 : jv) (a1 : jv) (a2 : jv) => aOv 12 a0 a1 a2) vs
noncomputable def rb_113 (K : Nat → Nat) (n : Nat) (vs : List jv) (σ : Nat → jcell) : Prop := rC_vvv (fun (a0 : jv) (a1 : jv) (a2 : jv) => aOv 13 a0 a1 a2) vs
noncomputable def rb_114 (K : Nat → Nat) (n : Nat) (vs : List jv) (σ : Nat → jcell) : Prop := rC_vvv (fun (a0 : jv) (a1 : jv) (a2 : jv) => aOv 14 a0 a1 a2) vs
noncomputable def rb_115 (K : Nat → Nat) (n : Nat) (vs : List jv) (σ : Nat → jcell) : Prop := rC_vvv (fun (a0 : jv) (a1 : jv) (a2 : jv) => aOv 15 a0 a1 a2) vs
noncomputable def rb_116 (K : Nat → Nat) (n : Nat) (vs : List jv) (σ : Nat → jcell) : Prop := rC_vvv (fun (a0 : jv) (a1 : jv) (a2 : jv) => aOv 16 a0 a1 a2) vs
noncomputable def rb_117 (K : Nat → Nat) (n : Nat) (vs : List jv) (σ : Nat → jcell) : Prop := rC_vvv (fun (a0 : jv) (a1 : jv) (a2 : jv) => aOv 17 a0 a1 a2) vs
noncomputable def rb_120 (K : Nat → Nat) (n : Nat) (vs : List jv) (σ : Nat → jcell) : Prop := rC_iiii (fun (a0 : Int) (a1 : Int) (a2 : Int) (a3 : Int) => a3 = rSp a0 a1 a2) vs
noncomputable def rb_121 (K : Nat → Nat) (n : Nat) (vs : List jv) (σ : Nat → jcell) : Prop := rC_iii (fun (a0 : Int) (a1 : Int) (a2 : Int) => (a2 = 1 ∧ 0 ≤ a0 ∧ a0 ≤ 7 ∧ 0 ≤ a1 ∧ a1 ≤ 7) ∨ (a2 = 0 ∧ ¬ (0 ≤ a0 ∧ a0 ≤ 7 ∧ 0 ≤ a1 ∧ a1 ≤ 7))) vs
noncomputable def rb_122 (K : Nat → Nat) (n : Nat) (vs : List jv) (σ : Nat → jcell) : Prop := rC_riii (fun (a0 : Nat) (a1 : Int) (a2 : Int) (a3 : Int) => ∃ M, rMe K n σ a0 M ∧ ((a3 = 1 ∧ 0 ≤ a1 ∧ M a1 = a2) ∨ (a3 = 0 ∧ ¬ (0 ≤ a1 ∧ M a1 = a2)))) vs
noncomputable def rb_123 (K : Nat → Nat) (n : Nat) (vs : List jv) (σ : Nat → jcell) : Prop := rC_riiii (fun (a0 : Nat) (a1 : Int) (a2 : Int) (a3 : Int) (a4 : Int) => ∃ M, rMe K n σ a0 M ∧ (∀ m, rGf M a2 a3 a4 m → rGf M a2 a3 (rSp a1 a2 a3) m)) vs
noncomputable def rb_124 (K : Nat → Nat) (n : Nat) (vs : List jv) (σ : Nat → jcell) : Prop := rC_riiii (fun (a0 : Nat) (a1 : Int) (a2 : Int) (a3 : Int) (a4 : Int) => ∃ M, rMe K n σ a0 M ∧ (∀ m, rGf M a2 a3 (rSp a4 a2 a3) m → rGf M a2 a3 (rSp a1 a2 a3) m)) vs
noncomputable def rb_125 (K : Nat → Nat) (n : Nat) (vs : List jv) (σ : Nat → jcell) : Prop := rC_riiii (fun (a0 : Nat) (a1 : Int) (a2 : Int) (a3 : Int) (a4 : Int) => ∃ M, rMe K n σ a0 M ∧ (rGf M a2 a3 (rSp a1 a2 a3) a4)) vs
noncomputable def rb_126 (K : Nat → Nat) (n : Nat) (vs : List jv) (σ : Nat → jcell) : Prop := rC_rii (fun (a0 : Nat) (a1 : Int) (a2 : Int) => ∃ M, rMe K n σ a0 M ∧ (¬ rP1 M a1 a2 (-1))) vs
noncomputable def rb_127 (K : Nat → Nat) (n : Nat) (vs : List jv) (σ : Nat → jcell) : Prop := rC_rii (fun (a0 : Nat) (a1 : Int) (a2 : Int) => ∃ M, rMe K n σ a0 M ∧ (¬ rP1 M a1 a2 (-1) ∧ ¬ rP1 M a1 a2 1)) vs
noncomputable def rb_128 (K : Nat → Nat) (n : Nat) (vs : List jv) (σ : Nat → jcell) : Prop := rC_riii (fun (a0 : Nat) (a1 : Int) (a2 : Int) (a3 : Int) => ∃ M, rMe K n σ a0 M ∧ (¬ rP1 M a1 a2 (-1) ∧ ¬ rP1 M a1 a2 1 ∧ ∀ f r, -2 ≤ f → f < a3 → -2 ≤ r → r ≤ 2 → ¬ rA1 M a1 a2 f r)) vs
noncomputable def rb_129 (K : Nat → Nat) (n : Nat) (vs : List jv) (σ : Nat → jcell) : Prop := rC_riiii (fun (a0 : Nat) (a1 : Int) (a2 : Int) (a3 : Int) (a4 : Int) => ∃ M, rMe K n σ a0 M ∧ (¬ rP1 M a1 a2 (-1) ∧ ¬ rP1 M a1 a2 1 ∧ (∀ f r, -2 ≤ f → f < a3 → -2 ≤ r → r ≤ 2 → ¬ rA1 M a1 a2 f r) ∧ ∀ r, -2 ≤ r → r < a4 → ¬ rA1 M a1 a2 a3 r)) vs
noncomputable def rb_130 (K : Nat → Nat) (n : Nat) (vs : List jv) (σ : Nat → jcell) : Prop := rC_riiii (fun (a0 : Nat) (a1 : Int) (a2 : Int) (a3 : Int) (a4 : Int) => ∃ M, rMe K n σ a0 M ∧ (¬ rP1 M a1 a2 (-1) ∧ ¬ rP1 M a1 a2 1 ∧ (∀ f r, -2 ≤ f → f < a3 → -2 ≤ r → r ≤ 2 → ¬ rA1 M a1 a2 f r) ∧ ∀ r, -2 ≤ r → r < a4 + 1 → ¬ rA1 M a1 a2 a3 r)) vs
noncomputable def rb_131 (K : Nat → Nat) (n : Nat) (vs : List jv) (σ : Nat → jcell) : Prop := rC_rii (fun (a0 : Nat) (a1 : Int) (a2 : Int) => ∃ M, rMe K n σ a0 M ∧ (rAk M a1 a2)) vs
noncomputable def rb_132 (K : Nat → Nat) (n : Nat) (vs : List jv) (σ : Nat → jcell) : Prop := rC_riii (fun (a0 : Nat) (a1 : Int) (a2 : Int) (a3 : Int) => ∃ M, rMe K n σ a0 M ∧ ((a3 = 1 ∧ rAk M a1 a2) ∨ (a3 = 0 ∧ ¬ rAk M a1 a2))) vs
noncomputable def rb_133 (K : Nat → Nat) (n : Nat) (vs : List jv) (σ : Nat → jcell) : Prop := rC_ii (fun (a0 : Int) (a1 : Int) => ¬ a0 = a1 + 5) vs
noncomputable def rb_134 (K : Nat → Nat) (n : Nat) (vs : List jv) (σ : Nat → jcell) : Prop := rC_iii (fun (a0 : Int) (a1 : Int) (a2 : Int) => (a2 = 1 → ¬ a0 = a1 + 4) ∧ (a2 = 2 → ¬ a0 = a1 + 3)) vs
noncomputable def rb_135 (K : Nat → Nat) (n : Nat) (vs : List jv) (σ : Nat → jcell) : Prop := rC_ii (fun (a0 : Int) (a1 : Int) => True) vs
noncomputable def rb_136 (K : Nat → Nat) (n : Nat) (vs : List jv) (σ : Nat → jcell) : Prop := rC_i (fun (a0 : Int) => True) vs
noncomputable def rb_137 (K : Nat → Nat) (n : Nat) (vs : List jv) (σ : Nat → jcell) : Prop := rC_rii (fun (a0 : Nat) (a1 : Int) (a2 : Int) => ∃ M, rMe K n σ a0 M ∧ (∀ j, 0 ≤ j → j < a2 → ¬ M j = 8 * a1 + 6)) vs
noncomputable def rb_138 (K : Nat → Nat) (n : Nat) (vs : List jv) (σ : Nat → jcell) : Prop := rC_rii (fun (a0 : Nat) (a1 : Int) (a2 : Int) => ∃ M, rMe K n σ a0 M ∧ (rKg M a1 a2)) vs
noncomputable def rb_139 (K : Nat → Nat) (n : Nat) (vs : List jv) (σ : Nat → jcell) : Prop := rC_r (fun (a0 : Nat) => ∃ M, rMe K n σ a0 M ∧ (rKs M)) vs
noncomputable def rb_140 (K : Nat → Nat) (n : Nat) (vs : List jv) (σ : Nat → jcell) : Prop := rC_rii (fun (a0 : Nat) (a1 : Int) (a2 : Int) => ∃ M, rMe K n σ a0 M ∧ (∃ s, rKg M a1 s ∧ ((a2 = 1 ∧ rAk M s (1 - a1)) ∨ (a2 = 0 ∧ ¬ rAk M s (1 - a1))))) vs
noncomputable def rb_141 (K : Nat → Nat) (n : Nat) (vs : List jv) (σ : Nat → jcell) : Prop := rC_il (fun (a0 : Int) (a1 : Int64) => ∀ u, 0 ≤ u → u ≤ 63 → (rBt a1 u ↔ u = a0)) vs
noncomputable def rb_142 (K : Nat → Nat) (n : Nat) (vs : List jv) (σ : Nat → jcell) : Prop := rC_riiiil (fun (a0 : Nat) (a1 : Int) (a2 : Int) (a3 : Int) (a4 : Int) (a5 : Int64) => ∃ M, rMe K n σ a0 M ∧ (∀ u, 0 ≤ u → u ≤ 63 → (rWf M a2 a3 (rSp a1 a2 a3) u ↔ rBt a5 u ∨ rWf M a2 a3 a4 u))) vs
noncomputable def rb_143 (K : Nat → Nat) (n : Nat) (vs : List jv) (σ : Nat → jcell) : Prop := rC_riiiil (fun (a0 : Nat) (a1 : Int) (a2 : Int) (a3 : Int) (a4 : Int) (a5 : Int64) => ∃ M, rMe K n σ a0 M ∧ (∀ u, 0 ≤ u → u ≤ 63 → (rWf M a2 a3 (rSp a1 a2 a3) u ↔ rBt a5 u ∨ (M a4 = 0 ∧ rWf M a2 a3 (rSp a4 a2 a3) u)))) vs
noncomputable def rb_144 (K : Nat → Nat) (n : Nat) (vs : List jv) (σ : Nat → jcell) : Prop := rC_riiil (fun (a0 : Nat) (a1 : Int) (a2 : Int) (a3 : Int) (a4 : Int64) => ∃ M, rMe K n σ a0 M ∧ (∀ u, 0 ≤ u → u ≤ 63 → (rWf M a2 a3 (rSp a1 a2 a3) u ↔ rBt a4 u))) vs
noncomputable def rb_145 (K : Nat → Nat) (n : Nat) (vs : List jv) (σ : Nat → jcell) : Prop := rC_rii (fun (a0 : Nat) (a1 : Int) (a2 : Int) => ∃ M, rMe K n σ a0 M ∧ (∀ j, 0 ≤ j → j < a2 + 1 → ¬ M j = 8 * a1 + 6)) vs
noncomputable def rb_146 (K : Nat → Nat) (n : Nat) (vs : List jv) (σ : Nat → jcell) : Prop := rC_riiiil (fun (a0 : Nat) (a1 : Int) (a2 : Int) (a3 : Int) (a4 : Int) (a5 : Int64) => ∃ M, rMe K n σ a0 M ∧ (∀ u, 0 ≤ u → u ≤ 63 → (rWf M a2 a3 (rSp a1 a2 a3) u ↔ rBt a5 u ∨ rWf M a2 a3 (rSp a4 a2 a3) u))) vs
noncomputable def rb_147 (K : Nat → Nat) (n : Nat) (vs : List jv) (σ : Nat → jcell) : Prop := rC_ii (fun (a0 : Int) (a1 : Int) => a1 = a0 % 8) vs
noncomputable def rb_148 (K : Nat → Nat) (n : Nat) (vs : List jv) (σ : Nat → jcell) : Prop := rC_rii (fun (a0 : Nat) (a1 : Int) (a2 : Int) => ∃ M, rMe K n σ a0 M ∧ (a2 = M a1 % 8)) vs
noncomputable def rb_149 (K : Nat → Nat) (n : Nat) (vs : List jv) (σ : Nat → jcell) : Prop := rC_riiil (fun (a0 : Nat) (a1 : Int) (a2 : Int) (a3 : Int) (a4 : Int64) => ∃ M, rMe K n σ a0 M ∧ (a2 = M a1 % 8 ∧ ∀ u, 0 ≤ u → u ≤ 63 → (rBt a4 u ↔ ∃ f r, -2 ≤ f ∧ f < a3 ∧ -2 ≤ r ∧ r ≤ 2 ∧ rR1 M a2 a1 f r u))) vs
noncomputable def rb_150 (K : Nat → Nat) (n : Nat) (vs : List jv) (σ : Nat → jcell) : Prop := rC_riiiil (fun (a0 : Nat) (a1 : Int) (a2 : Int) (a3 : Int) (a4 : Int) (a5 : Int64) => ∃ M, rMe K n σ a0 M ∧ (a2 = M a1 % 8 ∧ ∀ u, 0 ≤ u → u ≤ 63 → (rBt a5 u ↔ ∃ f r, -2 ≤ f ∧ (f < a3 ∨ (f = a3 ∧ r < a4)) ∧ -2 ≤ r ∧ r ≤ 2 ∧ rR1 M a2 a1 f r u))) vs
noncomputable def rb_151 (K : Nat → Nat) (n : Nat) (vs : List jv) (σ : Nat → jcell) : Prop := rC_riiiil (fun (a0 : Nat) (a1 : Int) (a2 : Int) (a3 : Int) (a4 : Int) (a5 : Int64) => ∃ M, rMe K n σ a0 M ∧ (a2 = M a1 % 8 ∧ ∀ u, 0 ≤ u → u ≤ 63 → (rBt a5 u ↔ ∃ f r, -2 ≤ f ∧ (f < a3 ∨ (f = a3 ∧ r < a4 + 1)) ∧ -2 ≤ r ∧ r ≤ 2 ∧ rR1 M a2 a1 f r u))) vs
noncomputable def rb_152 (K : Nat → Nat) (n : Nat) (vs : List jv) (σ : Nat → jcell) : Prop := rC_riiil (fun (a0 : Nat) (a1 : Int) (a2 : Int) (a3 : Int) (a4 : Int64) => ∃ M, rMe K n σ a0 M ∧ (a2 = M a1 % 8 ∧ ∀ u, 0 ≤ u → u ≤ 63 → (rBt a4 u ↔ ∃ f r, -2 ≤ f ∧ f < a3 + 1 ∧ -2 ≤ r ∧ r ≤ 2 ∧ rR1 M a2 a1 f r u))) vs
noncomputable def rb_153 (K : Nat → Nat) (n : Nat) (vs : List jv) (σ : Nat → jcell) : Prop := rC_ril (fun (a0 : Nat) (a1 : Int) (a2 : Int64) => ∃ M, rMe K n σ a0 M ∧ (∀ u, 0 ≤ u → u ≤ 63 → (rBt a2 u ↔ rRe M (M a1 % 8) a1 u))) vs
noncomputable def rb_154 (K : Nat → Nat) (n : Nat) (vs : List jv) (σ : Nat → jcell) : Prop := rC_ii (fun (a0 : Int) (a1 : Int) => a1 = a0 * a0) vs
noncomputable def rb_155 (K : Nat → Nat) (n : Nat) (vs : List jv) (σ : Nat → jcell) : Prop := rC_iii (fun (a0 : Int) (a1 : Int) (a2 : Int) => a2 = a0 * a0 + a1 * a1) vs
noncomputable def rb_156 (K : Nat → Nat) (n : Nat) (vs : List jv) (σ : Nat → jcell) : Prop := rC_riii (fun (a0 : Nat) (a1 : Int) (a2 : Int) (a3 : Int) => ∃ M, rMe K n σ a0 M ∧ ((a3 = 1 ∧ ¬ M a1 = 0 ∧ M a1 / 8 = a2) ∨ (a3 = 0 ∧ ¬ (¬ M a1 = 0 ∧ M a1 / 8 = a2)))) vs
noncomputable def rb_157 (K : Nat → Nat) (n : Nat) (vs : List jv) (σ : Nat → jcell) : Prop := rC_ii (fun (a0 : Int) (a1 : Int) => a1 = a0 / 8) vs
noncomputable def rb_160 (K : Nat → Nat) (n : Nat) (vs : List jv) (σ : Nat → jcell) : Prop := rC_iiii (fun (a0 : Int) (a1 : Int) (a2 : Int) (a3 : Int) => a1 = rFr a0 ∧ a2 = rTo a0 ∧ a3 = rBc a0) vs
noncomputable def rb_161 (K : Nat → Nat) (n : Nat) (vs : List jv) (σ : Nat → jcell) : Prop := rC_iii (fun (a0 : Int) (a1 : Int) (a2 : Int) => (a1 = a0 + 2 ∨ a1 = a0 - 2) ∧ (a0 = 4 ∨ a0 = 60) ∧ a2 = 0) vs
noncomputable def rb_162 (K : Nat → Nat) (n : Nat) (vs : List jv) (σ : Nat → jcell) : Prop := rC_ii (fun (a0 : Int) (a1 : Int) => a1 = rLo a0) vs
noncomputable def rb_163 (K : Nat → Nat) (n : Nat) (vs : List jv) (σ : Nat → jcell) : Prop := rC_iii (fun (a0 : Int) (a1 : Int) (a2 : Int) => a2 = rAn a1 (rLo a0)) vs
noncomputable def rb_164 (K : Nat → Nat) (n : Nat) (vs : List jv) (σ : Nat → jcell) : Prop := rC_li (fun (a0 : Int64) (a1 : Int) => rBt a0 a1) vs
noncomputable def rb_167 (K : Nat → Nat) (n : Nat) (vs : List jv) (σ : Nat → jcell) : Prop := rC_lil (fun (a0 : Int64) (a1 : Int) (a2 : Int64) => a2 = a0 >>> ((Int32.ofInt a1).toInt64 &&& 63)) vs
noncomputable def rb_168 (K : Nat → Nat) (n : Nat) (vs : List jv) (σ : Nat → jcell) : Prop := rC_rii (fun (a0 : Nat) (a1 : Int) (a2 : Int) => rCT K n σ a0 a1 a2) vs
noncomputable def rb_169 (K : Nat → Nat) (n : Nat) (vs : List jv) (σ : Nat → jcell) : Prop := rC_ii (fun (a0 : Int) (a1 : Int) => (a1 = a0 + 2 ∨ a1 = a0 - 2) ∧ (a0 = 4 ∨ a0 = 60)) vs
noncomputable def rb_170 (K : Nat → Nat) (n : Nat) (vs : List jv) (σ : Nat → jcell) : Prop := rC_ri (fun (a0 : Nat) (a1 : Int) => rPG0 K n σ a0 a1) vs
noncomputable def rb_171 (K : Nat → Nat) (n : Nat) (vs : List jv) (σ : Nat → jcell) : Prop := rC_ri (fun (a0 : Nat) (a1 : Int) => rPG0 K n σ a0 (a1 + 1)) vs
noncomputable def rb_172 (K : Nat → Nat) (n : Nat) (vs : List jv) (σ : Nat → jcell) : Prop := rC_rii (fun (a0 : Nat) (a1 : Int) (a2 : Int) => rPG0 K n σ a0 (a1 + a2)) vs
noncomputable def rb_173 (K : Nat → Nat) (n : Nat) (vs : List jv) (σ : Nat → jcell) : Prop := rC_rii (fun (a0 : Nat) (a1 : Int) (a2 : Int) => rPG0 K n σ a0 (a1 + a2 + 1)) vs
noncomputable def rb_174 (K : Nat → Nat) (n : Nat) (vs : List jv) (σ : Nat → jcell) : Prop := rC_rii (fun (a0 : Nat) (a1 : Int) (a2 : Int) => a2 = 1 → rAS K n σ a0 a1 64) vs
noncomputable def rb_175 (K : Nat → Nat) (n : Nat) (vs : List jv) (σ : Nat → jcell) : Prop := rC_rii (fun (a0 : Nat) (a1 : Int) (a2 : Int) => a2 = 1 → rAS K n σ a0 a1 0) vs
noncomputable def rb_176 (K : Nat → Nat) (n : Nat) (vs : List jv) (σ : Nat → jcell) : Prop := rC_riii (fun (a0 : Nat) (a1 : Int) (a2 : Int) (a3 : Int) => a3 = 1 → rAS K n σ a0 a1 a2) vs
noncomputable def rb_177 (K : Nat → Nat) (n : Nat) (vs : List jv) (σ : Nat → jcell) : Prop := rC_riii (fun (a0 : Nat) (a1 : Int) (a2 : Int) (a3 : Int) => a3 = 1 → rAS K n σ a0 a1 (a2 + 1)) vs
noncomputable def rb_179 (K : Nat → Nat) (n : Nat) (vs : List jv) (σ : Nat → jcell) : Prop := rC_ri (fun (a0 : Nat) (a1 : Int) => ∃ c, 1 ≤ c ∧ rCT K n σ a0 a1 c) vs
noncomputable def rb_181 (K : Nat → Nat) (n : Nat) (vs : List jv) (σ : Nat → jcell) : Prop := rC_rii (fun (a0 : Nat) (a1 : Int) (a2 : Int) => a2 = 0 → ∃ c, 1 ≤ c ∧ rCT K n σ a0 a1 c) vs
noncomputable def rb_182 (K : Nat → Nat) (n : Nat) (vs : List jv) (σ : Nat → jcell) : Prop := rC_ri (fun (a0 : Nat) (a1 : Int) => rHP K n σ a0 a1) vs ∨ rC_rii (fun (a0 : Nat) (a1 : Int) (a2 : Int) => a2 = 1 → rHP K n σ a0 a1) vs
noncomputable def rb_183 (K : Nat → Nat) (n : Nat) (vs : List jv) (σ : Nat → jcell) : Prop := rC_ri (fun (a0 : Nat) (a1 : Int) => rHP K n σ a0 (a1 + 1)) vs
noncomputable def rb_184 (K : Nat → Nat) (n : Nat) (vs : List jv) (σ : Nat → jcell) : Prop := rC_ri (fun (a0 : Nat) (a1 : Int) => ∃ g, rRw K n σ a0 105 4 g ∧ (g 0).toInt = a1) vs
noncomputable def rb_185 (K : Nat → Nat) (n : Nat) (vs : List jv) (σ : Nat → jcell) : Prop := rC_ri (fun (a0 : Nat) (a1 : Int) => ∃ g, rRw K n σ a0 105 4 g ∧ (g 1).toInt = a1) vs
noncomputable def rb_186 (K : Nat → Nat) (n : Nat) (vs : List jv) (σ : Nat → jcell) : Prop := rC_ri (fun (a0 : Nat) (a1 : Int) => ∃ g, rRw K n σ a0 105 4 g ∧ (g 2).toInt = a1) vs
noncomputable def rb_187 (K : Nat → Nat) (n : Nat) (vs : List jv) (σ : Nat → jcell) : Prop := rC_ri (fun (a0 : Nat) (a1 : Int) => ∃ g, rRw K n σ a0 105 4 g ∧ (g 3).toInt = a1) vs
noncomputable def rb_188 (K : Nat → Nat) (n : Nat) (vs : List jv) (σ : Nat → jcell) : Prop := rC_rii (fun (a0 : Nat) (a1 : Int) (a2 : Int) => 0 ≤ a1 ∧ ∃ g, rRo K n σ a0 88 34 108 4 g ∧ (g a1.toNat).toInt = a2) vs
noncomputable def rb_189 (K : Nat → Nat) (n : Nat) (vs : List jv) (σ : Nat → jcell) : Prop := rC_rii (fun (a0 : Nat) (a1 : Int) (a2 : Int) => rSGN K n σ a0 a1 a2) vs
noncomputable def rb_190 (K : Nat → Nat) (n : Nat) (vs : List jv) (σ : Nat → jcell) : Prop := rC_i (fun (a0 : Int) => True) vs
noncomputable def rb_191 (K : Nat → Nat) (n : Nat) (vs : List jv) (σ : Nat → jcell) : Prop := rC_i (fun (a0 : Int) => True) vs
noncomputable def rb_192 (K : Nat → Nat) (n : Nat) (vs : List jv) (σ : Nat → jcell) : Prop := rC_riii (fun (a0 : Nat) (a1 : Int) (a2 : Int) (a3 : Int) => ∃ M, rMe K n σ a0 M ∧ (a3 = rCnt M a1 a2.toNat)) vs
noncomputable def rb_193 (K : Nat → Nat) (n : Nat) (vs : List jv) (σ : Nat → jcell) : Prop := rC_r (fun (a0 : Nat) => ∃ M, rMe K n σ a0 M ∧ (rCnt M 6 64 = 1)) vs ∨ rC_riii (fun (a0 : Nat) (a1 : Int) (a2 : Int) (a3 : Int) => ∃ M, rMe K n σ a0 M ∧ (a3 = rCnt M a1 (a2 + 1).toNat)) vs
noncomputable def rb_194 (K : Nat → Nat) (n : Nat) (vs : List jv) (σ : Nat → jcell) : Prop := rC_rii (fun (a0 : Nat) (a1 : Int) (a2 : Int) => ∃ M, rMe K n σ a0 M ∧ (a2 = rCnt M a1 64)) vs
noncomputable def rb_195 (K : Nat → Nat) (n : Nat) (vs : List jv) (σ : Nat → jcell) : Prop := rC_ri (fun (a0 : Nat) (a1 : Int) => a1 = 0 → rPSW K n σ a0) vs
noncomputable def rb_197 (K : Nat → Nat) (n : Nat) (vs : List jv) (σ : Nat → jcell) : Prop := rC_ri (fun (a0 : Nat) (a1 : Int) => a1 = 0 → rFO K n σ a0) vs
noncomputable def rb_198 (K : Nat → Nat) (n : Nat) (vs : List jv) (σ : Nat → jcell) : Prop := rC_ii (fun (a0 : Int) (a1 : Int) => True) vs
noncomputable def rb_199 (K : Nat → Nat) (n : Nat) (vs : List jv) (σ : Nat → jcell) : Prop := rC_ii (fun (a0 : Int) (a1 : Int) => True) vs
noncomputable def rb_200 (K : Nat → Nat) (n : Nat) (vs : List jv) (σ : Nat → jcell) : Prop := rC_riii (fun (a0 : Nat) (a1 : Int) (a2 : Int) (a3 : Int) => ∃ M, rTe K n σ a0 M ∧ ((a3 = 1 ∧ 0 ≤ a1 ∧ M a1 = a2) ∨ (a3 = 0 ∧ ¬ (0 ≤ a1 ∧ M a1 = a2)))) vs
noncomputable def rb_201 (K : Nat → Nat) (n : Nat) (vs : List jv) (σ : Nat → jcell) : Prop := rC_riiii (fun (a0 : Nat) (a1 : Int) (a2 : Int) (a3 : Int) (a4 : Int) => ∃ M, rTe K n σ a0 M ∧ (∀ m, rGf M a2 a3 a4 m → rGf M a2 a3 (rSp a1 a2 a3) m)) vs
noncomputable def rb_202 (K : Nat → Nat) (n : Nat) (vs : List jv) (σ : Nat → jcell) : Prop := rC_riiii (fun (a0 : Nat) (a1 : Int) (a2 : Int) (a3 : Int) (a4 : Int) => ∃ M, rTe K n σ a0 M ∧ (∀ m, rGf M a2 a3 (rSp a4 a2 a3) m → rGf M a2 a3 (rSp a1 a2 a3) m)) vs
noncomputable def rb_203 (K : Nat → Nat) (n : Nat) (vs : List jv) (σ : Nat → jcell) : Prop := rC_riiii (fun (a0 : Nat) (a1 : Int) (a2 : Int) (a3 : Int) (a4 : Int) => ∃ M, rTe K n σ a0 M ∧ (rGf M a2 a3 (rSp a1 a2 a3) a4)) vs
noncomputable def rb_204 (K : Nat → Nat) (n : Nat) (vs : List jv) (σ : Nat → jcell) : Prop := rC_riii (fun (a0 : Nat) (a1 : Int) (a2 : Int) (a3 : Int) => ∃ M, rTe K n σ a0 M ∧ (a3 = 0 → ¬ rAk M a1 a2)) vs
noncomputable def rb_205 (K : Nat → Nat) (n : Nat) (vs : List jv) (σ : Nat → jcell) : Prop := rC_rii (fun (a0 : Nat) (a1 : Int) (a2 : Int) => ∃ M, rTe K n σ a0 M ∧ (¬ rP1 M a1 a2 (-1))) vs
noncomputable def rb_206 (K : Nat → Nat) (n : Nat) (vs : List jv) (σ : Nat → jcell) : Prop := rC_riii (fun (a0 : Nat) (a1 : Int) (a2 : Int) (a3 : Int) => ∃ M, rTe K n σ a0 M ∧ (a3 = 0 → (¬ rP1 M a1 a2 (-1) ∧ ¬ rP1 M a1 a2 1))) vs
noncomputable def rb_207 (K : Nat → Nat) (n : Nat) (vs : List jv) (σ : Nat → jcell) : Prop := rC_riiii (fun (a0 : Nat) (a1 : Int) (a2 : Int) (a3 : Int) (a4 : Int) => ∃ M, rTe K n σ a0 M ∧ (a4 = 0 → (¬ rP1 M a1 a2 (-1) ∧ ¬ rP1 M a1 a2 1 ∧ ∀ f r, -2 ≤ f → f < a3 → -2 ≤ r → r ≤ 2 → ¬ rA1 M a1 a2 f r))) vs
noncomputable def rb_208 (K : Nat → Nat) (n : Nat) (vs : List jv) (σ : Nat → jcell) : Prop := rC_riiiii (fun (a0 : Nat) (a1 : Int) (a2 : Int) (a3 : Int) (a4 : Int) (a5 : Int) => ∃ M, rTe K n σ a0 M ∧ (a5 = 0 → (¬ rP1 M a1 a2 (-1) ∧ ¬ rP1 M a1 a2 1 ∧ (∀ f r, -2 ≤ f → f < a3 → -2 ≤ r → r ≤ 2 → ¬ rA1 M a1 a2 f r) ∧ ∀ r, -2 ≤ r → r < a4 → ¬ rA1 M a1 a2 a3 r))) vs
noncomputable def rb_209 (K : Nat → Nat) (n : Nat) (vs : List jv) (σ : Nat → jcell) : Prop := rC_riiiii (fun (a0 : Nat) (a1 : Int) (a2 : Int) (a3 : Int) (a4 : Int) (a5 : Int) => ∃ M, rTe K n σ a0 M ∧ (a5 = 0 → (¬ rP1 M a1 a2 (-1) ∧ ¬ rP1 M a1 a2 1 ∧ (∀ f r, -2 ≤ f → f < a3 → -2 ≤ r → r ≤ 2 → ¬ rA1 M a1 a2 f r) ∧ (∀ r, -2 ≤ r → r < a4 → ¬ rA1 M a1 a2 a3 r) ∧ rA2 M a1 a2 a3 a4))) vs
noncomputable def rb_210 (K : Nat → Nat) (n : Nat) (vs : List jv) (σ : Nat → jcell) : Prop := rC_riiiii (fun (a0 : Nat) (a1 : Int) (a2 : Int) (a3 : Int) (a4 : Int) (a5 : Int) => ∃ M, rTe K n σ a0 M ∧ (a5 = 0 → (¬ rP1 M a1 a2 (-1) ∧ ¬ rP1 M a1 a2 1 ∧ (∀ f r, -2 ≤ f → f < a3 → -2 ≤ r → r ≤ 2 → ¬ rA1 M a1 a2 f r) ∧ ∀ r, -2 ≤ r → r < a4 + 1 → ¬ rA1 M a1 a2 a3 r))) vs
noncomputable def rb_211 (K : Nat → Nat) (n : Nat) (vs : List jv) (σ : Nat → jcell) : Prop := rC_riiii (fun (a0 : Nat) (a1 : Int) (a2 : Int) (a3 : Int) (a4 : Int) => ∃ M, rTe K n σ a0 M ∧ (a4 = 0 → (¬ rP1 M a1 a2 (-1) ∧ ¬ rP1 M a1 a2 1 ∧ ∀ f r, -2 ≤ f → f < (a3 + 1) → -2 ≤ r → r ≤ 2 → ¬ rA1 M a1 a2 f r))) vs
noncomputable def rb_212 (K : Nat → Nat) (n : Nat) (vs : List jv) (σ : Nat → jcell) : Prop := rC_riii (fun (a0 : Nat) (a1 : Int) (a2 : Int) (a3 : Int) => ∃ M, rTe K n σ a0 M ∧ (∀ j, 0 ≤ j → j < a2 → M j = 8 * a1 + 6 → (0 ≤ a3 ∧ a3 ≤ 63 ∧ M a3 = 8 * a1 + 6))) vs
noncomputable def rb_213 (K : Nat → Nat) (n : Nat) (vs : List jv) (σ : Nat → jcell) : Prop := rC_riii (fun (a0 : Nat) (a1 : Int) (a2 : Int) (a3 : Int) => ∃ M, rTe K n σ a0 M ∧ (∀ j, 0 ≤ j → j < a2 + 1 → M j = 8 * a1 + 6 → (0 ≤ a3 ∧ a3 ≤ 63 ∧ M a3 = 8 * a1 + 6))) vs
noncomputable def rb_214 (K : Nat → Nat) (n : Nat) (vs : List jv) (σ : Nat → jcell) : Prop := rC_rii (fun (a0 : Nat) (a1 : Int) (a2 : Int) => ∃ M, rTe K n σ a0 M ∧ (∀ j, 0 ≤ j → j ≤ 63 → M j = 8 * a1 + 6 → (0 ≤ a2 ∧ a2 ≤ 63 ∧ M a2 = 8 * a1 + 6))) vs
noncomputable def rb_215 (K : Nat → Nat) (n : Nat) (vs : List jv) (σ : Nat → jcell) : Prop := rC_rii (fun (a0 : Nat) (a1 : Int) (a2 : Int) => ∃ M, rTe K n σ a0 M ∧ (a2 = 0 → (∀ j, 0 ≤ j → j ≤ 63 → M j = 8 * a1 + 6 → ∃ s, 0 ≤ s ∧ s ≤ 63 ∧ M s = 8 * a1 + 6 ∧ ¬ rAk M s (1 - a1)))) vs
noncomputable def rb_216 (K : Nat → Nat) (n : Nat) (vs : List jv) (σ : Nat → jcell) : Prop := rC_ii (fun (a0 : Int) (a1 : Int) => (a0 = 0 ∧ a1 = -1) ∨ (¬ a0 = 0 ∧ a1 = a0 / 8)) vs
noncomputable def rb_217 (K : Nat → Nat) (n : Nat) (vs : List jv) (σ : Nat → jcell) : Prop := rC_ii (fun (a0 : Int) (a1 : Int) => ¬ a0 % 8 = a1 % 8) vs
noncomputable def rb_218 (K : Nat → Nat) (n : Nat) (vs : List jv) (σ : Nat → jcell) : Prop := rC_ii (fun (a0 : Int) (a1 : Int) => a1 = a0 % 8) vs
noncomputable def rb_219 (K : Nat → Nat) (n : Nat) (vs : List jv) (σ : Nat → jcell) : Prop := rC_i (fun (a0 : Int) => True) vs
noncomputable def rb_220 (K : Nat → Nat) (n : Nat) (vs : List jv) (σ : Nat → jcell) : Prop := rC_r (fun (a0 : Nat) => ∃ v : Int32, rOb K n σ a0 62 29 (rI v) ∧ 0 ≤ v.toInt ∧ v.toInt ≤ 1298) vs
noncomputable def rb_221 (K : Nat → Nat) (n : Nat) (vs : List jv) (σ : Nat → jcell) : Prop := rC_r (fun (a0 : Nat) => ∃ g, rRo K n σ a0 62 31 84 5 g ∧ 0 ≤ (g 4).toInt ∧ (g 4).toInt ≤ 1298) vs
noncomputable def rb_222 (K : Nat → Nat) (n : Nat) (vs : List jv) (σ : Nat → jcell) : Prop := rC_riii (fun (a0 : Nat) (a1 : Int) (a2 : Int) (a3 : Int) => ∃ M, rTe K n σ a0 M ∧ (a3 = 1 → ∀ j, a1 ≤ j → j ≤ a2 → M j = 0)) vs
noncomputable def rb_223 (K : Nat → Nat) (n : Nat) (vs : List jv) (σ : Nat → jcell) : Prop := rC_riii (fun (a0 : Nat) (a1 : Int) (a2 : Int) (a3 : Int) => ∃ M, rTe K n σ a0 M ∧ (a3 = 1 → ∀ j, a1 ≤ j → j < a2 → M j = 0)) vs
noncomputable def rb_224 (K : Nat → Nat) (n : Nat) (vs : List jv) (σ : Nat → jcell) : Prop := rC_riii (fun (a0 : Nat) (a1 : Int) (a2 : Int) (a3 : Int) => ∃ M, rTe K n σ a0 M ∧ (a3 = 1 → ∀ j, a1 ≤ j → j < a2 + 1 → M j = 0)) vs
noncomputable def rb_225 (K : Nat → Nat) (n : Nat) (vs : List jv) (σ : Nat → jcell) : Prop := rC_ii (fun (a0 : Int) (a1 : Int) => ¬ a0 = a1) vs
noncomputable def rb_226 (K : Nat → Nat) (n : Nat) (vs : List jv) (σ : Nat → jcell) : Prop := rC_iiii (fun (a0 : Int) (a1 : Int) (a2 : Int) (a3 : Int) => a2 = a1 % 8 - a0 % 8 ∧ a3 = a1 / 8 - a0 / 8) vs
noncomputable def rb_227 (K : Nat → Nat) (n : Nat) (vs : List jv) (σ : Nat → jcell) : Prop := rC_ii (fun (a0 : Int) (a1 : Int) => a1 = a0 * a0) vs
noncomputable def rb_228 (K : Nat → Nat) (n : Nat) (vs : List jv) (σ : Nat → jcell) : Prop := rC_iii (fun (a0 : Int) (a1 : Int) (a2 : Int) => a2 = a0 * a0 + a1 * a1) vs
noncomputable def rb_230 (K : Nat → Nat) (n : Nat) (vs : List jv) (σ : Nat → jcell) : Prop := rC_ri (fun (a0 : Nat) (a1 : Int) => ∃ M, rTe K n σ a0 M ∧ (¬ rAk M a1 (if a1 = 4 then 1 else 0))) vs
noncomputable def rb_231 (K : Nat → Nat) (n : Nat) (vs : List jv) (σ : Nat → jcell) : Prop := rC_i (fun (a0 : Int) => True) vs
noncomputable def rb_232 (K : Nat → Nat) (n : Nat) (vs : List jv) (σ : Nat → jcell) : Prop := rC_i (fun (a0 : Int) => True) vs
noncomputable def rb_233 (K : Nat → Nat) (n : Nat) (vs : List jv) (σ : Nat → jcell) : Prop := rC_i (fun (a0 : Int) => True) vs
noncomputable def rb_234 (K : Nat → Nat) (n : Nat) (vs : List jv) (σ : Nat → jcell) : Prop := rC_i (fun (a0 : Int) => True) vs
noncomputable def rb_235 (K : Nat → Nat) (n : Nat) (vs : List jv) (σ : Nat → jcell) : Prop := rC_i (fun (a0 : Int) => True) vs
noncomputable def rb_236 (K : Nat → Nat) (n : Nat) (vs : List jv) (σ : Nat → jcell) : Prop := rC_i (fun (a0 : Int) => True) vs
noncomputable def rb_400 (K : Nat → Nat) (n : Nat) (p : rP) (vs : List jv) (σ : Nat → jcell) : Prop := rC_r (fun (a0 : Nat) => p.2 = none ∧ rTX K n σ a0 p.1) vs
noncomputable def rb_401 (K : Nat → Nat) (n : Nat) (p : rP) (vs : List jv) (σ : Nat → jcell) : Prop := rC_r (fun (a0 : Nat) => p.2 = none ∧ rTKP K n σ a0 p.1) vs
noncomputable def rb_402 (K : Nat → Nat) (n : Nat) (p : rP) (vs : List jv) (σ : Nat → jcell) : Prop := rC_ri (fun (a0 : Nat) (a1 : Int) => rKI K n σ a0 30 83 a1 p.1.1) vs
noncomputable def rb_403 (K : Nat → Nat) (n : Nat) (p : rP) (vs : List jv) (σ : Nat → jcell) : Prop := rC_ri (fun (a0 : Nat) (a1 : Int) => rKI K n σ a0 30 83 (a1 + 1) p.1.1) vs
noncomputable def rb_404 (K : Nat → Nat) (n : Nat) (p : rP) (vs : List jv) (σ : Nat → jcell) : Prop := rC_ri (fun (a0 : Nat) (a1 : Int) => rKI K n σ a0 24 82 a1 p.1.1) vs
noncomputable def rb_405 (K : Nat → Nat) (n : Nat) (p : rP) (vs : List jv) (σ : Nat → jcell) : Prop := rC_ri (fun (a0 : Nat) (a1 : Int) => rKI K n σ a0 24 82 (a1 + 1) p.1.1) vs
noncomputable def rb_406 (K : Nat → Nat) (n : Nat) (p : rP) (vs : List jv) (σ : Nat → jcell) : Prop := rC_ri (fun (a0 : Nat) (a1 : Int) => ∃ M, rTe K n σ a0 M ∧ (p.2 = none ∧ M = rV0 p.1 a1)) vs
noncomputable def rb_407 (K : Nat → Nat) (n : Nat) (p : rP) (vs : List jv) (σ : Nat → jcell) : Prop := rC_ri (fun (a0 : Nat) (a1 : Int) => ∃ M, rTe K n σ a0 M ∧ (p.2 = none ∧ M = rV1 p.1 a1)) vs
noncomputable def rb_408 (K : Nat → Nat) (n : Nat) (p : rP) (vs : List jv) (σ : Nat → jcell) : Prop := rC_ri (fun (a0 : Nat) (a1 : Int) => ∃ M, rTe K n σ a0 M ∧ (p.2 = none ∧ M = rV2 p.1 a1)) vs
noncomputable def rb_409 (K : Nat → Nat) (n : Nat) (p : rP) (vs : List jv) (σ : Nat → jcell) : Prop := rC_ri (fun (a0 : Nat) (a1 : Int) => ∃ M, rTe K n σ a0 M ∧ (p.2 = none ∧ M = rV3 p.1 a1)) vs
noncomputable def rb_410 (K : Nat → Nat) (n : Nat) (p : rP) (vs : List jv) (σ : Nat → jcell) : Prop := rC_ri (fun (a0 : Nat) (a1 : Int) => ∃ M, rTe K n σ a0 M ∧ (p.2 = none ∧ M = rV1d p.1 a1)) vs
noncomputable def rb_411 (K : Nat → Nat) (n : Nat) (p : rP) (vs : List jv) (σ : Nat → jcell) : Prop := rC_ri (fun (a0 : Nat) (a1 : Int) => p.2 = none ∧ rTX K n σ a0 (rVk p.1 a1)) vs
noncomputable def rb_412 (K : Nat → Nat) (n : Nat) (p : rP) (vs : List jv) (σ : Nat → jcell) : Prop := rC_ii (fun (a0 : Int) (a1 : Int) => a1 = p.1.1 (rFr a0)) vs
noncomputable def rb_413 (K : Nat → Nat) (n : Nat) (p : rP) (vs : List jv) (σ : Nat → jcell) : Prop := rC_ii (fun (a0 : Int) (a1 : Int) => (a1 = 1 ∧ p.1.1 (rFr a0) % 8 = 1) ∨ (a1 = 0 ∧ ¬ p.1.1 (rFr a0) % 8 = 1)) vs
noncomputable def rb_414 (K : Nat → Nat) (n : Nat) (p : rP) (vs : List jv) (σ : Nat → jcell) : Prop := rC_ii (fun (a0 : Int) (a1 : Int) => a1 = rAn (rAn p.1.2.2.1 (rLo (rFr a0))) (rLo (rTo a0))) vs
noncomputable def rb_415 (K : Nat → Nat) (n : Nat) (p : rP) (vs : List jv) (σ : Nat → jcell) : Prop := rC_ii (fun (a0 : Int) (a1 : Int) => a1 = rVp p.1 a0) vs
noncomputable def rb_416 (K : Nat → Nat) (n : Nat) (p : rP) (vs : List jv) (σ : Nat → jcell) : Prop := rC_i (fun (a0 : Int) => ¬ rNbr (rV3 p.1 a0) (rTo a0) (-1) (1 + 8 * (1 - p.1.2.1))) vs
noncomputable def rb_417 (K : Nat → Nat) (n : Nat) (p : rP) (vs : List jv) (σ : Nat → jcell) : Prop := rC_i (fun (a0 : Int) => p.2 = none ∧ rZ p.1.1 ∧ a0 = p.1.2.1) vs
noncomputable def rb_418 (K : Nat → Nat) (n : Nat) (p : rP) (vs : List jv) (σ : Nat → jcell) : Prop := rC_i (fun (a0 : Int) => a0 = p.1.2.2.1) vs
noncomputable def rb_419 (K : Nat → Nat) (n : Nat) (p : rP) (vs : List jv) (σ : Nat → jcell) : Prop := rC_i (fun (a0 : Int) => a0 = p.1.2.2.2) vs
noncomputable def rb_420 (K : Nat → Nat) (n : Nat) (p : rP) (vs : List jv) (σ : Nat → jcell) : Prop := rC_r (fun (a0 : Nat) => p.2 = none ∧ rZ p.1.1 ∧ ∃ g, rRo K n σ a0 62 31 84 5 g ∧ (g 0).toInt = p.1.2.1) vs
noncomputable def rb_421 (K : Nat → Nat) (n : Nat) (p : rP) (vs : List jv) (σ : Nat → jcell) : Prop := rC_r (fun (a0 : Nat) => p.2 = none ∧ rZ p.1.1 ∧ ∃ g, rRo K n σ a0 62 31 84 5 g ∧ (g 1).toInt = p.1.2.2.1) vs
noncomputable def rb_422 (K : Nat → Nat) (n : Nat) (p : rP) (vs : List jv) (σ : Nat → jcell) : Prop := rC_r (fun (a0 : Nat) => p.2 = none ∧ rZ p.1.1 ∧ ∃ g, rRo K n σ a0 62 31 84 5 g ∧ (g 2).toInt = p.1.2.2.2) vs
noncomputable def rb_423 (K : Nat → Nat) (n : Nat) (p : rP) (vs : List jv) (σ : Nat → jcell) : Prop := rC_ii (fun (a0 : Int) (a1 : Int) => p.1.1 (rFr a0) % 8 = 6 ∧ rFr a0 % 8 = 4 ∧ rTo a0 % 8 = a1 ∧ (a1 = 6 ∨ a1 = 2)) vs
noncomputable def rb_424 (K : Nat → Nat) (n : Nat) (p : rP) (vs : List jv) (σ : Nat → jcell) : Prop := rC_i (fun (a0 : Int) => ¬ rVc p.1 a0) vs
noncomputable def rb_425 (K : Nat → Nat) (n : Nat) (p : rP) (vs : List jv) (σ : Nat → jcell) : Prop := rC_ii (fun (a0 : Int) (a1 : Int) => a1 = rAn p.1.2.2.1 (rLo (rFr a0))) vs
noncomputable def rb_426 (K : Nat → Nat) (n : Nat) (p : rP) (vs : List jv) (σ : Nat → jcell) : Prop := rC_ii (fun (a0 : Int) (a1 : Int) => a1 = 1 → rSaf p.1 a0) vs
noncomputable def rb_427 (K : Nat → Nat) (n : Nat) (p : rP) (vs : List jv) (σ : Nat → jcell) : Prop := rC_iii (fun (a0 : Int) (a1 : Int) (a2 : Int) => a2 = 1 → rPG p.1 a0 a1) vs
noncomputable def rb_428 (K : Nat → Nat) (n : Nat) (p : rP) (vs : List jv) (σ : Nat → jcell) : Prop := rC_ii (fun (a0 : Int) (a1 : Int) => a1 = 1 → rTmc p.1 a0) vs
noncomputable def rb_429 (K : Nat → Nat) (n : Nat) (p : rP) (vs : List jv) (σ : Nat → jcell) : Prop := rC_iii (fun (a0 : Int) (a1 : Int) (a2 : Int) => a2 = 1 → rOwn p.1 a0 ∧ ¬ rOwn p.1 a1 ∧ rGO p.1 a0 a1 ∧ 0 ≤ p.1.2.1 ∧ p.1.2.1 ≤ 1) vs
noncomputable def rb_430 (K : Nat → Nat) (n : Nat) (p : rP) (vs : List jv) (σ : Nat → jcell) : Prop := rC_i (fun (a0 : Int) => rOwn p.1 a0 ∧ 0 ≤ p.1.2.1 ∧ p.1.2.1 ≤ 1) vs
noncomputable def rb_431 (K : Nat → Nat) (n : Nat) (p : rP) (vs : List jv) (σ : Nat → jcell) : Prop := rC_i (fun (a0 : Int) => ¬ rOwn p.1 a0) vs
noncomputable def rb_432 (K : Nat → Nat) (n : Nat) (p : rP) (vs : List jv) (σ : Nat → jcell) : Prop := rC_ii (fun (a0 : Int) (a1 : Int) => rGd p.1 ∧ a1 = p.1.1 a0 % 8) vs
noncomputable def rb_433 (K : Nat → Nat) (n : Nat) (p : rP) (vs : List jv) (σ : Nat → jcell) : Prop := rC_iiiii (fun (a0 : Int) (a1 : Int) (a2 : Int) (a3 : Int) (a4 : Int) => rRy p.1.1 a0 a1 a2 a3 a4) vs
noncomputable def rb_434 (K : Nat → Nat) (n : Nat) (p : rP) (vs : List jv) (σ : Nat → jcell) : Prop := rC_iiiii (fun (a0 : Int) (a1 : Int) (a2 : Int) (a3 : Int) (a4 : Int) => rRy p.1.1 a0 a1 a2 a3 a4 ∧ p.1.1 a4 = 0) vs
noncomputable def rb_435 (K : Nat → Nat) (n : Nat) (p : rP) (vs : List jv) (σ : Nat → jcell) : Prop := rC_ii (fun (a0 : Int) (a1 : Int) => a1 ≤ 31 * a0) vs
noncomputable def rb_436 (K : Nat → Nat) (n : Nat) (p : rP) (vs : List jv) (σ : Nat → jcell) : Prop := rC_iii (fun (a0 : Int) (a1 : Int) (a2 : Int) => a2 ≤ 31 * a0 + rSm (p.1.1 a0 % 8) a0 a1.toNat) vs
noncomputable def rb_437 (K : Nat → Nat) (n : Nat) (p : rP) (vs : List jv) (σ : Nat → jcell) : Prop := rC_iiii (fun (a0 : Int) (a1 : Int) (a2 : Int) (a3 : Int) => rTJ p.1 a0 a1 a2 a3) vs
noncomputable def rb_438 (K : Nat → Nat) (n : Nat) (p : rP) (vs : List jv) (σ : Nat → jcell) : Prop := rC_ri (fun (a0 : Nat) (a1 : Int) => a1 ≤ 2048 ∧ rTL K n σ a0 a1 p.1) vs
noncomputable def rb_439 (K : Nat → Nat) (n : Nat) (p : rP) (vs : List jv) (σ : Nat → jcell) : Prop := rC_ri (fun (a0 : Nat) (a1 : Int) => a1 ≤ 2048 ∧ rTL K n σ a0 (a1 + 1) p.1) vs
noncomputable def rb_440 (K : Nat → Nat) (n : Nat) (p : rP) (vs : List jv) (σ : Nat → jcell) : Prop := rC_iii (fun (a0 : Int) (a1 : Int) (a2 : Int) => (a2 = 1 ∧ rLs p.1 a0 a1) ∨ (a2 = 0 ∧ ¬ rLs p.1 a0 a1)) vs
noncomputable def rb_441 (K : Nat → Nat) (n : Nat) (p : rP) (vs : List jv) (σ : Nat → jcell) : Prop := rC_iii (fun (a0 : Int) (a1 : Int) (a2 : Int) => a2 ≤ 31 * a0 + rSm (p.1.1 a0 % 8) a0 (a1 + 1).toNat) vs
noncomputable def rb_443 (K : Nat → Nat) (n : Nat) (p : rP) (vs : List jv) (σ : Nat → jcell) : Prop := rC_iiii (fun (a0 : Int) (a1 : Int) (a2 : Int) (a3 : Int) => rTJ p.1 a0 a1 (a2 + 1) a3) vs
noncomputable def rb_444 (K : Nat → Nat) (n : Nat) (p : rP) (vs : List jv) (σ : Nat → jcell) : Prop := rC_ii (fun (a0 : Int) (a1 : Int) => a1 = 1 → rRgt p.1 a0) vs
noncomputable def rb_445 (K : Nat → Nat) (n : Nat) (p : rP) (vs : List jv) (σ : Nat → jcell) : Prop := rC_iii (fun (a0 : Int) (a1 : Int) (a2 : Int) => rSl (p.1.1 a0 % 8) a1 a2) vs
noncomputable def rb_446 (K : Nat → Nat) (n : Nat) (p : rP) (vs : List jv) (σ : Nat → jcell) : Prop := rC_iii (fun (a0 : Int) (a1 : Int) (a2 : Int) => a2 = 1 → rSaf p.1 (a0 + 64 * a1)) vs
noncomputable def rb_447 (K : Nat → Nat) (n : Nat) (p : rP) (vs : List jv) (σ : Nat → jcell) : Prop := rC_ii (fun (a0 : Int) (a1 : Int) => rOwn p.1 a0 ∧ ¬ rOwn p.1 a1 ∧ rGO p.1 a0 a1 ∧ 0 ≤ p.1.2.1 ∧ p.1.2.1 ≤ 1) vs
noncomputable def rb_448 (K : Nat → Nat) (n : Nat) (p : rP) (vs : List jv) (σ : Nat → jcell) : Prop := rC_ii (fun (a0 : Int) (a1 : Int) => a1 ≤ 31 * (a0 + 1)) vs
noncomputable def rTfllllll (K : Nat → Nat) (n : Nat) (k : Nat) (vs : List jv) (σ : Nat → jcell) : Prop := cond (Nat.beq k 100) (rb_100 K n vs σ) False
noncomputable def rTflllllrl (K : Nat → Nat) (n : Nat) (k : Nat) (vs : List jv) (σ : Nat → jcell) : Prop := cond (Nat.beq k 101) (rb_101 K n vs σ) False
noncomputable def rTflllllrr (K : Nat → Nat) (n : Nat) (k : Nat) (vs : List jv) (σ : Nat → jcell) : Prop := cond (Nat.beq k 102) (rb_102 K n vs σ) False
noncomputable def rTflllllr (K : Nat → Nat) (n : Nat) (k : Nat) (vs : List jv) (σ : Nat → jcell) : Prop := cond (Nat.ble k 101) (rTflllllrl K n k vs σ) (rTflllllrr K n k vs σ)
noncomputable def rTflllll (K : Nat → Nat) (n : Nat) (k : Nat) (vs : List jv) (σ : Nat → jcell) : Prop := cond (Nat.ble k 100) (rTfllllll K n k vs σ) (rTflllllr K n k vs σ)
noncomputable def rTfllllrll (K : Nat → Nat) (n : Nat) (k : Nat) (vs : List jv) (σ : Nat → jcell) : Prop := cond (Nat.beq k 103) (rb_103 K n vs σ) False
noncomputable def rTfllllrlr (K : Nat → Nat) (n : Nat) (k : Nat) (vs : List jv) (σ : Nat → jcell) : Prop := cond (Nat.beq k 104) (rb_104 K n vs σ) False
noncomputable def rTfllllrl (K : Nat → Nat) (n : Nat) (k : Nat) (vs : List jv) (σ : Nat → jcell) : Prop := cond (Nat.ble k 103) (rTfllllrll K n k vs σ) (rTfllllrlr K n k vs σ)
noncomputable def rTfllllrrl (K : Nat → Nat) (n : Nat) (k : Nat) (vs : List jv) (σ : Nat → jcell) : Prop := cond (Nat.beq k 105) (rb_105 K n vs σ) False
noncomputable def rTfllllrrr (K : Nat → Nat) (n : Nat) (k : Nat) (vs : List jv) (σ : Nat → jcell) : Prop := cond (Nat.beq k 106) (rb_106 K n vs σ) False
noncomputable def rTfllllrr (K : Nat → Nat) (n : Nat) (k : Nat) (vs : List jv) (σ : Nat → jcell) : Prop := cond (Nat.ble k 105) (rTfllllrrl K n k vs σ) (rTfllllrrr K n k vs σ)
noncomputable def rTfllllr (K : Nat → Nat) (n : Nat) (k : Nat) (vs : List jv) (σ : Nat → jcell) : Prop := cond (Nat.ble k 104) (rTfllllrl K n k vs σ) (rTfllllrr K n k vs σ)
noncomputable def rTfllll (K : Nat → Nat) (n : Nat) (k : Nat) (vs : List jv) (σ : Nat → jcell) : Prop := cond (Nat.ble k 102) (rTflllll K n k vs σ) (rTfllllr K n k vs σ)
noncomputable def rTflllrlll (K : Nat → Nat) (n : Nat) (k : Nat) (vs : List jv) (σ : Nat → jcell) : Prop := cond (Nat.beq k 107) (rb_107 K n vs σ) False
noncomputable def rTflllrllr (K : Nat → Nat) (n : Nat) (k : Nat) (vs : List jv) (σ : Nat → jcell) : Prop := cond (Nat.beq k 108) (rb_108 K n vs σ) False
noncomputable def rTflllrll (K : Nat → Nat) (n : Nat) (k : Nat) (vs : List jv) (σ : Nat → jcell) : Prop := cond (Nat.ble k 107) (rTflllrlll K n k vs σ) (rTflllrllr K n k vs σ)
noncomputable def rTflllrlrl (K : Nat → Nat) (n : Nat) (k : Nat) (vs : List jv) (σ : Nat → jcell) : Prop := cond (Nat.beq k 109) (rb_109 K n vs σ) False
noncomputable def rTflllrlrr (K : Nat → Nat) (n : Nat) (k : Nat) (vs : List jv) (σ : Nat → jcell) : Prop := cond (Nat.beq k 110) (rb_110 K n vs σ) False
noncomputable def rTflllrlr (K : Nat → Nat) (n : Nat) (k : Nat) (vs : List jv) (σ : Nat → jcell) : Prop := cond (Nat.ble k 109) (rTflllrlrl K n k vs σ) (rTflllrlrr K n k vs σ)
noncomputable def rTflllrl (K : Nat → Nat) (n : Nat) (k : Nat) (vs : List jv) (σ : Nat → jcell) : Prop := cond (Nat.ble k 108) (rTflllrll K n k vs σ) (rTflllrlr K n k vs σ)
noncomputable def rTflllrrll (K : Nat → Nat) (n : Nat) (k : Nat) (vs : List jv) (σ : Nat → jcell) : Prop := cond (Nat.beq k 111) (rb_111 K n vs σ) False
noncomputable def rTflllrrlr (K : Nat → Nat) (n : Nat) (k : Nat) (vs : List jv) (σ : Nat → jcell) : Prop := cond (Nat.beq k 112) (rb_112 K n vs σ) False
noncomputable def rTflllrrl (K : Nat → Nat) (n : Nat) (k : Nat) (vs : List jv) (σ : Nat → jcell) : Prop := cond (Nat.ble k 111) (rTflllrrll K n k vs σ) (rTflllrrlr K n k vs σ)
noncomputable def rTflllrrrl (K : Nat → Nat) (n : Nat) (k : Nat) (vs : List jv) (σ : Nat → jcell) : Prop := cond (Nat.beq k 113) (rb_113 K n vs σ) False
noncomputable def rTflllrrrr (K : Nat → Nat) (n : Nat) (k : Nat) (vs : List jv) (σ : Nat → jcell) : Prop := cond (Nat.beq k 114) (rb_114 K n vs σ) False
noncomputable def rTflllrrr (K : Nat → Nat) (n : Nat) (k : Nat) (vs : List jv) (σ : Nat → jcell) : Prop := cond (Nat.ble k 113) (rTflllrrrl K n k vs σ) (rTflllrrrr K n k vs σ)
noncomputable def rTflllrr (K : Nat → Nat) (n : Nat) (k : Nat) (vs : List jv) (σ : Nat → jcell) : Prop := cond (Nat.ble k 112) (rTflllrrl K n k vs σ) (rTflllrrr K n k vs σ)
noncomputable def rTflllr (K : Nat → Nat) (n : Nat) (k : Nat) (vs : List jv) (σ : Nat → jcell) : Prop := cond (Nat.ble k 110) (rTflllrl K n k vs σ) (rTflllrr K n k vs σ)
noncomputable def rTflll (K : Nat → Nat) (n : Nat) (k : Nat) (vs : List jv) (σ : Nat → jcell) : Prop := cond (Nat.ble k 106) (rTfllll K n k vs σ) (rTflllr K n k vs σ)
noncomputable def rTfllrllll (K : Nat → Nat) (n : Nat) (k : Nat) (vs : List jv) (σ : Nat → jcell) : Prop := cond (Nat.beq k 115) (rb_115 K n vs σ) False
noncomputable def rTfllrlllr (K : Nat → Nat) (n : Nat) (k : Nat) (vs : List jv) (σ : Nat → jcell) : Prop := cond (Nat.beq k 116) (rb_116 K n vs σ) False
noncomputable def rTfllrlll (K : Nat → Nat) (n : Nat) (k : Nat) (vs : List jv) (σ : Nat → jcell) : Prop := cond (Nat.ble k 115) (rTfllrllll K n k vs σ) (rTfllrlllr K n k vs σ)
noncomputable def rTfllrllrl (K : Nat → Nat) (n : Nat) (k : Nat) (vs : List jv) (σ : Nat → jcell) : Prop := cond (Nat.beq k 117) (rb_117 K n vs σ) False
noncomputable def rTfllrllrr (K : Nat → Nat) (n : Nat) (k : Nat) (vs : List jv) (σ : Nat → jcell) : Prop := cond (Nat.beq k 120) (rb_120 K n vs σ) False
noncomputable def rTfllrllr (K : Nat → Nat) (n : Nat) (k : Nat) (vs : List jv) (σ : Nat → jcell) : Prop := cond (Nat.ble k 117) (rTfllrllrl K n k vs σ) (rTfllrllrr K n k vs σ)
noncomputable def rTfllrll (K : Nat → Nat) (n : Nat) (k : Nat) (vs : List jv) (σ : Nat → jcell) : Prop := cond (Nat.ble k 116) (rTfllrlll K n k vs σ) (rTfllrllr K n k vs σ)
noncomputable def rTfllrlrll (K : Nat → Nat) (n : Nat) (k : Nat) (vs : List jv) (σ : Nat → jcell) : Prop := cond (Nat.beq k 121) (rb_121 K n vs σ) False
noncomputable def rTfllrlrlr (K : Nat → Nat) (n : Nat) (k : Nat) (vs : List jv) (σ : Nat → jcell) : Prop := cond (Nat.beq k 122) (rb_122 K n vs σ) False
noncomputable def rTfllrlrl (K : Nat → Nat) (n : Nat) (k : Nat) (vs : List jv) (σ : Nat → jcell) : Prop := cond (Nat.ble k 121) (rTfllrlrll K n k vs σ) (rTfllrlrlr K n k vs σ)
noncomputable def rTfllrlrrl (K : Nat → Nat) (n : Nat) (k : Nat) (vs : List jv) (σ : Nat → jcell) : Prop := cond (Nat.beq k 123) (rb_123 K n vs σ) False
noncomputable def rTfllrlrrr (K : Nat → Nat) (n : Nat) (k : Nat) (vs : List jv) (σ : Nat → jcell) : Prop := cond (Nat.beq k 124) (rb_124 K n vs σ) False
noncomputable def rTfllrlrr (K : Nat → Nat) (n : Nat) (k : Nat) (vs : List jv) (σ : Nat → jcell) : Prop := cond (Nat.ble k 123) (rTfllrlrrl K n k vs σ) (rTfllrlrrr K n k vs σ)
noncomputable def rTfllrlr (K : Nat → Nat) (n : Nat) (k : Nat) (vs : List jv) (σ : Nat → jcell) : Prop := cond (Nat.ble k 122) (rTfllrlrl K n k vs σ) (rTfllrlrr K n k vs σ)
noncomputable def rTfllrl (K : Nat → Nat) (n : Nat) (k : Nat) (vs : List jv) (σ : Nat → jcell) : Prop := cond (Nat.ble k 120) (rTfllrll K n k vs σ) (rTfllrlr K n k vs σ)
noncomputable def rTfllrrlll (K : Nat → Nat) (n : Nat) (k : Nat) (vs : List jv) (σ : Nat → jcell) : Prop := cond (Nat.beq k 125) (rb_125 K n vs σ) False
noncomputable def rTfllrrllr (K : Nat → Nat) (n : Nat) (k : Nat) (vs : List jv) (σ : Nat → jcell) : Prop := cond (Nat.beq k 126) (rb_126 K n vs σ) False
noncomputable def rTfllrrll (K : Nat → Nat) (n : Nat) (k : Nat) (vs : List jv) (σ : Nat → jcell) : Prop := cond (Nat.ble k 125) (rTfllrrlll K n k vs σ) (rTfllrrllr K n k vs σ)
noncomputable def rTfllrrlrl (K : Nat → Nat) (n : Nat) (k : Nat) (vs : List jv) (σ : Nat → jcell) : Prop := cond (Nat.beq k 127) (rb_127 K n vs σ) False
noncomputable def rTfllrrlrr (K : Nat → Nat) (n : Nat) (k : Nat) (vs : List jv) (σ : Nat → jcell) : Prop := cond (Nat.beq k 128) (rb_128 K n vs σ) False
noncomputable def rTfllrrlr (K : Nat → Nat) (n : Nat) (k : Nat) (vs : List jv) (σ : Nat → jcell) : Prop := cond (Nat.ble k 127) (rTfllrrlrl K n k vs σ) (rTfllrrlrr K n k vs σ)
noncomputable def rTfllrrl (K : Nat → Nat) (n : Nat) (k : Nat) (vs : List jv) (σ : Nat → jcell) : Prop := cond (Nat.ble k 126) (rTfllrrll K n k vs σ) (rTfllrrlr K n k vs σ)
noncomputable def rTfllrrrll (K : Nat → Nat) (n : Nat) (k : Nat) (vs : List jv) (σ : Nat → jcell) : Prop := cond (Nat.beq k 129) (rb_129 K n vs σ) False
noncomputable def rTfllrrrlr (K : Nat → Nat) (n : Nat) (k : Nat) (vs : List jv) (σ : Nat → jcell) : Prop := cond (Nat.beq k 130) (rb_130 K n vs σ) False
noncomputable def rTfllrrrl (K : Nat → Nat) (n : Nat) (k : Nat) (vs : List jv) (σ : Nat → jcell) : Prop := cond (Nat.ble k 129) (rTfllrrrll K n k vs σ) (rTfllrrrlr K n k vs σ)
noncomputable def rTfllrrrrl (K : Nat → Nat) (n : Nat) (k : Nat) (vs : List jv) (σ : Nat → jcell) : Prop := cond (Nat.beq k 131) (rb_131 K n vs σ) False
noncomputable def rTfllrrrrr (K : Nat → Nat) (n : Nat) (k : Nat) (vs : List jv) (σ : Nat → jcell) : Prop := cond (Nat.beq k 132) (rb_132 K n vs σ) False
noncomputable def rTfllrrrr (K : Nat → Nat) (n : Nat) (k : Nat) (vs : List jv) (σ : Nat → jcell) : Prop := cond (Nat.ble k 131) (rTfllrrrrl K n k vs σ) (rTfllrrrrr K n k vs σ)
noncomputable def rTfllrrr (K : Nat → Nat) (n : Nat) (k : Nat) (vs : List jv) (σ : Nat → jcell) : Prop := cond (Nat.ble k 130) (rTfllrrrl K n k vs σ) (rTfllrrrr K n k vs σ)
noncomputable def rTfllrr (K : Nat → Nat) (n : Nat) (k : Nat) (vs : List jv) (σ : Nat → jcell) : Prop := cond (Nat.ble k 128) (rTfllrrl K n k vs σ) (rTfllrrr K n k vs σ)
noncomputable def rTfllr (K : Nat → Nat) (n : Nat) (k : Nat) (vs : List jv) (σ : Nat → jcell) : Prop := cond (Nat.ble k 124) (rTfllrl K n k vs σ) (rTfllrr K n k vs σ)
noncomputable def rTfll (K : Nat → Nat) (n : Nat) (k : Nat) (vs : List jv) (σ : Nat → jcell) : Prop := cond (Nat.ble k 114) (rTflll K n k vs σ) (rTfllr K n k vs σ)
noncomputable def rTflrlllll (K : Nat → Nat) (n : Nat) (k : Nat) (vs : List jv) (σ : Nat → jcell) : Prop := cond (Nat.beq k 133) (rb_133 K n vs σ) False
noncomputable def rTflrllllr (K : Nat → Nat) (n : Nat) (k : Nat) (vs : List jv) (σ : Nat → jcell) : Prop := cond (Nat.beq k 134) (rb_134 K n vs σ) False
noncomputable def rTflrllll (K : Nat → Nat) (n : Nat) (k : Nat) (vs : List jv) (σ : Nat → jcell) : Prop := cond (Nat.ble k 133) (rTflrlllll K n k vs σ) (rTflrllllr K n k vs σ)
noncomputable def rTflrlllrl (K : Nat → Nat) (n : Nat) (k : Nat) (vs : List jv) (σ : Nat → jcell) : Prop := cond (Nat.beq k 135) (rb_135 K n vs σ) False
noncomputable def rTflrlllrr (K : Nat → Nat) (n : Nat) (k : Nat) (vs : List jv) (σ : Nat → jcell) : Prop := cond (Nat.beq k 136) (rb_136 K n vs σ) False
noncomputable def rTflrlllr (K : Nat → Nat) (n : Nat) (k : Nat) (vs : List jv) (σ : Nat → jcell) : Prop := cond (Nat.ble k 135) (rTflrlllrl K n k vs σ) (rTflrlllrr K n k vs σ)
noncomputable def rTflrlll (K : Nat → Nat) (n : Nat) (k : Nat) (vs : List jv) (σ : Nat → jcell) : Prop := cond (Nat.ble k 134) (rTflrllll K n k vs σ) (rTflrlllr K n k vs σ)
noncomputable def rTflrllrll (K : Nat → Nat) (n : Nat) (k : Nat) (vs : List jv) (σ : Nat → jcell) : Prop := cond (Nat.beq k 137) (rb_137 K n vs σ) False
noncomputable def rTflrllrlr (K : Nat → Nat) (n : Nat) (k : Nat) (vs : List jv) (σ : Nat → jcell) : Prop := cond (Nat.beq k 138) (rb_138 K n vs σ) False
noncomputable def rTflrllrl (K : Nat → Nat) (n : Nat) (k : Nat) (vs : List jv) (σ : Nat → jcell) : Prop := cond (Nat.ble k 137) (rTflrllrll K n k vs σ) (rTflrllrlr K n k vs σ)
noncomputable def rTflrllrrl (K : Nat → Nat) (n : Nat) (k : Nat) (vs : List jv) (σ : Nat → jcell) : Prop := cond (Nat.beq k 139) (rb_139 K n vs σ) False
noncomputable def rTflrllrrr (K : Nat → Nat) (n : Nat) (k : Nat) (vs : List jv) (σ : Nat → jcell) : Prop := cond (Nat.beq k 140) (rb_140 K n vs σ) False
noncomputable def rTflrllrr (K : Nat → Nat) (n : Nat) (k : Nat) (vs : List jv) (σ : Nat → jcell) : Prop := cond (Nat.ble k 139) (rTflrllrrl K n k vs σ) (rTflrllrrr K n k vs σ)
noncomputable def rTflrllr (K : Nat → Nat) (n : Nat) (k : Nat) (vs : List jv) (σ : Nat → jcell) : Prop := cond (Nat.ble k 138) (rTflrllrl K n k vs σ) (rTflrllrr K n k vs σ)
noncomputable def rTflrll (K : Nat → Nat) (n : Nat) (k : Nat) (vs : List jv) (σ : Nat → jcell) : Prop := cond (Nat.ble k 136) (rTflrlll K n k vs σ) (rTflrllr K n k vs σ)
noncomputable def rTflrlrlll (K : Nat → Nat) (n : Nat) (k : Nat) (vs : List jv) (σ : Nat → jcell) : Prop := cond (Nat.beq k 141) (rb_141 K n vs σ) False
noncomputable def rTflrlrllr (K : Nat → Nat) (n : Nat) (k : Nat) (vs : List jv) (σ : Nat → jcell) : Prop := cond (Nat.beq k 142) (rb_142 K n vs σ) False
noncomputable def rTflrlrll (K : Nat → Nat) (n : Nat) (k : Nat) (vs : List jv) (σ : Nat → jcell) : Prop := cond (Nat.ble k 141) (rTflrlrlll K n k vs σ) (rTflrlrllr K n k vs σ)
noncomputable def rTflrlrlrl (K : Nat → Nat) (n : Nat) (k : Nat) (vs : List jv) (σ : Nat → jcell) : Prop := cond (Nat.beq k 143) (rb_143 K n vs σ) False
noncomputable def rTflrlrlrr (K : Nat → Nat) (n : Nat) (k : Nat) (vs : List jv) (σ : Nat → jcell) : Prop := cond (Nat.beq k 144) (rb_144 K n vs σ) False
noncomputable def rTflrlrlr (K : Nat → Nat) (n : Nat) (k : Nat) (vs : List jv) (σ : Nat → jcell) : Prop := cond (Nat.ble k 143) (rTflrlrlrl K n k vs σ) (rTflrlrlrr K n k vs σ)
noncomputable def rTflrlrl (K : Nat → Nat) (n : Nat) (k : Nat) (vs : List jv) (σ : Nat → jcell) : Prop := cond (Nat.ble k 142) (rTflrlrll K n k vs σ) (rTflrlrlr K n k vs σ)
noncomputable def rTflrlrrll (K : Nat → Nat) (n : Nat) (k : Nat) (vs : List jv) (σ : Nat → jcell) : Prop := cond (Nat.beq k 145) (rb_145 K n vs σ) False
noncomputable def rTflrlrrlr (K : Nat → Nat) (n : Nat) (k : Nat) (vs : List jv) (σ : Nat → jcell) : Prop := cond (Nat.beq k 146) (rb_146 K n vs σ) False
noncomputable def rTflrlrrl (K : Nat → Nat) (n : Nat) (k : Nat) (vs : List jv) (σ : Nat → jcell) : Prop := cond (Nat.ble k 145) (rTflrlrrll K n k vs σ) (rTflrlrrlr K n k vs σ)
noncomputable def rTflrlrrrl (K : Nat → Nat) (n : Nat) (k : Nat) (vs : List jv) (σ : Nat → jcell) : Prop := cond (Nat.beq k 147) (rb_147 K n vs σ) False
noncomputable def rTflrlrrrr (K : Nat → Nat) (n : Nat) (k : Nat) (vs : List jv) (σ : Nat → jcell) : Prop := cond (Nat.beq k 148) (rb_148 K n vs σ) False
noncomputable def rTflrlrrr (K : Nat → Nat) (n : Nat) (k : Nat) (vs : List jv) (σ : Nat → jcell) : Prop := cond (Nat.ble k 147) (rTflrlrrrl K n k vs σ) (rTflrlrrrr K n k vs σ)
noncomputable def rTflrlrr (K : Nat → Nat) (n : Nat) (k : Nat) (vs : List jv) (σ : Nat → jcell) : Prop := cond (Nat.ble k 146) (rTflrlrrl K n k vs σ) (rTflrlrrr K n k vs σ)
noncomputable def rTflrlr (K : Nat → Nat) (n : Nat) (k : Nat) (vs : List jv) (σ : Nat → jcell) : Prop := cond (Nat.ble k 144) (rTflrlrl K n k vs σ) (rTflrlrr K n k vs σ)
noncomputable def rTflrl (K : Nat → Nat) (n : Nat) (k : Nat) (vs : List jv) (σ : Nat → jcell) : Prop := cond (Nat.ble k 140) (rTflrll K n k vs σ) (rTflrlr K n k vs σ)
noncomputable def rTflrrllll (K : Nat → Nat) (n : Nat) (k : Nat) (vs : List jv) (σ : Nat → jcell) : Prop := cond (Nat.beq k 149) (rb_149 K n vs σ) False
noncomputable def rTflrrlllr (K : Nat → Nat) (n : Nat) (k : Nat) (vs : List jv) (σ : Nat → jcell) : Prop := cond (Nat.beq k 150) (rb_150 K n vs σ) False
noncomputable def rTflrrlll (K : Nat → Nat) (n : Nat) (k : Nat) (vs : List jv) (σ : Nat → jcell) : Prop := cond (Nat.ble k 149) (rTflrrllll K n k vs σ) (rTflrrlllr K n k vs σ)
noncomputable def rTflrrllrl (K : Nat → Nat) (n : Nat) (k : Nat) (vs : List jv) (σ : Nat → jcell) : Prop := cond (Nat.beq k 151) (rb_151 K n vs σ) False
noncomputable def rTflrrllrr (K : Nat → Nat) (n : Nat) (k : Nat) (vs : List jv) (σ : Nat → jcell) : Prop := cond (Nat.beq k 152) (rb_152 K n vs σ) False
noncomputable def rTflrrllr (K : Nat → Nat) (n : Nat) (k : Nat) (vs : List jv) (σ : Nat → jcell) : Prop := cond (Nat.ble k 151) (rTflrrllrl K n k vs σ) (rTflrrllrr K n k vs σ)
noncomputable def rTflrrll (K : Nat → Nat) (n : Nat) (k : Nat) (vs : List jv) (σ : Nat → jcell) : Prop := cond (Nat.ble k 150) (rTflrrlll K n k vs σ) (rTflrrllr K n k vs σ)
noncomputable def rTflrrlrll (K : Nat → Nat) (n : Nat) (k : Nat) (vs : List jv) (σ : Nat → jcell) : Prop := cond (Nat.beq k 153) (rb_153 K n vs σ) False
noncomputable def rTflrrlrlr (K : Nat → Nat) (n : Nat) (k : Nat) (vs : List jv) (σ : Nat → jcell) : Prop := cond (Nat.beq k 154) (rb_154 K n vs σ) False
noncomputable def rTflrrlrl (K : Nat → Nat) (n : Nat) (k : Nat) (vs : List jv) (σ : Nat → jcell) : Prop := cond (Nat.ble k 153) (rTflrrlrll K n k vs σ) (rTflrrlrlr K n k vs σ)
noncomputable def rTflrrlrrl (K : Nat → Nat) (n : Nat) (k : Nat) (vs : List jv) (σ : Nat → jcell) : Prop := cond (Nat.beq k 155) (rb_155 K n vs σ) False
noncomputable def rTflrrlrrr (K : Nat → Nat) (n : Nat) (k : Nat) (vs : List jv) (σ : Nat → jcell) : Prop := cond (Nat.beq k 156) (rb_156 K n vs σ) False
noncomputable def rTflrrlrr (K : Nat → Nat) (n : Nat) (k : Nat) (vs : List jv) (σ : Nat → jcell) : Prop := cond (Nat.ble k 155) (rTflrrlrrl K n k vs σ) (rTflrrlrrr K n k vs σ)
noncomputable def rTflrrlr (K : Nat → Nat) (n : Nat) (k : Nat) (vs : List jv) (σ : Nat → jcell) : Prop := cond (Nat.ble k 154) (rTflrrlrl K n k vs σ) (rTflrrlrr K n k vs σ)
noncomputable def rTflrrl (K : Nat → Nat) (n : Nat) (k : Nat) (vs : List jv) (σ : Nat → jcell) : Prop := cond (Nat.ble k 152) (rTflrrll K n k vs σ) (rTflrrlr K n k vs σ)
noncomputable def rTflrrrlll (K : Nat → Nat) (n : Nat) (k : Nat) (vs : List jv) (σ : Nat → jcell) : Prop := cond (Nat.beq k 157) (rb_157 K n vs σ) False
noncomputable def rTflrrrllr (K : Nat → Nat) (n : Nat) (k : Nat) (vs : List jv) (σ : Nat → jcell) : Prop := cond (Nat.beq k 160) (rb_160 K n vs σ) False
noncomputable def rTflrrrll (K : Nat → Nat) (n : Nat) (k : Nat) (vs : List jv) (σ : Nat → jcell) : Prop := cond (Nat.ble k 157) (rTflrrrlll K n k vs σ) (rTflrrrllr K n k vs σ)
noncomputable def rTflrrrlrl (K : Nat → Nat) (n : Nat) (k : Nat) (vs : List jv) (σ : Nat → jcell) : Prop := cond (Nat.beq k 161) (rb_161 K n vs σ) False
noncomputable def rTflrrrlrr (K : Nat → Nat) (n : Nat) (k : Nat) (vs : List jv) (σ : Nat → jcell) : Prop := cond (Nat.beq k 162) (rb_162 K n vs σ) False
noncomputable def rTflrrrlr (K : Nat → Nat) (n : Nat) (k : Nat) (vs : List jv) (σ : Nat → jcell) : Prop := cond (Nat.ble k 161) (rTflrrrlrl K n k vs σ) (rTflrrrlrr K n k vs σ)
noncomputable def rTflrrrl (K : Nat → Nat) (n : Nat) (k : Nat) (vs : List jv) (σ : Nat → jcell) : Prop := cond (Nat.ble k 160) (rTflrrrll K n k vs σ) (rTflrrrlr K n k vs σ)
noncomputable def rTflrrrrll (K : Nat → Nat) (n : Nat) (k : Nat) (vs : List jv) (σ : Nat → jcell) : Prop := cond (Nat.beq k 163) (rb_163 K n vs σ) False
noncomputable def rTflrrrrlr (K : Nat → Nat) (n : Nat) (k : Nat) (vs : List jv) (σ : Nat → jcell) : Prop := cond (Nat.beq k 164) (rb_164 K n vs σ) False
noncomputable def rTflrrrrl (K : Nat → Nat) (n : Nat) (k : Nat) (vs : List jv) (σ : Nat → jcell) : Prop := cond (Nat.ble k 163) (rTflrrrrll K n k vs σ) (rTflrrrrlr K n k vs σ)
noncomputable def rTflrrrrrl (K : Nat → Nat) (n : Nat) (k : Nat) (vs : List jv) (σ : Nat → jcell) : Prop := cond (Nat.beq k 167) (rb_167 K n vs σ) False
noncomputable def rTflrrrrrr (K : Nat → Nat) (n : Nat) (k : Nat) (vs : List jv) (σ : Nat → jcell) : Prop := cond (Nat.beq k 168) (rb_168 K n vs σ) False
noncomputable def rTflrrrrr (K : Nat → Nat) (n : Nat) (k : Nat) (vs : List jv) (σ : Nat → jcell) : Prop := cond (Nat.ble k 167) (rTflrrrrrl K n k vs σ) (rTflrrrrrr K n k vs σ)
noncomputable def rTflrrrr (K : Nat → Nat) (n : Nat) (k : Nat) (vs : List jv) (σ : Nat → jcell) : Prop := cond (Nat.ble k 164) (rTflrrrrl K n k vs σ) (rTflrrrrr K n k vs σ)
noncomputable def rTflrrr (K : Nat → Nat) (n : Nat) (k : Nat) (vs : List jv) (σ : Nat → jcell) : Prop := cond (Nat.ble k 162) (rTflrrrl K n k vs σ) (rTflrrrr K n k vs σ)
noncomputable def rTflrr (K : Nat → Nat) (n : Nat) (k : Nat) (vs : List jv) (σ : Nat → jcell) : Prop := cond (Nat.ble k 156) (rTflrrl K n k vs σ) (rTflrrr K n k vs σ)
noncomputable def rTflr (K : Nat → Nat) (n : Nat) (k : Nat) (vs : List jv) (σ : Nat → jcell) : Prop := cond (Nat.ble k 148) (rTflrl K n k vs σ) (rTflrr K n k vs σ)
noncomputable def rTfl (K : Nat → Nat) (n : Nat) (k : Nat) (vs : List jv) (σ : Nat → jcell) : Prop := cond (Nat.ble k 132) (rTfll K n k vs σ) (rTflr K n k vs σ)
noncomputable def rTfrllllll (K : Nat → Nat) (n : Nat) (k : Nat) (vs : List jv) (σ : Nat → jcell) : Prop := cond (Nat.beq k 169) (rb_169 K n vs σ) False
noncomputable def rTfrlllllr (K : Nat → Nat) (n : Nat) (k : Nat) (vs : List jv) (σ : Nat → jcell) : Prop := cond (Nat.beq k 170) (rb_170 K n vs σ) False
noncomputable def rTfrlllll (K : Nat → Nat) (n : Nat) (k : Nat) (vs : List jv) (σ : Nat → jcell) : Prop := cond (Nat.ble k 169) (rTfrllllll K n k vs σ) (rTfrlllllr K n k vs σ)
noncomputable def rTfrllllrl (K : Nat → Nat) (n : Nat) (k : Nat) (vs : List jv) (σ : Nat → jcell) : Prop := cond (Nat.beq k 171) (rb_171 K n vs σ) False
noncomputable def rTfrllllrr (K : Nat → Nat) (n : Nat) (k : Nat) (vs : List jv) (σ : Nat → jcell) : Prop := cond (Nat.beq k 172) (rb_172 K n vs σ) False
noncomputable def rTfrllllr (K : Nat → Nat) (n : Nat) (k : Nat) (vs : List jv) (σ : Nat → jcell) : Prop := cond (Nat.ble k 171) (rTfrllllrl K n k vs σ) (rTfrllllrr K n k vs σ)
noncomputable def rTfrllll (K : Nat → Nat) (n : Nat) (k : Nat) (vs : List jv) (σ : Nat → jcell) : Prop := cond (Nat.ble k 170) (rTfrlllll K n k vs σ) (rTfrllllr K n k vs σ)
noncomputable def rTfrlllrll (K : Nat → Nat) (n : Nat) (k : Nat) (vs : List jv) (σ : Nat → jcell) : Prop := cond (Nat.beq k 173) (rb_173 K n vs σ) False
noncomputable def rTfrlllrlr (K : Nat → Nat) (n : Nat) (k : Nat) (vs : List jv) (σ : Nat → jcell) : Prop := cond (Nat.beq k 174) (rb_174 K n vs σ) False
noncomputable def rTfrlllrl (K : Nat → Nat) (n : Nat) (k : Nat) (vs : List jv) (σ : Nat → jcell) : Prop := cond (Nat.ble k 173) (rTfrlllrll K n k vs σ) (rTfrlllrlr K n k vs σ)
noncomputable def rTfrlllrrl (K : Nat → Nat) (n : Nat) (k : Nat) (vs : List jv) (σ : Nat → jcell) : Prop := cond (Nat.beq k 175) (rb_175 K n vs σ) False
noncomputable def rTfrlllrrr (K : Nat → Nat) (n : Nat) (k : Nat) (vs : List jv) (σ : Nat → jcell) : Prop := cond (Nat.beq k 176) (rb_176 K n vs σ) False
noncomputable def rTfrlllrr (K : Nat → Nat) (n : Nat) (k : Nat) (vs : List jv) (σ : Nat → jcell) : Prop := cond (Nat.ble k 175) (rTfrlllrrl K n k vs σ) (rTfrlllrrr K n k vs σ)
noncomputable def rTfrlllr (K : Nat → Nat) (n : Nat) (k : Nat) (vs : List jv) (σ : Nat → jcell) : Prop := cond (Nat.ble k 174) (rTfrlllrl K n k vs σ) (rTfrlllrr K n k vs σ)
noncomputable def rTfrlll (K : Nat → Nat) (n : Nat) (k : Nat) (vs : List jv) (σ : Nat → jcell) : Prop := cond (Nat.ble k 172) (rTfrllll K n k vs σ) (rTfrlllr K n k vs σ)
noncomputable def rTfrllrlll (K : Nat → Nat) (n : Nat) (k : Nat) (vs : List jv) (σ : Nat → jcell) : Prop := cond (Nat.beq k 177) (rb_177 K n vs σ) False
noncomputable def rTfrllrllr (K : Nat → Nat) (n : Nat) (k : Nat) (vs : List jv) (σ : Nat → jcell) : Prop := cond (Nat.beq k 179) (rb_179 K n vs σ) False
noncomputable def rTfrllrll (K : Nat → Nat) (n : Nat) (k : Nat) (vs : List jv) (σ : Nat → jcell) : Prop := cond (Nat.ble k 177) (rTfrllrlll K n k vs σ) (rTfrllrllr K n k vs σ)
noncomputable def rTfrllrlrl (K : Nat → Nat) (n : Nat) (k : Nat) (vs : List jv) (σ : Nat → jcell) : Prop := cond (Nat.beq k 181) (rb_181 K n vs σ) False
noncomputable def rTfrllrlrr (K : Nat → Nat) (n : Nat) (k : Nat) (vs : List jv) (σ : Nat → jcell) : Prop := cond (Nat.beq k 182) (rb_182 K n vs σ) False
noncomputable def rTfrllrlr (K : Nat → Nat) (n : Nat) (k : Nat) (vs : List jv) (σ : Nat → jcell) : Prop := cond (Nat.ble k 181) (rTfrllrlrl K n k vs σ) (rTfrllrlrr K n k vs σ)
noncomputable def rTfrllrl (K : Nat → Nat) (n : Nat) (k : Nat) (vs : List jv) (σ : Nat → jcell) : Prop := cond (Nat.ble k 179) (rTfrllrll K n k vs σ) (rTfrllrlr K n k vs σ)
noncomputable def rTfrllrrll (K : Nat → Nat) (n : Nat) (k : Nat) (vs : List jv) (σ : Nat → jcell) : Prop := cond (Nat.beq k 183) (rb_183 K n vs σ) False
noncomputable def rTfrllrrlr (K : Nat → Nat) (n : Nat) (k : Nat) (vs : List jv) (σ : Nat → jcell) : Prop := cond (Nat.beq k 184) (rb_184 K n vs σ) False
noncomputable def rTfrllrrl (K : Nat → Nat) (n : Nat) (k : Nat) (vs : List jv) (σ : Nat → jcell) : Prop := cond (Nat.ble k 183) (rTfrllrrll K n k vs σ) (rTfrllrrlr K n k vs σ)
noncomputable def rTfrllrrrl (K : Nat → Nat) (n : Nat) (k : Nat) (vs : List jv) (σ : Nat → jcell) : Prop := cond (Nat.beq k 185) (rb_185 K n vs σ) False
noncomputable def rTfrllrrrr (K : Nat → Nat) (n : Nat) (k : Nat) (vs : List jv) (σ : Nat → jcell) : Prop := cond (Nat.beq k 186) (rb_186 K n vs σ) False
noncomputable def rTfrllrrr (K : Nat → Nat) (n : Nat) (k : Nat) (vs : List jv) (σ : Nat → jcell) : Prop := cond (Nat.ble k 185) (rTfrllrrrl K n k vs σ) (rTfrllrrrr K n k vs σ)
noncomputable def rTfrllrr (K : Nat → Nat) (n : Nat) (k : Nat) (vs : List jv) (σ : Nat → jcell) : Prop := cond (Nat.ble k 184) (rTfrllrrl K n k vs σ) (rTfrllrrr K n k vs σ)
noncomputable def rTfrllr (K : Nat → Nat) (n : Nat) (k : Nat) (vs : List jv) (σ : Nat → jcell) : Prop := cond (Nat.ble k 182) (rTfrllrl K n k vs σ) (rTfrllrr K n k vs σ)
noncomputable def rTfrll (K : Nat → Nat) (n : Nat) (k : Nat) (vs : List jv) (σ : Nat → jcell) : Prop := cond (Nat.ble k 176) (rTfrlll K n k vs σ) (rTfrllr K n k vs σ)
noncomputable def rTfrlrllll (K : Nat → Nat) (n : Nat) (k : Nat) (vs : List jv) (σ : Nat → jcell) : Prop := cond (Nat.beq k 187) (rb_187 K n vs σ) False
noncomputable def rTfrlrlllr (K : Nat → Nat) (n : Nat) (k : Nat) (vs : List jv) (σ : Nat → jcell) : Prop := cond (Nat.beq k 188) (rb_188 K n vs σ) False
noncomputable def rTfrlrlll (K : Nat → Nat) (n : Nat) (k : Nat) (vs : List jv) (σ : Nat → jcell) : Prop := cond (Nat.ble k 187) (rTfrlrllll K n k vs σ) (rTfrlrlllr K n k vs σ)
noncomputable def rTfrlrllrl (K : Nat → Nat) (n : Nat) (k : Nat) (vs : List jv) (σ : Nat → jcell) : Prop := cond (Nat.beq k 189) (rb_189 K n vs σ) False
noncomputable def rTfrlrllrr (K : Nat → Nat) (n : Nat) (k : Nat) (vs : List jv) (σ : Nat → jcell) : Prop := cond (Nat.beq k 190) (rb_190 K n vs σ) False
noncomputable def rTfrlrllr (K : Nat → Nat) (n : Nat) (k : Nat) (vs : List jv) (σ : Nat → jcell) : Prop := cond (Nat.ble k 189) (rTfrlrllrl K n k vs σ) (rTfrlrllrr K n k vs σ)
noncomputable def rTfrlrll (K : Nat → Nat) (n : Nat) (k : Nat) (vs : List jv) (σ : Nat → jcell) : Prop := cond (Nat.ble k 188) (rTfrlrlll K n k vs σ) (rTfrlrllr K n k vs σ)
noncomputable def rTfrlrlrll (K : Nat → Nat) (n : Nat) (k : Nat) (vs : List jv) (σ : Nat → jcell) : Prop := cond (Nat.beq k 191) (rb_191 K n vs σ) False
noncomputable def rTfrlrlrlr (K : Nat → Nat) (n : Nat) (k : Nat) (vs : List jv) (σ : Nat → jcell) : Prop := cond (Nat.beq k 192) (rb_192 K n vs σ) False
noncomputable def rTfrlrlrl (K : Nat → Nat) (n : Nat) (k : Nat) (vs : List jv) (σ : Nat → jcell) : Prop := cond (Nat.ble k 191) (rTfrlrlrll K n k vs σ) (rTfrlrlrlr K n k vs σ)
noncomputable def rTfrlrlrrl (K : Nat → Nat) (n : Nat) (k : Nat) (vs : List jv) (σ : Nat → jcell) : Prop := cond (Nat.beq k 193) (rb_193 K n vs σ) False
noncomputable def rTfrlrlrrr (K : Nat → Nat) (n : Nat) (k : Nat) (vs : List jv) (σ : Nat → jcell) : Prop := cond (Nat.beq k 194) (rb_194 K n vs σ) False
noncomputable def rTfrlrlrr (K : Nat → Nat) (n : Nat) (k : Nat) (vs : List jv) (σ : Nat → jcell) : Prop := cond (Nat.ble k 193) (rTfrlrlrrl K n k vs σ) (rTfrlrlrrr K n k vs σ)
noncomputable def rTfrlrlr (K : Nat → Nat) (n : Nat) (k : Nat) (vs : List jv) (σ : Nat → jcell) : Prop := cond (Nat.ble k 192) (rTfrlrlrl K n k vs σ) (rTfrlrlrr K n k vs σ)
noncomputable def rTfrlrl (K : Nat → Nat) (n : Nat) (k : Nat) (vs : List jv) (σ : Nat → jcell) : Prop := cond (Nat.ble k 190) (rTfrlrll K n k vs σ) (rTfrlrlr K n k vs σ)
noncomputable def rTfrlrrlll (K : Nat → Nat) (n : Nat) (k : Nat) (vs : List jv) (σ : Nat → jcell) : Prop := cond (Nat.beq k 195) (rb_195 K n vs σ) False
noncomputable def rTfrlrrllr (K : Nat → Nat) (n : Nat) (k : Nat) (vs : List jv) (σ : Nat → jcell) : Prop := cond (Nat.beq k 197) (rb_197 K n vs σ) False
noncomputable def rTfrlrrll (K : Nat → Nat) (n : Nat) (k : Nat) (vs : List jv) (σ : Nat → jcell) : Prop := cond (Nat.ble k 195) (rTfrlrrlll K n k vs σ) (rTfrlrrllr K n k vs σ)
noncomputable def rTfrlrrlrl (K : Nat → Nat) (n : Nat) (k : Nat) (vs : List jv) (σ : Nat → jcell) : Prop := cond (Nat.beq k 198) (rb_198 K n vs σ) False
noncomputable def rTfrlrrlrr (K : Nat → Nat) (n : Nat) (k : Nat) (vs : List jv) (σ : Nat → jcell) : Prop := cond (Nat.beq k 199) (rb_199 K n vs σ) False
noncomputable def rTfrlrrlr (K : Nat → Nat) (n : Nat) (k : Nat) (vs : List jv) (σ : Nat → jcell) : Prop := cond (Nat.ble k 198) (rTfrlrrlrl K n k vs σ) (rTfrlrrlrr K n k vs σ)
noncomputable def rTfrlrrl (K : Nat → Nat) (n : Nat) (k : Nat) (vs : List jv) (σ : Nat → jcell) : Prop := cond (Nat.ble k 197) (rTfrlrrll K n k vs σ) (rTfrlrrlr K n k vs σ)
noncomputable def rTfrlrrrll (K : Nat → Nat) (n : Nat) (k : Nat) (vs : List jv) (σ : Nat → jcell) : Prop := cond (Nat.beq k 200) (rb_200 K n vs σ) False
noncomputable def rTfrlrrrlr (K : Nat → Nat) (n : Nat) (k : Nat) (vs : List jv) (σ : Nat → jcell) : Prop := cond (Nat.beq k 201) (rb_201 K n vs σ) False
noncomputable def rTfrlrrrl (K : Nat → Nat) (n : Nat) (k : Nat) (vs : List jv) (σ : Nat → jcell) : Prop := cond (Nat.ble k 200) (rTfrlrrrll K n k vs σ) (rTfrlrrrlr K n k vs σ)
noncomputable def rTfrlrrrrl (K : Nat → Nat) (n : Nat) (k : Nat) (vs : List jv) (σ : Nat → jcell) : Prop := cond (Nat.beq k 202) (rb_202 K n vs σ) False
noncomputable def rTfrlrrrrr (K : Nat → Nat) (n : Nat) (k : Nat) (vs : List jv) (σ : Nat → jcell) : Prop := cond (Nat.beq k 203) (rb_203 K n vs σ) False
noncomputable def rTfrlrrrr (K : Nat → Nat) (n : Nat) (k : Nat) (vs : List jv) (σ : Nat → jcell) : Prop := cond (Nat.ble k 202) (rTfrlrrrrl K n k vs σ) (rTfrlrrrrr K n k vs σ)
noncomputable def rTfrlrrr (K : Nat → Nat) (n : Nat) (k : Nat) (vs : List jv) (σ : Nat → jcell) : Prop := cond (Nat.ble k 201) (rTfrlrrrl K n k vs σ) (rTfrlrrrr K n k vs σ)
noncomputable def rTfrlrr (K : Nat → Nat) (n : Nat) (k : Nat) (vs : List jv) (σ : Nat → jcell) : Prop := cond (Nat.ble k 199) (rTfrlrrl K n k vs σ) (rTfrlrrr K n k vs σ)
noncomputable def rTfrlr (K : Nat → Nat) (n : Nat) (k : Nat) (vs : List jv) (σ : Nat → jcell) : Prop := cond (Nat.ble k 194) (rTfrlrl K n k vs σ) (rTfrlrr K n k vs σ)
noncomputable def rTfrl (K : Nat → Nat) (n : Nat) (k : Nat) (vs : List jv) (σ : Nat → jcell) : Prop := cond (Nat.ble k 186) (rTfrll K n k vs σ) (rTfrlr K n k vs σ)
noncomputable def rTfrrlllll (K : Nat → Nat) (n : Nat) (k : Nat) (vs : List jv) (σ : Nat → jcell) : Prop := cond (Nat.beq k 204) (rb_204 K n vs σ) False
noncomputable def rTfrrllllr (K : Nat → Nat) (n : Nat) (k : Nat) (vs : List jv) (σ : Nat → jcell) : Prop := cond (Nat.beq k 205) (rb_205 K n vs σ) False
noncomputable def rTfrrllll (K : Nat → Nat) (n : Nat) (k : Nat) (vs : List jv) (σ : Nat → jcell) : Prop := cond (Nat.ble k 204) (rTfrrlllll K n k vs σ) (rTfrrllllr K n k vs σ)
noncomputable def rTfrrlllrl (K : Nat → Nat) (n : Nat) (k : Nat) (vs : List jv) (σ : Nat → jcell) : Prop := cond (Nat.beq k 206) (rb_206 K n vs σ) False
noncomputable def rTfrrlllrr (K : Nat → Nat) (n : Nat) (k : Nat) (vs : List jv) (σ : Nat → jcell) : Prop := cond (Nat.beq k 207) (rb_207 K n vs σ) False
noncomputable def rTfrrlllr (K : Nat → Nat) (n : Nat) (k : Nat) (vs : List jv) (σ : Nat → jcell) : Prop := cond (Nat.ble k 206) (rTfrrlllrl K n k vs σ) (rTfrrlllrr K n k vs σ)
noncomputable def rTfrrlll (K : Nat → Nat) (n : Nat) (k : Nat) (vs : List jv) (σ : Nat → jcell) : Prop := cond (Nat.ble k 205) (rTfrrllll K n k vs σ) (rTfrrlllr K n k vs σ)
noncomputable def rTfrrllrll (K : Nat → Nat) (n : Nat) (k : Nat) (vs : List jv) (σ : Nat → jcell) : Prop := cond (Nat.beq k 208) (rb_208 K n vs σ) False
noncomputable def rTfrrllrlr (K : Nat → Nat) (n : Nat) (k : Nat) (vs : List jv) (σ : Nat → jcell) : Prop := cond (Nat.beq k 209) (rb_209 K n vs σ) False
noncomputable def rTfrrllrl (K : Nat → Nat) (n : Nat) (k : Nat) (vs : List jv) (σ : Nat → jcell) : Prop := cond (Nat.ble k 208) (rTfrrllrll K n k vs σ) (rTfrrllrlr K n k vs σ)
noncomputable def rTfrrllrrl (K : Nat → Nat) (n : Nat) (k : Nat) (vs : List jv) (σ : Nat → jcell) : Prop := cond (Nat.beq k 210) (rb_210 K n vs σ) False
noncomputable def rTfrrllrrr (K : Nat → Nat) (n : Nat) (k : Nat) (vs : List jv) (σ : Nat → jcell) : Prop := cond (Nat.beq k 211) (rb_211 K n vs σ) False
noncomputable def rTfrrllrr (K : Nat → Nat) (n : Nat) (k : Nat) (vs : List jv) (σ : Nat → jcell) : Prop := cond (Nat.ble k 210) (rTfrrllrrl K n k vs σ) (rTfrrllrrr K n k vs σ)
noncomputable def rTfrrllr (K : Nat → Nat) (n : Nat) (k : Nat) (vs : List jv) (σ : Nat → jcell) : Prop := cond (Nat.ble k 209) (rTfrrllrl K n k vs σ) (rTfrrllrr K n k vs σ)
noncomputable def rTfrrll (K : Nat → Nat) (n : Nat) (k : Nat) (vs : List jv) (σ : Nat → jcell) : Prop := cond (Nat.ble k 207) (rTfrrlll K n k vs σ) (rTfrrllr K n k vs σ)
noncomputable def rTfrrlrlll (K : Nat → Nat) (n : Nat) (k : Nat) (vs : List jv) (σ : Nat → jcell) : Prop := cond (Nat.beq k 212) (rb_212 K n vs σ) False
noncomputable def rTfrrlrllr (K : Nat → Nat) (n : Nat) (k : Nat) (vs : List jv) (σ : Nat → jcell) : Prop := cond (Nat.beq k 213) (rb_213 K n vs σ) False
noncomputable def rTfrrlrll (K : Nat → Nat) (n : Nat) (k : Nat) (vs : List jv) (σ : Nat → jcell) : Prop := cond (Nat.ble k 212) (rTfrrlrlll K n k vs σ) (rTfrrlrllr K n k vs σ)
noncomputable def rTfrrlrlrl (K : Nat → Nat) (n : Nat) (k : Nat) (vs : List jv) (σ : Nat → jcell) : Prop := cond (Nat.beq k 214) (rb_214 K n vs σ) False
noncomputable def rTfrrlrlrr (K : Nat → Nat) (n : Nat) (k : Nat) (vs : List jv) (σ : Nat → jcell) : Prop := cond (Nat.beq k 215) (rb_215 K n vs σ) False
noncomputable def rTfrrlrlr (K : Nat → Nat) (n : Nat) (k : Nat) (vs : List jv) (σ : Nat → jcell) : Prop := cond (Nat.ble k 214) (rTfrrlrlrl K n k vs σ) (rTfrrlrlrr K n k vs σ)
noncomputable def rTfrrlrl (K : Nat → Nat) (n : Nat) (k : Nat) (vs : List jv) (σ : Nat → jcell) : Prop := cond (Nat.ble k 213) (rTfrrlrll K n k vs σ) (rTfrrlrlr K n k vs σ)
noncomputable def rTfrrlrrll (K : Nat → Nat) (n : Nat) (k : Nat) (vs : List jv) (σ : Nat → jcell) : Prop := cond (Nat.beq k 216) (rb_216 K n vs σ) False
noncomputable def rTfrrlrrlr (K : Nat → Nat) (n : Nat) (k : Nat) (vs : List jv) (σ : Nat → jcell) : Prop := cond (Nat.beq k 217) (rb_217 K n vs σ) False
noncomputable def rTfrrlrrl (K : Nat → Nat) (n : Nat) (k : Nat) (vs : List jv) (σ : Nat → jcell) : Prop := cond (Nat.ble k 216) (rTfrrlrrll K n k vs σ) (rTfrrlrrlr K n k vs σ)
noncomputable def rTfrrlrrrl (K : Nat → Nat) (n : Nat) (k : Nat) (vs : List jv) (σ : Nat → jcell) : Prop := cond (Nat.beq k 218) (rb_218 K n vs σ) False
noncomputable def rTfrrlrrrr (K : Nat → Nat) (n : Nat) (k : Nat) (vs : List jv) (σ : Nat → jcell) : Prop := cond (Nat.beq k 219) (rb_219 K n vs σ) False
noncomputable def rTfrrlrrr (K : Nat → Nat) (n : Nat) (k : Nat) (vs : List jv) (σ : Nat → jcell) : Prop := cond (Nat.ble k 218) (rTfrrlrrrl K n k vs σ) (rTfrrlrrrr K n k vs σ)
noncomputable def rTfrrlrr (K : Nat → Nat) (n : Nat) (k : Nat) (vs : List jv) (σ : Nat → jcell) : Prop := cond (Nat.ble k 217) (rTfrrlrrl K n k vs σ) (rTfrrlrrr K n k vs σ)
noncomputable def rTfrrlr (K : Nat → Nat) (n : Nat) (k : Nat) (vs : List jv) (σ : Nat → jcell) : Prop := cond (Nat.ble k 215) (rTfrrlrl K n k vs σ) (rTfrrlrr K n k vs σ)
noncomputable def rTfrrl (K : Nat → Nat) (n : Nat) (k : Nat) (vs : List jv) (σ : Nat → jcell) : Prop := cond (Nat.ble k 211) (rTfrrll K n k vs σ) (rTfrrlr K n k vs σ)
noncomputable def rTfrrrllll (K : Nat → Nat) (n : Nat) (k : Nat) (vs : List jv) (σ : Nat → jcell) : Prop := cond (Nat.beq k 220) (rb_220 K n vs σ) False
noncomputable def rTfrrrlllr (K : Nat → Nat) (n : Nat) (k : Nat) (vs : List jv) (σ : Nat → jcell) : Prop := cond (Nat.beq k 221) (rb_221 K n vs σ) False
noncomputable def rTfrrrlll (K : Nat → Nat) (n : Nat) (k : Nat) (vs : List jv) (σ : Nat → jcell) : Prop := cond (Nat.ble k 220) (rTfrrrllll K n k vs σ) (rTfrrrlllr K n k vs σ)
noncomputable def rTfrrrllrl (K : Nat → Nat) (n : Nat) (k : Nat) (vs : List jv) (σ : Nat → jcell) : Prop := cond (Nat.beq k 222) (rb_222 K n vs σ) False
noncomputable def rTfrrrllrr (K : Nat → Nat) (n : Nat) (k : Nat) (vs : List jv) (σ : Nat → jcell) : Prop := cond (Nat.beq k 223) (rb_223 K n vs σ) False
noncomputable def rTfrrrllr (K : Nat → Nat) (n : Nat) (k : Nat) (vs : List jv) (σ : Nat → jcell) : Prop := cond (Nat.ble k 222) (rTfrrrllrl K n k vs σ) (rTfrrrllrr K n k vs σ)
noncomputable def rTfrrrll (K : Nat → Nat) (n : Nat) (k : Nat) (vs : List jv) (σ : Nat → jcell) : Prop := cond (Nat.ble k 221) (rTfrrrlll K n k vs σ) (rTfrrrllr K n k vs σ)
noncomputable def rTfrrrlrll (K : Nat → Nat) (n : Nat) (k : Nat) (vs : List jv) (σ : Nat → jcell) : Prop := cond (Nat.beq k 224) (rb_224 K n vs σ) False
noncomputable def rTfrrrlrlr (K : Nat → Nat) (n : Nat) (k : Nat) (vs : List jv) (σ : Nat → jcell) : Prop := cond (Nat.beq k 225) (rb_225 K n vs σ) False
noncomputable def rTfrrrlrl (K : Nat → Nat) (n : Nat) (k : Nat) (vs : List jv) (σ : Nat → jcell) : Prop := cond (Nat.ble k 224) (rTfrrrlrll K n k vs σ) (rTfrrrlrlr K n k vs σ)
noncomputable def rTfrrrlrrl (K : Nat → Nat) (n : Nat) (k : Nat) (vs : List jv) (σ : Nat → jcell) : Prop := cond (Nat.beq k 226) (rb_226 K n vs σ) False
noncomputable def rTfrrrlrrr (K : Nat → Nat) (n : Nat) (k : Nat) (vs : List jv) (σ : Nat → jcell) : Prop := cond (Nat.beq k 227) (rb_227 K n vs σ) False
noncomputable def rTfrrrlrr (K : Nat → Nat) (n : Nat) (k : Nat) (vs : List jv) (σ : Nat → jcell) : Prop := cond (Nat.ble k 226) (rTfrrrlrrl K n k vs σ) (rTfrrrlrrr K n k vs σ)
noncomputable def rTfrrrlr (K : Nat → Nat) (n : Nat) (k : Nat) (vs : List jv) (σ : Nat → jcell) : Prop := cond (Nat.ble k 225) (rTfrrrlrl K n k vs σ) (rTfrrrlrr K n k vs σ)
noncomputable def rTfrrrl (K : Nat → Nat) (n : Nat) (k : Nat) (vs : List jv) (σ : Nat → jcell) : Prop := cond (Nat.ble k 223) (rTfrrrll K n k vs σ) (rTfrrrlr K n k vs σ)
noncomputable def rTfrrrrlll (K : Nat → Nat) (n : Nat) (k : Nat) (vs : List jv) (σ : Nat → jcell) : Prop := cond (Nat.beq k 228) (rb_228 K n vs σ) False
noncomputable def rTfrrrrllr (K : Nat → Nat) (n : Nat) (k : Nat) (vs : List jv) (σ : Nat → jcell) : Prop := cond (Nat.beq k 230) (rb_230 K n vs σ) False
noncomputable def rTfrrrrll (K : Nat → Nat) (n : Nat) (k : Nat) (vs : List jv) (σ : Nat → jcell) : Prop := cond (Nat.ble k 228) (rTfrrrrlll K n k vs σ) (rTfrrrrllr K n k vs σ)
noncomputable def rTfrrrrlrl (K : Nat → Nat) (n : Nat) (k : Nat) (vs : List jv) (σ : Nat → jcell) : Prop := cond (Nat.beq k 231) (rb_231 K n vs σ) False
noncomputable def rTfrrrrlrr (K : Nat → Nat) (n : Nat) (k : Nat) (vs : List jv) (σ : Nat → jcell) : Prop := cond (Nat.beq k 232) (rb_232 K n vs σ) False
noncomputable def rTfrrrrlr (K : Nat → Nat) (n : Nat) (k : Nat) (vs : List jv) (σ : Nat → jcell) : Prop := cond (Nat.ble k 231) (rTfrrrrlrl K n k vs σ) (rTfrrrrlrr K n k vs σ)
noncomputable def rTfrrrrl (K : Nat → Nat) (n : Nat) (k : Nat) (vs : List jv) (σ : Nat → jcell) : Prop := cond (Nat.ble k 230) (rTfrrrrll K n k vs σ) (rTfrrrrlr K n k vs σ)
noncomputable def rTfrrrrrll (K : Nat → Nat) (n : Nat) (k : Nat) (vs : List jv) (σ : Nat → jcell) : Prop := cond (Nat.beq k 233) (rb_233 K n vs σ) False
noncomputable def rTfrrrrrlr (K : Nat → Nat) (n : Nat) (k : Nat) (vs : List jv) (σ : Nat → jcell) : Prop := cond (Nat.beq k 234) (rb_234 K n vs σ) False
noncomputable def rTfrrrrrl (K : Nat → Nat) (n : Nat) (k : Nat) (vs : List jv) (σ : Nat → jcell) : Prop := cond (Nat.ble k 233) (rTfrrrrrll K n k vs σ) (rTfrrrrrlr K n k vs σ)
noncomputable def rTfrrrrrrl (K : Nat → Nat) (n : Nat) (k : Nat) (vs : List jv) (σ : Nat → jcell) : Prop := cond (Nat.beq k 235) (rb_235 K n vs σ) False
noncomputable def rTfrrrrrrr (K : Nat → Nat) (n : Nat) (k : Nat) (vs : List jv) (σ : Nat → jcell) : Prop := cond (Nat.beq k 236) (rb_236 K n vs σ) False
noncomputable def rTfrrrrrr (K : Nat → Nat) (n : Nat) (k : Nat) (vs : List jv) (σ : Nat → jcell) : Prop := cond (Nat.ble k 235) (rTfrrrrrrl K n k vs σ) (rTfrrrrrrr K n k vs σ)
noncomputable def rTfrrrrr (K : Nat → Nat) (n : Nat) (k : Nat) (vs : List jv) (σ : Nat → jcell) : Prop := cond (Nat.ble k 234) (rTfrrrrrl K n k vs σ) (rTfrrrrrr K n k vs σ)
noncomputable def rTfrrrr (K : Nat → Nat) (n : Nat) (k : Nat) (vs : List jv) (σ : Nat → jcell) : Prop := cond (Nat.ble k 232) (rTfrrrrl K n k vs σ) (rTfrrrrr K n k vs σ)
noncomputable def rTfrrr (K : Nat → Nat) (n : Nat) (k : Nat) (vs : List jv) (σ : Nat → jcell) : Prop := cond (Nat.ble k 227) (rTfrrrl K n k vs σ) (rTfrrrr K n k vs σ)
noncomputable def rTfrr (K : Nat → Nat) (n : Nat) (k : Nat) (vs : List jv) (σ : Nat → jcell) : Prop := cond (Nat.ble k 219) (rTfrrl K n k vs σ) (rTfrrr K n k vs σ)
noncomputable def rTfr (K : Nat → Nat) (n : Nat) (k : Nat) (vs : List jv) (σ : Nat → jcell) : Prop := cond (Nat.ble k 203) (rTfrl K n k vs σ) (rTfrr K n k vs σ)
noncomputable def rTf (K : Nat → Nat) (n : Nat) (k : Nat) (vs : List jv) (σ : Nat → jcell) : Prop := cond (Nat.ble k 168) (rTfl K n k vs σ) (rTfr K n k vs σ)
noncomputable def rTgllllll (K : Nat → Nat) (n : Nat) (p : rP) (k : Nat) (vs : List jv) (σ : Nat → jcell) : Prop := cond (Nat.beq k 22) (rb_22 K n p vs σ) False
noncomputable def rTglllllrl (K : Nat → Nat) (n : Nat) (p : rP) (k : Nat) (vs : List jv) (σ : Nat → jcell) : Prop := cond (Nat.beq k 23) (rb_23 K n p vs σ) False
noncomputable def rTglllllrr (K : Nat → Nat) (n : Nat) (p : rP) (k : Nat) (vs : List jv) (σ : Nat → jcell) : Prop := cond (Nat.beq k 24) (rb_24 K n p vs σ) False
noncomputable def rTglllllr (K : Nat → Nat) (n : Nat) (p : rP) (k : Nat) (vs : List jv) (σ : Nat → jcell) : Prop := cond (Nat.ble k 23) (rTglllllrl K n p k vs σ) (rTglllllrr K n p k vs σ)
noncomputable def rTglllll (K : Nat → Nat) (n : Nat) (p : rP) (k : Nat) (vs : List jv) (σ : Nat → jcell) : Prop := cond (Nat.ble k 22) (rTgllllll K n p k vs σ) (rTglllllr K n p k vs σ)
noncomputable def rTgllllrll (K : Nat → Nat) (n : Nat) (p : rP) (k : Nat) (vs : List jv) (σ : Nat → jcell) : Prop := cond (Nat.beq k 25) (rb_25 K n p vs σ) False
noncomputable def rTgllllrlr (K : Nat → Nat) (n : Nat) (p : rP) (k : Nat) (vs : List jv) (σ : Nat → jcell) : Prop := cond (Nat.beq k 26) (rb_26 K n p vs σ) False
noncomputable def rTgllllrl (K : Nat → Nat) (n : Nat) (p : rP) (k : Nat) (vs : List jv) (σ : Nat → jcell) : Prop := cond (Nat.ble k 25) (rTgllllrll K n p k vs σ) (rTgllllrlr K n p k vs σ)
noncomputable def rTgllllrrl (K : Nat → Nat) (n : Nat) (p : rP) (k : Nat) (vs : List jv) (σ : Nat → jcell) : Prop := cond (Nat.beq k 27) (rb_27 K n p vs σ) False
noncomputable def rTgllllrrr (K : Nat → Nat) (n : Nat) (p : rP) (k : Nat) (vs : List jv) (σ : Nat → jcell) : Prop := cond (Nat.beq k 28) (rb_28 K n p vs σ) False
noncomputable def rTgllllrr (K : Nat → Nat) (n : Nat) (p : rP) (k : Nat) (vs : List jv) (σ : Nat → jcell) : Prop := cond (Nat.ble k 27) (rTgllllrrl K n p k vs σ) (rTgllllrrr K n p k vs σ)
noncomputable def rTgllllr (K : Nat → Nat) (n : Nat) (p : rP) (k : Nat) (vs : List jv) (σ : Nat → jcell) : Prop := cond (Nat.ble k 26) (rTgllllrl K n p k vs σ) (rTgllllrr K n p k vs σ)
noncomputable def rTgllll (K : Nat → Nat) (n : Nat) (p : rP) (k : Nat) (vs : List jv) (σ : Nat → jcell) : Prop := cond (Nat.ble k 24) (rTglllll K n p k vs σ) (rTgllllr K n p k vs σ)
noncomputable def rTglllrlll (K : Nat → Nat) (n : Nat) (p : rP) (k : Nat) (vs : List jv) (σ : Nat → jcell) : Prop := cond (Nat.beq k 29) (rb_29 K n p vs σ) False
noncomputable def rTglllrllr (K : Nat → Nat) (n : Nat) (p : rP) (k : Nat) (vs : List jv) (σ : Nat → jcell) : Prop := cond (Nat.beq k 30) (rb_30 K n p vs σ) False
noncomputable def rTglllrll (K : Nat → Nat) (n : Nat) (p : rP) (k : Nat) (vs : List jv) (σ : Nat → jcell) : Prop := cond (Nat.ble k 29) (rTglllrlll K n p k vs σ) (rTglllrllr K n p k vs σ)
noncomputable def rTglllrlrl (K : Nat → Nat) (n : Nat) (p : rP) (k : Nat) (vs : List jv) (σ : Nat → jcell) : Prop := cond (Nat.beq k 31) (rb_31 K n p vs σ) False
noncomputable def rTglllrlrr (K : Nat → Nat) (n : Nat) (p : rP) (k : Nat) (vs : List jv) (σ : Nat → jcell) : Prop := cond (Nat.beq k 32) (rb_32 K n p vs σ) False
noncomputable def rTglllrlr (K : Nat → Nat) (n : Nat) (p : rP) (k : Nat) (vs : List jv) (σ : Nat → jcell) : Prop := cond (Nat.ble k 31) (rTglllrlrl K n p k vs σ) (rTglllrlrr K n p k vs σ)
noncomputable def rTglllrl (K : Nat → Nat) (n : Nat) (p : rP) (k : Nat) (vs : List jv) (σ : Nat → jcell) : Prop := cond (Nat.ble k 30) (rTglllrll K n p k vs σ) (rTglllrlr K n p k vs σ)
noncomputable def rTglllrrll (K : Nat → Nat) (n : Nat) (p : rP) (k : Nat) (vs : List jv) (σ : Nat → jcell) : Prop := cond (Nat.beq k 33) (rb_33 K n p vs σ) False
noncomputable def rTglllrrlr (K : Nat → Nat) (n : Nat) (p : rP) (k : Nat) (vs : List jv) (σ : Nat → jcell) : Prop := cond (Nat.beq k 34) (rb_34 K n p vs σ) False
noncomputable def rTglllrrl (K : Nat → Nat) (n : Nat) (p : rP) (k : Nat) (vs : List jv) (σ : Nat → jcell) : Prop := cond (Nat.ble k 33) (rTglllrrll K n p k vs σ) (rTglllrrlr K n p k vs σ)
noncomputable def rTglllrrrl (K : Nat → Nat) (n : Nat) (p : rP) (k : Nat) (vs : List jv) (σ : Nat → jcell) : Prop := cond (Nat.beq k 35) (rb_35 K n p vs σ) False
noncomputable def rTglllrrrr (K : Nat → Nat) (n : Nat) (p : rP) (k : Nat) (vs : List jv) (σ : Nat → jcell) : Prop := cond (Nat.beq k 36) (rb_36 K n p vs σ) False
noncomputable def rTglllrrr (K : Nat → Nat) (n : Nat) (p : rP) (k : Nat) (vs : List jv) (σ : Nat → jcell) : Prop := cond (Nat.ble k 35) (rTglllrrrl K n p k vs σ) (rTglllrrrr K n p k vs σ)
noncomputable def rTglllrr (K : Nat → Nat) (n : Nat) (p : rP) (k : Nat) (vs : List jv) (σ : Nat → jcell) : Prop := cond (Nat.ble k 34) (rTglllrrl K n p k vs σ) (rTglllrrr K n p k vs σ)
noncomputable def rTglllr (K : Nat → Nat) (n : Nat) (p : rP) (k : Nat) (vs : List jv) (σ : Nat → jcell) : Prop := cond (Nat.ble k 32) (rTglllrl K n p k vs σ) (rTglllrr K n p k vs σ)
noncomputable def rTglll (K : Nat → Nat) (n : Nat) (p : rP) (k : Nat) (vs : List jv) (σ : Nat → jcell) : Prop := cond (Nat.ble k 28) (rTgllll K n p k vs σ) (rTglllr K n p k vs σ)
noncomputable def rTgllrllll (K : Nat → Nat) (n : Nat) (p : rP) (k : Nat) (vs : List jv) (σ : Nat → jcell) : Prop := cond (Nat.beq k 37) (rb_37 K n p vs σ) False
noncomputable def rTgllrlllr (K : Nat → Nat) (n : Nat) (p : rP) (k : Nat) (vs : List jv) (σ : Nat → jcell) : Prop := cond (Nat.beq k 38) (rb_38 K n p vs σ) False
noncomputable def rTgllrlll (K : Nat → Nat) (n : Nat) (p : rP) (k : Nat) (vs : List jv) (σ : Nat → jcell) : Prop := cond (Nat.ble k 37) (rTgllrllll K n p k vs σ) (rTgllrlllr K n p k vs σ)
noncomputable def rTgllrllrl (K : Nat → Nat) (n : Nat) (p : rP) (k : Nat) (vs : List jv) (σ : Nat → jcell) : Prop := cond (Nat.beq k 39) (rb_39 K n p vs σ) False
noncomputable def rTgllrllrr (K : Nat → Nat) (n : Nat) (p : rP) (k : Nat) (vs : List jv) (σ : Nat → jcell) : Prop := cond (Nat.beq k 40) (rb_40 K n p vs σ) False
noncomputable def rTgllrllr (K : Nat → Nat) (n : Nat) (p : rP) (k : Nat) (vs : List jv) (σ : Nat → jcell) : Prop := cond (Nat.ble k 39) (rTgllrllrl K n p k vs σ) (rTgllrllrr K n p k vs σ)
noncomputable def rTgllrll (K : Nat → Nat) (n : Nat) (p : rP) (k : Nat) (vs : List jv) (σ : Nat → jcell) : Prop := cond (Nat.ble k 38) (rTgllrlll K n p k vs σ) (rTgllrllr K n p k vs σ)
noncomputable def rTgllrlrll (K : Nat → Nat) (n : Nat) (p : rP) (k : Nat) (vs : List jv) (σ : Nat → jcell) : Prop := cond (Nat.beq k 41) (rb_41 K n p vs σ) False
noncomputable def rTgllrlrlr (K : Nat → Nat) (n : Nat) (p : rP) (k : Nat) (vs : List jv) (σ : Nat → jcell) : Prop := cond (Nat.beq k 42) (rb_42 K n p vs σ) False
noncomputable def rTgllrlrl (K : Nat → Nat) (n : Nat) (p : rP) (k : Nat) (vs : List jv) (σ : Nat → jcell) : Prop := cond (Nat.ble k 41) (rTgllrlrll K n p k vs σ) (rTgllrlrlr K n p k vs σ)
noncomputable def rTgllrlrrl (K : Nat → Nat) (n : Nat) (p : rP) (k : Nat) (vs : List jv) (σ : Nat → jcell) : Prop := cond (Nat.beq k 43) (rb_43 K n p vs σ) False
noncomputable def rTgllrlrrr (K : Nat → Nat) (n : Nat) (p : rP) (k : Nat) (vs : List jv) (σ : Nat → jcell) : Prop := cond (Nat.beq k 45) (rb_45 K n p vs σ) False
noncomputable def rTgllrlrr (K : Nat → Nat) (n : Nat) (p : rP) (k : Nat) (vs : List jv) (σ : Nat → jcell) : Prop := cond (Nat.ble k 43) (rTgllrlrrl K n p k vs σ) (rTgllrlrrr K n p k vs σ)
noncomputable def rTgllrlr (K : Nat → Nat) (n : Nat) (p : rP) (k : Nat) (vs : List jv) (σ : Nat → jcell) : Prop := cond (Nat.ble k 42) (rTgllrlrl K n p k vs σ) (rTgllrlrr K n p k vs σ)
noncomputable def rTgllrl (K : Nat → Nat) (n : Nat) (p : rP) (k : Nat) (vs : List jv) (σ : Nat → jcell) : Prop := cond (Nat.ble k 40) (rTgllrll K n p k vs σ) (rTgllrlr K n p k vs σ)
noncomputable def rTgllrrlll (K : Nat → Nat) (n : Nat) (p : rP) (k : Nat) (vs : List jv) (σ : Nat → jcell) : Prop := cond (Nat.beq k 46) (rb_46 K n p vs σ) False
noncomputable def rTgllrrllr (K : Nat → Nat) (n : Nat) (p : rP) (k : Nat) (vs : List jv) (σ : Nat → jcell) : Prop := cond (Nat.beq k 47) (rb_47 K n p vs σ) False
noncomputable def rTgllrrll (K : Nat → Nat) (n : Nat) (p : rP) (k : Nat) (vs : List jv) (σ : Nat → jcell) : Prop := cond (Nat.ble k 46) (rTgllrrlll K n p k vs σ) (rTgllrrllr K n p k vs σ)
noncomputable def rTgllrrlrl (K : Nat → Nat) (n : Nat) (p : rP) (k : Nat) (vs : List jv) (σ : Nat → jcell) : Prop := cond (Nat.beq k 48) (rb_48 K n p vs σ) False
noncomputable def rTgllrrlrr (K : Nat → Nat) (n : Nat) (p : rP) (k : Nat) (vs : List jv) (σ : Nat → jcell) : Prop := cond (Nat.beq k 49) (rb_49 K n p vs σ) False
noncomputable def rTgllrrlr (K : Nat → Nat) (n : Nat) (p : rP) (k : Nat) (vs : List jv) (σ : Nat → jcell) : Prop := cond (Nat.ble k 48) (rTgllrrlrl K n p k vs σ) (rTgllrrlrr K n p k vs σ)
noncomputable def rTgllrrl (K : Nat → Nat) (n : Nat) (p : rP) (k : Nat) (vs : List jv) (σ : Nat → jcell) : Prop := cond (Nat.ble k 47) (rTgllrrll K n p k vs σ) (rTgllrrlr K n p k vs σ)
noncomputable def rTgllrrrll (K : Nat → Nat) (n : Nat) (p : rP) (k : Nat) (vs : List jv) (σ : Nat → jcell) : Prop := cond (Nat.beq k 50) (rb_50 K n p vs σ) False
noncomputable def rTgllrrrlr (K : Nat → Nat) (n : Nat) (p : rP) (k : Nat) (vs : List jv) (σ : Nat → jcell) : Prop := cond (Nat.beq k 51) (rb_51 K n p vs σ) False
noncomputable def rTgllrrrl (K : Nat → Nat) (n : Nat) (p : rP) (k : Nat) (vs : List jv) (σ : Nat → jcell) : Prop := cond (Nat.ble k 50) (rTgllrrrll K n p k vs σ) (rTgllrrrlr K n p k vs σ)
noncomputable def rTgllrrrrl (K : Nat → Nat) (n : Nat) (p : rP) (k : Nat) (vs : List jv) (σ : Nat → jcell) : Prop := cond (Nat.beq k 52) (rb_52 K n p vs σ) False
noncomputable def rTgllrrrrr (K : Nat → Nat) (n : Nat) (p : rP) (k : Nat) (vs : List jv) (σ : Nat → jcell) : Prop := cond (Nat.beq k 53) (rb_53 K n p vs σ) False
noncomputable def rTgllrrrr (K : Nat → Nat) (n : Nat) (p : rP) (k : Nat) (vs : List jv) (σ : Nat → jcell) : Prop := cond (Nat.ble k 52) (rTgllrrrrl K n p k vs σ) (rTgllrrrrr K n p k vs σ)
noncomputable def rTgllrrr (K : Nat → Nat) (n : Nat) (p : rP) (k : Nat) (vs : List jv) (σ : Nat → jcell) : Prop := cond (Nat.ble k 51) (rTgllrrrl K n p k vs σ) (rTgllrrrr K n p k vs σ)
noncomputable def rTgllrr (K : Nat → Nat) (n : Nat) (p : rP) (k : Nat) (vs : List jv) (σ : Nat → jcell) : Prop := cond (Nat.ble k 49) (rTgllrrl K n p k vs σ) (rTgllrrr K n p k vs σ)
noncomputable def rTgllr (K : Nat → Nat) (n : Nat) (p : rP) (k : Nat) (vs : List jv) (σ : Nat → jcell) : Prop := cond (Nat.ble k 45) (rTgllrl K n p k vs σ) (rTgllrr K n p k vs σ)
noncomputable def rTgll (K : Nat → Nat) (n : Nat) (p : rP) (k : Nat) (vs : List jv) (σ : Nat → jcell) : Prop := cond (Nat.ble k 36) (rTglll K n p k vs σ) (rTgllr K n p k vs σ)
noncomputable def rTglrllll (K : Nat → Nat) (n : Nat) (p : rP) (k : Nat) (vs : List jv) (σ : Nat → jcell) : Prop := cond (Nat.beq k 54) (rb_54 K n p vs σ) False
noncomputable def rTglrlllrl (K : Nat → Nat) (n : Nat) (p : rP) (k : Nat) (vs : List jv) (σ : Nat → jcell) : Prop := cond (Nat.beq k 55) (rb_55 K n p vs σ) False
noncomputable def rTglrlllrr (K : Nat → Nat) (n : Nat) (p : rP) (k : Nat) (vs : List jv) (σ : Nat → jcell) : Prop := cond (Nat.beq k 56) (rb_56 K n p vs σ) False
noncomputable def rTglrlllr (K : Nat → Nat) (n : Nat) (p : rP) (k : Nat) (vs : List jv) (σ : Nat → jcell) : Prop := cond (Nat.ble k 55) (rTglrlllrl K n p k vs σ) (rTglrlllrr K n p k vs σ)
noncomputable def rTglrlll (K : Nat → Nat) (n : Nat) (p : rP) (k : Nat) (vs : List jv) (σ : Nat → jcell) : Prop := cond (Nat.ble k 54) (rTglrllll K n p k vs σ) (rTglrlllr K n p k vs σ)
noncomputable def rTglrllrll (K : Nat → Nat) (n : Nat) (p : rP) (k : Nat) (vs : List jv) (σ : Nat → jcell) : Prop := cond (Nat.beq k 57) (rb_57 K n p vs σ) False
noncomputable def rTglrllrlr (K : Nat → Nat) (n : Nat) (p : rP) (k : Nat) (vs : List jv) (σ : Nat → jcell) : Prop := cond (Nat.beq k 58) (rb_58 K n p vs σ) False
noncomputable def rTglrllrl (K : Nat → Nat) (n : Nat) (p : rP) (k : Nat) (vs : List jv) (σ : Nat → jcell) : Prop := cond (Nat.ble k 57) (rTglrllrll K n p k vs σ) (rTglrllrlr K n p k vs σ)
noncomputable def rTglrllrrl (K : Nat → Nat) (n : Nat) (p : rP) (k : Nat) (vs : List jv) (σ : Nat → jcell) : Prop := cond (Nat.beq k 59) (rb_59 K n p vs σ) False
noncomputable def rTglrllrrr (K : Nat → Nat) (n : Nat) (p : rP) (k : Nat) (vs : List jv) (σ : Nat → jcell) : Prop := cond (Nat.beq k 60) (rb_60 K n p vs σ) False
noncomputable def rTglrllrr (K : Nat → Nat) (n : Nat) (p : rP) (k : Nat) (vs : List jv) (σ : Nat → jcell) : Prop := cond (Nat.ble k 59) (rTglrllrrl K n p k vs σ) (rTglrllrrr K n p k vs σ)
noncomputable def rTglrllr (K : Nat → Nat) (n : Nat) (p : rP) (k : Nat) (vs : List jv) (σ : Nat → jcell) : Prop := cond (Nat.ble k 58) (rTglrllrl K n p k vs σ) (rTglrllrr K n p k vs σ)
noncomputable def rTglrll (K : Nat → Nat) (n : Nat) (p : rP) (k : Nat) (vs : List jv) (σ : Nat → jcell) : Prop := cond (Nat.ble k 56) (rTglrlll K n p k vs σ) (rTglrllr K n p k vs σ)
noncomputable def rTglrlrlll (K : Nat → Nat) (n : Nat) (p : rP) (k : Nat) (vs : List jv) (σ : Nat → jcell) : Prop := cond (Nat.beq k 61) (rb_61 K n p vs σ) False
noncomputable def rTglrlrllr (K : Nat → Nat) (n : Nat) (p : rP) (k : Nat) (vs : List jv) (σ : Nat → jcell) : Prop := cond (Nat.beq k 62) (rb_62 K n p vs σ) False
noncomputable def rTglrlrll (K : Nat → Nat) (n : Nat) (p : rP) (k : Nat) (vs : List jv) (σ : Nat → jcell) : Prop := cond (Nat.ble k 61) (rTglrlrlll K n p k vs σ) (rTglrlrllr K n p k vs σ)
noncomputable def rTglrlrlrl (K : Nat → Nat) (n : Nat) (p : rP) (k : Nat) (vs : List jv) (σ : Nat → jcell) : Prop := cond (Nat.beq k 63) (rb_63 K n p vs σ) False
noncomputable def rTglrlrlrr (K : Nat → Nat) (n : Nat) (p : rP) (k : Nat) (vs : List jv) (σ : Nat → jcell) : Prop := cond (Nat.beq k 64) (rb_64 K n p vs σ) False
noncomputable def rTglrlrlr (K : Nat → Nat) (n : Nat) (p : rP) (k : Nat) (vs : List jv) (σ : Nat → jcell) : Prop := cond (Nat.ble k 63) (rTglrlrlrl K n p k vs σ) (rTglrlrlrr K n p k vs σ)
noncomputable def rTglrlrl (K : Nat → Nat) (n : Nat) (p : rP) (k : Nat) (vs : List jv) (σ : Nat → jcell) : Prop := cond (Nat.ble k 62) (rTglrlrll K n p k vs σ) (rTglrlrlr K n p k vs σ)
noncomputable def rTglrlrrll (K : Nat → Nat) (n : Nat) (p : rP) (k : Nat) (vs : List jv) (σ : Nat → jcell) : Prop := cond (Nat.beq k 65) (rb_65 K n p vs σ) False
noncomputable def rTglrlrrlr (K : Nat → Nat) (n : Nat) (p : rP) (k : Nat) (vs : List jv) (σ : Nat → jcell) : Prop := cond (Nat.beq k 66) (rb_66 K n p vs σ) False
noncomputable def rTglrlrrl (K : Nat → Nat) (n : Nat) (p : rP) (k : Nat) (vs : List jv) (σ : Nat → jcell) : Prop := cond (Nat.ble k 65) (rTglrlrrll K n p k vs σ) (rTglrlrrlr K n p k vs σ)
noncomputable def rTglrlrrrl (K : Nat → Nat) (n : Nat) (p : rP) (k : Nat) (vs : List jv) (σ : Nat → jcell) : Prop := cond (Nat.beq k 67) (rb_67 K n p vs σ) False
noncomputable def rTglrlrrrr (K : Nat → Nat) (n : Nat) (p : rP) (k : Nat) (vs : List jv) (σ : Nat → jcell) : Prop := cond (Nat.beq k 68) (rb_68 K n p vs σ) False
noncomputable def rTglrlrrr (K : Nat → Nat) (n : Nat) (p : rP) (k : Nat) (vs : List jv) (σ : Nat → jcell) : Prop := cond (Nat.ble k 67) (rTglrlrrrl K n p k vs σ) (rTglrlrrrr K n p k vs σ)
noncomputable def rTglrlrr (K : Nat → Nat) (n : Nat) (p : rP) (k : Nat) (vs : List jv) (σ : Nat → jcell) : Prop := cond (Nat.ble k 66) (rTglrlrrl K n p k vs σ) (rTglrlrrr K n p k vs σ)
noncomputable def rTglrlr (K : Nat → Nat) (n : Nat) (p : rP) (k : Nat) (vs : List jv) (σ : Nat → jcell) : Prop := cond (Nat.ble k 64) (rTglrlrl K n p k vs σ) (rTglrlrr K n p k vs σ)
noncomputable def rTglrl (K : Nat → Nat) (n : Nat) (p : rP) (k : Nat) (vs : List jv) (σ : Nat → jcell) : Prop := cond (Nat.ble k 60) (rTglrll K n p k vs σ) (rTglrlr K n p k vs σ)
noncomputable def rTglrrllll (K : Nat → Nat) (n : Nat) (p : rP) (k : Nat) (vs : List jv) (σ : Nat → jcell) : Prop := cond (Nat.beq k 69) (rb_69 K n p vs σ) False
noncomputable def rTglrrlllr (K : Nat → Nat) (n : Nat) (p : rP) (k : Nat) (vs : List jv) (σ : Nat → jcell) : Prop := cond (Nat.beq k 70) (rb_70 K n p vs σ) False
noncomputable def rTglrrlll (K : Nat → Nat) (n : Nat) (p : rP) (k : Nat) (vs : List jv) (σ : Nat → jcell) : Prop := cond (Nat.ble k 69) (rTglrrllll K n p k vs σ) (rTglrrlllr K n p k vs σ)
noncomputable def rTglrrllrl (K : Nat → Nat) (n : Nat) (p : rP) (k : Nat) (vs : List jv) (σ : Nat → jcell) : Prop := cond (Nat.beq k 71) (rb_71 K n p vs σ) False
noncomputable def rTglrrllrr (K : Nat → Nat) (n : Nat) (p : rP) (k : Nat) (vs : List jv) (σ : Nat → jcell) : Prop := cond (Nat.beq k 72) (rb_72 K n p vs σ) False
noncomputable def rTglrrllr (K : Nat → Nat) (n : Nat) (p : rP) (k : Nat) (vs : List jv) (σ : Nat → jcell) : Prop := cond (Nat.ble k 71) (rTglrrllrl K n p k vs σ) (rTglrrllrr K n p k vs σ)
noncomputable def rTglrrll (K : Nat → Nat) (n : Nat) (p : rP) (k : Nat) (vs : List jv) (σ : Nat → jcell) : Prop := cond (Nat.ble k 70) (rTglrrlll K n p k vs σ) (rTglrrllr K n p k vs σ)
noncomputable def rTglrrlrll (K : Nat → Nat) (n : Nat) (p : rP) (k : Nat) (vs : List jv) (σ : Nat → jcell) : Prop := cond (Nat.beq k 73) (rb_73 K n p vs σ) False
noncomputable def rTglrrlrlr (K : Nat → Nat) (n : Nat) (p : rP) (k : Nat) (vs : List jv) (σ : Nat → jcell) : Prop := cond (Nat.beq k 74) (rb_74 K n p vs σ) False
noncomputable def rTglrrlrl (K : Nat → Nat) (n : Nat) (p : rP) (k : Nat) (vs : List jv) (σ : Nat → jcell) : Prop := cond (Nat.ble k 73) (rTglrrlrll K n p k vs σ) (rTglrrlrlr K n p k vs σ)
noncomputable def rTglrrlrrl (K : Nat → Nat) (n : Nat) (p : rP) (k : Nat) (vs : List jv) (σ : Nat → jcell) : Prop := cond (Nat.beq k 75) (rb_75 K n p vs σ) False
noncomputable def rTglrrlrrr (K : Nat → Nat) (n : Nat) (p : rP) (k : Nat) (vs : List jv) (σ : Nat → jcell) : Prop := cond (Nat.beq k 76) (rb_76 K n p vs σ) False
noncomputable def rTglrrlrr (K : Nat → Nat) (n : Nat) (p : rP) (k : Nat) (vs : List jv) (σ : Nat → jcell) : Prop := cond (Nat.ble k 75) (rTglrrlrrl K n p k vs σ) (rTglrrlrrr K n p k vs σ)
noncomputable def rTglrrlr (K : Nat → Nat) (n : Nat) (p : rP) (k : Nat) (vs : List jv) (σ : Nat → jcell) : Prop := cond (Nat.ble k 74) (rTglrrlrl K n p k vs σ) (rTglrrlrr K n p k vs σ)
noncomputable def rTglrrl (K : Nat → Nat) (n : Nat) (p : rP) (k : Nat) (vs : List jv) (σ : Nat → jcell) : Prop := cond (Nat.ble k 72) (rTglrrll K n p k vs σ) (rTglrrlr K n p k vs σ)
noncomputable def rTglrrrlll (K : Nat → Nat) (n : Nat) (p : rP) (k : Nat) (vs : List jv) (σ : Nat → jcell) : Prop := cond (Nat.beq k 77) (rb_77 K n p vs σ) False
noncomputable def rTglrrrllr (K : Nat → Nat) (n : Nat) (p : rP) (k : Nat) (vs : List jv) (σ : Nat → jcell) : Prop := cond (Nat.beq k 78) (rb_78 K n p vs σ) False
noncomputable def rTglrrrll (K : Nat → Nat) (n : Nat) (p : rP) (k : Nat) (vs : List jv) (σ : Nat → jcell) : Prop := cond (Nat.ble k 77) (rTglrrrlll K n p k vs σ) (rTglrrrllr K n p k vs σ)
noncomputable def rTglrrrlrl (K : Nat → Nat) (n : Nat) (p : rP) (k : Nat) (vs : List jv) (σ : Nat → jcell) : Prop := cond (Nat.beq k 79) (rb_79 K n p vs σ) False
noncomputable def rTglrrrlrr (K : Nat → Nat) (n : Nat) (p : rP) (k : Nat) (vs : List jv) (σ : Nat → jcell) : Prop := cond (Nat.beq k 80) (rb_80 K n p vs σ) False
noncomputable def rTglrrrlr (K : Nat → Nat) (n : Nat) (p : rP) (k : Nat) (vs : List jv) (σ : Nat → jcell) : Prop := cond (Nat.ble k 79) (rTglrrrlrl K n p k vs σ) (rTglrrrlrr K n p k vs σ)
noncomputable def rTglrrrl (K : Nat → Nat) (n : Nat) (p : rP) (k : Nat) (vs : List jv) (σ : Nat → jcell) : Prop := cond (Nat.ble k 78) (rTglrrrll K n p k vs σ) (rTglrrrlr K n p k vs σ)
noncomputable def rTglrrrrll (K : Nat → Nat) (n : Nat) (p : rP) (k : Nat) (vs : List jv) (σ : Nat → jcell) : Prop := cond (Nat.beq k 81) (rb_81 K n p vs σ) False
noncomputable def rTglrrrrlr (K : Nat → Nat) (n : Nat) (p : rP) (k : Nat) (vs : List jv) (σ : Nat → jcell) : Prop := cond (Nat.beq k 82) (rb_82 K n p vs σ) False
noncomputable def rTglrrrrl (K : Nat → Nat) (n : Nat) (p : rP) (k : Nat) (vs : List jv) (σ : Nat → jcell) : Prop := cond (Nat.ble k 81) (rTglrrrrll K n p k vs σ) (rTglrrrrlr K n p k vs σ)
noncomputable def rTglrrrrrl (K : Nat → Nat) (n : Nat) (p : rP) (k : Nat) (vs : List jv) (σ : Nat → jcell) : Prop := cond (Nat.beq k 83) (rb_83 K n p vs σ) False
noncomputable def rTglrrrrrr (K : Nat → Nat) (n : Nat) (p : rP) (k : Nat) (vs : List jv) (σ : Nat → jcell) : Prop := cond (Nat.beq k 84) (rb_84 K n p vs σ) False
noncomputable def rTglrrrrr (K : Nat → Nat) (n : Nat) (p : rP) (k : Nat) (vs : List jv) (σ : Nat → jcell) : Prop := cond (Nat.ble k 83) (rTglrrrrrl K n p k vs σ) (rTglrrrrrr K n p k vs σ)
noncomputable def rTglrrrr (K : Nat → Nat) (n : Nat) (p : rP) (k : Nat) (vs : List jv) (σ : Nat → jcell) : Prop := cond (Nat.ble k 82) (rTglrrrrl K n p k vs σ) (rTglrrrrr K n p k vs σ)
noncomputable def rTglrrr (K : Nat → Nat) (n : Nat) (p : rP) (k : Nat) (vs : List jv) (σ : Nat → jcell) : Prop := cond (Nat.ble k 80) (rTglrrrl K n p k vs σ) (rTglrrrr K n p k vs σ)
noncomputable def rTglrr (K : Nat → Nat) (n : Nat) (p : rP) (k : Nat) (vs : List jv) (σ : Nat → jcell) : Prop := cond (Nat.ble k 76) (rTglrrl K n p k vs σ) (rTglrrr K n p k vs σ)
noncomputable def rTglr (K : Nat → Nat) (n : Nat) (p : rP) (k : Nat) (vs : List jv) (σ : Nat → jcell) : Prop := cond (Nat.ble k 68) (rTglrl K n p k vs σ) (rTglrr K n p k vs σ)
noncomputable def rTgl (K : Nat → Nat) (n : Nat) (p : rP) (k : Nat) (vs : List jv) (σ : Nat → jcell) : Prop := cond (Nat.ble k 53) (rTgll K n p k vs σ) (rTglr K n p k vs σ)
noncomputable def rTgrlllll (K : Nat → Nat) (n : Nat) (p : rP) (k : Nat) (vs : List jv) (σ : Nat → jcell) : Prop := cond (Nat.beq k 85) (rb_85 K n p vs σ) False
noncomputable def rTgrllllrl (K : Nat → Nat) (n : Nat) (p : rP) (k : Nat) (vs : List jv) (σ : Nat → jcell) : Prop := cond (Nat.beq k 86) (rb_86 K n p vs σ) False
noncomputable def rTgrllllrr (K : Nat → Nat) (n : Nat) (p : rP) (k : Nat) (vs : List jv) (σ : Nat → jcell) : Prop := cond (Nat.beq k 87) (rb_87 K n p vs σ) False
noncomputable def rTgrllllr (K : Nat → Nat) (n : Nat) (p : rP) (k : Nat) (vs : List jv) (σ : Nat → jcell) : Prop := cond (Nat.ble k 86) (rTgrllllrl K n p k vs σ) (rTgrllllrr K n p k vs σ)
noncomputable def rTgrllll (K : Nat → Nat) (n : Nat) (p : rP) (k : Nat) (vs : List jv) (σ : Nat → jcell) : Prop := cond (Nat.ble k 85) (rTgrlllll K n p k vs σ) (rTgrllllr K n p k vs σ)
noncomputable def rTgrlllrll (K : Nat → Nat) (n : Nat) (p : rP) (k : Nat) (vs : List jv) (σ : Nat → jcell) : Prop := cond (Nat.beq k 88) (rb_88 K n p vs σ) False
noncomputable def rTgrlllrlr (K : Nat → Nat) (n : Nat) (p : rP) (k : Nat) (vs : List jv) (σ : Nat → jcell) : Prop := cond (Nat.beq k 89) (rb_89 K n p vs σ) False
noncomputable def rTgrlllrl (K : Nat → Nat) (n : Nat) (p : rP) (k : Nat) (vs : List jv) (σ : Nat → jcell) : Prop := cond (Nat.ble k 88) (rTgrlllrll K n p k vs σ) (rTgrlllrlr K n p k vs σ)
noncomputable def rTgrlllrrl (K : Nat → Nat) (n : Nat) (p : rP) (k : Nat) (vs : List jv) (σ : Nat → jcell) : Prop := cond (Nat.beq k 90) (rb_90 K n p vs σ) False
noncomputable def rTgrlllrrr (K : Nat → Nat) (n : Nat) (p : rP) (k : Nat) (vs : List jv) (σ : Nat → jcell) : Prop := cond (Nat.beq k 91) (rb_91 K n p vs σ) False
noncomputable def rTgrlllrr (K : Nat → Nat) (n : Nat) (p : rP) (k : Nat) (vs : List jv) (σ : Nat → jcell) : Prop := cond (Nat.ble k 90) (rTgrlllrrl K n p k vs σ) (rTgrlllrrr K n p k vs σ)
noncomputable def rTgrlllr (K : Nat → Nat) (n : Nat) (p : rP) (k : Nat) (vs : List jv) (σ : Nat → jcell) : Prop := cond (Nat.ble k 89) (rTgrlllrl K n p k vs σ) (rTgrlllrr K n p k vs σ)
noncomputable def rTgrlll (K : Nat → Nat) (n : Nat) (p : rP) (k : Nat) (vs : List jv) (σ : Nat → jcell) : Prop := cond (Nat.ble k 87) (rTgrllll K n p k vs σ) (rTgrlllr K n p k vs σ)
noncomputable def rTgrllrlll (K : Nat → Nat) (n : Nat) (p : rP) (k : Nat) (vs : List jv) (σ : Nat → jcell) : Prop := cond (Nat.beq k 92) (rb_92 K n p vs σ) False
noncomputable def rTgrllrllr (K : Nat → Nat) (n : Nat) (p : rP) (k : Nat) (vs : List jv) (σ : Nat → jcell) : Prop := cond (Nat.beq k 93) (rb_93 K n p vs σ) False
noncomputable def rTgrllrll (K : Nat → Nat) (n : Nat) (p : rP) (k : Nat) (vs : List jv) (σ : Nat → jcell) : Prop := cond (Nat.ble k 92) (rTgrllrlll K n p k vs σ) (rTgrllrllr K n p k vs σ)
noncomputable def rTgrllrlrl (K : Nat → Nat) (n : Nat) (p : rP) (k : Nat) (vs : List jv) (σ : Nat → jcell) : Prop := cond (Nat.beq k 94) (rb_94 K n p vs σ) False
noncomputable def rTgrllrlrr (K : Nat → Nat) (n : Nat) (p : rP) (k : Nat) (vs : List jv) (σ : Nat → jcell) : Prop := cond (Nat.beq k 95) (rb_95 K n p vs σ) False
noncomputable def rTgrllrlr (K : Nat → Nat) (n : Nat) (p : rP) (k : Nat) (vs : List jv) (σ : Nat → jcell) : Prop := cond (Nat.ble k 94) (rTgrllrlrl K n p k vs σ) (rTgrllrlrr K n p k vs σ)
noncomputable def rTgrllrl (K : Nat → Nat) (n : Nat) (p : rP) (k : Nat) (vs : List jv) (σ : Nat → jcell) : Prop := cond (Nat.ble k 93) (rTgrllrll K n p k vs σ) (rTgrllrlr K n p k vs σ)
noncomputable def rTgrllrrll (K : Nat → Nat) (n : Nat) (p : rP) (k : Nat) (vs : List jv) (σ : Nat → jcell) : Prop := cond (Nat.beq k 96) (rb_96 K n p vs σ) False
noncomputable def rTgrllrrlr (K : Nat → Nat) (n : Nat) (p : rP) (k : Nat) (vs : List jv) (σ : Nat → jcell) : Prop := cond (Nat.beq k 97) (rb_97 K n p vs σ) False
noncomputable def rTgrllrrl (K : Nat → Nat) (n : Nat) (p : rP) (k : Nat) (vs : List jv) (σ : Nat → jcell) : Prop := cond (Nat.ble k 96) (rTgrllrrll K n p k vs σ) (rTgrllrrlr K n p k vs σ)
noncomputable def rTgrllrrrl (K : Nat → Nat) (n : Nat) (p : rP) (k : Nat) (vs : List jv) (σ : Nat → jcell) : Prop := cond (Nat.beq k 98) (rb_98 K n p vs σ) False
noncomputable def rTgrllrrrr (K : Nat → Nat) (n : Nat) (p : rP) (k : Nat) (vs : List jv) (σ : Nat → jcell) : Prop := cond (Nat.beq k 99) (rb_99 K n p vs σ) False
noncomputable def rTgrllrrr (K : Nat → Nat) (n : Nat) (p : rP) (k : Nat) (vs : List jv) (σ : Nat → jcell) : Prop := cond (Nat.ble k 98) (rTgrllrrrl K n p k vs σ) (rTgrllrrrr K n p k vs σ)
noncomputable def rTgrllrr (K : Nat → Nat) (n : Nat) (p : rP) (k : Nat) (vs : List jv) (σ : Nat → jcell) : Prop := cond (Nat.ble k 97) (rTgrllrrl K n p k vs σ) (rTgrllrrr K n p k vs σ)
noncomputable def rTgrllr (K : Nat → Nat) (n : Nat) (p : rP) (k : Nat) (vs : List jv) (σ : Nat → jcell) : Prop := cond (Nat.ble k 95) (rTgrllrl K n p k vs σ) (rTgrllrr K n p k vs σ)
noncomputable def rTgrll (K : Nat → Nat) (n : Nat) (p : rP) (k : Nat) (vs : List jv) (σ : Nat → jcell) : Prop := cond (Nat.ble k 91) (rTgrlll K n p k vs σ) (rTgrllr K n p k vs σ)
noncomputable def rTgrlrllll (K : Nat → Nat) (n : Nat) (p : rP) (k : Nat) (vs : List jv) (σ : Nat → jcell) : Prop := cond (Nat.beq k 400) (rb_400 K n p vs σ) False
noncomputable def rTgrlrlllr (K : Nat → Nat) (n : Nat) (p : rP) (k : Nat) (vs : List jv) (σ : Nat → jcell) : Prop := cond (Nat.beq k 401) (rb_401 K n p vs σ) False
noncomputable def rTgrlrlll (K : Nat → Nat) (n : Nat) (p : rP) (k : Nat) (vs : List jv) (σ : Nat → jcell) : Prop := cond (Nat.ble k 400) (rTgrlrllll K n p k vs σ) (rTgrlrlllr K n p k vs σ)
noncomputable def rTgrlrllrl (K : Nat → Nat) (n : Nat) (p : rP) (k : Nat) (vs : List jv) (σ : Nat → jcell) : Prop := cond (Nat.beq k 402) (rb_402 K n p vs σ) False
noncomputable def rTgrlrllrr (K : Nat → Nat) (n : Nat) (p : rP) (k : Nat) (vs : List jv) (σ : Nat → jcell) : Prop := cond (Nat.beq k 403) (rb_403 K n p vs σ) False
noncomputable def rTgrlrllr (K : Nat → Nat) (n : Nat) (p : rP) (k : Nat) (vs : List jv) (σ : Nat → jcell) : Prop := cond (Nat.ble k 402) (rTgrlrllrl K n p k vs σ) (rTgrlrllrr K n p k vs σ)
noncomputable def rTgrlrll (K : Nat → Nat) (n : Nat) (p : rP) (k : Nat) (vs : List jv) (σ : Nat → jcell) : Prop := cond (Nat.ble k 401) (rTgrlrlll K n p k vs σ) (rTgrlrllr K n p k vs σ)
noncomputable def rTgrlrlrll (K : Nat → Nat) (n : Nat) (p : rP) (k : Nat) (vs : List jv) (σ : Nat → jcell) : Prop := cond (Nat.beq k 404) (rb_404 K n p vs σ) False
noncomputable def rTgrlrlrlr (K : Nat → Nat) (n : Nat) (p : rP) (k : Nat) (vs : List jv) (σ : Nat → jcell) : Prop := cond (Nat.beq k 405) (rb_405 K n p vs σ) False
noncomputable def rTgrlrlrl (K : Nat → Nat) (n : Nat) (p : rP) (k : Nat) (vs : List jv) (σ : Nat → jcell) : Prop := cond (Nat.ble k 404) (rTgrlrlrll K n p k vs σ) (rTgrlrlrlr K n p k vs σ)
noncomputable def rTgrlrlrrl (K : Nat → Nat) (n : Nat) (p : rP) (k : Nat) (vs : List jv) (σ : Nat → jcell) : Prop := cond (Nat.beq k 406) (rb_406 K n p vs σ) False
noncomputable def rTgrlrlrrr (K : Nat → Nat) (n : Nat) (p : rP) (k : Nat) (vs : List jv) (σ : Nat → jcell) : Prop := cond (Nat.beq k 407) (rb_407 K n p vs σ) False
noncomputable def rTgrlrlrr (K : Nat → Nat) (n : Nat) (p : rP) (k : Nat) (vs : List jv) (σ : Nat → jcell) : Prop := cond (Nat.ble k 406) (rTgrlrlrrl K n p k vs σ) (rTgrlrlrrr K n p k vs σ)
noncomputable def rTgrlrlr (K : Nat → Nat) (n : Nat) (p : rP) (k : Nat) (vs : List jv) (σ : Nat → jcell) : Prop := cond (Nat.ble k 405) (rTgrlrlrl K n p k vs σ) (rTgrlrlrr K n p k vs σ)
noncomputable def rTgrlrl (K : Nat → Nat) (n : Nat) (p : rP) (k : Nat) (vs : List jv) (σ : Nat → jcell) : Prop := cond (Nat.ble k 403) (rTgrlrll K n p k vs σ) (rTgrlrlr K n p k vs σ)
noncomputable def rTgrlrrlll (K : Nat → Nat) (n : Nat) (p : rP) (k : Nat) (vs : List jv) (σ : Nat → jcell) : Prop := cond (Nat.beq k 408) (rb_408 K n p vs σ) False
noncomputable def rTgrlrrllr (K : Nat → Nat) (n : Nat) (p : rP) (k : Nat) (vs : List jv) (σ : Nat → jcell) : Prop := cond (Nat.beq k 409) (rb_409 K n p vs σ) False
noncomputable def rTgrlrrll (K : Nat → Nat) (n : Nat) (p : rP) (k : Nat) (vs : List jv) (σ : Nat → jcell) : Prop := cond (Nat.ble k 408) (rTgrlrrlll K n p k vs σ) (rTgrlrrllr K n p k vs σ)
noncomputable def rTgrlrrlrl (K : Nat → Nat) (n : Nat) (p : rP) (k : Nat) (vs : List jv) (σ : Nat → jcell) : Prop := cond (Nat.beq k 410) (rb_410 K n p vs σ) False
noncomputable def rTgrlrrlrr (K : Nat → Nat) (n : Nat) (p : rP) (k : Nat) (vs : List jv) (σ : Nat → jcell) : Prop := cond (Nat.beq k 411) (rb_411 K n p vs σ) False
noncomputable def rTgrlrrlr (K : Nat → Nat) (n : Nat) (p : rP) (k : Nat) (vs : List jv) (σ : Nat → jcell) : Prop := cond (Nat.ble k 410) (rTgrlrrlrl K n p k vs σ) (rTgrlrrlrr K n p k vs σ)
noncomputable def rTgrlrrl (K : Nat → Nat) (n : Nat) (p : rP) (k : Nat) (vs : List jv) (σ : Nat → jcell) : Prop := cond (Nat.ble k 409) (rTgrlrrll K n p k vs σ) (rTgrlrrlr K n p k vs σ)
noncomputable def rTgrlrrrll (K : Nat → Nat) (n : Nat) (p : rP) (k : Nat) (vs : List jv) (σ : Nat → jcell) : Prop := cond (Nat.beq k 412) (rb_412 K n p vs σ) False
noncomputable def rTgrlrrrlr (K : Nat → Nat) (n : Nat) (p : rP) (k : Nat) (vs : List jv) (σ : Nat → jcell) : Prop := cond (Nat.beq k 413) (rb_413 K n p vs σ) False
noncomputable def rTgrlrrrl (K : Nat → Nat) (n : Nat) (p : rP) (k : Nat) (vs : List jv) (σ : Nat → jcell) : Prop := cond (Nat.ble k 412) (rTgrlrrrll K n p k vs σ) (rTgrlrrrlr K n p k vs σ)
noncomputable def rTgrlrrrrl (K : Nat → Nat) (n : Nat) (p : rP) (k : Nat) (vs : List jv) (σ : Nat → jcell) : Prop := cond (Nat.beq k 414) (rb_414 K n p vs σ) False
noncomputable def rTgrlrrrrr (K : Nat → Nat) (n : Nat) (p : rP) (k : Nat) (vs : List jv) (σ : Nat → jcell) : Prop := cond (Nat.beq k 415) (rb_415 K n p vs σ) False
noncomputable def rTgrlrrrr (K : Nat → Nat) (n : Nat) (p : rP) (k : Nat) (vs : List jv) (σ : Nat → jcell) : Prop := cond (Nat.ble k 414) (rTgrlrrrrl K n p k vs σ) (rTgrlrrrrr K n p k vs σ)
noncomputable def rTgrlrrr (K : Nat → Nat) (n : Nat) (p : rP) (k : Nat) (vs : List jv) (σ : Nat → jcell) : Prop := cond (Nat.ble k 413) (rTgrlrrrl K n p k vs σ) (rTgrlrrrr K n p k vs σ)
noncomputable def rTgrlrr (K : Nat → Nat) (n : Nat) (p : rP) (k : Nat) (vs : List jv) (σ : Nat → jcell) : Prop := cond (Nat.ble k 411) (rTgrlrrl K n p k vs σ) (rTgrlrrr K n p k vs σ)
noncomputable def rTgrlr (K : Nat → Nat) (n : Nat) (p : rP) (k : Nat) (vs : List jv) (σ : Nat → jcell) : Prop := cond (Nat.ble k 407) (rTgrlrl K n p k vs σ) (rTgrlrr K n p k vs σ)
noncomputable def rTgrl (K : Nat → Nat) (n : Nat) (p : rP) (k : Nat) (vs : List jv) (σ : Nat → jcell) : Prop := cond (Nat.ble k 99) (rTgrll K n p k vs σ) (rTgrlr K n p k vs σ)
noncomputable def rTgrrlllll (K : Nat → Nat) (n : Nat) (p : rP) (k : Nat) (vs : List jv) (σ : Nat → jcell) : Prop := cond (Nat.beq k 416) (rb_416 K n p vs σ) False
noncomputable def rTgrrllllr (K : Nat → Nat) (n : Nat) (p : rP) (k : Nat) (vs : List jv) (σ : Nat → jcell) : Prop := cond (Nat.beq k 417) (rb_417 K n p vs σ) False
noncomputable def rTgrrllll (K : Nat → Nat) (n : Nat) (p : rP) (k : Nat) (vs : List jv) (σ : Nat → jcell) : Prop := cond (Nat.ble k 416) (rTgrrlllll K n p k vs σ) (rTgrrllllr K n p k vs σ)
noncomputable def rTgrrlllrl (K : Nat → Nat) (n : Nat) (p : rP) (k : Nat) (vs : List jv) (σ : Nat → jcell) : Prop := cond (Nat.beq k 418) (rb_418 K n p vs σ) False
noncomputable def rTgrrlllrr (K : Nat → Nat) (n : Nat) (p : rP) (k : Nat) (vs : List jv) (σ : Nat → jcell) : Prop := cond (Nat.beq k 419) (rb_419 K n p vs σ) False
noncomputable def rTgrrlllr (K : Nat → Nat) (n : Nat) (p : rP) (k : Nat) (vs : List jv) (σ : Nat → jcell) : Prop := cond (Nat.ble k 418) (rTgrrlllrl K n p k vs σ) (rTgrrlllrr K n p k vs σ)
noncomputable def rTgrrlll (K : Nat → Nat) (n : Nat) (p : rP) (k : Nat) (vs : List jv) (σ : Nat → jcell) : Prop := cond (Nat.ble k 417) (rTgrrllll K n p k vs σ) (rTgrrlllr K n p k vs σ)
noncomputable def rTgrrllrll (K : Nat → Nat) (n : Nat) (p : rP) (k : Nat) (vs : List jv) (σ : Nat → jcell) : Prop := cond (Nat.beq k 420) (rb_420 K n p vs σ) False
noncomputable def rTgrrllrlr (K : Nat → Nat) (n : Nat) (p : rP) (k : Nat) (vs : List jv) (σ : Nat → jcell) : Prop := cond (Nat.beq k 421) (rb_421 K n p vs σ) False
noncomputable def rTgrrllrl (K : Nat → Nat) (n : Nat) (p : rP) (k : Nat) (vs : List jv) (σ : Nat → jcell) : Prop := cond (Nat.ble k 420) (rTgrrllrll K n p k vs σ) (rTgrrllrlr K n p k vs σ)
noncomputable def rTgrrllrrl (K : Nat → Nat) (n : Nat) (p : rP) (k : Nat) (vs : List jv) (σ : Nat → jcell) : Prop := cond (Nat.beq k 422) (rb_422 K n p vs σ) False
noncomputable def rTgrrllrrr (K : Nat → Nat) (n : Nat) (p : rP) (k : Nat) (vs : List jv) (σ : Nat → jcell) : Prop := cond (Nat.beq k 423) (rb_423 K n p vs σ) False
noncomputable def rTgrrllrr (K : Nat → Nat) (n : Nat) (p : rP) (k : Nat) (vs : List jv) (σ : Nat → jcell) : Prop := cond (Nat.ble k 422) (rTgrrllrrl K n p k vs σ) (rTgrrllrrr K n p k vs σ)
noncomputable def rTgrrllr (K : Nat → Nat) (n : Nat) (p : rP) (k : Nat) (vs : List jv) (σ : Nat → jcell) : Prop := cond (Nat.ble k 421) (rTgrrllrl K n p k vs σ) (rTgrrllrr K n p k vs σ)
noncomputable def rTgrrll (K : Nat → Nat) (n : Nat) (p : rP) (k : Nat) (vs : List jv) (σ : Nat → jcell) : Prop := cond (Nat.ble k 419) (rTgrrlll K n p k vs σ) (rTgrrllr K n p k vs σ)
noncomputable def rTgrrlrlll (K : Nat → Nat) (n : Nat) (p : rP) (k : Nat) (vs : List jv) (σ : Nat → jcell) : Prop := cond (Nat.beq k 424) (rb_424 K n p vs σ) False
noncomputable def rTgrrlrllr (K : Nat → Nat) (n : Nat) (p : rP) (k : Nat) (vs : List jv) (σ : Nat → jcell) : Prop := cond (Nat.beq k 425) (rb_425 K n p vs σ) False
noncomputable def rTgrrlrll (K : Nat → Nat) (n : Nat) (p : rP) (k : Nat) (vs : List jv) (σ : Nat → jcell) : Prop := cond (Nat.ble k 424) (rTgrrlrlll K n p k vs σ) (rTgrrlrllr K n p k vs σ)
noncomputable def rTgrrlrlrl (K : Nat → Nat) (n : Nat) (p : rP) (k : Nat) (vs : List jv) (σ : Nat → jcell) : Prop := cond (Nat.beq k 426) (rb_426 K n p vs σ) False
noncomputable def rTgrrlrlrr (K : Nat → Nat) (n : Nat) (p : rP) (k : Nat) (vs : List jv) (σ : Nat → jcell) : Prop := cond (Nat.beq k 427) (rb_427 K n p vs σ) False
noncomputable def rTgrrlrlr (K : Nat → Nat) (n : Nat) (p : rP) (k : Nat) (vs : List jv) (σ : Nat → jcell) : Prop := cond (Nat.ble k 426) (rTgrrlrlrl K n p k vs σ) (rTgrrlrlrr K n p k vs σ)
noncomputable def rTgrrlrl (K : Nat → Nat) (n : Nat) (p : rP) (k : Nat) (vs : List jv) (σ : Nat → jcell) : Prop := cond (Nat.ble k 425) (rTgrrlrll K n p k vs σ) (rTgrrlrlr K n p k vs σ)
noncomputable def rTgrrlrrll (K : Nat → Nat) (n : Nat) (p : rP) (k : Nat) (vs : List jv) (σ : Nat → jcell) : Prop := cond (Nat.beq k 428) (rb_428 K n p vs σ) False
noncomputable def rTgrrlrrlr (K : Nat → Nat) (n : Nat) (p : rP) (k : Nat) (vs : List jv) (σ : Nat → jcell) : Prop := cond (Nat.beq k 429) (rb_429 K n p vs σ) False
noncomputable def rTgrrlrrl (K : Nat → Nat) (n : Nat) (p : rP) (k : Nat) (vs : List jv) (σ : Nat → jcell) : Prop := cond (Nat.ble k 428) (rTgrrlrrll K n p k vs σ) (rTgrrlrrlr K n p k vs σ)
noncomputable def rTgrrlrrrl (K : Nat → Nat) (n : Nat) (p : rP) (k : Nat) (vs : List jv) (σ : Nat → jcell) : Prop := cond (Nat.beq k 430) (rb_430 K n p vs σ) False
noncomputable def rTgrrlrrrr (K : Nat → Nat) (n : Nat) (p : rP) (k : Nat) (vs : List jv) (σ : Nat → jcell) : Prop := cond (Nat.beq k 431) (rb_431 K n p vs σ) False
noncomputable def rTgrrlrrr (K : Nat → Nat) (n : Nat) (p : rP) (k : Nat) (vs : List jv) (σ : Nat → jcell) : Prop := cond (Nat.ble k 430) (rTgrrlrrrl K n p k vs σ) (rTgrrlrrrr K n p k vs σ)
noncomputable def rTgrrlrr (K : Nat → Nat) (n : Nat) (p : rP) (k : Nat) (vs : List jv) (σ : Nat → jcell) : Prop := cond (Nat.ble k 429) (rTgrrlrrl K n p k vs σ) (rTgrrlrrr K n p k vs σ)
noncomputable def rTgrrlr (K : Nat → Nat) (n : Nat) (p : rP) (k : Nat) (vs : List jv) (σ : Nat → jcell) : Prop := cond (Nat.ble k 427) (rTgrrlrl K n p k vs σ) (rTgrrlrr K n p k vs σ)
noncomputable def rTgrrl (K : Nat → Nat) (n : Nat) (p : rP) (k : Nat) (vs : List jv) (σ : Nat → jcell) : Prop := cond (Nat.ble k 423) (rTgrrll K n p k vs σ) (rTgrrlr K n p k vs σ)
noncomputable def rTgrrrllll (K : Nat → Nat) (n : Nat) (p : rP) (k : Nat) (vs : List jv) (σ : Nat → jcell) : Prop := cond (Nat.beq k 432) (rb_432 K n p vs σ) False
noncomputable def rTgrrrlllr (K : Nat → Nat) (n : Nat) (p : rP) (k : Nat) (vs : List jv) (σ : Nat → jcell) : Prop := cond (Nat.beq k 433) (rb_433 K n p vs σ) False
noncomputable def rTgrrrlll (K : Nat → Nat) (n : Nat) (p : rP) (k : Nat) (vs : List jv) (σ : Nat → jcell) : Prop := cond (Nat.ble k 432) (rTgrrrllll K n p k vs σ) (rTgrrrlllr K n p k vs σ)
noncomputable def rTgrrrllrl (K : Nat → Nat) (n : Nat) (p : rP) (k : Nat) (vs : List jv) (σ : Nat → jcell) : Prop := cond (Nat.beq k 434) (rb_434 K n p vs σ) False
noncomputable def rTgrrrllrr (K : Nat → Nat) (n : Nat) (p : rP) (k : Nat) (vs : List jv) (σ : Nat → jcell) : Prop := cond (Nat.beq k 435) (rb_435 K n p vs σ) False
noncomputable def rTgrrrllr (K : Nat → Nat) (n : Nat) (p : rP) (k : Nat) (vs : List jv) (σ : Nat → jcell) : Prop := cond (Nat.ble k 434) (rTgrrrllrl K n p k vs σ) (rTgrrrllrr K n p k vs σ)
noncomputable def rTgrrrll (K : Nat → Nat) (n : Nat) (p : rP) (k : Nat) (vs : List jv) (σ : Nat → jcell) : Prop := cond (Nat.ble k 433) (rTgrrrlll K n p k vs σ) (rTgrrrllr K n p k vs σ)
noncomputable def rTgrrrlrll (K : Nat → Nat) (n : Nat) (p : rP) (k : Nat) (vs : List jv) (σ : Nat → jcell) : Prop := cond (Nat.beq k 436) (rb_436 K n p vs σ) False
noncomputable def rTgrrrlrlr (K : Nat → Nat) (n : Nat) (p : rP) (k : Nat) (vs : List jv) (σ : Nat → jcell) : Prop := cond (Nat.beq k 437) (rb_437 K n p vs σ) False
noncomputable def rTgrrrlrl (K : Nat → Nat) (n : Nat) (p : rP) (k : Nat) (vs : List jv) (σ : Nat → jcell) : Prop := cond (Nat.ble k 436) (rTgrrrlrll K n p k vs σ) (rTgrrrlrlr K n p k vs σ)
noncomputable def rTgrrrlrrl (K : Nat → Nat) (n : Nat) (p : rP) (k : Nat) (vs : List jv) (σ : Nat → jcell) : Prop := cond (Nat.beq k 438) (rb_438 K n p vs σ) False
noncomputable def rTgrrrlrrr (K : Nat → Nat) (n : Nat) (p : rP) (k : Nat) (vs : List jv) (σ : Nat → jcell) : Prop := cond (Nat.beq k 439) (rb_439 K n p vs σ) False
noncomputable def rTgrrrlrr (K : Nat → Nat) (n : Nat) (p : rP) (k : Nat) (vs : List jv) (σ : Nat → jcell) : Prop := cond (Nat.ble k 438) (rTgrrrlrrl K n p k vs σ) (rTgrrrlrrr K n p k vs σ)
noncomputable def rTgrrrlr (K : Nat → Nat) (n : Nat) (p : rP) (k : Nat) (vs : List jv) (σ : Nat → jcell) : Prop := cond (Nat.ble k 437) (rTgrrrlrl K n p k vs σ) (rTgrrrlrr K n p k vs σ)
noncomputable def rTgrrrl (K : Nat → Nat) (n : Nat) (p : rP) (k : Nat) (vs : List jv) (σ : Nat → jcell) : Prop := cond (Nat.ble k 435) (rTgrrrll K n p k vs σ) (rTgrrrlr K n p k vs σ)
noncomputable def rTgrrrrlll (K : Nat → Nat) (n : Nat) (p : rP) (k : Nat) (vs : List jv) (σ : Nat → jcell) : Prop := cond (Nat.beq k 440) (rb_440 K n p vs σ) False
noncomputable def rTgrrrrllr (K : Nat → Nat) (n : Nat) (p : rP) (k : Nat) (vs : List jv) (σ : Nat → jcell) : Prop := cond (Nat.beq k 441) (rb_441 K n p vs σ) False
noncomputable def rTgrrrrll (K : Nat → Nat) (n : Nat) (p : rP) (k : Nat) (vs : List jv) (σ : Nat → jcell) : Prop := cond (Nat.ble k 440) (rTgrrrrlll K n p k vs σ) (rTgrrrrllr K n p k vs σ)
noncomputable def rTgrrrrlrl (K : Nat → Nat) (n : Nat) (p : rP) (k : Nat) (vs : List jv) (σ : Nat → jcell) : Prop := cond (Nat.beq k 443) (rb_443 K n p vs σ) False
noncomputable def rTgrrrrlrr (K : Nat → Nat) (n : Nat) (p : rP) (k : Nat) (vs : List jv) (σ : Nat → jcell) : Prop := cond (Nat.beq k 444) (rb_444 K n p vs σ) False
noncomputable def rTgrrrrlr (K : Nat → Nat) (n : Nat) (p : rP) (k : Nat) (vs : List jv) (σ : Nat → jcell) : Prop := cond (Nat.ble k 443) (rTgrrrrlrl K n p k vs σ) (rTgrrrrlrr K n p k vs σ)
noncomputable def rTgrrrrl (K : Nat → Nat) (n : Nat) (p : rP) (k : Nat) (vs : List jv) (σ : Nat → jcell) : Prop := cond (Nat.ble k 441) (rTgrrrrll K n p k vs σ) (rTgrrrrlr K n p k vs σ)
noncomputable def rTgrrrrrll (K : Nat → Nat) (n : Nat) (p : rP) (k : Nat) (vs : List jv) (σ : Nat → jcell) : Prop := cond (Nat.beq k 445) (rb_445 K n p vs σ) False
noncomputable def rTgrrrrrlr (K : Nat → Nat) (n : Nat) (p : rP) (k : Nat) (vs : List jv) (σ : Nat → jcell) : Prop := cond (Nat.beq k 446) (rb_446 K n p vs σ) False
noncomputable def rTgrrrrrl (K : Nat → Nat) (n : Nat) (p : rP) (k : Nat) (vs : List jv) (σ : Nat → jcell) : Prop := cond (Nat.ble k 445) (rTgrrrrrll K n p k vs σ) (rTgrrrrrlr K n p k vs σ)
noncomputable def rTgrrrrrrl (K : Nat → Nat) (n : Nat) (p : rP) (k : Nat) (vs : List jv) (σ : Nat → jcell) : Prop := cond (Nat.beq k 447) (rb_447 K n p vs σ) False
noncomputable def rTgrrrrrrr (K : Nat → Nat) (n : Nat) (p : rP) (k : Nat) (vs : List jv) (σ : Nat → jcell) : Prop := cond (Nat.beq k 448) (rb_448 K n p vs σ) False
noncomputable def rTgrrrrrr (K : Nat → Nat) (n : Nat) (p : rP) (k : Nat) (vs : List jv) (σ : Nat → jcell) : Prop := cond (Nat.ble k 447) (rTgrrrrrrl K n p k vs σ) (rTgrrrrrrr K n p k vs σ)
noncomputable def rTgrrrrr (K : Nat → Nat) (n : Nat) (p : rP) (k : Nat) (vs : List jv) (σ : Nat → jcell) : Prop := cond (Nat.ble k 446) (rTgrrrrrl K n p k vs σ) (rTgrrrrrr K n p k vs σ)
noncomputable def rTgrrrr (K : Nat → Nat) (n : Nat) (p : rP) (k : Nat) (vs : List jv) (σ : Nat → jcell) : Prop := cond (Nat.ble k 444) (rTgrrrrl K n p k vs σ) (rTgrrrrr K n p k vs σ)
noncomputable def rTgrrr (K : Nat → Nat) (n : Nat) (p : rP) (k : Nat) (vs : List jv) (σ : Nat → jcell) : Prop := cond (Nat.ble k 439) (rTgrrrl K n p k vs σ) (rTgrrrr K n p k vs σ)
noncomputable def rTgrr (K : Nat → Nat) (n : Nat) (p : rP) (k : Nat) (vs : List jv) (σ : Nat → jcell) : Prop := cond (Nat.ble k 431) (rTgrrl K n p k vs σ) (rTgrrr K n p k vs σ)
noncomputable def rTgr (K : Nat → Nat) (n : Nat) (p : rP) (k : Nat) (vs : List jv) (σ : Nat → jcell) : Prop := cond (Nat.ble k 415) (rTgrl K n p k vs σ) (rTgrr K n p k vs σ)
noncomputable def rTg (K : Nat → Nat) (n : Nat) (p : rP) (k : Nat) (vs : List jv) (σ : Nat → jcell) : Prop := cond (Nat.ble k 84) (rTgl K n p k vs σ) (rTgr K n p k vs σ)
noncomputable def rB (K : Nat → Nat) (n : Nat) (p : rP) (k : Nat) (vs : List jv) (σ : Nat → jcell) : Prop := cond (Nat.ble 1000 k) False (cond (Nat.ble 100 k) (cond (Nat.ble k 399) (rTf K n k vs σ) (rTg K n p k vs σ)) (rTg K n p k vs σ))
noncomputable abbrev rF (K : Nat → Nat) (n : Nat) : aFt rP := rFF (rB K n) rS1
theorem rB_fre (K : Nat → Nat) (n : Nat) (p p' : rP) (k : Nat) (vs : List jv) (σ : Nat → jcell) (h1 : 100 ≤ k) (h2 : k < 400) (h : rB K n p k vs σ) : rB K n p' k vs σ := by
  unfold rB at h ⊢
  rw [show Nat.ble 100 k = true from Nat.ble_eq_true_of_le h1, show Nat.ble k 399 = true from Nat.ble_eq_true_of_le (by omega)] at h ⊢
  exact h
theorem ro_22 {K : Nat → Nat} {n : Nat} {p : rP} {x0 : Nat} {σ : Nat → jcell} : rB K n p 22 [rR x0] σ ↔ (p.2 = none ∧ rRX K n σ x0 p.1) := Iff.rfl
theorem ro_23 {K : Nat → Nat} {n : Nat} {p : rP} {x0 : Nat} {x1 : Int32} {σ : Nat → jcell} : rB K n p 23 [rR x0, rI x1] σ ↔ (p.2 = none ∧ rUD K n σ x0 0 p.1 x1.toInt) := Iff.rfl
theorem ro_24 {K : Nat → Nat} {n : Nat} {p : rP}  {σ : Nat → jcell} : rB K n p 24 [] σ ↔ (rGd p.1) := Iff.rfl
theorem ro_25 {K : Nat → Nat} {n : Nat} {p : rP} {x0 : Int32} {σ : Nat → jcell} : rB K n p 25 [rI x0] σ ↔ (rLm p.1 x0.toInt) := Iff.rfl
theorem ro_26 {K : Nat → Nat} {n : Nat} {p : rP} {x0 : Nat} {x1 : Int32} {σ : Nat → jcell} : rB K n p 26 [rR x0, rI x1] σ ↔ (p.2 = none ∧ rUD K n σ x0 1 p.1 x1.toInt) := Iff.rfl
theorem ro_27 {K : Nat → Nat} {n : Nat} {p : rP} {x0 : Nat} {x1 : Int32} {σ : Nat → jcell} : rB K n p 27 [rR x0, rI x1] σ ↔ (p.2 = none ∧ rUD K n σ x0 2 p.1 x1.toInt) := Iff.rfl
theorem ro_28 {K : Nat → Nat} {n : Nat} {p : rP} {x0 : Nat} {x1 : Int32} {x2 : Int32} {σ : Nat → jcell} : rB K n p 28 [rR x0, rI x1, rI x2] σ ↔ (p.2 = none ∧ rUD K n σ x0 x1.toInt p.1 x2.toInt) := Iff.rfl
theorem ro_29 {K : Nat → Nat} {n : Nat} {p : rP} {x0 : Int32} {x1 : Int32} {σ : Nat → jcell} : rB K n p 29 [rI x0, rI x1] σ ↔ ((x1.toInt = 1 ∧ rGd (rMk p.1 x0.toInt)) ∨ (x1.toInt = 0 ∧ ¬ rGd (rMk p.1 x0.toInt))) := Iff.rfl
theorem ro_30 {K : Nat → Nat} {n : Nat} {p : rP} {x0 : Int32} {x1 : Int64} {σ : Nat → jcell} : rB K n p 30 [rI x0, rL x1] σ ↔ (∀ u, 0 ≤ u → u ≤ 63 → (rBt x1 u ↔ rGO p.1 x0.toInt u)) := Iff.rfl
theorem ro_31 {K : Nat → Nat} {n : Nat} {p : rP} {x0 : Int32} {σ : Nat → jcell} : rB K n p 31 [rI x0] σ ↔ (rLm p.1 x0.toInt ∧ rGd (rMk p.1 x0.toInt)) := Iff.rfl
theorem ro_32 {K : Nat → Nat} {n : Nat} {p : rP} {x0 : Int32} {x1 : Int32} {σ : Nat → jcell} : rB K n p 32 [rI x0, rI x1] σ ↔ ((x1.toInt = 1 ∧ rCa p.1 x0.toInt) ∨ (x1.toInt = 0 ∧ ¬ rCa p.1 x0.toInt)) := Iff.rfl
theorem ro_33 {K : Nat → Nat} {n : Nat} {p : rP} {x0 : Int32} {x1 : Int32} {σ : Nat → jcell} : rB K n p 33 [rI x0, rI x1] σ ↔ (∀ j, 56 * p.1.2.1 + (if x0.toInt = 1 then 5 else 1) ≤ j → j < x1.toInt → p.1.1 j = 0) := Iff.rfl
theorem ro_34 {K : Nat → Nat} {n : Nat} {p : rP} {x0 : Int32} {x1 : Int64} {σ : Nat → jcell} : rB K n p 34 [rI x0, rL x1] σ ↔ (p.1.1 x0.toInt % 8 = 6 ∧ ∀ u, 0 ≤ u → u ≤ 63 → (rBt x1 u ↔ rRe p.1.1 (p.1.1 x0.toInt % 8) x0.toInt u ∨ (rCa p.1 1 ∧ u = x0.toInt + 2))) := Iff.rfl
theorem ro_35 {K : Nat → Nat} {n : Nat} {p : rP} {x0 : Int32} {x1 : Int32} {σ : Nat → jcell} : rB K n p 35 [rI x0, rI x1] σ ↔ (x1.toInt = rSp x0.toInt 0 (rUpw p.1)) := Iff.rfl
theorem ro_36 {K : Nat → Nat} {n : Nat} {p : rP} {x0 : Int32} {x1 : Int32} {σ : Nat → jcell} : rB K n p 36 [rI x0, rI x1] σ ↔ (x1.toInt = rSp x0.toInt 0 (rUpw p.1)) := Iff.rfl
theorem ro_37 {K : Nat → Nat} {n : Nat} {p : rP} {x0 : Int32} {x1 : Int32} {σ : Nat → jcell} : rB K n p 37 [rI x0, rI x1] σ ↔ (p.1.1 x0.toInt = x1.toInt) := Iff.rfl
theorem ro_38 {K : Nat → Nat} {n : Nat} {p : rP} {x0 : Int32} {x1 : Int32} {x2 : Int64} {σ : Nat → jcell} : rB K n p 38 [rI x0, rI x1, rL x2] σ ↔ (x1.toInt = rSp x0.toInt 0 (rUpw p.1) ∧ p.1.1 x1.toInt = 0 ∧ ∀ u, 0 ≤ u → u ≤ 63 → (rBt x2 u ↔ u = x1.toInt)) := Iff.rfl
theorem ro_39 {K : Nat → Nat} {n : Nat} {p : rP} {x0 : Int32} {x1 : Int64} {σ : Nat → jcell} : rB K n p 39 [rI x0, rL x1] σ ↔ (∀ u, 0 ≤ u → u ≤ 63 → (rBt x1 u ↔ rPF p.1 x0.toInt u)) := Iff.rfl
theorem ro_40 {K : Nat → Nat} {n : Nat} {p : rP} {x0 : Int32} {x1 : Int32} {x2 : Int64} {σ : Nat → jcell} : rB K n p 40 [rI x0, rI x1, rL x2] σ ↔ ((x1.toInt = -1 ∨ x1.toInt = 1 ∨ x1.toInt = 3) ∧ ∀ u, 0 ≤ u → u ≤ 63 → (rBt x2 u ↔ rPF p.1 x0.toInt u ∨ ∃ f, f < x1.toInt ∧ rPT p.1 x0.toInt f u)) := Iff.rfl
theorem ro_41 {K : Nat → Nat} {n : Nat} {p : rP} {x0 : Int32} {x1 : Int32} {x2 : Int64} {σ : Nat → jcell} : rB K n p 41 [rI x0, rI x1, rL x2] σ ↔ ((x1.toInt = -1 ∨ x1.toInt = 1) ∧ ∀ u, 0 ≤ u → u ≤ 63 → (rBt x2 u ↔ rPF p.1 x0.toInt u ∨ ∃ f, f < x1.toInt + 2 ∧ rPT p.1 x0.toInt f u)) := Iff.rfl
theorem ro_42 {K : Nat → Nat} {n : Nat} {p : rP} {x0 : Int32} {σ : Nat → jcell} : rB K n p 42 [rI x0] σ ↔ (rTk p.1 x0.toInt) := Iff.rfl
theorem ro_43 {K : Nat → Nat} {n : Nat} {p : rP} {x0 : Int32} {x1 : Int64} {σ : Nat → jcell} : rB K n p 43 [rI x0, rL x1] σ ↔ (∀ u, 0 ≤ u → u ≤ 63 → (rBt x1 u ↔ rPG p.1 x0.toInt u)) := Iff.rfl
theorem ro_45 {K : Nat → Nat} {n : Nat} {p : rP} {x0 : Int32} {σ : Nat → jcell} : rB K n p 45 [rI x0] σ ↔ (rHas p.1.2.2.1 ((if x0.toInt = 1 then 1 else 2) * (if p.1.2.1 = 0 then 1 else 4))) := Iff.rfl
theorem ro_46 {K : Nat → Nat} {n : Nat} {p : rP} {x0 : Int32} {x1 : Int32} {x2 : Int32} {σ : Nat → jcell} : rB K n p 46 [rI x0, rI x1, rI x2] σ ↔ (x2.toInt = rSp x0.toInt x1.toInt (rUpw p.1)) := Iff.rfl
theorem ro_47 {K : Nat → Nat} {n : Nat} {p : rP} {x0 : Int32} {σ : Nat → jcell} : rB K n p 47 [rI x0] σ ↔ (¬ p.1.1 x0.toInt % 8 = 1) := Iff.rfl
theorem ro_48 {K : Nat → Nat} {n : Nat} {p : rP} {x0 : Nat} {x1 : Int32} {σ : Nat → jcell} : rB K n p 48 [rR x0, rI x1] σ ↔ (p.2 = none ∧ rUD K n σ x0 3 p.1 x1.toInt) := Iff.rfl
theorem ro_49 {K : Nat → Nat} {n : Nat} {p : rP} {x0 : Nat} {σ : Nat → jcell} : rB K n p 49 [rR x0] σ ↔ (p.2 = none ∧ ∃ c, 1 ≤ c ∧ c ≤ 2048 ∧ rCT K n σ x0 0 c ∧ rLF K n σ x0 0 c p.1) := Iff.rfl
theorem ro_50 {K : Nat → Nat} {n : Nat} {p : rP} {x0 : Nat} {x1 : Int32} {σ : Nat → jcell} : rB K n p 50 [rR x0, rI x1] σ ↔ (∃ M, rMe K n σ x0 M ∧ (p.2 = none ∧ M = rM1 p.1 x1.toInt)) := Iff.rfl
theorem ro_51 {K : Nat → Nat} {n : Nat} {p : rP} {x0 : Nat} {x1 : Int32} {σ : Nat → jcell} : rB K n p 51 [rR x0, rI x1] σ ↔ (∃ M, rMe K n σ x0 M ∧ (p.2 = none ∧ M = rM2 p.1 x1.toInt)) := Iff.rfl
theorem ro_52 {K : Nat → Nat} {n : Nat} {p : rP} {x0 : Nat} {x1 : Int32} {σ : Nat → jcell} : rB K n p 52 [rR x0, rI x1] σ ↔ (∃ M, rMe K n σ x0 M ∧ (p.2 = none ∧ M = rM3 p.1 x1.toInt)) := Iff.rfl
theorem ro_53 {K : Nat → Nat} {n : Nat} {p : rP} {x0 : Nat} {x1 : Int32} {σ : Nat → jcell} : rB K n p 53 [rR x0, rI x1] σ ↔ (∃ M, rMe K n σ x0 M ∧ (p.2 = none ∧ M = rM4 p.1 x1.toInt)) := Iff.rfl
theorem ro_54 {K : Nat → Nat} {n : Nat} {p : rP} {x0 : Nat} {x1 : Int32} {x2 : Int32} {σ : Nat → jcell} : rB K n p 54 [rR x0, rI x1, rI x2] σ ↔ (∃ M, rMe K n σ x0 M ∧ (p.2 = none ∧ M = rM3 p.1 (x1.toInt + 64 * x2.toInt))) := Iff.rfl
theorem ro_55 {K : Nat → Nat} {n : Nat} {p : rP} {x0 : Nat} {x1 : Int32} {x2 : Int32} {σ : Nat → jcell} : rB K n p 55 [rR x0, rI x1, rI x2] σ ↔ (∃ M, rMe K n σ x0 M ∧ (p.2 = none ∧ M = rUp (rM3 p.1 (x1.toInt + 64 * x2.toInt)) (rOv x1.toInt x2.toInt) (rM3 p.1 (x1.toInt + 64 * x2.toInt) (rCo x1.toInt x2.toInt)))) := Iff.rfl
theorem ro_56 {K : Nat → Nat} {n : Nat} {p : rP} {x0 : Nat} {x1 : Int32} {x2 : Int32} {σ : Nat → jcell} : rB K n p 56 [rR x0, rI x1, rI x2] σ ↔ (∃ M, rMe K n σ x0 M ∧ (p.2 = none ∧ M = rM4c p.1 (x1.toInt + 64 * x2.toInt))) := Iff.rfl
theorem ro_57 {K : Nat → Nat} {n : Nat} {p : rP} {x0 : Nat} {x1 : Int32} {x2 : Int32} {σ : Nat → jcell} : rB K n p 57 [rR x0, rI x1, rI x2] σ ↔ (∃ M, rMe K n σ x0 M ∧ (p.2 = none ∧ rIsC p.1 (x1.toInt + 64 * x2.toInt) ∧ M = rT0c p.1 (x1.toInt + 64 * x2.toInt))) := Iff.rfl
theorem ro_58 {K : Nat → Nat} {n : Nat} {p : rP} {x0 : Nat} {x1 : Int32} {σ : Nat → jcell} : rB K n p 58 [rR x0, rI x1] σ ↔ (∃ M, rMe K n σ x0 M ∧ (p.2 = none ∧ M = rT0 p.1 x1.toInt)) := Iff.rfl
theorem ro_59 {K : Nat → Nat} {n : Nat} {p : rP} {x0 : Nat} {x1 : Int32} {σ : Nat → jcell} : rB K n p 59 [rR x0, rI x1] σ ↔ (∃ M, rMe K n σ x0 M ∧ (p.2 = none ∧ M = rT1 p.1 x1.toInt)) := Iff.rfl
theorem ro_60 {K : Nat → Nat} {n : Nat} {p : rP} {x0 : Nat} {x1 : Int32} {σ : Nat → jcell} : rB K n p 60 [rR x0, rI x1] σ ↔ (∃ M, rMe K n σ x0 M ∧ (p.2 = none ∧ M = rT2 p.1 x1.toInt)) := Iff.rfl
theorem ro_61 {K : Nat → Nat} {n : Nat} {p : rP} {x0 : Nat} {x1 : Int32} {σ : Nat → jcell} : rB K n p 61 [rR x0, rI x1] σ ↔ (∃ M, rMe K n σ x0 M ∧ (p.2 = none ∧ M = rT3 p.1 x1.toInt)) := Iff.rfl
theorem ro_62 {K : Nat → Nat} {n : Nat} {p : rP} {x0 : Nat} {x1 : Int32} {x2 : Int32} {σ : Nat → jcell} : rB K n p 62 [rR x0, rI x1, rI x2] σ ↔ (∃ M, rMe K n σ x0 M ∧ (p.2 = none ∧ rIsC p.1 (x1.toInt + 64 * x2.toInt) ∧ M = rM4c p.1 (x1.toInt + 64 * x2.toInt))) := Iff.rfl
theorem ro_63 {K : Nat → Nat} {n : Nat} {p : rP} {x0 : Nat} {x1 : Int32} {x2 : Int32} {σ : Nat → jcell} : rB K n p 63 [rR x0, rI x1, rI x2] σ ↔ (∃ M, rMe K n σ x0 M ∧ (p.2 = none ∧ rIsC p.1 (x1.toInt + 64 * x2.toInt) ∧ M = rUp (rM4c p.1 (x1.toInt + 64 * x2.toInt)) (rCo x1.toInt x2.toInt) (rM4c p.1 (x1.toInt + 64 * x2.toInt) (rOv x1.toInt x2.toInt)))) := Iff.rfl
theorem ro_64 {K : Nat → Nat} {n : Nat} {p : rP} {x0 : Int32} {x1 : Int32} {σ : Nat → jcell} : rB K n p 64 [rI x0, rI x1] σ ↔ (x1.toInt = rWh p.1 x0.toInt) := Iff.rfl
theorem ro_65 {K : Nat → Nat} {n : Nat} {p : rP} {x0 : Int32} {x1 : Int32} {σ : Nat → jcell} : rB K n p 65 [rI x0, rI x1] σ ↔ (x1.toInt = p.1.1 (rFr x0.toInt)) := Iff.rfl
theorem ro_66 {K : Nat → Nat} {n : Nat} {p : rP} {x0 : Int32} {x1 : Int32} {σ : Nat → jcell} : rB K n p 66 [rI x0, rI x1] σ ↔ (x1.toInt = p.1.1 (rWh p.1 x0.toInt)) := Iff.rfl
theorem ro_67 {K : Nat → Nat} {n : Nat} {p : rP} {x0 : Int32} {σ : Nat → jcell} : rB K n p 67 [rI x0] σ ↔ (x0.toInt = p.1.2.1) := Iff.rfl
theorem ro_68 {K : Nat → Nat} {n : Nat} {p : rP} {x0 : Int32} {σ : Nat → jcell} : rB K n p 68 [rI x0] σ ↔ (x0.toInt = p.1.2.2.1) := Iff.rfl
theorem ro_69 {K : Nat → Nat} {n : Nat} {p : rP} {x0 : Int32} {σ : Nat → jcell} : rB K n p 69 [rI x0] σ ↔ (x0.toInt = p.1.2.2.2) := Iff.rfl
theorem ro_70 {K : Nat → Nat} {n : Nat} {p : rP} {x0 : Int32} {x1 : Int32} {σ : Nat → jcell} : rB K n p 70 [rI x0, rI x1] σ ↔ (x1.toInt = rAn (rAn p.1.2.2.1 (rLo (rFr x0.toInt))) (rLo (rTo x0.toInt))) := Iff.rfl
theorem ro_71 {K : Nat → Nat} {n : Nat} {p : rP} {x0 : Int32} {x1 : Int32} {σ : Nat → jcell} : rB K n p 71 [rI x0, rI x1] σ ↔ (x1.toInt = rNp p.1 x0.toInt) := Iff.rfl
theorem ro_72 {K : Nat → Nat} {n : Nat} {p : rP} {x0 : Int32} {σ : Nat → jcell} : rB K n p 72 [rI x0] σ ↔ (¬ rNbr (rM4 p.1 x0.toInt) (rTo x0.toInt) (-1) (1 + 8 * (1 - p.1.2.1))) := Iff.rfl
theorem ro_73 {K : Nat → Nat} {n : Nat} {p : rP} {x0 : Int32} {x1 : Int32} {σ : Nat → jcell} : rB K n p 73 [rI x0, rI x1] σ ↔ (rCB p.1 x0.toInt 0 x1.toInt) := Iff.rfl
theorem ro_74 {K : Nat → Nat} {n : Nat} {p : rP} {x0 : Int32} {x1 : Int32} {x2 : Int32} {σ : Nat → jcell} : rB K n p 74 [rI x0, rI x1, rI x2] σ ↔ (rCB p.1 x0.toInt x1.toInt x2.toInt) := Iff.rfl
theorem ro_75 {K : Nat → Nat} {n : Nat} {p : rP} {x0 : Int32} {x1 : Int32} {x2 : Int32} {x3 : Int32} {σ : Nat → jcell} : rB K n p 75 [rI x0, rI x1, rI x2, rI x3] σ ↔ (rCJ p.1 x0.toInt x1.toInt x2.toInt x3.toInt) := Iff.rfl
theorem ro_76 {K : Nat → Nat} {n : Nat} {p : rP} {x0 : Nat} {x1 : Int32} {x2 : Int32} {σ : Nat → jcell} : rB K n p 76 [rR x0, rI x1, rI x2] σ ↔ (p.2 = none ∧ x2.toInt ≤ 2048 ∧ rLF K n σ x0 x1.toInt x2.toInt p.1) := Iff.rfl
theorem ro_77_3 {K : Nat → Nat} {n : Nat} {p : rP} {x0 : Nat} {x1 : Int32} {x2 : Int32} {σ : Nat → jcell} : rB K n p 77 [rR x0, rI x1, rI x2] σ ↔ (p.2 = none ∧ x2.toInt ≤ 2048 ∧ rLF K n σ x0 x1.toInt (x2.toInt + 1) p.1) := ⟨fun h => (fun h => Or.elim h id False.elim) (show rb_77 K n p [rR x0, rI x1, rI x2] σ from h), fun h => Or.inl (h)⟩
theorem ro_77_4 {K : Nat → Nat} {n : Nat} {p : rP} {x0 : Nat} {x1 : Int32} {x2 : Int32} {x3 : Int32} {σ : Nat → jcell} : rB K n p 77 [rR x0, rI x1, rI x2, rI x3] σ ↔ (p.2 = none ∧ x2.toInt ≤ 2048 ∧ rLF K n σ x0 (x1.toInt + 1) x2.toInt p.1) := ⟨fun h => (fun h => Or.elim h False.elim id) (show rb_77 K n p [rR x0, rI x1, rI x2, rI x3] σ from h), fun h => Or.inr (h)⟩
theorem ro_78 {K : Nat → Nat} {n : Nat} {p : rP} {x0 : Int32} {σ : Nat → jcell} : rB K n p 78 [rI x0] σ ↔ (x0.toInt = 0 → ∀ m, rLm p.1 m → ¬ rGd (rMk p.1 m)) := Iff.rfl
theorem ro_79 {K : Nat → Nat} {n : Nat} {p : rP} {x0 : Int32} {x1 : Int32} {σ : Nat → jcell} : rB K n p 79 [rI x0, rI x1] σ ↔ ((x1.toInt = 1 ∧ p.1.1 (rFr x0.toInt) % 8 = 1) ∨ (x1.toInt = 0 ∧ ¬ p.1.1 (rFr x0.toInt) % 8 = 1)) := Iff.rfl
theorem ro_80 {K : Nat → Nat} {n : Nat} {p : rP} {x0 : Nat} {x1 : Int32} {σ : Nat → jcell} : rB K n p 80 [rR x0, rI x1] σ ↔ (p.2 = none ∧ x1.toInt ≤ 2048 ∧ rLF K n σ x0 1 x1.toInt p.1) := Iff.rfl
theorem ro_81 {K : Nat → Nat} {n : Nat} {p : rP} {x0 : Int32} {x1 : Int32} {σ : Nat → jcell} : rB K n p 81 [rI x0, rI x1] σ ↔ (x1.toInt = 1 - p.1.2.1) := Iff.rfl
theorem ro_82 {K : Nat → Nat} {n : Nat} {p : rP} {x0 : Int32} {x1 : Int32} {σ : Nat → jcell} : rB K n p 82 [rI x0, rI x1] σ ↔ (0 ≤ p.1.2.1 ∧ p.1.2.1 ≤ 1 ∧ ((x1.toInt = 1 ∧ rOwn p.1 x0.toInt) ∨ (x1.toInt = 0 ∧ ¬ rOwn p.1 x0.toInt))) := Iff.rfl
theorem ro_83 {K : Nat → Nat} {n : Nat} {p : rP} {x0 : Int32} {x1 : Int64} {σ : Nat → jcell} : rB K n p 83 [rI x0, rL x1] σ ↔ (∀ u, 0 ≤ u → u ≤ 63 → (rBt x1 u ↔ rOwn p.1 x0.toInt ∧ rGO p.1 x0.toInt u)) := Iff.rfl
theorem ro_84 {K : Nat → Nat} {n : Nat} {p : rP} {x0 : Int32} {x1 : Int32} {x2 : Int32} {σ : Nat → jcell} : rB K n p 84 [rI x0, rI x1, rI x2] σ ↔ (rCB p.1 x0.toInt (x1.toInt + 1) x2.toInt) := Iff.rfl
theorem ro_85 {K : Nat → Nat} {n : Nat} {p : rP} {x0 : Int32} {x1 : Int32} {σ : Nat → jcell} : rB K n p 85 [rI x0, rI x1] σ ↔ (rCB p.1 (x0.toInt + 1) 0 x1.toInt) := Iff.rfl
theorem ro_86 {K : Nat → Nat} {n : Nat} {p : rP} {x0 : Int32} {x1 : Int32} {x2 : Int32} {σ : Nat → jcell} : rB K n p 86 [rI x0, rI x1, rI x2] σ ↔ ((x2.toInt = 1 ∧ rLs p.1 x0.toInt x1.toInt) ∨ (x2.toInt = 0 ∧ ¬ rLs p.1 x0.toInt x1.toInt)) := Iff.rfl
theorem ro_87 {K : Nat → Nat} {n : Nat} {p : rP} {x0 : Int32} {x1 : Int32} {x2 : Int32} {x3 : Int32} {σ : Nat → jcell} : rB K n p 87 [rI x0, rI x1, rI x2, rI x3] σ ↔ (rCJ p.1 x0.toInt x1.toInt (x2.toInt + 1) x3.toInt) := Iff.rfl
theorem ro_88 {K : Nat → Nat} {n : Nat} {p : rP} {x0 : Nat} {x1 : Int32} {x2 : Int32} {σ : Nat → jcell} : rB K n p 88 [rR x0, rI x1, rI x2] σ ↔ (rEN K n σ x0 x1.toInt x2.toInt p.1.1) := Iff.rfl
theorem ro_89 {K : Nat → Nat} {n : Nat} {p : rP} {x0 : Nat} {x1 : Int32} {x2 : Int32} {σ : Nat → jcell} : rB K n p 89 [rR x0, rI x1, rI x2] σ ↔ (rEN K n σ x0 x1.toInt (x2.toInt + 1) p.1.1) := Iff.rfl
theorem ro_90 {K : Nat → Nat} {n : Nat} {p : rP} {x0 : Nat} {x1 : Int32} {σ : Nat → jcell} : rB K n p 90 [rR x0, rI x1] σ ↔ (p.2 = none ∧ rAP K n σ x0 x1.toInt p.1) := Iff.rfl
theorem ro_91 {K : Nat → Nat} {n : Nat} {p : rP} {x0 : Nat} {x1 : Int32} {σ : Nat → jcell} : rB K n p 91 [rR x0, rI x1] σ ↔ (p.2 = none ∧ ∃ c, c ≤ 2048 ∧ rCT K n σ x0 x1.toInt c ∧ rLF K n σ x0 x1.toInt c p.1) := Iff.rfl
theorem ro_92 {K : Nat → Nat} {n : Nat} {p : rP} {x0 : Nat} {x1 : Int32} {x2 : Int32} {σ : Nat → jcell} : rB K n p 92 [rR x0, rI x1, rI x2] σ ↔ (p.2 = none ∧ x2.toInt ≤ 2048 ∧ rCT K n σ x0 x1.toInt x2.toInt ∧ rLF K n σ x0 x1.toInt x2.toInt p.1) := Iff.rfl
theorem ro_93 {K : Nat → Nat} {n : Nat} {p : rP} {x0 : Int32} {σ : Nat → jcell} : rB K n p 93 [rI x0] σ ↔ (rLm p.1 x0.toInt ∧ rGd (rSh rS1 p [rR 0, rI (Int32.ofInt x0.toInt)]).1) := Iff.rfl
theorem ro_94 {K : Nat → Nat} {n : Nat} {p : rP} {x0 : Nat} {σ : Nat → jcell} : rB K n p 94 [rR x0] σ ↔ (∃ v : Int32, rOb K n σ x0 88 25 (rI v) ∧ rLm p.1 v.toInt ∧ rGd (rSh rS1 p [rR 0, rI (Int32.ofInt v.toInt)]).1) := Iff.rfl
theorem ro_95 {K : Nat → Nat} {n : Nat} {p : rP}  {σ : Nat → jcell} : rB K n p 95 [] σ ↔ (∃ m, rLm p.1 m ∧ rGd (rMk p.1 m)) := Iff.rfl
theorem ro_96 {K : Nat → Nat} {n : Nat} {p : rP} {x0 : Nat} {x1 : Int32} {σ : Nat → jcell} : rB K n p 96 [rR x0, rI x1] σ ↔ (∃ g a, (rRw K n σ x0 105 4 g ∨ rRw K n σ x0 107 4 g) ∧ rLn a p g 0 x1.toInt.toNat) := Iff.rfl
theorem ro_97_3 {K : Nat → Nat} {n : Nat} {p : rP} {x0 : Nat} {x1 : Int32} {x2 : Int32} {σ : Nat → jcell} : rB K n p 97 [rR x0, rI x1, rI x2] σ ↔ (∃ g, rRo K n σ x0 88 33 107 4 g ∧ rLn x0 p g x1.toInt.toNat x2.toInt.toNat) := ⟨fun h => (fun h => Or.elim h id False.elim) (show rb_97 K n p [rR x0, rI x1, rI x2] σ from h), fun h => Or.inl (h)⟩
theorem ro_97_4 {K : Nat → Nat} {n : Nat} {p : rP} {x0 : Nat} {x1 : Int32} {x2 : Int32} {x3 : Int32} {σ : Nat → jcell} : rB K n p 97 [rR x0, rI x1, rI x2, rI x3] σ ↔ (x3.toInt = 1 → ∃ g, rRo K n σ x0 88 33 107 4 g ∧ rLn x0 p g x1.toInt.toNat x2.toInt.toNat) := ⟨fun h => (fun h => Or.elim h False.elim id) (show rb_97 K n p [rR x0, rI x1, rI x2, rI x3] σ from h), fun h => Or.inr (h)⟩
theorem ro_98 {K : Nat → Nat} {n : Nat} {p : rP} {x0 : Nat} {x1 : Int32} {σ : Nat → jcell} : rB K n p 98 [rR x0, rI x1] σ ↔ (p.2 = none ∧ x1.toInt ≤ 2048 ∧ rCT K n σ x0 0 x1.toInt ∧ rLF K n σ x0 0 x1.toInt p.1) := Iff.rfl
theorem ro_99 {K : Nat → Nat} {n : Nat} {p : rP} {x0 : Nat} {x1 : Int32} {σ : Nat → jcell} : rB K n p 99 [rR x0, rI x1] σ ↔ (p.2 = none ∧ x1.toInt ≤ 2048 ∧ rLF K n σ x0 0 x1.toInt p.1) := Iff.rfl
theorem ro_100 {K : Nat → Nat} {n : Nat} {p : rP} {x0 : jv} {x1 : jv} {x2 : jv} {σ : Nat → jcell} : rB K n p 100 [x0, x1, x2] σ ↔ (aOv 0 x0 x1 x2) := Iff.rfl
theorem ro_101 {K : Nat → Nat} {n : Nat} {p : rP} {x0 : jv} {x1 : jv} {x2 : jv} {σ : Nat → jcell} : rB K n p 101 [x0, x1, x2] σ ↔ (aOv 1 x0 x1 x2) := Iff.rfl
theorem ro_102 {K : Nat → Nat} {n : Nat} {p : rP} {x0 : jv} {x1 : jv} {x2 : jv} {σ : Nat → jcell} : rB K n p 102 [x0, x1, x2] σ ↔ (aOv 2 x0 x1 x2) := Iff.rfl
theorem ro_103 {K : Nat → Nat} {n : Nat} {p : rP} {x0 : jv} {x1 : jv} {x2 : jv} {σ : Nat → jcell} : rB K n p 103 [x0, x1, x2] σ ↔ (aOv 3 x0 x1 x2) := Iff.rfl
theorem ro_104 {K : Nat → Nat} {n : Nat} {p : rP} {x0 : jv} {x1 : jv} {x2 : jv} {σ : Nat → jcell} : rB K n p 104 [x0, x1, x2] σ ↔ (aOv 4 x0 x1 x2) := Iff.rfl
theorem ro_105 {K : Nat → Nat} {n : Nat} {p : rP} {x0 : jv} {x1 : jv} {x2 : jv} {σ : Nat → jcell} : rB K n p 105 [x0, x1, x2] σ ↔ (aOv 5 x0 x1 x2) := Iff.rfl
theorem ro_106 {K : Nat → Nat} {n : Nat} {p : rP} {x0 : jv} {x1 : jv} {x2 : jv} {σ : Nat → jcell} : rB K n p 106 [x0, x1, x2] σ ↔ (aOv 6 x0 x1 x2) := Iff.rfl
theorem ro_107 {K : Nat → Nat} {n : Nat} {p : rP} {x0 : jv} {x1 : jv} {x2 : jv} {σ : Nat → jcell} : rB K n p 107 [x0, x1, x2] σ ↔ (aOv 7 x0 x1 x2) := Iff.rfl
theorem ro_108 {K : Nat → Nat} {n : Nat} {p : rP} {x0 : jv} {x1 : jv} {x2 : jv} {σ : Nat → jcell} : rB K n p 108 [x0, x1, x2] σ ↔ (aOv 8 x0 x1 x2) := Iff.rfl
theorem ro_109 {K : Nat → Nat} {n : Nat} {p : rP} {x0 : jv} {x1 : jv} {x2 : jv} {σ : Nat → jcell} : rB K n p 109 [x0, x1, x2] σ ↔ (aOv 9 x0 x1 x2) := Iff.rfl
theorem ro_110 {K : Nat → Nat} {n : Nat} {p : rP} {x0 : jv} {x1 : jv} {x2 : jv} {σ : Nat → jcell} : rB K n p 110 [x0, x1, x2] σ ↔ (aOv 10 x0 x1 x2) := Iff.rfl
theorem ro_111 {K : Nat → Nat} {n : Nat} {p : rP} {x0 : jv} {x1 : jv} {x2 : jv} {σ : Nat → jcell} : rB K n p 111 [x0, x1, x2] σ ↔ (aOv 11 x0 x1 x2) := Iff.rfl
theorem ro_112 {K : Nat → Nat} {n : Nat} {p : rP} {x0 : jv} {x1 : jv} {x2 : jv} {σ : Nat → jcell} : rB K n p 112 [x0, x1, x2] σ ↔ (aOv 12 x0 x1 x2) := Iff.rfl
theorem ro_113 {K : Nat → Nat} {n : Nat} {p : rP} {x0 : jv} {x1 : jv} {x2 : jv} {σ : Nat → jcell} : rB K n p 113 [x0, x1, x2] σ ↔ (aOv 13 x0 x1 x2) := Iff.rfl
theorem ro_114 {K : Nat → Nat} {n : Nat} {p : rP} {x0 : jv} {x1 : jv} {x2 : jv} {σ : Nat → jcell} : rB K n p 114 [x0, x1, x2] σ ↔ (aOv 14 x0 x1 x2) := Iff.rfl
theorem ro_115 {K : Nat → Nat} {n : Nat} {p : rP} {x0 : jv} {x1 : jv} {x2 : jv} {σ : Nat → jcell} : rB K n p 115 [x0, x1, x2] σ ↔ (aOv 15 x0 x1 x2) := Iff.rfl
theorem ro_116 {K : Nat → Nat} {n : Nat} {p : rP} {x0 : jv} {x1 : jv} {x2 : jv} {σ : Nat → jcell} : rB K n p 116 [x0, x1, x2] σ ↔ (aOv 16 x0 x1 x2) := Iff.rfl
theorem ro_117 {K : Nat → Nat} {n : Nat} {p : rP} {x0 : jv} {x1 : jv} {x2 : jv} {σ : Nat → jcell} : rB K n p 117 [x0, x1, x2] σ ↔ (aOv 17 x0 x1 x2) := Iff.rfl
theorem ro_120 {K : Nat → Nat} {n : Nat} {p : rP} {x0 : Int32} {x1 : Int32} {x2 : Int32} {x3 : Int32} {σ : Nat → jcell} : rB K n p 120 [rI x0, rI x1, rI x2, rI x3] σ ↔ (x3.toInt = rSp x0.toInt x1.toInt x2.toInt) := Iff.rfl
theorem ro_121 {K : Nat → Nat} {n : Nat} {p : rP} {x0 : Int32} {x1 : Int32} {x2 : Int32} {σ : Nat → jcell} : rB K n p 121 [rI x0, rI x1, rI x2] σ ↔ ((x2.toInt = 1 ∧ 0 ≤ x0.toInt ∧ x0.toInt ≤ 7 ∧ 0 ≤ x1.toInt ∧ x1.toInt ≤ 7) ∨ (x2.toInt = 0 ∧ ¬ (0 ≤ x0.toInt ∧ x0.toInt ≤ 7 ∧ 0 ≤ x1.toInt ∧ x1.toInt ≤ 7))) := Iff.rfl
theorem ro_122 {K : Nat → Nat} {n : Nat} {p : rP} {x0 : Nat} {x1 : Int32} {x2 : Int32} {x3 : Int32} {σ : Nat → jcell} : rB K n p 122 [rR x0, rI x1, rI x2, rI x3] σ ↔ (∃ M, rMe K n σ x0 M ∧ ((x3.toInt = 1 ∧ 0 ≤ x1.toInt ∧ M x1.toInt = x2.toInt) ∨ (x3.toInt = 0 ∧ ¬ (0 ≤ x1.toInt ∧ M x1.toInt = x2.toInt)))) := Iff.rfl
theorem ro_123 {K : Nat → Nat} {n : Nat} {p : rP} {x0 : Nat} {x1 : Int32} {x2 : Int32} {x3 : Int32} {x4 : Int32} {σ : Nat → jcell} : rB K n p 123 [rR x0, rI x1, rI x2, rI x3, rI x4] σ ↔ (∃ M, rMe K n σ x0 M ∧ (∀ m, rGf M x2.toInt x3.toInt x4.toInt m → rGf M x2.toInt x3.toInt (rSp x1.toInt x2.toInt x3.toInt) m)) := Iff.rfl
theorem ro_124 {K : Nat → Nat} {n : Nat} {p : rP} {x0 : Nat} {x1 : Int32} {x2 : Int32} {x3 : Int32} {x4 : Int32} {σ : Nat → jcell} : rB K n p 124 [rR x0, rI x1, rI x2, rI x3, rI x4] σ ↔ (∃ M, rMe K n σ x0 M ∧ (∀ m, rGf M x2.toInt x3.toInt (rSp x4.toInt x2.toInt x3.toInt) m → rGf M x2.toInt x3.toInt (rSp x1.toInt x2.toInt x3.toInt) m)) := Iff.rfl
theorem ro_125 {K : Nat → Nat} {n : Nat} {p : rP} {x0 : Nat} {x1 : Int32} {x2 : Int32} {x3 : Int32} {x4 : Int32} {σ : Nat → jcell} : rB K n p 125 [rR x0, rI x1, rI x2, rI x3, rI x4] σ ↔ (∃ M, rMe K n σ x0 M ∧ (rGf M x2.toInt x3.toInt (rSp x1.toInt x2.toInt x3.toInt) x4.toInt)) := Iff.rfl
theorem ro_126 {K : Nat → Nat} {n : Nat} {p : rP} {x0 : Nat} {x1 : Int32} {x2 : Int32} {σ : Nat → jcell} : rB K n p 126 [rR x0, rI x1, rI x2] σ ↔ (∃ M, rMe K n σ x0 M ∧ (¬ rP1 M x1.toInt x2.toInt (-1))) := Iff.rfl
theorem ro_127 {K : Nat → Nat} {n : Nat} {p : rP} {x0 : Nat} {x1 : Int32} {x2 : Int32} {σ : Nat → jcell} : rB K n p 127 [rR x0, rI x1, rI x2] σ ↔ (∃ M, rMe K n σ x0 M ∧ (¬ rP1 M x1.toInt x2.toInt (-1) ∧ ¬ rP1 M x1.toInt x2.toInt 1)) := Iff.rfl
theorem ro_128 {K : Nat → Nat} {n : Nat} {p : rP} {x0 : Nat} {x1 : Int32} {x2 : Int32} {x3 : Int32} {σ : Nat → jcell} : rB K n p 128 [rR x0, rI x1, rI x2, rI x3] σ ↔ (∃ M, rMe K n σ x0 M ∧ (¬ rP1 M x1.toInt x2.toInt (-1) ∧ ¬ rP1 M x1.toInt x2.toInt 1 ∧ ∀ f r, -2 ≤ f → f < x3.toInt → -2 ≤ r → r ≤ 2 → ¬ rA1 M x1.toInt x2.toInt f r)) := Iff.rfl
theorem ro_129 {K : Nat → Nat} {n : Nat} {p : rP} {x0 : Nat} {x1 : Int32} {x2 : Int32} {x3 : Int32} {x4 : Int32} {σ : Nat → jcell} : rB K n p 129 [rR x0, rI x1, rI x2, rI x3, rI x4] σ ↔ (∃ M, rMe K n σ x0 M ∧ (¬ rP1 M x1.toInt x2.toInt (-1) ∧ ¬ rP1 M x1.toInt x2.toInt 1 ∧ (∀ f r, -2 ≤ f → f < x3.toInt → -2 ≤ r → r ≤ 2 → ¬ rA1 M x1.toInt x2.toInt f r) ∧ ∀ r, -2 ≤ r → r < x4.toInt → ¬ rA1 M x1.toInt x2.toInt x3.toInt r)) := Iff.rfl
theorem ro_130 {K : Nat → Nat} {n : Nat} {p : rP} {x0 : Nat} {x1 : Int32} {x2 : Int32} {x3 : Int32} {x4 : Int32} {σ : Nat → jcell} : rB K n p 130 [rR x0, rI x1, rI x2, rI x3, rI x4] σ ↔ (∃ M, rMe K n σ x0 M ∧ (¬ rP1 M x1.toInt x2.toInt (-1) ∧ ¬ rP1 M x1.toInt x2.toInt 1 ∧ (∀ f r, -2 ≤ f → f < x3.toInt → -2 ≤ r → r ≤ 2 → ¬ rA1 M x1.toInt x2.toInt f r) ∧ ∀ r, -2 ≤ r → r < x4.toInt + 1 → ¬ rA1 M x1.toInt x2.toInt x3.toInt r)) := Iff.rfl
theorem ro_131 {K : Nat → Nat} {n : Nat} {p : rP} {x0 : Nat} {x1 : Int32} {x2 : Int32} {σ : Nat → jcell} : rB K n p 131 [rR x0, rI x1, rI x2] σ ↔ (∃ M, rMe K n σ x0 M ∧ (rAk M x1.toInt x2.toInt)) := Iff.rfl
theorem ro_132 {K : Nat → Nat} {n : Nat} {p : rP} {x0 : Nat} {x1 : Int32} {x2 : Int32} {x3 : Int32} {σ : Nat → jcell} : rB K n p 132 [rR x0, rI x1, rI x2, rI x3] σ ↔ (∃ M, rMe K n σ x0 M ∧ ((x3.toInt = 1 ∧ rAk M x1.toInt x2.toInt) ∨ (x3.toInt = 0 ∧ ¬ rAk M x1.toInt x2.toInt))) := Iff.rfl
theorem ro_133 {K : Nat → Nat} {n : Nat} {p : rP} {x0 : Int32} {x1 : Int32} {σ : Nat → jcell} : rB K n p 133 [rI x0, rI x1] σ ↔ (¬ x0.toInt = x1.toInt + 5) := Iff.rfl
theorem ro_134 {K : Nat → Nat} {n : Nat} {p : rP} {x0 : Int32} {x1 : Int32} {x2 : Int32} {σ : Nat → jcell} : rB K n p 134 [rI x0, rI x1, rI x2] σ ↔ ((x2.toInt = 1 → ¬ x0.toInt = x1.toInt + 4) ∧ (x2.toInt = 2 → ¬ x0.toInt = x1.toInt + 3)) := Iff.rfl
theorem ro_135 {K : Nat → Nat} {n : Nat} {p : rP} {x0 : Int32} {x1 : Int32} {σ : Nat → jcell} : rB K n p 135 [rI x0, rI x1] σ ↔ (True) := Iff.rfl
theorem ro_136 {K : Nat → Nat} {n : Nat} {p : rP} {x0 : Int32} {σ : Nat → jcell} : rB K n p 136 [rI x0] σ ↔ (True) := Iff.rfl
theorem ro_137 {K : Nat → Nat} {n : Nat} {p : rP} {x0 : Nat} {x1 : Int32} {x2 : Int32} {σ : Nat → jcell} : rB K n p 137 [rR x0, rI x1, rI x2] σ ↔ (∃ M, rMe K n σ x0 M ∧ (∀ j, 0 ≤ j → j < x2.toInt → ¬ M j = 8 * x1.toInt + 6)) := Iff.rfl
theorem ro_138 {K : Nat → Nat} {n : Nat} {p : rP} {x0 : Nat} {x1 : Int32} {x2 : Int32} {σ : Nat → jcell} : rB K n p 138 [rR x0, rI x1, rI x2] σ ↔ (∃ M, rMe K n σ x0 M ∧ (rKg M x1.toInt x2.toInt)) := Iff.rfl
theorem ro_139 {K : Nat → Nat} {n : Nat} {p : rP} {x0 : Nat} {σ : Nat → jcell} : rB K n p 139 [rR x0] σ ↔ (∃ M, rMe K n σ x0 M ∧ (rKs M)) := Iff.rfl
theorem ro_140 {K : Nat → Nat} {n : Nat} {p : rP} {x0 : Nat} {x1 : Int32} {x2 : Int32} {σ : Nat → jcell} : rB K n p 140 [rR x0, rI x1, rI x2] σ ↔ (∃ M, rMe K n σ x0 M ∧ (∃ s, rKg M x1.toInt s ∧ ((x2.toInt = 1 ∧ rAk M s (1 - x1.toInt)) ∨ (x2.toInt = 0 ∧ ¬ rAk M s (1 - x1.toInt))))) := Iff.rfl
theorem ro_141 {K : Nat → Nat} {n : Nat} {p : rP} {x0 : Int32} {x1 : Int64} {σ : Nat → jcell} : rB K n p 141 [rI x0, rL x1] σ ↔ (∀ u, 0 ≤ u → u ≤ 63 → (rBt x1 u ↔ u = x0.toInt)) := Iff.rfl
theorem ro_142 {K : Nat → Nat} {n : Nat} {p : rP} {x0 : Nat} {x1 : Int32} {x2 : Int32} {x3 : Int32} {x4 : Int32} {x5 : Int64} {σ : Nat → jcell} : rB K n p 142 [rR x0, rI x1, rI x2, rI x3, rI x4, rL x5] σ ↔ (∃ M, rMe K n σ x0 M ∧ (∀ u, 0 ≤ u → u ≤ 63 → (rWf M x2.toInt x3.toInt (rSp x1.toInt x2.toInt x3.toInt) u ↔ rBt x5 u ∨ rWf M x2.toInt x3.toInt x4.toInt u))) := Iff.rfl
theorem ro_143 {K : Nat → Nat} {n : Nat} {p : rP} {x0 : Nat} {x1 : Int32} {x2 : Int32} {x3 : Int32} {x4 : Int32} {x5 : Int64} {σ : Nat → jcell} : rB K n p 143 [rR x0, rI x1, rI x2, rI x3, rI x4, rL x5] σ ↔ (∃ M, rMe K n σ x0 M ∧ (∀ u, 0 ≤ u → u ≤ 63 → (rWf M x2.toInt x3.toInt (rSp x1.toInt x2.toInt x3.toInt) u ↔ rBt x5 u ∨ (M x4.toInt = 0 ∧ rWf M x2.toInt x3.toInt (rSp x4.toInt x2.toInt x3.toInt) u)))) := Iff.rfl
theorem ro_144 {K : Nat → Nat} {n : Nat} {p : rP} {x0 : Nat} {x1 : Int32} {x2 : Int32} {x3 : Int32} {x4 : Int64} {σ : Nat → jcell} : rB K n p 144 [rR x0, rI x1, rI x2, rI x3, rL x4] σ ↔ (∃ M, rMe K n σ x0 M ∧ (∀ u, 0 ≤ u → u ≤ 63 → (rWf M x2.toInt x3.toInt (rSp x1.toInt x2.toInt x3.toInt) u ↔ rBt x4 u))) := Iff.rfl
theorem ro_145 {K : Nat → Nat} {n : Nat} {p : rP} {x0 : Nat} {x1 : Int32} {x2 : Int32} {σ : Nat → jcell} : rB K n p 145 [rR x0, rI x1, rI x2] σ ↔ (∃ M, rMe K n σ x0 M ∧ (∀ j, 0 ≤ j → j < x2.toInt + 1 → ¬ M j = 8 * x1.toInt + 6)) := Iff.rfl
theorem ro_146 {K : Nat → Nat} {n : Nat} {p : rP} {x0 : Nat} {x1 : Int32} {x2 : Int32} {x3 : Int32} {x4 : Int32} {x5 : Int64} {σ : Nat → jcell} : rB K n p 146 [rR x0, rI x1, rI x2, rI x3, rI x4, rL x5] σ ↔ (∃ M, rMe K n σ x0 M ∧ (∀ u, 0 ≤ u → u ≤ 63 → (rWf M x2.toInt x3.toInt (rSp x1.toInt x2.toInt x3.toInt) u ↔ rBt x5 u ∨ rWf M x2.toInt x3.toInt (rSp x4.toInt x2.toInt x3.toInt) u))) := Iff.rfl
theorem ro_147 {K : Nat → Nat} {n : Nat} {p : rP} {x0 : Int32} {x1 : Int32} {σ : Nat → jcell} : rB K n p 147 [rI x0, rI x1] σ ↔ (x1.toInt = x0.toInt % 8) := Iff.rfl
theorem ro_148 {K : Nat → Nat} {n : Nat} {p : rP} {x0 : Nat} {x1 : Int32} {x2 : Int32} {σ : Nat → jcell} : rB K n p 148 [rR x0, rI x1, rI x2] σ ↔ (∃ M, rMe K n σ x0 M ∧ (x2.toInt = M x1.toInt % 8)) := Iff.rfl
theorem ro_149 {K : Nat → Nat} {n : Nat} {p : rP} {x0 : Nat} {x1 : Int32} {x2 : Int32} {x3 : Int32} {x4 : Int64} {σ : Nat → jcell} : rB K n p 149 [rR x0, rI x1, rI x2, rI x3, rL x4] σ ↔ (∃ M, rMe K n σ x0 M ∧ (x2.toInt = M x1.toInt % 8 ∧ ∀ u, 0 ≤ u → u ≤ 63 → (rBt x4 u ↔ ∃ f r, -2 ≤ f ∧ f < x3.toInt ∧ -2 ≤ r ∧ r ≤ 2 ∧ rR1 M x2.toInt x1.toInt f r u))) := Iff.rfl
theorem ro_150 {K : Nat → Nat} {n : Nat} {p : rP} {x0 : Nat} {x1 : Int32} {x2 : Int32} {x3 : Int32} {x4 : Int32} {x5 : Int64} {σ : Nat → jcell} : rB K n p 150 [rR x0, rI x1, rI x2, rI x3, rI x4, rL x5] σ ↔ (∃ M, rMe K n σ x0 M ∧ (x2.toInt = M x1.toInt % 8 ∧ ∀ u, 0 ≤ u → u ≤ 63 → (rBt x5 u ↔ ∃ f r, -2 ≤ f ∧ (f < x3.toInt ∨ (f = x3.toInt ∧ r < x4.toInt)) ∧ -2 ≤ r ∧ r ≤ 2 ∧ rR1 M x2.toInt x1.toInt f r u))) := Iff.rfl
theorem ro_151 {K : Nat → Nat} {n : Nat} {p : rP} {x0 : Nat} {x1 : Int32} {x2 : Int32} {x3 : Int32} {x4 : Int32} {x5 : Int64} {σ : Nat → jcell} : rB K n p 151 [rR x0, rI x1, rI x2, rI x3, rI x4, rL x5] σ ↔ (∃ M, rMe K n σ x0 M ∧ (x2.toInt = M x1.toInt % 8 ∧ ∀ u, 0 ≤ u → u ≤ 63 → (rBt x5 u ↔ ∃ f r, -2 ≤ f ∧ (f < x3.toInt ∨ (f = x3.toInt ∧ r < x4.toInt + 1)) ∧ -2 ≤ r ∧ r ≤ 2 ∧ rR1 M x2.toInt x1.toInt f r u))) := Iff.rfl
theorem ro_152 {K : Nat → Nat} {n : Nat} {p : rP} {x0 : Nat} {x1 : Int32} {x2 : Int32} {x3 : Int32} {x4 : Int64} {σ : Nat → jcell} : rB K n p 152 [rR x0, rI x1, rI x2, rI x3, rL x4] σ ↔ (∃ M, rMe K n σ x0 M ∧ (x2.toInt = M x1.toInt % 8 ∧ ∀ u, 0 ≤ u → u ≤ 63 → (rBt x4 u ↔ ∃ f r, -2 ≤ f ∧ f < x3.toInt + 1 ∧ -2 ≤ r ∧ r ≤ 2 ∧ rR1 M x2.toInt x1.toInt f r u))) := Iff.rfl
theorem ro_153 {K : Nat → Nat} {n : Nat} {p : rP} {x0 : Nat} {x1 : Int32} {x2 : Int64} {σ : Nat → jcell} : rB K n p 153 [rR x0, rI x1, rL x2] σ ↔ (∃ M, rMe K n σ x0 M ∧ (∀ u, 0 ≤ u → u ≤ 63 → (rBt x2 u ↔ rRe M (M x1.toInt % 8) x1.toInt u))) := Iff.rfl
theorem ro_154 {K : Nat → Nat} {n : Nat} {p : rP} {x0 : Int32} {x1 : Int32} {σ : Nat → jcell} : rB K n p 154 [rI x0, rI x1] σ ↔ (x1.toInt = x0.toInt * x0.toInt) := Iff.rfl
theorem ro_155 {K : Nat → Nat} {n : Nat} {p : rP} {x0 : Int32} {x1 : Int32} {x2 : Int32} {σ : Nat → jcell} : rB K n p 155 [rI x0, rI x1, rI x2] σ ↔ (x2.toInt = x0.toInt * x0.toInt + x1.toInt * x1.toInt) := Iff.rfl
theorem ro_156 {K : Nat → Nat} {n : Nat} {p : rP} {x0 : Nat} {x1 : Int32} {x2 : Int32} {x3 : Int32} {σ : Nat → jcell} : rB K n p 156 [rR x0, rI x1, rI x2, rI x3] σ ↔ (∃ M, rMe K n σ x0 M ∧ ((x3.toInt = 1 ∧ ¬ M x1.toInt = 0 ∧ M x1.toInt / 8 = x2.toInt) ∨ (x3.toInt = 0 ∧ ¬ (¬ M x1.toInt = 0 ∧ M x1.toInt / 8 = x2.toInt)))) := Iff.rfl
theorem ro_157 {K : Nat → Nat} {n : Nat} {p : rP} {x0 : Int32} {x1 : Int32} {σ : Nat → jcell} : rB K n p 157 [rI x0, rI x1] σ ↔ (x1.toInt = x0.toInt / 8) := Iff.rfl
theorem ro_160 {K : Nat → Nat} {n : Nat} {p : rP} {x0 : Int32} {x1 : Int32} {x2 : Int32} {x3 : Int32} {σ : Nat → jcell} : rB K n p 160 [rI x0, rI x1, rI x2, rI x3] σ ↔ (x1.toInt = rFr x0.toInt ∧ x2.toInt = rTo x0.toInt ∧ x3.toInt = rBc x0.toInt) := Iff.rfl
theorem ro_161 {K : Nat → Nat} {n : Nat} {p : rP} {x0 : Int32} {x1 : Int32} {x2 : Int32} {σ : Nat → jcell} : rB K n p 161 [rI x0, rI x1, rI x2] σ ↔ ((x1.toInt = x0.toInt + 2 ∨ x1.toInt = x0.toInt - 2) ∧ (x0.toInt = 4 ∨ x0.toInt = 60) ∧ x2.toInt = 0) := Iff.rfl
theorem ro_162 {K : Nat → Nat} {n : Nat} {p : rP} {x0 : Int32} {x1 : Int32} {σ : Nat → jcell} : rB K n p 162 [rI x0, rI x1] σ ↔ (x1.toInt = rLo x0.toInt) := Iff.rfl
theorem ro_163 {K : Nat → Nat} {n : Nat} {p : rP} {x0 : Int32} {x1 : Int32} {x2 : Int32} {σ : Nat → jcell} : rB K n p 163 [rI x0, rI x1, rI x2] σ ↔ (x2.toInt = rAn x1.toInt (rLo x0.toInt)) := Iff.rfl
theorem ro_164 {K : Nat → Nat} {n : Nat} {p : rP} {x0 : Int64} {x1 : Int32} {σ : Nat → jcell} : rB K n p 164 [rL x0, rI x1] σ ↔ (rBt x0 x1.toInt) := Iff.rfl
theorem ro_167 {K : Nat → Nat} {n : Nat} {p : rP} {x0 : Int64} {x1 : Int32} {x2 : Int64} {σ : Nat → jcell} : rB K n p 167 [rL x0, rI x1, rL x2] σ ↔ (x2 = x0 >>> ((Int32.ofInt x1.toInt).toInt64 &&& 63)) := Iff.rfl
theorem ro_168 {K : Nat → Nat} {n : Nat} {p : rP} {x0 : Nat} {x1 : Int32} {x2 : Int32} {σ : Nat → jcell} : rB K n p 168 [rR x0, rI x1, rI x2] σ ↔ (rCT K n σ x0 x1.toInt x2.toInt) := Iff.rfl
theorem ro_169 {K : Nat → Nat} {n : Nat} {p : rP} {x0 : Int32} {x1 : Int32} {σ : Nat → jcell} : rB K n p 169 [rI x0, rI x1] σ ↔ ((x1.toInt = x0.toInt + 2 ∨ x1.toInt = x0.toInt - 2) ∧ (x0.toInt = 4 ∨ x0.toInt = 60)) := Iff.rfl
theorem ro_170 {K : Nat → Nat} {n : Nat} {p : rP} {x0 : Nat} {x1 : Int32} {σ : Nat → jcell} : rB K n p 170 [rR x0, rI x1] σ ↔ (rPG0 K n σ x0 x1.toInt) := Iff.rfl
theorem ro_171 {K : Nat → Nat} {n : Nat} {p : rP} {x0 : Nat} {x1 : Int32} {σ : Nat → jcell} : rB K n p 171 [rR x0, rI x1] σ ↔ (rPG0 K n σ x0 (x1.toInt + 1)) := Iff.rfl
theorem ro_172 {K : Nat → Nat} {n : Nat} {p : rP} {x0 : Nat} {x1 : Int32} {x2 : Int32} {σ : Nat → jcell} : rB K n p 172 [rR x0, rI x1, rI x2] σ ↔ (rPG0 K n σ x0 (x1.toInt + x2.toInt)) := Iff.rfl
theorem ro_173 {K : Nat → Nat} {n : Nat} {p : rP} {x0 : Nat} {x1 : Int32} {x2 : Int32} {σ : Nat → jcell} : rB K n p 173 [rR x0, rI x1, rI x2] σ ↔ (rPG0 K n σ x0 (x1.toInt + x2.toInt + 1)) := Iff.rfl
theorem ro_174 {K : Nat → Nat} {n : Nat} {p : rP} {x0 : Nat} {x1 : Int32} {x2 : Int32} {σ : Nat → jcell} : rB K n p 174 [rR x0, rI x1, rI x2] σ ↔ (x2.toInt = 1 → rAS K n σ x0 x1.toInt 64) := Iff.rfl
theorem ro_175 {K : Nat → Nat} {n : Nat} {p : rP} {x0 : Nat} {x1 : Int32} {x2 : Int32} {σ : Nat → jcell} : rB K n p 175 [rR x0, rI x1, rI x2] σ ↔ (x2.toInt = 1 → rAS K n σ x0 x1.toInt 0) := Iff.rfl
theorem ro_176 {K : Nat → Nat} {n : Nat} {p : rP} {x0 : Nat} {x1 : Int32} {x2 : Int32} {x3 : Int32} {σ : Nat → jcell} : rB K n p 176 [rR x0, rI x1, rI x2, rI x3] σ ↔ (x3.toInt = 1 → rAS K n σ x0 x1.toInt x2.toInt) := Iff.rfl
theorem ro_177 {K : Nat → Nat} {n : Nat} {p : rP} {x0 : Nat} {x1 : Int32} {x2 : Int32} {x3 : Int32} {σ : Nat → jcell} : rB K n p 177 [rR x0, rI x1, rI x2, rI x3] σ ↔ (x3.toInt = 1 → rAS K n σ x0 x1.toInt (x2.toInt + 1)) := Iff.rfl
theorem ro_179 {K : Nat → Nat} {n : Nat} {p : rP} {x0 : Nat} {x1 : Int32} {σ : Nat → jcell} : rB K n p 179 [rR x0, rI x1] σ ↔ (∃ c, 1 ≤ c ∧ rCT K n σ x0 x1.toInt c) := Iff.rfl
theorem ro_181 {K : Nat → Nat} {n : Nat} {p : rP} {x0 : Nat} {x1 : Int32} {x2 : Int32} {σ : Nat → jcell} : rB K n p 181 [rR x0, rI x1, rI x2] σ ↔ (x2.toInt = 0 → ∃ c, 1 ≤ c ∧ rCT K n σ x0 x1.toInt c) := Iff.rfl
theorem ro_182_2 {K : Nat → Nat} {n : Nat} {p : rP} {x0 : Nat} {x1 : Int32} {σ : Nat → jcell} : rB K n p 182 [rR x0, rI x1] σ ↔ (rHP K n σ x0 x1.toInt) := ⟨fun h => (fun h => Or.elim h id False.elim) (show rb_182 K n [rR x0, rI x1] σ from h), fun h => Or.inl (h)⟩
theorem ro_182_3 {K : Nat → Nat} {n : Nat} {p : rP} {x0 : Nat} {x1 : Int32} {x2 : Int32} {σ : Nat → jcell} : rB K n p 182 [rR x0, rI x1, rI x2] σ ↔ (x2.toInt = 1 → rHP K n σ x0 x1.toInt) := ⟨fun h => (fun h => Or.elim h False.elim id) (show rb_182 K n [rR x0, rI x1, rI x2] σ from h), fun h => Or.inr (h)⟩
theorem ro_183 {K : Nat → Nat} {n : Nat} {p : rP} {x0 : Nat} {x1 : Int32} {σ : Nat → jcell} : rB K n p 183 [rR x0, rI x1] σ ↔ (rHP K n σ x0 (x1.toInt + 1)) := Iff.rfl
theorem ro_184 {K : Nat → Nat} {n : Nat} {p : rP} {x0 : Nat} {x1 : Int32} {σ : Nat → jcell} : rB K n p 184 [rR x0, rI x1] σ ↔ (∃ g, rRw K n σ x0 105 4 g ∧ (g 0).toInt = x1.toInt) := Iff.rfl
theorem ro_185 {K : Nat → Nat} {n : Nat} {p : rP} {x0 : Nat} {x1 : Int32} {σ : Nat → jcell} : rB K n p 185 [rR x0, rI x1] σ ↔ (∃ g, rRw K n σ x0 105 4 g ∧ (g 1).toInt = x1.toInt) := Iff.rfl
theorem ro_186 {K : Nat → Nat} {n : Nat} {p : rP} {x0 : Nat} {x1 : Int32} {σ : Nat → jcell} : rB K n p 186 [rR x0, rI x1] σ ↔ (∃ g, rRw K n σ x0 105 4 g ∧ (g 2).toInt = x1.toInt) := Iff.rfl
theorem ro_187 {K : Nat → Nat} {n : Nat} {p : rP} {x0 : Nat} {x1 : Int32} {σ : Nat → jcell} : rB K n p 187 [rR x0, rI x1] σ ↔ (∃ g, rRw K n σ x0 105 4 g ∧ (g 3).toInt = x1.toInt) := Iff.rfl
theorem ro_188 {K : Nat → Nat} {n : Nat} {p : rP} {x0 : Nat} {x1 : Int32} {x2 : Int32} {σ : Nat → jcell} : rB K n p 188 [rR x0, rI x1, rI x2] σ ↔ (0 ≤ x1.toInt ∧ ∃ g, rRo K n σ x0 88 34 108 4 g ∧ (g x1.toInt.toNat).toInt = x2.toInt) := Iff.rfl
theorem ro_189 {K : Nat → Nat} {n : Nat} {p : rP} {x0 : Nat} {x1 : Int32} {x2 : Int32} {σ : Nat → jcell} : rB K n p 189 [rR x0, rI x1, rI x2] σ ↔ (rSGN K n σ x0 x1.toInt x2.toInt) := Iff.rfl
theorem ro_190 {K : Nat → Nat} {n : Nat} {p : rP} {x0 : Int32} {σ : Nat → jcell} : rB K n p 190 [rI x0] σ ↔ (True) := Iff.rfl
theorem ro_191 {K : Nat → Nat} {n : Nat} {p : rP} {x0 : Int32} {σ : Nat → jcell} : rB K n p 191 [rI x0] σ ↔ (True) := Iff.rfl
theorem ro_192 {K : Nat → Nat} {n : Nat} {p : rP} {x0 : Nat} {x1 : Int32} {x2 : Int32} {x3 : Int32} {σ : Nat → jcell} : rB K n p 192 [rR x0, rI x1, rI x2, rI x3] σ ↔ (∃ M, rMe K n σ x0 M ∧ (x3.toInt = rCnt M x1.toInt x2.toInt.toNat)) := Iff.rfl
theorem ro_193_1 {K : Nat → Nat} {n : Nat} {p : rP} {x0 : Nat} {σ : Nat → jcell} : rB K n p 193 [rR x0] σ ↔ (∃ M, rMe K n σ x0 M ∧ (rCnt M 6 64 = 1)) := ⟨fun h => (fun h => Or.elim h id False.elim) (show rb_193 K n [rR x0] σ from h), fun h => Or.inl (h)⟩
theorem ro_193_4 {K : Nat → Nat} {n : Nat} {p : rP} {x0 : Nat} {x1 : Int32} {x2 : Int32} {x3 : Int32} {σ : Nat → jcell} : rB K n p 193 [rR x0, rI x1, rI x2, rI x3] σ ↔ (∃ M, rMe K n σ x0 M ∧ (x3.toInt = rCnt M x1.toInt (x2.toInt + 1).toNat)) := ⟨fun h => (fun h => Or.elim h False.elim id) (show rb_193 K n [rR x0, rI x1, rI x2, rI x3] σ from h), fun h => Or.inr (h)⟩
theorem ro_194 {K : Nat → Nat} {n : Nat} {p : rP} {x0 : Nat} {x1 : Int32} {x2 : Int32} {σ : Nat → jcell} : rB K n p 194 [rR x0, rI x1, rI x2] σ ↔ (∃ M, rMe K n σ x0 M ∧ (x2.toInt = rCnt M x1.toInt 64)) := Iff.rfl
theorem ro_195 {K : Nat → Nat} {n : Nat} {p : rP} {x0 : Nat} {x1 : Int32} {σ : Nat → jcell} : rB K n p 195 [rR x0, rI x1] σ ↔ (x1.toInt = 0 → rPSW K n σ x0) := Iff.rfl
theorem ro_197 {K : Nat → Nat} {n : Nat} {p : rP} {x0 : Nat} {x1 : Int32} {σ : Nat → jcell} : rB K n p 197 [rR x0, rI x1] σ ↔ (x1.toInt = 0 → rFO K n σ x0) := Iff.rfl
theorem ro_198 {K : Nat → Nat} {n : Nat} {p : rP} {x0 : Int32} {x1 : Int32} {σ : Nat → jcell} : rB K n p 198 [rI x0, rI x1] σ ↔ (True) := Iff.rfl
theorem ro_199 {K : Nat → Nat} {n : Nat} {p : rP} {x0 : Int32} {x1 : Int32} {σ : Nat → jcell} : rB K n p 199 [rI x0, rI x1] σ ↔ (True) := Iff.rfl
theorem ro_200 {K : Nat → Nat} {n : Nat} {p : rP} {x0 : Nat} {x1 : Int32} {x2 : Int32} {x3 : Int32} {σ : Nat → jcell} : rB K n p 200 [rR x0, rI x1, rI x2, rI x3] σ ↔ (∃ M, rTe K n σ x0 M ∧ ((x3.toInt = 1 ∧ 0 ≤ x1.toInt ∧ M x1.toInt = x2.toInt) ∨ (x3.toInt = 0 ∧ ¬ (0 ≤ x1.toInt ∧ M x1.toInt = x2.toInt)))) := Iff.rfl
theorem ro_201 {K : Nat → Nat} {n : Nat} {p : rP} {x0 : Nat} {x1 : Int32} {x2 : Int32} {x3 : Int32} {x4 : Int32} {σ : Nat → jcell} : rB K n p 201 [rR x0, rI x1, rI x2, rI x3, rI x4] σ ↔ (∃ M, rTe K n σ x0 M ∧ (∀ m, rGf M x2.toInt x3.toInt x4.toInt m → rGf M x2.toInt x3.toInt (rSp x1.toInt x2.toInt x3.toInt) m)) := Iff.rfl
theorem ro_202 {K : Nat → Nat} {n : Nat} {p : rP} {x0 : Nat} {x1 : Int32} {x2 : Int32} {x3 : Int32} {x4 : Int32} {σ : Nat → jcell} : rB K n p 202 [rR x0, rI x1, rI x2, rI x3, rI x4] σ ↔ (∃ M, rTe K n σ x0 M ∧ (∀ m, rGf M x2.toInt x3.toInt (rSp x4.toInt x2.toInt x3.toInt) m → rGf M x2.toInt x3.toInt (rSp x1.toInt x2.toInt x3.toInt) m)) := Iff.rfl
theorem ro_203 {K : Nat → Nat} {n : Nat} {p : rP} {x0 : Nat} {x1 : Int32} {x2 : Int32} {x3 : Int32} {x4 : Int32} {σ : Nat → jcell} : rB K n p 203 [rR x0, rI x1, rI x2, rI x3, rI x4] σ ↔ (∃ M, rTe K n σ x0 M ∧ (rGf M x2.toInt x3.toInt (rSp x1.toInt x2.toInt x3.toInt) x4.toInt)) := Iff.rfl
theorem ro_204 {K : Nat → Nat} {n : Nat} {p : rP} {x0 : Nat} {x1 : Int32} {x2 : Int32} {x3 : Int32} {σ : Nat → jcell} : rB K n p 204 [rR x0, rI x1, rI x2, rI x3] σ ↔ (∃ M, rTe K n σ x0 M ∧ (x3.toInt = 0 → ¬ rAk M x1.toInt x2.toInt)) := Iff.rfl
theorem ro_205 {K : Nat → Nat} {n : Nat} {p : rP} {x0 : Nat} {x1 : Int32} {x2 : Int32} {σ : Nat → jcell} : rB K n p 205 [rR x0, rI x1, rI x2] σ ↔ (∃ M, rTe K n σ x0 M ∧ (¬ rP1 M x1.toInt x2.toInt (-1))) := Iff.rfl
theorem ro_206 {K : Nat → Nat} {n : Nat} {p : rP} {x0 : Nat} {x1 : Int32} {x2 : Int32} {x3 : Int32} {σ : Nat → jcell} : rB K n p 206 [rR x0, rI x1, rI x2, rI x3] σ ↔ (∃ M, rTe K n σ x0 M ∧ (x3.toInt = 0 → (¬ rP1 M x1.toInt x2.toInt (-1) ∧ ¬ rP1 M x1.toInt x2.toInt 1))) := Iff.rfl
theorem ro_207 {K : Nat → Nat} {n : Nat} {p : rP} {x0 : Nat} {x1 : Int32} {x2 : Int32} {x3 : Int32} {x4 : Int32} {σ : Nat → jcell} : rB K n p 207 [rR x0, rI x1, rI x2, rI x3, rI x4] σ ↔ (∃ M, rTe K n σ x0 M ∧ (x4.toInt = 0 → (¬ rP1 M x1.toInt x2.toInt (-1) ∧ ¬ rP1 M x1.toInt x2.toInt 1 ∧ ∀ f r, -2 ≤ f → f < x3.toInt → -2 ≤ r → r ≤ 2 → ¬ rA1 M x1.toInt x2.toInt f r))) := Iff.rfl
theorem ro_208 {K : Nat → Nat} {n : Nat} {p : rP} {x0 : Nat} {x1 : Int32} {x2 : Int32} {x3 : Int32} {x4 : Int32} {x5 : Int32} {σ : Nat → jcell} : rB K n p 208 [rR x0, rI x1, rI x2, rI x3, rI x4, rI x5] σ ↔ (∃ M, rTe K n σ x0 M ∧ (x5.toInt = 0 → (¬ rP1 M x1.toInt x2.toInt (-1) ∧ ¬ rP1 M x1.toInt x2.toInt 1 ∧ (∀ f r, -2 ≤ f → f < x3.toInt → -2 ≤ r → r ≤ 2 → ¬ rA1 M x1.toInt x2.toInt f r) ∧ ∀ r, -2 ≤ r → r < x4.toInt → ¬ rA1 M x1.toInt x2.toInt x3.toInt r))) := Iff.rfl
theorem ro_209 {K : Nat → Nat} {n : Nat} {p : rP} {x0 : Nat} {x1 : Int32} {x2 : Int32} {x3 : Int32} {x4 : Int32} {x5 : Int32} {σ : Nat → jcell} : rB K n p 209 [rR x0, rI x1, rI x2, rI x3, rI x4, rI x5] σ ↔ (∃ M, rTe K n σ x0 M ∧ (x5.toInt = 0 → (¬ rP1 M x1.toInt x2.toInt (-1) ∧ ¬ rP1 M x1.toInt x2.toInt 1 ∧ (∀ f r, -2 ≤ f → f < x3.toInt → -2 ≤ r → r ≤ 2 → ¬ rA1 M x1.toInt x2.toInt f r) ∧ (∀ r, -2 ≤ r → r < x4.toInt → ¬ rA1 M x1.toInt x2.toInt x3.toInt r) ∧ rA2 M x1.toInt x2.toInt x3.toInt x4.toInt))) := Iff.rfl
theorem ro_210 {K : Nat → Nat} {n : Nat} {p : rP} {x0 : Nat} {x1 : Int32} {x2 : Int32} {x3 : Int32} {x4 : Int32} {x5 : Int32} {σ : Nat → jcell} : rB K n p 210 [rR x0, rI x1, rI x2, rI x3, rI x4, rI x5] σ ↔ (∃ M, rTe K n σ x0 M ∧ (x5.toInt = 0 → (¬ rP1 M x1.toInt x2.toInt (-1) ∧ ¬ rP1 M x1.toInt x2.toInt 1 ∧ (∀ f r, -2 ≤ f → f < x3.toInt → -2 ≤ r → r ≤ 2 → ¬ rA1 M x1.toInt x2.toInt f r) ∧ ∀ r, -2 ≤ r → r < x4.toInt + 1 → ¬ rA1 M x1.toInt x2.toInt x3.toInt r))) := Iff.rfl
theorem ro_211 {K : Nat → Nat} {n : Nat} {p : rP} {x0 : Nat} {x1 : Int32} {x2 : Int32} {x3 : Int32} {x4 : Int32} {σ : Nat → jcell} : rB K n p 211 [rR x0, rI x1, rI x2, rI x3, rI x4] σ ↔ (∃ M, rTe K n σ x0 M ∧ (x4.toInt = 0 → (¬ rP1 M x1.toInt x2.toInt (-1) ∧ ¬ rP1 M x1.toInt x2.toInt 1 ∧ ∀ f r, -2 ≤ f → f < (x3.toInt + 1) → -2 ≤ r → r ≤ 2 → ¬ rA1 M x1.toInt x2.toInt f r))) := Iff.rfl
theorem ro_212 {K : Nat → Nat} {n : Nat} {p : rP} {x0 : Nat} {x1 : Int32} {x2 : Int32} {x3 : Int32} {σ : Nat → jcell} : rB K n p 212 [rR x0, rI x1, rI x2, rI x3] σ ↔ (∃ M, rTe K n σ x0 M ∧ (∀ j, 0 ≤ j → j < x2.toInt → M j = 8 * x1.toInt + 6 → (0 ≤ x3.toInt ∧ x3.toInt ≤ 63 ∧ M x3.toInt = 8 * x1.toInt + 6))) := Iff.rfl
theorem ro_213 {K : Nat → Nat} {n : Nat} {p : rP} {x0 : Nat} {x1 : Int32} {x2 : Int32} {x3 : Int32} {σ : Nat → jcell} : rB K n p 213 [rR x0, rI x1, rI x2, rI x3] σ ↔ (∃ M, rTe K n σ x0 M ∧ (∀ j, 0 ≤ j → j < x2.toInt + 1 → M j = 8 * x1.toInt + 6 → (0 ≤ x3.toInt ∧ x3.toInt ≤ 63 ∧ M x3.toInt = 8 * x1.toInt + 6))) := Iff.rfl
theorem ro_214 {K : Nat → Nat} {n : Nat} {p : rP} {x0 : Nat} {x1 : Int32} {x2 : Int32} {σ : Nat → jcell} : rB K n p 214 [rR x0, rI x1, rI x2] σ ↔ (∃ M, rTe K n σ x0 M ∧ (∀ j, 0 ≤ j → j ≤ 63 → M j = 8 * x1.toInt + 6 → (0 ≤ x2.toInt ∧ x2.toInt ≤ 63 ∧ M x2.toInt = 8 * x1.toInt + 6))) := Iff.rfl
theorem ro_215 {K : Nat → Nat} {n : Nat} {p : rP} {x0 : Nat} {x1 : Int32} {x2 : Int32} {σ : Nat → jcell} : rB K n p 215 [rR x0, rI x1, rI x2] σ ↔ (∃ M, rTe K n σ x0 M ∧ (x2.toInt = 0 → (∀ j, 0 ≤ j → j ≤ 63 → M j = 8 * x1.toInt + 6 → ∃ s, 0 ≤ s ∧ s ≤ 63 ∧ M s = 8 * x1.toInt + 6 ∧ ¬ rAk M s (1 - x1.toInt)))) := Iff.rfl
theorem ro_216 {K : Nat → Nat} {n : Nat} {p : rP} {x0 : Int32} {x1 : Int32} {σ : Nat → jcell} : rB K n p 216 [rI x0, rI x1] σ ↔ ((x0.toInt = 0 ∧ x1.toInt = -1) ∨ (¬ x0.toInt = 0 ∧ x1.toInt = x0.toInt / 8)) := Iff.rfl
theorem ro_217 {K : Nat → Nat} {n : Nat} {p : rP} {x0 : Int32} {x1 : Int32} {σ : Nat → jcell} : rB K n p 217 [rI x0, rI x1] σ ↔ (¬ x0.toInt % 8 = x1.toInt % 8) := Iff.rfl
theorem ro_218 {K : Nat → Nat} {n : Nat} {p : rP} {x0 : Int32} {x1 : Int32} {σ : Nat → jcell} : rB K n p 218 [rI x0, rI x1] σ ↔ (x1.toInt = x0.toInt % 8) := Iff.rfl
theorem ro_219 {K : Nat → Nat} {n : Nat} {p : rP} {x0 : Int32} {σ : Nat → jcell} : rB K n p 219 [rI x0] σ ↔ (True) := Iff.rfl
theorem ro_220 {K : Nat → Nat} {n : Nat} {p : rP} {x0 : Nat} {σ : Nat → jcell} : rB K n p 220 [rR x0] σ ↔ (∃ v : Int32, rOb K n σ x0 62 29 (rI v) ∧ 0 ≤ v.toInt ∧ v.toInt ≤ 1298) := Iff.rfl
theorem ro_221 {K : Nat → Nat} {n : Nat} {p : rP} {x0 : Nat} {σ : Nat → jcell} : rB K n p 221 [rR x0] σ ↔ (∃ g, rRo K n σ x0 62 31 84 5 g ∧ 0 ≤ (g 4).toInt ∧ (g 4).toInt ≤ 1298) := Iff.rfl
theorem ro_222 {K : Nat → Nat} {n : Nat} {p : rP} {x0 : Nat} {x1 : Int32} {x2 : Int32} {x3 : Int32} {σ : Nat → jcell} : rB K n p 222 [rR x0, rI x1, rI x2, rI x3] σ ↔ (∃ M, rTe K n σ x0 M ∧ (x3.toInt = 1 → ∀ j, x1.toInt ≤ j → j ≤ x2.toInt → M j = 0)) := Iff.rfl
theorem ro_223 {K : Nat → Nat} {n : Nat} {p : rP} {x0 : Nat} {x1 : Int32} {x2 : Int32} {x3 : Int32} {σ : Nat → jcell} : rB K n p 223 [rR x0, rI x1, rI x2, rI x3] σ ↔ (∃ M, rTe K n σ x0 M ∧ (x3.toInt = 1 → ∀ j, x1.toInt ≤ j → j < x2.toInt → M j = 0)) := Iff.rfl
theorem ro_224 {K : Nat → Nat} {n : Nat} {p : rP} {x0 : Nat} {x1 : Int32} {x2 : Int32} {x3 : Int32} {σ : Nat → jcell} : rB K n p 224 [rR x0, rI x1, rI x2, rI x3] σ ↔ (∃ M, rTe K n σ x0 M ∧ (x3.toInt = 1 → ∀ j, x1.toInt ≤ j → j < x2.toInt + 1 → M j = 0)) := Iff.rfl
theorem ro_225 {K : Nat → Nat} {n : Nat} {p : rP} {x0 : Int32} {x1 : Int32} {σ : Nat → jcell} : rB K n p 225 [rI x0, rI x1] σ ↔ (¬ x0.toInt = x1.toInt) := Iff.rfl
theorem ro_226 {K : Nat → Nat} {n : Nat} {p : rP} {x0 : Int32} {x1 : Int32} {x2 : Int32} {x3 : Int32} {σ : Nat → jcell} : rB K n p 226 [rI x0, rI x1, rI x2, rI x3] σ ↔ (x2.toInt = x1.toInt % 8 - x0.toInt % 8 ∧ x3.toInt = x1.toInt / 8 - x0.toInt / 8) := Iff.rfl
theorem ro_227 {K : Nat → Nat} {n : Nat} {p : rP} {x0 : Int32} {x1 : Int32} {σ : Nat → jcell} : rB K n p 227 [rI x0, rI x1] σ ↔ (x1.toInt = x0.toInt * x0.toInt) := Iff.rfl
theorem ro_228 {K : Nat → Nat} {n : Nat} {p : rP} {x0 : Int32} {x1 : Int32} {x2 : Int32} {σ : Nat → jcell} : rB K n p 228 [rI x0, rI x1, rI x2] σ ↔ (x2.toInt = x0.toInt * x0.toInt + x1.toInt * x1.toInt) := Iff.rfl
theorem ro_230 {K : Nat → Nat} {n : Nat} {p : rP} {x0 : Nat} {x1 : Int32} {σ : Nat → jcell} : rB K n p 230 [rR x0, rI x1] σ ↔ (∃ M, rTe K n σ x0 M ∧ (¬ rAk M x1.toInt (if x1.toInt = 4 then 1 else 0))) := Iff.rfl
theorem ro_231 {K : Nat → Nat} {n : Nat} {p : rP} {x0 : Int32} {σ : Nat → jcell} : rB K n p 231 [rI x0] σ ↔ (True) := Iff.rfl
theorem ro_232 {K : Nat → Nat} {n : Nat} {p : rP} {x0 : Int32} {σ : Nat → jcell} : rB K n p 232 [rI x0] σ ↔ (True) := Iff.rfl
theorem ro_233 {K : Nat → Nat} {n : Nat} {p : rP} {x0 : Int32} {σ : Nat → jcell} : rB K n p 233 [rI x0] σ ↔ (True) := Iff.rfl
theorem ro_234 {K : Nat → Nat} {n : Nat} {p : rP} {x0 : Int32} {σ : Nat → jcell} : rB K n p 234 [rI x0] σ ↔ (True) := Iff.rfl
theorem ro_235 {K : Nat → Nat} {n : Nat} {p : rP} {x0 : Int32} {σ : Nat → jcell} : rB K n p 235 [rI x0] σ ↔ (True) := Iff.rfl
theorem ro_236 {K : Nat → Nat} {n : Nat} {p : rP} {x0 : Int32} {σ : Nat → jcell} : rB K n p 236 [rI x0] σ ↔ (True) := Iff.rfl
theorem ro_400 {K : Nat → Nat} {n : Nat} {p : rP} {x0 : Nat} {σ : Nat → jcell} : rB K n p 400 [rR x0] σ ↔ (p.2 = none ∧ rTX K n σ x0 p.1) := Iff.rfl
theorem ro_401 {K : Nat → Nat} {n : Nat} {p : rP} {x0 : Nat} {σ : Nat → jcell} : rB K n p 401 [rR x0] σ ↔ (p.2 = none ∧ rTKP K n σ x0 p.1) := Iff.rfl
theorem ro_402 {K : Nat → Nat} {n : Nat} {p : rP} {x0 : Nat} {x1 : Int32} {σ : Nat → jcell} : rB K n p 402 [rR x0, rI x1] σ ↔ (rKI K n σ x0 30 83 x1.toInt p.1.1) := Iff.rfl
theorem ro_403 {K : Nat → Nat} {n : Nat} {p : rP} {x0 : Nat} {x1 : Int32} {σ : Nat → jcell} : rB K n p 403 [rR x0, rI x1] σ ↔ (rKI K n σ x0 30 83 (x1.toInt + 1) p.1.1) := Iff.rfl
theorem ro_404 {K : Nat → Nat} {n : Nat} {p : rP} {x0 : Nat} {x1 : Int32} {σ : Nat → jcell} : rB K n p 404 [rR x0, rI x1] σ ↔ (rKI K n σ x0 24 82 x1.toInt p.1.1) := Iff.rfl
theorem ro_405 {K : Nat → Nat} {n : Nat} {p : rP} {x0 : Nat} {x1 : Int32} {σ : Nat → jcell} : rB K n p 405 [rR x0, rI x1] σ ↔ (rKI K n σ x0 24 82 (x1.toInt + 1) p.1.1) := Iff.rfl
theorem ro_406 {K : Nat → Nat} {n : Nat} {p : rP} {x0 : Nat} {x1 : Int32} {σ : Nat → jcell} : rB K n p 406 [rR x0, rI x1] σ ↔ (∃ M, rTe K n σ x0 M ∧ (p.2 = none ∧ M = rV0 p.1 x1.toInt)) := Iff.rfl
theorem ro_407 {K : Nat → Nat} {n : Nat} {p : rP} {x0 : Nat} {x1 : Int32} {σ : Nat → jcell} : rB K n p 407 [rR x0, rI x1] σ ↔ (∃ M, rTe K n σ x0 M ∧ (p.2 = none ∧ M = rV1 p.1 x1.toInt)) := Iff.rfl
theorem ro_408 {K : Nat → Nat} {n : Nat} {p : rP} {x0 : Nat} {x1 : Int32} {σ : Nat → jcell} : rB K n p 408 [rR x0, rI x1] σ ↔ (∃ M, rTe K n σ x0 M ∧ (p.2 = none ∧ M = rV2 p.1 x1.toInt)) := Iff.rfl
theorem ro_409 {K : Nat → Nat} {n : Nat} {p : rP} {x0 : Nat} {x1 : Int32} {σ : Nat → jcell} : rB K n p 409 [rR x0, rI x1] σ ↔ (∃ M, rTe K n σ x0 M ∧ (p.2 = none ∧ M = rV3 p.1 x1.toInt)) := Iff.rfl
theorem ro_410 {K : Nat → Nat} {n : Nat} {p : rP} {x0 : Nat} {x1 : Int32} {σ : Nat → jcell} : rB K n p 410 [rR x0, rI x1] σ ↔ (∃ M, rTe K n σ x0 M ∧ (p.2 = none ∧ M = rV1d p.1 x1.toInt)) := Iff.rfl
theorem ro_411 {K : Nat → Nat} {n : Nat} {p : rP} {x0 : Nat} {x1 : Int32} {σ : Nat → jcell} : rB K n p 411 [rR x0, rI x1] σ ↔ (p.2 = none ∧ rTX K n σ x0 (rVk p.1 x1.toInt)) := Iff.rfl
theorem ro_412 {K : Nat → Nat} {n : Nat} {p : rP} {x0 : Int32} {x1 : Int32} {σ : Nat → jcell} : rB K n p 412 [rI x0, rI x1] σ ↔ (x1.toInt = p.1.1 (rFr x0.toInt)) := Iff.rfl
theorem ro_413 {K : Nat → Nat} {n : Nat} {p : rP} {x0 : Int32} {x1 : Int32} {σ : Nat → jcell} : rB K n p 413 [rI x0, rI x1] σ ↔ ((x1.toInt = 1 ∧ p.1.1 (rFr x0.toInt) % 8 = 1) ∨ (x1.toInt = 0 ∧ ¬ p.1.1 (rFr x0.toInt) % 8 = 1)) := Iff.rfl
theorem ro_414 {K : Nat → Nat} {n : Nat} {p : rP} {x0 : Int32} {x1 : Int32} {σ : Nat → jcell} : rB K n p 414 [rI x0, rI x1] σ ↔ (x1.toInt = rAn (rAn p.1.2.2.1 (rLo (rFr x0.toInt))) (rLo (rTo x0.toInt))) := Iff.rfl
theorem ro_415 {K : Nat → Nat} {n : Nat} {p : rP} {x0 : Int32} {x1 : Int32} {σ : Nat → jcell} : rB K n p 415 [rI x0, rI x1] σ ↔ (x1.toInt = rVp p.1 x0.toInt) := Iff.rfl
theorem ro_416 {K : Nat → Nat} {n : Nat} {p : rP} {x0 : Int32} {σ : Nat → jcell} : rB K n p 416 [rI x0] σ ↔ (¬ rNbr (rV3 p.1 x0.toInt) (rTo x0.toInt) (-1) (1 + 8 * (1 - p.1.2.1))) := Iff.rfl
theorem ro_417 {K : Nat → Nat} {n : Nat} {p : rP} {x0 : Int32} {σ : Nat → jcell} : rB K n p 417 [rI x0] σ ↔ (p.2 = none ∧ rZ p.1.1 ∧ x0.toInt = p.1.2.1) := Iff.rfl
theorem ro_418 {K : Nat → Nat} {n : Nat} {p : rP} {x0 : Int32} {σ : Nat → jcell} : rB K n p 418 [rI x0] σ ↔ (x0.toInt = p.1.2.2.1) := Iff.rfl
theorem ro_419 {K : Nat → Nat} {n : Nat} {p : rP} {x0 : Int32} {σ : Nat → jcell} : rB K n p 419 [rI x0] σ ↔ (x0.toInt = p.1.2.2.2) := Iff.rfl
theorem ro_420 {K : Nat → Nat} {n : Nat} {p : rP} {x0 : Nat} {σ : Nat → jcell} : rB K n p 420 [rR x0] σ ↔ (p.2 = none ∧ rZ p.1.1 ∧ ∃ g, rRo K n σ x0 62 31 84 5 g ∧ (g 0).toInt = p.1.2.1) := Iff.rfl
theorem ro_421 {K : Nat → Nat} {n : Nat} {p : rP} {x0 : Nat} {σ : Nat → jcell} : rB K n p 421 [rR x0] σ ↔ (p.2 = none ∧ rZ p.1.1 ∧ ∃ g, rRo K n σ x0 62 31 84 5 g ∧ (g 1).toInt = p.1.2.2.1) := Iff.rfl
theorem ro_422 {K : Nat → Nat} {n : Nat} {p : rP} {x0 : Nat} {σ : Nat → jcell} : rB K n p 422 [rR x0] σ ↔ (p.2 = none ∧ rZ p.1.1 ∧ ∃ g, rRo K n σ x0 62 31 84 5 g ∧ (g 2).toInt = p.1.2.2.2) := Iff.rfl
theorem ro_423 {K : Nat → Nat} {n : Nat} {p : rP} {x0 : Int32} {x1 : Int32} {σ : Nat → jcell} : rB K n p 423 [rI x0, rI x1] σ ↔ (p.1.1 (rFr x0.toInt) % 8 = 6 ∧ rFr x0.toInt % 8 = 4 ∧ rTo x0.toInt % 8 = x1.toInt ∧ (x1.toInt = 6 ∨ x1.toInt = 2)) := Iff.rfl
theorem ro_424 {K : Nat → Nat} {n : Nat} {p : rP} {x0 : Int32} {σ : Nat → jcell} : rB K n p 424 [rI x0] σ ↔ (¬ rVc p.1 x0.toInt) := Iff.rfl
theorem ro_425 {K : Nat → Nat} {n : Nat} {p : rP} {x0 : Int32} {x1 : Int32} {σ : Nat → jcell} : rB K n p 425 [rI x0, rI x1] σ ↔ (x1.toInt = rAn p.1.2.2.1 (rLo (rFr x0.toInt))) := Iff.rfl
theorem ro_426 {K : Nat → Nat} {n : Nat} {p : rP} {x0 : Int32} {x1 : Int32} {σ : Nat → jcell} : rB K n p 426 [rI x0, rI x1] σ ↔ (x1.toInt = 1 → rSaf p.1 x0.toInt) := Iff.rfl
theorem ro_427 {K : Nat → Nat} {n : Nat} {p : rP} {x0 : Int32} {x1 : Int32} {x2 : Int32} {σ : Nat → jcell} : rB K n p 427 [rI x0, rI x1, rI x2] σ ↔ (x2.toInt = 1 → rPG p.1 x0.toInt x1.toInt) := Iff.rfl
theorem ro_428 {K : Nat → Nat} {n : Nat} {p : rP} {x0 : Int32} {x1 : Int32} {σ : Nat → jcell} : rB K n p 428 [rI x0, rI x1] σ ↔ (x1.toInt = 1 → rTmc p.1 x0.toInt) := Iff.rfl
theorem ro_429 {K : Nat → Nat} {n : Nat} {p : rP} {x0 : Int32} {x1 : Int32} {x2 : Int32} {σ : Nat → jcell} : rB K n p 429 [rI x0, rI x1, rI x2] σ ↔ (x2.toInt = 1 → rOwn p.1 x0.toInt ∧ ¬ rOwn p.1 x1.toInt ∧ rGO p.1 x0.toInt x1.toInt ∧ 0 ≤ p.1.2.1 ∧ p.1.2.1 ≤ 1) := Iff.rfl
theorem ro_430 {K : Nat → Nat} {n : Nat} {p : rP} {x0 : Int32} {σ : Nat → jcell} : rB K n p 430 [rI x0] σ ↔ (rOwn p.1 x0.toInt ∧ 0 ≤ p.1.2.1 ∧ p.1.2.1 ≤ 1) := Iff.rfl
theorem ro_431 {K : Nat → Nat} {n : Nat} {p : rP} {x0 : Int32} {σ : Nat → jcell} : rB K n p 431 [rI x0] σ ↔ (¬ rOwn p.1 x0.toInt) := Iff.rfl
theorem ro_432 {K : Nat → Nat} {n : Nat} {p : rP} {x0 : Int32} {x1 : Int32} {σ : Nat → jcell} : rB K n p 432 [rI x0, rI x1] σ ↔ (rGd p.1 ∧ x1.toInt = p.1.1 x0.toInt % 8) := Iff.rfl
theorem ro_433 {K : Nat → Nat} {n : Nat} {p : rP} {x0 : Int32} {x1 : Int32} {x2 : Int32} {x3 : Int32} {x4 : Int32} {σ : Nat → jcell} : rB K n p 433 [rI x0, rI x1, rI x2, rI x3, rI x4] σ ↔ (rRy p.1.1 x0.toInt x1.toInt x2.toInt x3.toInt x4.toInt) := Iff.rfl
theorem ro_434 {K : Nat → Nat} {n : Nat} {p : rP} {x0 : Int32} {x1 : Int32} {x2 : Int32} {x3 : Int32} {x4 : Int32} {σ : Nat → jcell} : rB K n p 434 [rI x0, rI x1, rI x2, rI x3, rI x4] σ ↔ (rRy p.1.1 x0.toInt x1.toInt x2.toInt x3.toInt x4.toInt ∧ p.1.1 x4.toInt = 0) := Iff.rfl
theorem ro_435 {K : Nat → Nat} {n : Nat} {p : rP} {x0 : Int32} {x1 : Int32} {σ : Nat → jcell} : rB K n p 435 [rI x0, rI x1] σ ↔ (x1.toInt ≤ 31 * x0.toInt) := Iff.rfl
theorem ro_436 {K : Nat → Nat} {n : Nat} {p : rP} {x0 : Int32} {x1 : Int32} {x2 : Int32} {σ : Nat → jcell} : rB K n p 436 [rI x0, rI x1, rI x2] σ ↔ (x2.toInt ≤ 31 * x0.toInt + rSm (p.1.1 x0.toInt % 8) x0.toInt x1.toInt.toNat) := Iff.rfl
theorem ro_437 {K : Nat → Nat} {n : Nat} {p : rP} {x0 : Int32} {x1 : Int32} {x2 : Int32} {x3 : Int32} {σ : Nat → jcell} : rB K n p 437 [rI x0, rI x1, rI x2, rI x3] σ ↔ (rTJ p.1 x0.toInt x1.toInt x2.toInt x3.toInt) := Iff.rfl
theorem ro_438 {K : Nat → Nat} {n : Nat} {p : rP} {x0 : Nat} {x1 : Int32} {σ : Nat → jcell} : rB K n p 438 [rR x0, rI x1] σ ↔ (x1.toInt ≤ 2048 ∧ rTL K n σ x0 x1.toInt p.1) := Iff.rfl
theorem ro_439 {K : Nat → Nat} {n : Nat} {p : rP} {x0 : Nat} {x1 : Int32} {σ : Nat → jcell} : rB K n p 439 [rR x0, rI x1] σ ↔ (x1.toInt ≤ 2048 ∧ rTL K n σ x0 (x1.toInt + 1) p.1) := Iff.rfl
theorem ro_440 {K : Nat → Nat} {n : Nat} {p : rP} {x0 : Int32} {x1 : Int32} {x2 : Int32} {σ : Nat → jcell} : rB K n p 440 [rI x0, rI x1, rI x2] σ ↔ ((x2.toInt = 1 ∧ rLs p.1 x0.toInt x1.toInt) ∨ (x2.toInt = 0 ∧ ¬ rLs p.1 x0.toInt x1.toInt)) := Iff.rfl
theorem ro_441 {K : Nat → Nat} {n : Nat} {p : rP} {x0 : Int32} {x1 : Int32} {x2 : Int32} {σ : Nat → jcell} : rB K n p 441 [rI x0, rI x1, rI x2] σ ↔ (x2.toInt ≤ 31 * x0.toInt + rSm (p.1.1 x0.toInt % 8) x0.toInt (x1.toInt + 1).toNat) := Iff.rfl
theorem ro_443 {K : Nat → Nat} {n : Nat} {p : rP} {x0 : Int32} {x1 : Int32} {x2 : Int32} {x3 : Int32} {σ : Nat → jcell} : rB K n p 443 [rI x0, rI x1, rI x2, rI x3] σ ↔ (rTJ p.1 x0.toInt x1.toInt (x2.toInt + 1) x3.toInt) := Iff.rfl
theorem ro_444 {K : Nat → Nat} {n : Nat} {p : rP} {x0 : Int32} {x1 : Int32} {σ : Nat → jcell} : rB K n p 444 [rI x0, rI x1] σ ↔ (x1.toInt = 1 → rRgt p.1 x0.toInt) := Iff.rfl
theorem ro_445 {K : Nat → Nat} {n : Nat} {p : rP} {x0 : Int32} {x1 : Int32} {x2 : Int32} {σ : Nat → jcell} : rB K n p 445 [rI x0, rI x1, rI x2] σ ↔ (rSl (p.1.1 x0.toInt % 8) x1.toInt x2.toInt) := Iff.rfl
theorem ro_446 {K : Nat → Nat} {n : Nat} {p : rP} {x0 : Int32} {x1 : Int32} {x2 : Int32} {σ : Nat → jcell} : rB K n p 446 [rI x0, rI x1, rI x2] σ ↔ (x2.toInt = 1 → rSaf p.1 (x0.toInt + 64 * x1.toInt)) := Iff.rfl
theorem ro_447 {K : Nat → Nat} {n : Nat} {p : rP} {x0 : Int32} {x1 : Int32} {σ : Nat → jcell} : rB K n p 447 [rI x0, rI x1] σ ↔ (rOwn p.1 x0.toInt ∧ ¬ rOwn p.1 x1.toInt ∧ rGO p.1 x0.toInt x1.toInt ∧ 0 ≤ p.1.2.1 ∧ p.1.2.1 ≤ 1) := Iff.rfl
theorem ro_448 {K : Nat → Nat} {n : Nat} {p : rP} {x0 : Int32} {x1 : Int32} {σ : Nat → jcell} : rB K n p 448 [rI x0, rI x1] σ ↔ (x1.toInt ≤ 31 * (x0.toInt + 1)) := Iff.rfl

