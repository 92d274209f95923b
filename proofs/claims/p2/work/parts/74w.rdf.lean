/-! the reference: what its facts say -/
def rC_ (f : Prop) : List jv → Prop
  | [] => f
  | _ => False
def rC_i (f : Int → Prop) : List jv → Prop
  | [.inl a0] => f a0.toInt
  | _ => False
theorem rC_i_e {f : Int → Prop} {l : List jv} (h : rC_i f l) : ∃ (a0 : Int32), l = [rI a0] ∧ f a0.toInt := by
  unfold rC_i at h
  split at h
  · exact ⟨_, rfl, h⟩
  · exact h.elim
theorem rC_i_m {f g : Int → Prop} {l : List jv} (hm : ∀ a0, f a0 → g a0) (h : rC_i f l) : rC_i g l := by
  obtain ⟨a0, rfl, h1⟩ := rC_i_e h
  exact hm _ h1
def rC_ii (f : Int → Int → Prop) : List jv → Prop
  | [.inl a0, .inl a1] => f a0.toInt a1.toInt
  | _ => False
theorem rC_ii_e {f : Int → Int → Prop} {l : List jv} (h : rC_ii f l) : ∃ (a0 : Int32) (a1 : Int32), l = [rI a0, rI a1] ∧ f a0.toInt a1.toInt := by
  unfold rC_ii at h
  split at h
  · exact ⟨_, _, rfl, h⟩
  · exact h.elim
theorem rC_ii_m {f g : Int → Int → Prop} {l : List jv} (hm : ∀ a0 a1, f a0 a1 → g a0 a1) (h : rC_ii f l) : rC_ii g l := by
  obtain ⟨a0, a1, rfl, h1⟩ := rC_ii_e h
  exact hm _ _ h1
def rC_iii (f : Int → Int → Int → Prop) : List jv → Prop
  | [.inl a0, .inl a1, .inl a2] => f a0.toInt a1.toInt a2.toInt
  | _ => False
theorem rC_iii_e {f : Int → Int → Int → Prop} {l : List jv} (h : rC_iii f l) : ∃ (a0 : Int32) (a1 : Int32) (a2 : Int32), l = [rI a0, rI a1, rI a2] ∧ f a0.toInt a1.toInt a2.toInt := by
  unfold rC_iii at h
  split at h
  · exact ⟨_, _, _, rfl, h⟩
  · exact h.elim
theorem rC_iii_m {f g : Int → Int → Int → Prop} {l : List jv} (hm : ∀ a0 a1 a2, f a0 a1 a2 → g a0 a1 a2) (h : rC_iii f l) : rC_iii g l := by
  obtain ⟨a0, a1, a2, rfl, h1⟩ := rC_iii_e h
  exact hm _ _ _ h1
def rC_iiii (f : Int → Int → Int → Int → Prop) : List jv → Prop
  | [.inl a0, .inl a1, .inl a2, .inl a3] => f a0.toInt a1.toInt a2.toInt a3.toInt
  | _ => False
theorem rC_iiii_e {f : Int → Int → Int → Int → Prop} {l : List jv} (h : rC_iiii f l) : ∃ (a0 : Int32) (a1 : Int32) (a2 : Int32) (a3 : Int32), l = [rI a0, rI a1, rI a2, rI a3] ∧ f a0.toInt a1.toInt a2.toInt a3.toInt := by
  unfold rC_iiii at h
  split at h
  · exact ⟨_, _, _, _, rfl, h⟩
  · exact h.elim
theorem rC_iiii_m {f g : Int → Int → Int → Int → Prop} {l : List jv} (hm : ∀ a0 a1 a2 a3, f a0 a1 a2 a3 → g a0 a1 a2 a3) (h : rC_iiii f l) : rC_iiii g l := by
  obtain ⟨a0, a1, a2, a3, rfl, h1⟩ := rC_iiii_e h
  exact hm _ _ _ _ h1
def rC_iil (f : Int → Int → Int64 → Prop) : List jv → Prop
  | [.inl a0, .inl a1, .inr (.inl a2)] => f a0.toInt a1.toInt a2
  | _ => False
theorem rC_iil_e {f : Int → Int → Int64 → Prop} {l : List jv} (h : rC_iil f l) : ∃ (a0 : Int32) (a1 : Int32) (a2 : Int64), l = [rI a0, rI a1, rL a2] ∧ f a0.toInt a1.toInt a2 := by
  unfold rC_iil at h
  split at h
  · exact ⟨_, _, _, rfl, h⟩
  · exact h.elim
theorem rC_iil_m {f g : Int → Int → Int64 → Prop} {l : List jv} (hm : ∀ a0 a1 a2, f a0 a1 a2 → g a0 a1 a2) (h : rC_iil f l) : rC_iil g l := by
  obtain ⟨a0, a1, a2, rfl, h1⟩ := rC_iil_e h
  exact hm _ _ _ h1
def rC_il (f : Int → Int64 → Prop) : List jv → Prop
  | [.inl a0, .inr (.inl a1)] => f a0.toInt a1
  | _ => False
theorem rC_il_e {f : Int → Int64 → Prop} {l : List jv} (h : rC_il f l) : ∃ (a0 : Int32) (a1 : Int64), l = [rI a0, rL a1] ∧ f a0.toInt a1 := by
  unfold rC_il at h
  split at h
  · exact ⟨_, _, rfl, h⟩
  · exact h.elim
theorem rC_il_m {f g : Int → Int64 → Prop} {l : List jv} (hm : ∀ a0 a1, f a0 a1 → g a0 a1) (h : rC_il f l) : rC_il g l := by
  obtain ⟨a0, a1, rfl, h1⟩ := rC_il_e h
  exact hm _ _ h1
def rC_li (f : Int64 → Int → Prop) : List jv → Prop
  | [.inr (.inl a0), .inl a1] => f a0 a1.toInt
  | _ => False
theorem rC_li_e {f : Int64 → Int → Prop} {l : List jv} (h : rC_li f l) : ∃ (a0 : Int64) (a1 : Int32), l = [rL a0, rI a1] ∧ f a0 a1.toInt := by
  unfold rC_li at h
  split at h
  · exact ⟨_, _, rfl, h⟩
  · exact h.elim
theorem rC_li_m {f g : Int64 → Int → Prop} {l : List jv} (hm : ∀ a0 a1, f a0 a1 → g a0 a1) (h : rC_li f l) : rC_li g l := by
  obtain ⟨a0, a1, rfl, h1⟩ := rC_li_e h
  exact hm _ _ h1
def rC_lil (f : Int64 → Int → Int64 → Prop) : List jv → Prop
  | [.inr (.inl a0), .inl a1, .inr (.inl a2)] => f a0 a1.toInt a2
  | _ => False
theorem rC_lil_e {f : Int64 → Int → Int64 → Prop} {l : List jv} (h : rC_lil f l) : ∃ (a0 : Int64) (a1 : Int32) (a2 : Int64), l = [rL a0, rI a1, rL a2] ∧ f a0 a1.toInt a2 := by
  unfold rC_lil at h
  split at h
  · exact ⟨_, _, _, rfl, h⟩
  · exact h.elim
theorem rC_lil_m {f g : Int64 → Int → Int64 → Prop} {l : List jv} (hm : ∀ a0 a1 a2, f a0 a1 a2 → g a0 a1 a2) (h : rC_lil f l) : rC_lil g l := by
  obtain ⟨a0, a1, a2, rfl, h1⟩ := rC_lil_e h
  exact hm _ _ _ h1
def rC_r (f : Nat → Prop) : List jv → Prop
  | [.inr (.inr (some (.inl a0)))] => f a0
  | _ => False
theorem rC_r_e {f : Nat → Prop} {l : List jv} (h : rC_r f l) : ∃ (a0 : Nat), l = [rR a0] ∧ f a0 := by
  unfold rC_r at h
  split at h
  · exact ⟨_, rfl, h⟩
  · exact h.elim
theorem rC_r_m {f g : Nat → Prop} {l : List jv} (hm : ∀ a0, f a0 → g a0) (h : rC_r f l) : rC_r g l := by
  obtain ⟨a0, rfl, h1⟩ := rC_r_e h
  exact hm _ h1
def rC_ri (f : Nat → Int → Prop) : List jv → Prop
  | [.inr (.inr (some (.inl a0))), .inl a1] => f a0 a1.toInt
  | _ => False
theorem rC_ri_e {f : Nat → Int → Prop} {l : List jv} (h : rC_ri f l) : ∃ (a0 : Nat) (a1 : Int32), l = [rR a0, rI a1] ∧ f a0 a1.toInt := by
  unfold rC_ri at h
  split at h
  · exact ⟨_, _, rfl, h⟩
  · exact h.elim
theorem rC_ri_m {f g : Nat → Int → Prop} {l : List jv} (hm : ∀ a0 a1, f a0 a1 → g a0 a1) (h : rC_ri f l) : rC_ri g l := by
  obtain ⟨a0, a1, rfl, h1⟩ := rC_ri_e h
  exact hm _ _ h1
def rC_rii (f : Nat → Int → Int → Prop) : List jv → Prop
  | [.inr (.inr (some (.inl a0))), .inl a1, .inl a2] => f a0 a1.toInt a2.toInt
  | _ => False
theorem rC_rii_e {f : Nat → Int → Int → Prop} {l : List jv} (h : rC_rii f l) : ∃ (a0 : Nat) (a1 : Int32) (a2 : Int32), l = [rR a0, rI a1, rI a2] ∧ f a0 a1.toInt a2.toInt := by
  unfold rC_rii at h
  split at h
  · exact ⟨_, _, _, rfl, h⟩
  · exact h.elim
theorem rC_rii_m {f g : Nat → Int → Int → Prop} {l : List jv} (hm : ∀ a0 a1 a2, f a0 a1 a2 → g a0 a1 a2) (h : rC_rii f l) : rC_rii g l := by
  obtain ⟨a0, a1, a2, rfl, h1⟩ := rC_rii_e h
  exact hm _ _ _ h1
def rC_riii (f : Nat → Int → Int → Int → Prop) : List jv → Prop
  | [.inr (.inr (some (.inl a0))), .inl a1, .inl a2, .inl a3] => f a0 a1.toInt a2.toInt a3.toInt
  | _ => False
theorem rC_riii_e {f : Nat → Int → Int → Int → Prop} {l : List jv} (h : rC_riii f l) : ∃ (a0 : Nat) (a1 : Int32) (a2 : Int32) (a3 : Int32), l = [rR a0, rI a1, rI a2, rI a3] ∧ f a0 a1.toInt a2.toInt a3.toInt := by
  unfold rC_riii at h
  split at h
  · exact ⟨_, _, _, _, rfl, h⟩
  · exact h.elim
theorem rC_riii_m {f g : Nat → Int → Int → Int → Prop} {l : List jv} (hm : ∀ a0 a1 a2 a3, f a0 a1 a2 a3 → g a0 a1 a2 a3) (h : rC_riii f l) : rC_riii g l := by
  obtain ⟨a0, a1, a2, a3, rfl, h1⟩ := rC_riii_e h
  exact hm _ _ _ _ h1
def rC_riiii (f : Nat → Int → Int → Int → Int → Prop) : List jv → Prop
  | [.inr (.inr (some (.inl a0))), .inl a1, .inl a2, .inl a3, .inl a4] => f a0 a1.toInt a2.toInt a3.toInt a4.toInt
  | _ => False
theorem rC_riiii_e {f : Nat → Int → Int → Int → Int → Prop} {l : List jv} (h : rC_riiii f l) : ∃ (a0 : Nat) (a1 : Int32) (a2 : Int32) (a3 : Int32) (a4 : Int32), l = [rR a0, rI a1, rI a2, rI a3, rI a4] ∧ f a0 a1.toInt a2.toInt a3.toInt a4.toInt := by
  unfold rC_riiii at h
  split at h
  · exact ⟨_, _, _, _, _, rfl, h⟩
  · exact h.elim
theorem rC_riiii_m {f g : Nat → Int → Int → Int → Int → Prop} {l : List jv} (hm : ∀ a0 a1 a2 a3 a4, f a0 a1 a2 a3 a4 → g a0 a1 a2 a3 a4) (h : rC_riiii f l) : rC_riiii g l := by
  obtain ⟨a0, a1, a2, a3, a4, rfl, h1⟩ := rC_riiii_e h
  exact hm _ _ _ _ _ h1
def rC_riiiil (f : Nat → Int → Int → Int → Int → Int64 → Prop) : List jv → Prop
  | [.inr (.inr (some (.inl a0))), .inl a1, .inl a2, .inl a3, .inl a4, .inr (.inl a5)] => f a0 a1.toInt a2.toInt a3.toInt a4.toInt a5
  | _ => False
theorem rC_riiiil_e {f : Nat → Int → Int → Int → Int → Int64 → Prop} {l : List jv} (h : rC_riiiil f l) : ∃ (a0 : Nat) (a1 : Int32) (a2 : Int32) (a3 : Int32) (a4 : Int32) (a5 : Int64), l = [rR a0, rI a1, rI a2, rI a3, rI a4, rL a5] ∧ f a0 a1.toInt a2.toInt a3.toInt a4.toInt a5 := by
  unfold rC_riiiil at h
  split at h
  · exact ⟨_, _, _, _, _, _, rfl, h⟩
  · exact h.elim
theorem rC_riiiil_m {f g : Nat → Int → Int → Int → Int → Int64 → Prop} {l : List jv} (hm : ∀ a0 a1 a2 a3 a4 a5, f a0 a1 a2 a3 a4 a5 → g a0 a1 a2 a3 a4 a5) (h : rC_riiiil f l) : rC_riiiil g l := by
  obtain ⟨a0, a1, a2, a3, a4, a5, rfl, h1⟩ := rC_riiiil_e h
  exact hm _ _ _ _ _ _ h1
def rC_riiil (f : Nat → Int → Int → Int → Int64 → Prop) : List jv → Prop
  | [.inr (.inr (some (.inl a0))), .inl a1, .inl a2, .inl a3, .inr (.inl a4)] => f a0 a1.toInt a2.toInt a3.toInt a4
  | _ => False
theorem rC_riiil_e {f : Nat → Int → Int → Int → Int64 → Prop} {l : List jv} (h : rC_riiil f l) : ∃ (a0 : Nat) (a1 : Int32) (a2 : Int32) (a3 : Int32) (a4 : Int64), l = [rR a0, rI a1, rI a2, rI a3, rL a4] ∧ f a0 a1.toInt a2.toInt a3.toInt a4 := by
  unfold rC_riiil at h
  split at h
  · exact ⟨_, _, _, _, _, rfl, h⟩
  · exact h.elim
theorem rC_riiil_m {f g : Nat → Int → Int → Int → Int64 → Prop} {l : List jv} (hm : ∀ a0 a1 a2 a3 a4, f a0 a1 a2 a3 a4 → g a0 a1 a2 a3 a4) (h : rC_riiil f l) : rC_riiil g l := by
  obtain ⟨a0, a1, a2, a3, a4, rfl, h1⟩ := rC_riiil_e h
  exact hm _ _ _ _ _ h1
def rC_ril (f : Nat → Int → Int64 → Prop) : List jv → Prop
  | [.inr (.inr (some (.inl a0))), .inl a1, .inr (.inl a2)] => f a0 a1.toInt a2
  | _ => False
theorem rC_ril_e {f : Nat → Int → Int64 → Prop} {l : List jv} (h : rC_ril f l) : ∃ (a0 : Nat) (a1 : Int32) (a2 : Int64), l = [rR a0, rI a1, rL a2] ∧ f a0 a1.toInt a2 := by
  unfold rC_ril at h
  split at h
  · exact ⟨_, _, _, rfl, h⟩
  · exact h.elim
theorem rC_ril_m {f g : Nat → Int → Int64 → Prop} {l : List jv} (hm : ∀ a0 a1 a2, f a0 a1 a2 → g a0 a1 a2) (h : rC_ril f l) : rC_ril g l := by
  obtain ⟨a0, a1, a2, rfl, h1⟩ := rC_ril_e h
  exact hm _ _ _ h1
def rC_vvv (f : jv → jv → jv → Prop) : List jv → Prop
  | [a0, a1, a2] => f a0 a1 a2
  | _ => False
theorem rC_vvv_e {f : jv → jv → jv → Prop} {l : List jv} (h : rC_vvv f l) : ∃ (a0 : jv) (a1 : jv) (a2 : jv), l = [a0, a1, a2] ∧ f a0 a1 a2 := by
  unfold rC_vvv at h
  split at h
  · exact ⟨_, _, _, rfl, h⟩
  · exact h.elim
theorem rC_vvv_m {f g : jv → jv → jv → Prop} {l : List jv} (hm : ∀ a0 a1 a2, f a0 a1 a2 → g a0 a1 a2) (h : rC_vvv f l) : rC_vvv g l := by
  obtain ⟨a0, a1, a2, rfl, h1⟩ := rC_vvv_e h
  exact hm _ _ _ h1
def rb_22 (K : Nat → Nat) (n : Nat) (p : rP) (vs : List jv) (σ : Nat → jcell) : Prop := rC_r (fun (a0 : Nat) => p.2 = none ∧ rRX K n σ a0 p.1) vs
def rb_23 (K : Nat → Nat) (n : Nat) (p : rP) (vs : List jv) (σ : Nat → jcell) : Prop := rC_ri (fun (a0 : Nat) (a1 : Int) => p.2 = none ∧ rUD K n σ a0 0 p.1 a1) vs
def rb_24 (K : Nat → Nat) (n : Nat) (p : rP) (vs : List jv) (σ : Nat → jcell) : Prop := rC_ (rGd p.1) vs
def rb_25 (K : Nat → Nat) (n : Nat) (p : rP) (vs : List jv) (σ : Nat → jcell) : Prop := rC_i (fun (a0 : Int) => rLm p.1 a0) vs
def rb_26 (K : Nat → Nat) (n : Nat) (p : rP) (vs : List jv) (σ : Nat → jcell) : Prop := rC_ri (fun (a0 : Nat) (a1 : Int) => p.2 = none ∧ rUD K n σ a0 1 p.1 a1) vs
def rb_27 (K : Nat → Nat) (n : Nat) (p : rP) (vs : List jv) (σ : Nat → jcell) : Prop := rC_ri (fun (a0 : Nat) (a1 : Int) => p.2 = none ∧ rUD K n σ a0 2 p.1 a1) vs
def rb_28 (K : Nat → Nat) (n : Nat) (p : rP) (vs : List jv) (σ : Nat → jcell) : Prop := rC_rii (fun (a0 : Nat) (a1 : Int) (a2 : Int) => p.2 = none ∧ rUD K n σ a0 a1 p.1 a2) vs
def rb_29 (K : Nat → Nat) (n : Nat) (p : rP) (vs : List jv) (σ : Nat → jcell) : Prop := rC_ii (fun (a0 : Int) (a1 : Int) => (a1 = 1 ∧ rGd (rMk p.1 a0)) ∨ (a1 = 0 ∧ ¬ rGd (rMk p.1 a0))) vs
def rb_30 (K : Nat → Nat) (n : Nat) (p : rP) (vs : List jv) (σ : Nat → jcell) : Prop := rC_il (fun (a0 : Int) (a1 : Int64) => ∀ u, 0 ≤ u → u ≤ 63 → (rBt a1 u ↔ rGO p.1 a0 u)) vs
def rb_31 (K : Nat → Nat) (n : Nat) (p : rP) (vs : List jv) (σ : Nat → jcell) : Prop := rC_i (fun (a0 : Int) => rLm p.1 a0 ∧ rGd (rMk p.1 a0)) vs
def rb_32 (K : Nat → Nat) (n : Nat) (p : rP) (vs : List jv) (σ : Nat → jcell) : Prop := rC_ii (fun (a0 : Int) (a1 : Int) => (a1 = 1 ∧ rCa p.1 a0) ∨ (a1 = 0 ∧ ¬ rCa p.1 a0)) vs
def rb_33 (K : Nat → Nat) (n : Nat) (p : rP) (vs : List jv) (σ : Nat → jcell) : Prop := rC_ii (fun (a0 : Int) (a1 : Int) => ∀ j, 56 * p.1.2.1 + (if a0 = 1 then 5 else 1) ≤ j → j < a1 → p.1.1 j = 0) vs
def rb_34 (K : Nat → Nat) (n : Nat) (p : rP) (vs : List jv) (σ : Nat → jcell) : Prop := rC_il (fun (a0 : Int) (a1 : Int64) => p.1.1 a0 % 8 = 6 ∧ ∀ u, 0 ≤ u → u ≤ 63 → (rBt a1 u ↔ rRe p.1.1 (p.1.1 a0 % 8) a0 u ∨ (rCa p.1 1 ∧ u = a0 + 2))) vs
def rb_35 (K : Nat → Nat) (n : Nat) (p : rP) (vs : List jv) (σ : Nat → jcell) : Prop := rC_ii (fun (a0 : Int) (a1 : Int) => a1 = rSp a0 0 (rUpw p.1)) vs
def rb_36 (K : Nat → Nat) (n : Nat) (p : rP) (vs : List jv) (σ : Nat → jcell) : Prop := rC_ii (fun (a0 : Int) (a1 : Int) => a1 = rSp a0 0 (rUpw p.1)) vs
def rb_37 (K : Nat → Nat) (n : Nat) (p : rP) (vs : List jv) (σ : Nat → jcell) : Prop := rC_ii (fun (a0 : Int) (a1 : Int) => p.1.1 a0 = a1) vs
def rb_38 (K : Nat → Nat) (n : Nat) (p : rP) (vs : List jv) (σ : Nat → jcell) : Prop := rC_iil (fun (a0 : Int) (a1 : Int) (a2 : Int64) => a1 = rSp a0 0 (rUpw p.1) ∧ p.1.1 a1 = 0 ∧ ∀ u, 0 ≤ u → u ≤ 63 → (rBt a2 u ↔ u = a1)) vs
def rb_39 (K : Nat → Nat) (n : Nat) (p : rP) (vs : List jv) (σ : Nat → jcell) : Prop := rC_il (fun (a0 : Int) (a1 : Int64) => ∀ u, 0 ≤ u → u ≤ 63 → (rBt a1 u ↔ rPF p.1 a0 u)) vs
def rb_40 (K : Nat → Nat) (n : Nat) (p : rP) (vs : List jv) (σ : Nat → jcell) : Prop := rC_iil (fun (a0 : Int) (a1 : Int) (a2 : Int64) => (a1 = -1 ∨ a1 = 1 ∨ a1 = 3) ∧ ∀ u, 0 ≤ u → u ≤ 63 → (rBt a2 u ↔ rPF p.1 a0 u ∨ ∃ f, f < a1 ∧ rPT p.1 a0 f u)) vs
def rb_41 (K : Nat → Nat) (n : Nat) (p : rP) (vs : List jv) (σ : Nat → jcell) : Prop := rC_iil (fun (a0 : Int) (a1 : Int) (a2 : Int64) => (a1 = -1 ∨ a1 = 1) ∧ ∀ u, 0 ≤ u → u ≤ 63 → (rBt a2 u ↔ rPF p.1 a0 u ∨ ∃ f, f < a1 + 2 ∧ rPT p.1 a0 f u)) vs
def rb_42 (K : Nat → Nat) (n : Nat) (p : rP) (vs : List jv) (σ : Nat → jcell) : Prop := rC_i (fun (a0 : Int) => rTk p.1 a0) vs
def rb_43 (K : Nat → Nat) (n : Nat) (p : rP) (vs : List jv) (σ : Nat → jcell) : Prop := rC_il (fun (a0 : Int) (a1 : Int64) => ∀ u, 0 ≤ u → u ≤ 63 → (rBt a1 u ↔ rPG p.1 a0 u)) vs
def rb_45 (K : Nat → Nat) (n : Nat) (p : rP) (vs : List jv) (σ : Nat → jcell) : Prop := rC_i (fun (a0 : Int) => rHas p.1.2.2.1 ((if a0 = 1 then 1 else 2) * (if p.1.2.1 = 0 then 1 else 4))) vs
def rb_46 (K : Nat → Nat) (n : Nat) (p : rP) (vs : List jv) (σ : Nat → jcell) : Prop := rC_iii (fun (a0 : Int) (a1 : Int) (a2 : Int) => a2 = rSp a0 a1 (rUpw p.1)) vs
def rb_47 (K : Nat → Nat) (n : Nat) (p : rP) (vs : List jv) (σ : Nat → jcell) : Prop := rC_i (fun (a0 : Int) => ¬ p.1.1 a0 % 8 = 1) vs
def rb_48 (K : Nat → Nat) (n : Nat) (p : rP) (vs : List jv) (σ : Nat → jcell) : Prop := rC_ri (fun (a0 : Nat) (a1 : Int) => p.2 = none ∧ rUD K n σ a0 3 p.1 a1) vs
def rb_49 (K : Nat → Nat) (n : Nat) (p : rP) (vs : List jv) (σ : Nat → jcell) : Prop := rC_r (fun (a0 : Nat) => p.2 = none ∧ ∃ c, 1 ≤ c ∧ c ≤ 2048 ∧ rCT K n σ a0 0 c ∧ rLF K n σ a0 0 c p.1) vs
def rb_50 (K : Nat → Nat) (n : Nat) (p : rP) (vs : List jv) (σ : Nat → jcell) : Prop := rC_ri (fun (a0 : Nat) (a1 : Int) => ∃ M, rMe K n σ a0 M ∧ (p.2 = none ∧ M = rM1 p.1 a1)) vs
def rb_51 (K : Nat → Nat) (n : Nat) (p : rP) (vs : List jv) (σ : Nat → jcell) : Prop := rC_ri (fun (a0 : Nat) (a1 : Int) => ∃ M, rMe K n σ a0 M ∧ (p.2 = none ∧ M = rM2 p.1 a1)) vs
def rb_52 (K : Nat → Nat) (n : Nat) (p : rP) (vs : List jv) (σ : Nat → jcell) : Prop := rC_ri (fun (a0 : Nat) (a1 : Int) => ∃ M, rMe K n σ a0 M ∧ (p.2 = none ∧ M = rM3 p.1 a1)) vs
def rb_53 (K : Nat → Nat) (n : Nat) (p : rP) (vs : List jv) (σ : Nat → jcell) : Prop := rC_ri (fun (a0 : Nat) (a1 : Int) => ∃ M, rMe K n σ a0 M ∧ (p.2 = none ∧ M = rM4 p.1 a1)) vs
def rb_54 (K : Nat → Nat) (n : Nat) (p : rP) (vs : List jv) (σ : Nat → jcell) : Prop := rC_rii (fun (a0 : Nat) (a1 : Int) (a2 : Int) => ∃ M, rMe K n σ a0 M ∧ (p.2 = none ∧ M = rM3 p.1 (a1 + 64 * a2))) vs
def rb_55 (K : Nat → Nat) (n : Nat) (p : rP) (vs : List jv) (σ : Nat → jcell) : Prop := rC_rii (fun (a0 : Nat) (a1 : Int) (a2 : Int) => ∃ M, rMe K n σ a0 M ∧ (p.2 = none ∧ M = rUp (rM3 p.1 (a1 + 64 * a2)) (rOv a1 a2) (rM3 p.1 (a1 + 64 * a2) (rCo a1 a2)))) vs
def rb_56 (K : Nat → Nat) (n : Nat) (p : rP) (vs : List jv) (σ : Nat → jcell) : Prop := rC_rii (fun (a0 : Nat) (a1 : Int) (a2 : Int) => ∃ M, rMe K n σ a0 M ∧ (p.2 = none ∧ M = rM4c p.1 (a1 + 64 * a2))) vs
def rb_57 (K : Nat → Nat) (n : Nat) (p : rP) (vs : List jv) (σ : Nat → jcell) : Prop := rC_rii (fun (a0 : Nat) (a1 : Int) (a2 : Int) => ∃ M, rMe K n σ a0 M ∧ (p.2 = none ∧ rIsC p.1 (a1 + 64 * a2) ∧ M = rT0c p.1 (a1 + 64 * a2))) vs
def rb_58 (K : Nat → Nat) (n : Nat) (p : rP) (vs : List jv) (σ : Nat → jcell) : Prop := rC_ri (fun (a0 : Nat) (a1 : Int) => ∃ M, rMe K n σ a0 M ∧ (p.2 = none ∧ M = rT0 p.1 a1)) vs
def rb_59 (K : Nat → Nat) (n : Nat) (p : rP) (vs : List jv) (σ : Nat → jcell) : Prop := rC_ri (fun (a0 : Nat) (a1 : Int) => ∃ M, rMe K n σ a0 M ∧ (p.2 = none ∧ M = rT1 p.1 a1)) vs
def rb_60 (K : Nat → Nat) (n : Nat) (p : rP) (vs : List jv) (σ : Nat → jcell) : Prop := rC_ri (fun (a0 : Nat) (a1 : Int) => ∃ M, rMe K n σ a0 M ∧ (p.2 = none ∧ M = rT2 p.1 a1)) vs
def rb_61 (K : Nat → Nat) (n : Nat) (p : rP) (vs : List jv) (σ : Nat → jcell) : Prop := rC_ri (fun (a0 : Nat) (a1 : Int) => ∃ M, rMe K n σ a0 M ∧ (p.2 = none ∧ M = rT3 p.1 a1)) vs
def rb_62 (K : Nat → Nat) (n : Nat) (p : rP) (vs : List jv) (σ : Nat → jcell) : Prop := rC_rii (fun (a0 : Nat) (a1 : Int) (a2 : Int) => ∃ M, rMe K n σ a0 M ∧ (p.2 = none ∧ rIsC p.1 (a1 + 64 * a2) ∧ M = rM4c p.1 (a1 + 64 * a2))) vs
def rb_63 (K : Nat → Nat) (n : Nat) (p : rP) (vs : List jv) (σ : Nat → jcell) : Prop := rC_rii (fun (a0 : Nat) (a1 : Int) (a2 : Int) => ∃ M, rMe K n σ a0 M ∧ (p.2 = none ∧ rIsC p.1 (a1 + 64 * a2) ∧ M = rUp (rM4c p.1 (a1 + 64 * a2)) (rCo a1 a2) (rM4c p.1 (a1 + 64 * a2) (rOv a1 a2)))) vs
def rb_64 (K : Nat → Nat) (n : Nat) (p : rP) (vs : List jv) (σ : Nat → jcell) : Prop := rC_ii (fun (a0 : Int) (a1 : Int) => a1 = rWh p.1 a0) vs
def rb_65 (K : Nat → Nat) (n : Nat) (p : rP) (vs : List jv) (σ : Nat → jcell) : Prop := rC_ii (fun (a0 : Int) (a1 : Int) => a1 = p.1.1 (rFr a0)) vs
def rb_66 (K : Nat → Nat) (n : Nat) (p : rP) (vs : List jv) (σ : Nat → jcell) : Prop := rC_ii (fun (a0 : Int) (a1 : Int) => a1 = p.1.1 (rWh p.1 a0)) vs
def rb_67 (K : Nat → Nat) (n : Nat) (p : rP) (vs : List jv) (σ : Nat → jcell) : Prop := rC_i (fun (a0 : Int) => a0 = p.1.2.1) vs
def rb_68 (K : Nat → Nat) (n : Nat) (p : rP) (vs : List jv) (σ : Nat → jcell) : Prop := rC_i (fun (a0 : Int) => a0 = p.1.2.2.1) vs
def rb_69 (K : Nat → Nat) (n : Nat) (p : rP) (vs : List jv) (σ : Nat → jcell) : Prop := rC_i (fun (a0 : Int) => a0 = p.1.2.2.2) vs
def rb_70 (K : Nat → Nat) (n : Nat) (p : rP) (vs : List jv) (σ : Nat → jcell) : Prop := rC_ii (fun (a0 : Int) (a1 : Int) => a1 = rAn (rAn p.1.2.2.1 (rLo (rFr a0))) (rLo (rTo a0))) vs
def rb_71 (K : Nat → Nat) (n : Nat) (p : rP) (vs : List jv) (σ : Nat → jcell) : Prop := rC_ii (fun (a0 : Int) (a1 : Int) => a1 = rNp p.1 a0) vs
def rb_72 (K : Nat → Nat) (n : Nat) (p : rP) (vs : List jv) (σ : Nat → jcell) : Prop := rC_i (fun (a0 : Int) => ¬ rNbr (rM4 p.1 a0) (rTo a0) (-1) (1 + 8 * (1 - p.1.2.1))) vs
def rb_73 (K : Nat → Nat) (n : Nat) (p : rP) (vs : List jv) (σ : Nat → jcell) : Prop := rC_ii (fun (a0 : Int) (a1 : Int) => rCB p.1 a0 0 a1) vs
def rb_74 (K : Nat → Nat) (n : Nat) (p : rP) (vs : List jv) (σ : Nat → jcell) : Prop := rC_iii (fun (a0 : Int) (a1 : Int) (a2 : Int) => rCB p.1 a0 a1 a2) vs
def rb_75 (K : Nat → Nat) (n : Nat) (p : rP) (vs : List jv) (σ : Nat → jcell) : Prop := rC_iiii (fun (a0 : Int) (a1 : Int) (a2 : Int) (a3 : Int) => rCJ p.1 a0 a1 a2 a3) vs
def rb_76 (K : Nat → Nat) (n : Nat) (p : rP) (vs : List jv) (σ : Nat → jcell) : Prop := rC_rii (fun (a0 : Nat) (a1 : Int) (a2 : Int) => p.2 = none ∧ a2 ≤ 2048 ∧ rLF K n σ a0 a1 a2 p.1) vs
def rb_77 (K : Nat → Nat) (n : Nat) (p : rP) (vs : List jv) (σ : Nat → jcell) : Prop := rC_rii (fun (a0 : Nat) (a1 : Int) (a2 : Int) => p.2 = none ∧ a2 ≤ 2048 ∧ rLF K n σ a0 a1 (a2 + 1) p.1) vs ∨ rC_riii (fun (a0 : Nat) (a1 : Int) (a2 : Int) (a3 : Int) => p.2 = none ∧ a2 ≤ 2048 ∧ rLF K n σ a0 (a1 + 1) a2 p.1) vs
def rb_78 (K : Nat → Nat) (n : Nat) (p : rP) (vs : List jv) (σ : Nat → jcell) : Prop := rC_i (fun (a0 : Int) => a0 = 0 → ∀ m, rLm p.1 m → ¬ rGd (rMk p.1 m)) vs
def rb_79 (K : Nat → Nat) (n : Nat) (p : rP) (vs : List jv) (σ : Nat → jcell) : Prop := rC_ii (fun (a0 : Int) (a1 : Int) => (a1 = 1 ∧ p.1.1 (rFr a0) % 8 = 1) ∨ (a1 = 0 ∧ ¬ p.1.1 (rFr a0) % 8 = 1)) vs
def rb_80 (K : Nat → Nat) (n : Nat) (p : rP) (vs : List jv) (σ : Nat → jcell) : Prop := rC_ri (fun (a0 : Nat) (a1 : Int) => p.2 = none ∧ a1 ≤ 2048 ∧ rLF K n σ a0 1 a1 p.1) vs
def rb_81 (K : Nat → Nat) (n : Nat) (p : rP) (vs : List jv) (σ : Nat → jcell) : Prop := rC_ii (fun (a0 : Int) (a1 : Int) => a1 = 1 - p.1.2.1) vs
def rb_82 (K : Nat → Nat) (n : Nat) (p : rP) (vs : List jv) (σ : Nat → jcell) : Prop := rC_ii (fun (a0 : Int) (a1 : Int) => 0 ≤ p.1.2.1 ∧ p.1.2.1 ≤ 1 ∧ ((a1 = 1 ∧ rOwn p.1 a0) ∨ (a1 = 0 ∧ ¬ rOwn p.1 a0))) vs
def rb_83 (K : Nat → Nat) (n : Nat) (p : rP) (vs : List jv) (σ : Nat → jcell) : Prop := rC_il (fun (a0 : Int) (a1 : Int64) => ∀ u, 0 ≤ u → u ≤ 63 → (rBt a1 u ↔ rOwn p.1 a0 ∧ rGO p.1 a0 u)) vs
def rb_84 (K : Nat → Nat) (n : Nat) (p : rP) (vs : List jv) (σ : Nat → jcell) : Prop := rC_iii (fun (a0 : Int) (a1 : Int) (a2 : Int) => rCB p.1 a0 (a1 + 1) a2) vs
def rb_85 (K : Nat → Nat) (n : Nat) (p : rP) (vs : List jv) (σ : Nat → jcell) : Prop := rC_ii (fun (a0 : Int) (a1 : Int) => rCB p.1 (a0 + 1) 0 a1) vs
def rb_86 (K : Nat → Nat) (n : Nat) (p : rP) (vs : List jv) (σ : Nat → jcell) : Prop := rC_iii (fun (a0 : Int) (a1 : Int) (a2 : Int) => (a2 = 1 ∧ rLs p.1 a0 a1) ∨ (a2 = 0 ∧ ¬ rLs p.1 a0 a1)) vs
def rb_87 (K : Nat → Nat) (n : Nat) (p : rP) (vs : List jv) (σ : Nat → jcell) : Prop := rC_iiii (fun (a0 : Int) (a1 : Int) (a2 : Int) (a3 : Int) => rCJ p.1 a0 a1 (a2 + 1) a3) vs
def rb_88 (K : Nat → Nat) (n : Nat) (p : rP) (vs : List jv) (σ : Nat → jcell) : Prop := rC_rii (fun (a0 : Nat) (a1 : Int) (a2 : Int) => rEN K n σ a0 a1 a2 p.1.1) vs
def rb_89 (K : Nat → Nat) (n : Nat) (p : rP) (vs : List jv) (σ : Nat → jcell) : Prop := rC_rii (fun (a0 : Nat) (a1 : Int) (a2 : Int) => rEN K n σ a0 a1 (a2 + 1) p.1.1) vs
def rb_90 (K : Nat → Nat) (n : Nat) (p : rP) (vs : List jv) (σ : Nat → jcell) : Prop := rC_ri (fun (a0 : Nat) (a1 : Int) => p.2 = none ∧ rAP K n σ a0 a1 p.1) vs
def rb_91 (K : Nat → Nat) (n : Nat) (p : rP) (vs : List jv) (σ : Nat → jcell) : Prop := rC_ri (fun (a0 : Nat) (a1 : Int) => p.2 = none ∧ ∃ c, c ≤ 2048 ∧ rCT K n σ a0 a1 c ∧ rLF K n σ a0 a1 c p.1) vs
def rb_92 (K : Nat → Nat) (n : Nat) (p : rP) (vs : List jv) (σ : Nat → jcell) : Prop := rC_rii (fun (a0 : Nat) (a1 : Int) (a2 : Int) => p.2 = none ∧ a2 ≤ 2048 ∧ rCT K n σ a0 a1 a2 ∧ rLF K n σ a0 a1 a2 p.1) vs
def rb_93 (K : Nat → Nat) (n : Nat) (p : rP) (vs : List jv) (σ : Nat → jcell) : Prop := rC_i (fun (a0 : Int) => rLm p.1 a0 ∧ rGd (rSh rS1 p [rR 0, rI (Int32.ofInt a0)]).1) vs
def rb_94 (K : Nat → Nat) (n : Nat) (p : rP) (vs : List jv) (σ : Nat → jcell) : Prop := rC_r (fun (a0 : Nat) => ∃ v : Int32, rOb K n σ a0 88 25 (rI v) ∧ rLm p.1 v.toInt ∧ rGd (rSh rS1 p [rR 0, rI (Int32.ofInt v.toInt)]).1) vs
def rb_95 (K : Nat → Nat) (n : Nat) (p : rP) (vs : List jv) (σ : Nat → jcell) : Prop := rC_ (∃ m, rLm p.1 m ∧ rGd (rMk p.1 m)) vs
def rb_96 (K : Nat → Nat) (n : Nat) (p : rP) (vs : List jv) (σ : Nat → jcell) : Prop := rC_ri (fun (a0 : Nat) (a1 : Int) => ∃ g a, (rRw K n σ a0 105 4 g ∨ rRw K n σ a0 107 4 g) ∧ rLn a p g 0 a1.toNat) vs
def rb_97 (K : Nat → Nat) (n : Nat) (p : rP) (vs : List jv) (σ : Nat → jcell) : Prop := rC_rii (fun (a0 : Nat) (a1 : Int) (a2 : Int) => ∃ g, rRo K n σ a0 88 33 107 4 g ∧ rLn a0 p g a1.toNat a2.toNat) vs ∨ rC_riii (fun (a0 : Nat) (a1 : Int) (a2 : Int) (a3 : Int) => a3 = 1 → ∃ g, rRo K n σ a0 88 33 107 4 g ∧ rLn a0 p g a1.toNat a2.toNat) vs
def rb_98 (K : Nat → Nat) (n : Nat) (p : rP) (vs : List jv) (σ : Nat → jcell) : Prop := rC_ri (fun (a0 : Nat) (a1 : Int) => p.2 = none ∧ a1 ≤ 2048 ∧ rCT K n σ a0 0 a1 ∧ rLF K n σ a0 0 a1 p.1) vs
def rb_99 (K : Nat → Nat) (n : Nat) (p : rP) (vs : List jv) (σ : Nat → jcell) : Prop := rC_ri (fun (a0 : Nat) (a1 : Int) => p.2 = none ∧ a1 ≤ 2048 ∧ rLF K n σ a0 0 a1 p.1) vs
def rb_100 (K : Nat → Nat) (n : Nat) (vs : List jv) (σ : Nat → jcell) : Prop := rC_vvv (fun (a0 : jv) (a1 : jv) (a2 : jv) => aOv 0 a0 a1 a2) vs
def rb_101 (K : Nat → Nat) (n : Nat) (vs : List jv) (σ : Nat → jcell) : Prop := rC_vvv (fun (a0 : jv) (a1 : jv) (a2 : jv) => aOv 1 a0 a1 a2) vs
def rb_102 (K : Nat → Nat) (n : Nat) (vs : List jv) (σ : Nat → jcell) : Prop := rC_vvv (fun (a0 : jv) (a1 : jv) (a2 : jv) => aOv 2 a0 a1 a2) vs
def rb_103 (K : Nat → Nat) (n : Nat) (vs : List jv) (σ : Nat → jcell) : Prop := rC_vvv (fun (a0 : jv) (a1 : jv) (a2 : jv) => aOv 3 a0 a1 a2) vs
def rb_104 (K : Nat → Nat) (n : Nat) (vs : List jv) (σ : Nat → jcell) : Prop := rC_vvv (fun (a0 : jv) (a1 : jv) (a2 : jv) => aOv 4 a0 a1 a2) vs
def rb_105 (K : Nat → Nat) (n : Nat) (vs : List jv) (σ : Nat → jcell) : Prop := rC_vvv (fun (a0 : jv) (a1 : jv) (a2 : jv) => aOv 5 a0 a1 a2) vs
def rb_106 (K : Nat → Nat) (n : Nat) (vs : List jv) (σ : Nat → jcell) : Prop := rC_vvv (fun (a0 : jv) (a1 : jv) (a2 : jv) => aOv 6 a0 a1 a2) vs
def rb_107 (K : Nat → Nat) (n : Nat) (vs : List jv) (σ : Nat → jcell) : Prop := rC_vvv (fun (a0 : jv) (a1 : jv) (a2 : jv) => aOv 7 a0 a1 a2) vs
def rb_108 (K : Nat → Nat) (n : Nat) (vs : List jv) (σ : Nat → jcell) : Prop := rC_vvv (fun (a0 : jv) (a1 : jv) (a2 : jv) => aOv 8 a0 a1 a2) vs
def rb_109 (K : Nat → Nat) (n : Nat) (vs : List jv) (σ : Nat → jcell) : Prop := rC_vvv (fun (a0 : jv) (a1 : jv) (a2 : jv) => aOv 9 a0 a1 a2) vs
def rb_110 (K : Nat → Nat) (n : Nat) (vs : List jv) (σ : Nat → jcell) : Prop := rC_vvv (fun (a0 : jv) (a1 : jv) (a2 : jv) => aOv 10 a0 a1 a2) vs
def rb_111 (K : Nat → Nat) (n : Nat) (vs : List jv) (σ : Nat → jcell) : Prop := rC_vvv (fun (a0 : jv) (a1 : jv) (a2 : jv) => aOv 11 a0 a1 a2) vs
def rb_112 (K : Nat → Nat) (n : Nat) (vs : List jv) (σ : Nat → jcell) : Prop := rC_vvv (fun (a0 : jv) (a1 : jv) (a2 : jv) => aOv 12 a0 a1 a2) vs
def rb_113 (K : Nat → Nat) (n : Nat) (vs : List jv) (σ : Nat → jcell) : Prop := rC_vvv (fun (a0 : jv) (a1 : jv) (a2 : jv) => aOv 13 a0 a1 a2) vs
def rb_114 (K : Nat → Nat) (n : Nat) (vs : List jv) (σ : Nat → jcell) : Prop := rC_vvv (fun (a0 : jv) (a1 : jv) (a2 : jv) => aOv 14 a0 a1 a2) vs
def rb_115 (K : Nat → Nat) (n : Nat) (vs : List jv) (σ : Nat → jcell) : Prop := rC_vvv (fun (a0 : jv) (a1 : jv) (a2 : jv) => aOv 15 a0 a1 a2) vs
def rb_116 (K : Nat → Nat) (n : Nat) (vs : List jv) (σ : Nat → jcell) : Prop := rC_vvv (fun (a0 : jv) (a1 : jv) (a2 : jv) => aOv 16 a0 a1 a2) vs
def rb_117 (K : Nat → Nat) (n : Nat) (vs : List jv) (σ : Nat → jcell) : Prop := rC_vvv (fun (a0 : jv) (a1 : jv) (a2 : jv) => aOv 17 a0 a1 a2) vs
def rb_120 (K : Nat → Nat) (n : Nat) (vs : List jv) (σ : Nat → jcell) : Prop := rC_iiii (fun (a0 : Int) (a1 : Int) (a2 : Int) (a3 : Int) => a3 = rSp a0 a1 a2) vs
def rb_121 (K : Nat → Nat) (n : Nat) (vs : List jv) (σ : Nat → jcell) : Prop := rC_iii (fun (a0 : Int) (a1 : Int) (a2 : Int) => (a2 = 1 ∧ 0 ≤ a0 ∧ a0 ≤ 7 ∧ 0 ≤ a1 ∧ a1 ≤ 7) ∨ (a2 = 0 ∧ ¬ (0 ≤ a0 ∧ a0 ≤ 7 ∧ 0 ≤ a1 ∧ a1 ≤ 7))) vs
def rb_122 (K : Nat → Nat) (n : Nat) (vs : List jv) (σ : Nat → jcell) : Prop := rC_riii (fun (a0 : Nat) (a1 : Int) (a2 : Int) (a3 : Int) => ∃ M, rMe K n σ a0 M ∧ ((a3 = 1 ∧ 0 ≤ a1 ∧ M a1 = a2) ∨ (a3 = 0 ∧ ¬ (0 ≤ a1 ∧ M a1 = a2)))) vs
def rb_123 (K : Nat → Nat) (n : Nat) (vs : List jv) (σ : Nat → jcell) : Prop := rC_riiii (fun (a0 : Nat) (a1 : Int) (a2 : Int) (a3 : Int) (a4 : Int) => ∃ M, rMe K n σ a0 M ∧ (∀ m, rGf M a2 a3 a4 m → rGf M a2 a3 (rSp a1 a2 a3) m)) vs
def rb_124 (K : Nat → Nat) (n : Nat) (vs : List jv) (σ : Nat → jcell) : Prop := rC_riiii (fun (a0 : Nat) (a1 : Int) (a2 : Int) (a3 : Int) (a4 : Int) => ∃ M, rMe K n σ a0 M ∧ (∀ m, rGf M a2 a3 (rSp a4 a2 a3) m → rGf M a2 a3 (rSp a1 a2 a3) m)) vs
def rb_125 (K : Nat → Nat) (n : Nat) (vs : List jv) (σ : Nat → jcell) : Prop := rC_riiii (fun (a0 : Nat) (a1 : Int) (a2 : Int) (a3 : Int) (a4 : Int) => ∃ M, rMe K n σ a0 M ∧ (rGf M a2 a3 (rSp a1 a2 a3) a4)) vs
def rb_126 (K : Nat → Nat) (n : Nat) (vs : List jv) (σ : Nat → jcell) : Prop := rC_rii (fun (a0 : Nat) (a1 : Int) (a2 : Int) => ∃ M, rMe K n σ a0 M ∧ (¬ rP1 M a1 a2 (-1))) vs
def rb_127 (K : Nat → Nat) (n : Nat) (vs : List jv) (σ : Nat → jcell) : Prop := rC_rii (fun (a0 : Nat) (a1 : Int) (a2 : Int) => ∃ M, rMe K n σ a0 M ∧ (¬ rP1 M a1 a2 (-1) ∧ ¬ rP1 M a1 a2 1)) vs
def rb_128 (K : Nat → Nat) (n : Nat) (vs : List jv) (σ : Nat → jcell) : Prop := rC_riii (fun (a0 : Nat) (a1 : Int) (a2 : Int) (a3 : Int) => ∃ M, rMe K n σ a0 M ∧ (¬ rP1 M a1 a2 (-1) ∧ ¬ rP1 M a1 a2 1 ∧ ∀ f r, -2 ≤ f → f < a3 → -2 ≤ r → r ≤ 2 → ¬ rA1 M a1 a2 f r)) vs
def rb_129 (K : Nat → Nat) (n : Nat) (vs : List jv) (σ : Nat → jcell) : Prop := rC_riiii (fun (a0 : Nat) (a1 : Int) (a2 : Int) (a3 : Int) (a4 : Int) => ∃ M, rMe K n σ a0 M ∧ (¬ rP1 M a1 a2 (-1) ∧ ¬ rP1 M a1 a2 1 ∧ (∀ f r, -2 ≤ f → f < a3 → -2 ≤ r → r ≤ 2 → ¬ rA1 M a1 a2 f r) ∧ ∀ r, -2 ≤ r → r < a4 → ¬ rA1 M a1 a2 a3 r)) vs
def rb_130 (K : Nat → Nat) (n : Nat) (vs : List jv) (σ : Nat → jcell) : Prop := rC_riiii (fun (a0 : Nat) (a1 : Int) (a2 : Int) (a3 : Int) (a4 : Int) => ∃ M, rMe K n σ a0 M ∧ (¬ rP1 M a1 a2 (-1) ∧ ¬ rP1 M a1 a2 1 ∧ (∀ f r, -2 ≤ f → f < a3 → -2 ≤ r → r ≤ 2 → ¬ rA1 M a1 a2 f r) ∧ ∀ r, -2 ≤ r → r < a4 + 1 → ¬ rA1 M a1 a2 a3 r)) vs
def rb_131 (K : Nat → Nat) (n : Nat) (vs : List jv) (σ : Nat → jcell) : Prop := rC_rii (fun (a0 : Nat) (a1 : Int) (a2 : Int) => ∃ M, rMe K n σ a0 M ∧ (rAk M a1 a2)) vs
def rb_132 (K : Nat → Nat) (n : Nat) (vs : List jv) (σ : Nat → jcell) : Prop := rC_riii (fun (a0 : Nat) (a1 : Int) (a2 : Int) (a3 : Int) => ∃ M, rMe K n σ a0 M ∧ ((a3 = 1 ∧ rAk M a1 a2) ∨ (a3 = 0 ∧ ¬ rAk M a1 a2))) vs
def rb_133 (K : Nat → Nat) (n : Nat) (vs : List jv) (σ : Nat → jcell) : Prop := rC_ii (fun (a0 : Int) (a1 : Int) => ¬ a0 = a1 + 5) vs
def rb_134 (K : Nat → Nat) (n : Nat) (vs : List jv) (σ : Nat → jcell) : Prop := rC_iii (fun (a0 : Int) (a1 : Int) (a2 : Int) => (a2 = 1 → ¬ a0 = a1 + 4) ∧ (a2 = 2 → ¬ a0 = a1 + 3)) vs
def rb_135 (K : Nat → Nat) (n : Nat) (vs : List jv) (σ : Nat → jcell) : Prop := rC_ii (fun (a0 : Int) (a1 : Int) => True) vs
def rb_136 (K : Nat → Nat) (n : Nat) (vs : List jv) (σ : Nat → jcell) : Prop := rC_i (fun (a0 : Int) => True) vs
def rb_137 (K : Nat → Nat) (n : Nat) (vs : List jv) (σ : Nat → jcell) : Prop := rC_rii (fun (a0 : Nat) (a1 : Int) (a2 : Int) => ∃ M, rMe K n σ a0 M ∧ (∀ j, 0 ≤ j → j < a2 → ¬ M j = 8 * a1 + 6)) vs
def rb_138 (K : Nat → Nat) (n : Nat) (vs : List jv) (σ : Nat → jcell) : Prop := rC_rii (fun (a0 : Nat) (a1 : Int) (a2 : Int) => ∃ M, rMe K n σ a0 M ∧ (rKg M a1 a2)) vs
def rb_139 (K : Nat → Nat) (n : Nat) (vs : List jv) (σ : Nat → jcell) : Prop := rC_r (fun (a0 : Nat) => ∃ M, rMe K n σ a0 M ∧ (rKs M)) vs
def rb_140 (K : Nat → Nat) (n : Nat) (vs : List jv) (σ : Nat → jcell) : Prop := rC_rii (fun (a0 : Nat) (a1 : Int) (a2 : Int) => ∃ M, rMe K n σ a0 M ∧ (∃ s, rKg M a1 s ∧ ((a2 = 1 ∧ rAk M s (1 - a1)) ∨ (a2 = 0 ∧ ¬ rAk M s (1 - a1))))) vs
def rb_141 (K : Nat → Nat) (n : Nat) (vs : List jv) (σ : Nat → jcell) : Prop := rC_il (fun (a0 : Int) (a1 : Int64) => ∀ u, 0 ≤ u → u ≤ 63 → (rBt a1 u ↔ u = a0)) vs
def rb_142 (K : Nat → Nat) (n : Nat) (vs : List jv) (σ : Nat → jcell) : Prop := rC_riiiil (fun (a0 : Nat) (a1 : Int) (a2 : Int) (a3 : Int) (a4 : Int) (a5 : Int64) => ∃ M, rMe K n σ a0 M ∧ (∀ u, 0 ≤ u → u ≤ 63 → (rWf M a2 a3 (rSp a1 a2 a3) u ↔ rBt a5 u ∨ rWf M a2 a3 a4 u))) vs
def rb_143 (K : Nat → Nat) (n : Nat) (vs : List jv) (σ : Nat → jcell) : Prop := rC_riiiil (fun (a0 : Nat) (a1 : Int) (a2 : Int) (a3 : Int) (a4 : Int) (a5 : Int64) => ∃ M, rMe K n σ a0 M ∧ (∀ u, 0 ≤ u → u ≤ 63 → (rWf M a2 a3 (rSp a1 a2 a3) u ↔ rBt a5 u ∨ (M a4 = 0 ∧ rWf M a2 a3 (rSp a4 a2 a3) u)))) vs
def rb_144 (K : Nat → Nat) (n : Nat) (vs : List jv) (σ : Nat → jcell) : Prop := rC_riiil (fun (a0 : Nat) (a1 : Int) (a2 : Int) (a3 : Int) (a4 : Int64) => ∃ M, rMe K n σ a0 M ∧ (∀ u, 0 ≤ u → u ≤ 63 → (rWf M a2 a3 (rSp a1 a2 a3) u ↔ rBt a4 u))) vs
def rb_145 (K : Nat → Nat) (n : Nat) (vs : List jv) (σ : Nat → jcell) : Prop := rC_rii (fun (a0 : Nat) (a1 : Int) (a2 : Int) => ∃ M, rMe K n σ a0 M ∧ (∀ j, 0 ≤ j → j < a2 + 1 → ¬ M j = 8 * a1 + 6)) vs
def rb_146 (K : Nat → Nat) (n : Nat) (vs : List jv) (σ : Nat → jcell) : Prop := rC_riiiil (fun (a0 : Nat) (a1 : Int) (a2 : Int) (a3 : Int) (a4 : Int) (a5 : Int64) => ∃ M, rMe K n σ a0 M ∧ (∀ u, 0 ≤ u → u ≤ 63 → (rWf M a2 a3 (rSp a1 a2 a3) u ↔ rBt a5 u ∨ rWf M a2 a3 (rSp a4 a2 a3) u))) vs
def rb_147 (K : Nat → Nat) (n : Nat) (vs : List jv) (σ : Nat → jcell) : Prop := rC_ii (fun (a0 : Int) (a1 : Int) => a1 = a0 % 8) vs
def rb_148 (K : Nat → Nat) (n : Nat) (vs : List jv) (σ : Nat → jcell) : Prop := rC_rii (fun (a0 : Nat) (a1 : Int) (a2 : Int) => ∃ M, rMe K n σ a0 M ∧ (a2 = M a1 % 8)) vs
def rb_149 (K : Nat → Nat) (n : Nat) (vs : List jv) (σ : Nat → jcell) : Prop := rC_riiil (fun (a0 : Nat) (a1 : Int) (a2 : Int) (a3 : Int) (a4 : Int64) => ∃ M, rMe K n σ a0 M ∧ (a2 = M a1 % 8 ∧ ∀ u, 0 ≤ u → u ≤ 63 → (rBt a4 u ↔ ∃ f r, -2 ≤ f ∧ f < a3 ∧ -2 ≤ r ∧ r ≤ 2 ∧ rR1 M a2 a1 f r u))) vs
def rb_150 (K : Nat → Nat) (n : Nat) (vs : List jv) (σ : Nat → jcell) : Prop := rC_riiiil (fun (a0 : Nat) (a1 : Int) (a2 : Int) (a3 : Int) (a4 : Int) (a5 : Int64) => ∃ M, rMe K n σ a0 M ∧ (a2 = M a1 % 8 ∧ ∀ u, 0 ≤ u → u ≤ 63 → (rBt a5 u ↔ ∃ f r, -2 ≤ f ∧ (f < a3 ∨ (f = a3 ∧ r < a4)) ∧ -2 ≤ r ∧ r ≤ 2 ∧ rR1 M a2 a1 f r u))) vs
def rb_151 (K : Nat → Nat) (n : Nat) (vs : List jv) (σ : Nat → jcell) : Prop := rC_riiiil (fun (a0 : Nat) (a1 : Int) (a2 : Int) (a3 : Int) (a4 : Int) (a5 : Int64) => ∃ M, rMe K n σ a0 M ∧ (a2 = M a1 % 8 ∧ ∀ u, 0 ≤ u → u ≤ 63 → (rBt a5 u ↔ ∃ f r, -2 ≤ f ∧ (f < a3 ∨ (f = a3 ∧ r < a4 + 1)) ∧ -2 ≤ r ∧ r ≤ 2 ∧ rR1 M a2 a1 f r u))) vs
def rb_152 (K : Nat → Nat) (n : Nat) (vs : List jv) (σ : Nat → jcell) : Prop := rC_riiil (fun (a0 : Nat) (a1 : Int) (a2 : Int) (a3 : Int) (a4 : Int64) => ∃ M, rMe K n σ a0 M ∧ (a2 = M a1 % 8 ∧ ∀ u, 0 ≤ u → u ≤ 63 → (rBt a4 u ↔ ∃ f r, -2 ≤ f ∧ f < a3 + 1 ∧ -2 ≤ r ∧ r ≤ 2 ∧ rR1 M a2 a1 f r u))) vs
def rb_153 (K : Nat → Nat) (n : Nat) (vs : List jv) (σ : Nat → jcell) : Prop := rC_ril (fun (a0 : Nat) (a1 : Int) (a2 : Int64) => ∃ M, rMe K n σ a0 M ∧ (∀ u, 0 ≤ u → u ≤ 63 → (rBt a2 u ↔ rRe M (M a1 % 8) a1 u))) vs
def rb_154 (K : Nat → Nat) (n : Nat) (vs : List jv) (σ : Nat → jcell) : Prop := rC_ii (fun (a0 : Int) (a1 : Int) => a1 = a0 * a0) vs
def rb_155 (K : Nat → Nat) (n : Nat) (vs : List jv) (σ : Nat → jcell) : Prop := rC_iii (fun (a0 : Int) (a1 : Int) (a2 : Int) => a2 = a0 * a0 + a1 * a1) vs
def rb_156 (K : Nat → Nat) (n : Nat) (vs : List jv) (σ : Nat → jcell) : Prop := rC_riii (fun (a0 : Nat) (a1 : Int) (a2 : Int) (a3 : Int) => ∃ M, rMe K n σ a0 M ∧ ((a3 = 1 ∧ ¬ M a1 = 0 ∧ M a1 / 8 = a2) ∨ (a3 = 0 ∧ ¬ (¬ M a1 = 0 ∧ M a1 / 8 = a2)))) vs
def rb_157 (K : Nat → Nat) (n : Nat) (vs : List jv) (σ : Nat → jcell) : Prop := rC_ii (fun (a0 : Int) (a1 : Int) => a1 = a0 / 8) vs
def rb_160 (K : Nat → Nat) (n : Nat) (vs : List jv) (σ : Nat → jcell) : Prop := rC_iiii (fun (a0 : Int) (a1 : Int) (a2 : Int) (a3 : Int) => a1 = rFr a0 ∧ a2 = rTo a0 ∧ a3 = rBc a0) vs
def rb_161 (K : Nat → Nat) (n : Nat) (vs : List jv) (σ : Nat → jcell) : Prop := rC_iii (fun (a0 : Int) (a1 : Int) (a2 : Int) => (a1 = a0 + 2 ∨ a1 = a0 - 2) ∧ (a0 = 4 ∨ a0 = 60) ∧ a2 = 0) vs
def rb_162 (K : Nat → Nat) (n : Nat) (vs : List jv) (σ : Nat → jcell) : Prop := rC_ii (fun (a0 : Int) (a1 : Int) => a1 = rLo a0) vs
def rb_163 (K : Nat → Nat) (n : Nat) (vs : List jv) (σ : Nat → jcell) : Prop := rC_iii (fun (a0 : Int) (a1 : Int) (a2 : Int) => a2 = rAn a1 (rLo a0)) vs
def rb_164 (K : Nat → Nat) (n : Nat) (vs : List jv) (σ : Nat → jcell) : Prop := rC_li (fun (a0 : Int64) (a1 : Int) => rBt a0 a1) vs
def rb_167 (K : Nat → Nat) (n : Nat) (vs : List jv) (σ : Nat → jcell) : Prop := rC_lil (fun (a0 : Int64) (a1 : Int) (a2 : Int64) => a2 = a0 >>> ((Int32.ofInt a1).toInt64 &&& 63)) vs
def rb_168 (K : Nat → Nat) (n : Nat) (vs : List jv) (σ : Nat → jcell) : Prop := rC_rii (fun (a0 : Nat) (a1 : Int) (a2 : Int) => rCT K n σ a0 a1 a2) vs
def rb_169 (K : Nat → Nat) (n : Nat) (vs : List jv) (σ : Nat → jcell) : Prop := rC_ii (fun (a0 : Int) (a1 : Int) => (a1 = a0 + 2 ∨ a1 = a0 - 2) ∧ (a0 = 4 ∨ a0 = 60)) vs
def rb_170 (K : Nat → Nat) (n : Nat) (vs : List jv) (σ : Nat → jcell) : Prop := rC_ri (fun (a0 : Nat) (a1 : Int) => rPG0 K n σ a0 a1) vs
def rb_171 (K : Nat → Nat) (n : Nat) (vs : List jv) (σ : Nat → jcell) : Prop := rC_ri (fun (a0 : Nat) (a1 : Int) => rPG0 K n σ a0 (a1 + 1)) vs
def rb_172 (K : Nat → Nat) (n : Nat) (vs : List jv) (σ : Nat → jcell) : Prop := rC_rii (fun (a0 : Nat) (a1 : Int) (a2 : Int) => rPG0 K n σ a0 (a1 + a2)) vs
def rb_173 (K : Nat → Nat) (n : Nat) (vs : List jv) (σ : Nat → jcell) : Prop := rC_rii (fun (a0 : Nat) (a1 : Int) (a2 : Int) => rPG0 K n σ a0 (a1 + a2 + 1)) vs
def rb_174 (K : Nat → Nat) (n : Nat) (vs : List jv) (σ : Nat → jcell) : Prop := rC_rii (fun (a0 : Nat) (a1 : Int) (a2 : Int) => a2 = 1 → rAS K n σ a0 a1 64) vs
def rb_175 (K : Nat → Nat) (n : Nat) (vs : List jv) (σ : Nat → jcell) : Prop := rC_rii (fun (a0 : Nat) (a1 : Int) (a2 : Int) => a2 = 1 → rAS K n σ a0 a1 0) vs
def rb_176 (K : Nat → Nat) (n : Nat) (vs : List jv) (σ : Nat → jcell) : Prop := rC_riii (fun (a0 : Nat) (a1 : Int) (a2 : Int) (a3 : Int) => a3 = 1 → rAS K n σ a0 a1 a2) vs
def rb_177 (K : Nat → Nat) (n : Nat) (vs : List jv) (σ : Nat → jcell) : Prop := rC_riii (fun (a0 : Nat) (a1 : Int) (a2 : Int) (a3 : Int) => a3 = 1 → rAS K n σ a0 a1 (a2 + 1)) vs
def rb_179 (K : Nat → Nat) (n : Nat) (vs : List jv) (σ : Nat → jcell) : Prop := rC_ri (fun (a0 : Nat) (a1 : Int) => ∃ c, 1 ≤ c ∧ rCT K n σ a0 a1 c) vs
def rb_181 (K : Nat → Nat) (n : Nat) (vs : List jv) (σ : Nat → jcell) : Prop := rC_rii (fun (a0 : Nat) (a1 : Int) (a2 : Int) => a2 = 0 → ∃ c, 1 ≤ c ∧ rCT K n σ a0 a1 c) vs
def rb_182 (K : Nat → Nat) (n : Nat) (vs : List jv) (σ : Nat → jcell) : Prop := rC_ri (fun (a0 : Nat) (a1 : Int) => rHP K n σ a0 a1) vs ∨ rC_rii (fun (a0 : Nat) (a1 : Int) (a2 : Int) => a2 = 1 → rHP K n σ a0 a1) vs
def rb_183 (K : Nat → Nat) (n : Nat) (vs : List jv) (σ : Nat → jcell) : Prop := rC_ri (fun (a0 : Nat) (a1 : Int) => rHP K n σ a0 (a1 + 1)) vs
def rb_184 (K : Nat → Nat) (n : Nat) (vs : List jv) (σ : Nat → jcell) : Prop := rC_ri (fun (a0 : Nat) (a1 : Int) => ∃ g, rRw K n σ a0 105 4 g ∧ (g 0).toInt = a1) vs
def rb_185 (K : Nat → Nat) (n : Nat) (vs : List jv) (σ : Nat → jcell) : Prop := rC_ri (fun (a0 : Nat) (a1 : Int) => ∃ g, rRw K n σ a0 105 4 g ∧ (g 1).toInt = a1) vs
def rb_186 (K : Nat → Nat) (n : Nat) (vs : List jv) (σ : Nat → jcell) : Prop := rC_ri (fun (a0 : Nat) (a1 : Int) => ∃ g, rRw K n σ a0 105 4 g ∧ (g 2).toInt = a1) vs
def rb_187 (K : Nat → Nat) (n : Nat) (vs : List jv) (σ : Nat → jcell) : Prop := rC_ri (fun (a0 : Nat) (a1 : Int) => ∃ g, rRw K n σ a0 105 4 g ∧ (g 3).toInt = a1) vs
def rb_188 (K : Nat → Nat) (n : Nat) (vs : List jv) (σ : Nat → jcell) : Prop := rC_rii (fun (a0 : Nat) (a1 : Int) (a2 : Int) => 0 ≤ a1 ∧ ∃ g, rRo K n σ a0 88 34 108 4 g ∧ (g a1.toNat).toInt = a2) vs
def rb_189 (K : Nat → Nat) (n : Nat) (vs : List jv) (σ : Nat → jcell) : Prop := rC_rii (fun (a0 : Nat) (a1 : Int) (a2 : Int) => rSGN K n σ a0 a1 a2) vs
def rb_190 (K : Nat → Nat) (n : Nat) (vs : List jv) (σ : Nat → jcell) : Prop := rC_i (fun (a0 : Int) => True) vs
def rb_191 (K : Nat → Nat) (n : Nat) (vs : List jv) (σ : Nat → jcell) : Prop := rC_i (fun (a0 : Int) => True) vs
def rb_192 (K : Nat → Nat) (n : Nat) (vs : List jv) (σ : Nat → jcell) : Prop := rC_riii (fun (a0 : Nat) (a1 : Int) (a2 : Int) (a3 : Int) => ∃ M, rMe K n σ a0 M ∧ (a3 = rCnt M a1 a2.toNat)) vs
def rb_193 (K : Nat → Nat) (n : Nat) (vs : List jv) (σ : Nat → jcell) : Prop := rC_r (fun (a0 : Nat) => ∃ M, rMe K n σ a0 M ∧ (rCnt M 6 64 = 1)) vs ∨ rC_riii (fun (a0 : Nat) (a1 : Int) (a2 : Int) (a3 : Int) => ∃ M, rMe K n σ a0 M ∧ (a3 = rCnt M a1 (a2 + 1).toNat)) vs
def rb_194 (K : Nat → Nat) (n : Nat) (vs : List jv) (σ : Nat → jcell) : Prop := rC_rii (fun (a0 : Nat) (a1 : Int) (a2 : Int) => ∃ M, rMe K n σ a0 M ∧ (a2 = rCnt M a1 64)) vs
def rb_195 (K : Nat → Nat) (n : Nat) (vs : List jv) (σ : Nat → jcell) : Prop := rC_ri (fun (a0 : Nat) (a1 : Int) => a1 = 0 → rPSW K n σ a0) vs
def rb_197 (K : Nat → Nat) (n : Nat) (vs : List jv) (σ : Nat → jcell) : Prop := rC_ri (fun (a0 : Nat) (a1 : Int) => a1 = 0 → rFO K n σ a0) vs
def rb_198 (K : Nat → Nat) (n : Nat) (vs : List jv) (σ : Nat → jcell) : Prop := rC_ii (fun (a0 : Int) (a1 : Int) => True) vs
def rb_199 (K : Nat → Nat) (n : Nat) (vs : List jv) (σ : Nat → jcell) : Prop := rC_ii (fun (a0 : Int) (a1 : Int) => True) vs
def rTfllllll (K : Nat → Nat) (n : Nat) (k : Nat) (vs : List jv) (σ : Nat → jcell) : Prop := cond (Nat.beq k 100) (rb_100 K n vs σ) False
def rTflllllr (K : Nat → Nat) (n : Nat) (k : Nat) (vs : List jv) (σ : Nat → jcell) : Prop := cond (Nat.beq k 101) (rb_101 K n vs σ) False
def rTflllll (K : Nat → Nat) (n : Nat) (k : Nat) (vs : List jv) (σ : Nat → jcell) : Prop := cond (Nat.ble k 100) (rTfllllll K n k vs σ) (rTflllllr K n k vs σ)
def rTfllllrl (K : Nat → Nat) (n : Nat) (k : Nat) (vs : List jv) (σ : Nat → jcell) : Prop := cond (Nat.beq k 102) (rb_102 K n vs σ) False
def rTfllllrrl (K : Nat → Nat) (n : Nat) (k : Nat) (vs : List jv) (σ : Nat → jcell) : Prop := cond (Nat.beq k 103) (rb_103 K n vs σ) False
def rTfllllrrr (K : Nat → Nat) (n : Nat) (k : Nat) (vs : List jv) (σ : Nat → jcell) : Prop := cond (Nat.beq k 104) (rb_104 K n vs σ) False
def rTfllllrr (K : Nat → Nat) (n : Nat) (k : Nat) (vs : List jv) (σ : Nat → jcell) : Prop := cond (Nat.ble k 103) (rTfllllrrl K n k vs σ) (rTfllllrrr K n k vs σ)
def rTfllllr (K : Nat → Nat) (n : Nat) (k : Nat) (vs : List jv) (σ : Nat → jcell) : Prop := cond (Nat.ble k 102) (rTfllllrl K n k vs σ) (rTfllllrr K n k vs σ)
def rTfllll (K : Nat → Nat) (n : Nat) (k : Nat) (vs : List jv) (σ : Nat → jcell) : Prop := cond (Nat.ble k 101) (rTflllll K n k vs σ) (rTfllllr K n k vs σ)
def rTflllrll (K : Nat → Nat) (n : Nat) (k : Nat) (vs : List jv) (σ : Nat → jcell) : Prop := cond (Nat.beq k 105) (rb_105 K n vs σ) False
def rTflllrlrl (K : Nat → Nat) (n : Nat) (k : Nat) (vs : List jv) (σ : Nat → jcell) : Prop := cond (Nat.beq k 106) (rb_106 K n vs σ) False
def rTflllrlrr (K : Nat → Nat) (n : Nat) (k : Nat) (vs : List jv) (σ : Nat → jcell) : Prop := cond (Nat.beq k 107) (rb_107 K n vs σ) False
def rTflllrlr (K : Nat → Nat) (n : Nat) (k : Nat) (vs : List jv) (σ : Nat → jcell) : Prop := cond (Nat.ble k 106) (rTflllrlrl K n k vs σ) (rTflllrlrr K n k vs σ)
def rTflllrl (K : Nat → Nat) (n : Nat) (k : Nat) (vs : List jv) (σ : Nat → jcell) : Prop := cond (Nat.ble k 105) (rTflllrll K n k vs σ) (rTflllrlr K n k vs σ)
def rTflllrrl (K : Nat → Nat) (n : Nat) (k : Nat) (vs : List jv) (σ : Nat → jcell) : Prop := cond (Nat.beq k 108) (rb_108 K n vs σ) False
def rTflllrrrl (K : Nat → Nat) (n : Nat) (k : Nat) (vs : List jv) (σ : Nat → jcell) : Prop := cond (Nat.beq k 109) (rb_109 K n vs σ) False
def rTflllrrrr (K : Nat → Nat) (n : Nat) (k : Nat) (vs : List jv) (σ : Nat → jcell) : Prop := cond (Nat.beq k 110) (rb_110 K n vs σ) False
def rTflllrrr (K : Nat → Nat) (n : Nat) (k : Nat) (vs : List jv) (σ : Nat → jcell) : Prop := cond (Nat.ble k 109) (rTflllrrrl K n k vs σ) (rTflllrrrr K n k vs σ)
def rTflllrr (K : Nat → Nat) (n : Nat) (k : Nat) (vs : List jv) (σ : Nat → jcell) : Prop := cond (Nat.ble k 108) (rTflllrrl K n k vs σ) (rTflllrrr K n k vs σ)
def rTflllr (K : Nat → Nat) (n : Nat) (k : Nat) (vs : List jv) (σ : Nat → jcell) : Prop := cond (Nat.ble k 107) (rTflllrl K n k vs σ) (rTflllrr K n k vs σ)
def rTflll (K : Nat → Nat) (n : Nat) (k : Nat) (vs : List jv) (σ : Nat → jcell) : Prop := cond (Nat.ble k 104) (rTfllll K n k vs σ) (rTflllr K n k vs σ)
def rTfllrlll (K : Nat → Nat) (n : Nat) (k : Nat) (vs : List jv) (σ : Nat → jcell) : Prop := cond (Nat.beq k 111) (rb_111 K n vs σ) False
def rTfllrllr (K : Nat → Nat) (n : Nat) (k : Nat) (vs : List jv) (σ : Nat → jcell) : Prop := cond (Nat.beq k 112) (rb_112 K n vs σ) False
def rTfllrll (K : Nat → Nat) (n : Nat) (k : Nat) (vs : List jv) (σ : Nat → jcell) : Prop := cond (Nat.ble k 111) (rTfllrlll K n k vs σ) (rTfllrllr K n k vs σ)
def rTfllrlrl (K : Nat → Nat) (n : Nat) (k : Nat) (vs : List jv) (σ : Nat → jcell) : Prop := cond (Nat.beq k 113) (rb_113 K n vs σ) False
def rTfllrlrrl (K : Nat → Nat) (n : Nat) (k : Nat) (vs : List jv) (σ : Nat → jcell) : Prop := cond (Nat.beq k 114) (rb_114 K n vs σ) False
def rTfllrlrrr (K : Nat → Nat) (n : Nat) (k : Nat) (vs : List jv) (σ : Nat → jcell) : Prop := cond (Nat.beq k 115) (rb_115 K n vs σ) False
def rTfllrlrr (K : Nat → Nat) (n : Nat) (k : Nat) (vs : List jv) (σ : Nat → jcell) : Prop := cond (Nat.ble k 114) (rTfllrlrrl K n k vs σ) (rTfllrlrrr K n k vs σ)
def rTfllrlr (K : Nat → Nat) (n : Nat) (k : Nat) (vs : List jv) (σ : Nat → jcell) : Prop := cond (Nat.ble k 113) (rTfllrlrl K n k vs σ) (rTfllrlrr K n k vs σ)
def rTfllrl (K : Nat → Nat) (n : Nat) (k : Nat) (vs : List jv) (σ : Nat → jcell) : Prop := cond (Nat.ble k 112) (rTfllrll K n k vs σ) (rTfllrlr K n k vs σ)
def rTfllrrll (K : Nat → Nat) (n : Nat) (k : Nat) (vs : List jv) (σ : Nat → jcell) : Prop := cond (Nat.beq k 116) (rb_116 K n vs σ) False
def rTfllrrlrl (K : Nat → Nat) (n : Nat) (k : Nat) (vs : List jv) (σ : Nat → jcell) : Prop := cond (Nat.beq k 117) (rb_117 K n vs σ) False
def rTfllrrlrr (K : Nat → Nat) (n : Nat) (k : Nat) (vs : List jv) (σ : Nat → jcell) : Prop := cond (Nat.beq k 120) (rb_120 K n vs σ) False
def rTfllrrlr (K : Nat → Nat) (n : Nat) (k : Nat) (vs : List jv) (σ : Nat → jcell) : Prop := cond (Nat.ble k 117) (rTfllrrlrl K n k vs σ) (rTfllrrlrr K n k vs σ)
def rTfllrrl (K : Nat → Nat) (n : Nat) (k : Nat) (vs : List jv) (σ : Nat → jcell) : Prop := cond (Nat.ble k 116) (rTfllrrll K n k vs σ) (rTfllrrlr K n k vs σ)
def rTfllrrrl (K : Nat → Nat) (n : Nat) (k : Nat) (vs : List jv) (σ : Nat → jcell) : Prop := cond (Nat.beq k 121) (rb_121 K n vs σ) False
def rTfllrrrrl (K : Nat → Nat) (n : Nat) (k : Nat) (vs : List jv) (σ : Nat → jcell) : Prop := cond (Nat.beq k 122) (rb_122 K n vs σ) False
def rTfllrrrrr (K : Nat → Nat) (n : Nat) (k : Nat) (vs : List jv) (σ : Nat → jcell) : Prop := cond (Nat.beq k 123) (rb_123 K n vs σ) False
def rTfllrrrr (K : Nat → Nat) (n : Nat) (k : Nat) (vs : List jv) (σ : Nat → jcell) : Prop := cond (Nat.ble k 122) (rTfllrrrrl K n k vs σ) (rTfllrrrrr K n k vs σ)
def rTfllrrr (K : Nat → Nat) (n : Nat) (k : Nat) (vs : List jv) (σ : Nat → jcell) : Prop := cond (Nat.ble k 121) (rTfllrrrl K n k vs σ) (rTfllrrrr K n k vs σ)
def rTfllrr (K : Nat → Nat) (n : Nat) (k : Nat) (vs : List jv) (σ : Nat → jcell) : Prop := cond (Nat.ble k 120) (rTfllrrl K n k vs σ) (rTfllrrr K n k vs σ)
def rTfllr (K : Nat → Nat) (n : Nat) (k : Nat) (vs : List jv) (σ : Nat → jcell) : Prop := cond (Nat.ble k 115) (rTfllrl K n k vs σ) (rTfllrr K n k vs σ)
def rTfll (K : Nat → Nat) (n : Nat) (k : Nat) (vs : List jv) (σ : Nat → jcell) : Prop := cond (Nat.ble k 110) (rTflll K n k vs σ) (rTfllr K n k vs σ)
def rTflrllll (K : Nat → Nat) (n : Nat) (k : Nat) (vs : List jv) (σ : Nat → jcell) : Prop := cond (Nat.beq k 124) (rb_124 K n vs σ) False
def rTflrlllr (K : Nat → Nat) (n : Nat) (k : Nat) (vs : List jv) (σ : Nat → jcell) : Prop := cond (Nat.beq k 125) (rb_125 K n vs σ) False
def rTflrlll (K : Nat → Nat) (n : Nat) (k : Nat) (vs : List jv) (σ : Nat → jcell) : Prop := cond (Nat.ble k 124) (rTflrllll K n k vs σ) (rTflrlllr K n k vs σ)
def rTflrllrl (K : Nat → Nat) (n : Nat) (k : Nat) (vs : List jv) (σ : Nat → jcell) : Prop := cond (Nat.beq k 126) (rb_126 K n vs σ) False
def rTflrllrrl (K : Nat → Nat) (n : Nat) (k : Nat) (vs : List jv) (σ : Nat → jcell) : Prop := cond (Nat.beq k 127) (rb_127 K n vs σ) False
def rTflrllrrr (K : Nat → Nat) (n : Nat) (k : Nat) (vs : List jv) (σ : Nat → jcell) : Prop := cond (Nat.beq k 128) (rb_128 K n vs σ) False
def rTflrllrr (K : Nat → Nat) (n : Nat) (k : Nat) (vs : List jv) (σ : Nat → jcell) : Prop := cond (Nat.ble k 127) (rTflrllrrl K n k vs σ) (rTflrllrrr K n k vs σ)
def rTflrllr (K : Nat → Nat) (n : Nat) (k : Nat) (vs : List jv) (σ : Nat → jcell) : Prop := cond (Nat.ble k 126) (rTflrllrl K n k vs σ) (rTflrllrr K n k vs σ)
def rTflrll (K : Nat → Nat) (n : Nat) (k : Nat) (vs : List jv) (σ : Nat → jcell) : Prop := cond (Nat.ble k 125) (rTflrlll K n k vs σ) (rTflrllr K n k vs σ)
def rTflrlrll (K : Nat → Nat) (n : Nat) (k : Nat) (vs : List jv) (σ : Nat → jcell) : Prop := cond (Nat.beq k 129) (rb_129 K n vs σ) False
def rTflrlrlrl (K : Nat → Nat) (n : Nat) (k : Nat) (vs : List jv) (σ : Nat → jcell) : Prop := cond (Nat.beq k 130) (rb_130 K n vs σ) False
def rTflrlrlrr (K : Nat → Nat) (n : Nat) (k : Nat) (vs : List jv) (σ : Nat → jcell) : Prop := cond (Nat.beq k 131) (rb_131 K n vs σ) False
def rTflrlrlr (K : Nat → Nat) (n : Nat) (k : Nat) (vs : List jv) (σ : Nat → jcell) : Prop := cond (Nat.ble k 130) (rTflrlrlrl K n k vs σ) (rTflrlrlrr K n k vs σ)
def rTflrlrl (K : Nat → Nat) (n : Nat) (k : Nat) (vs : List jv) (σ : Nat → jcell) : Prop := cond (Nat.ble k 129) (rTflrlrll K n k vs σ) (rTflrlrlr K n k vs σ)
def rTflrlrrl (K : Nat → Nat) (n : Nat) (k : Nat) (vs : List jv) (σ : Nat → jcell) : Prop := cond (Nat.beq k 132) (rb_132 K n vs σ) False
def rTflrlrrrl (K : Nat → Nat) (n : Nat) (k : Nat) (vs : List jv) (σ : Nat → jcell) : Prop := cond (Nat.beq k 133) (rb_133 K n vs σ) False
def rTflrlrrrr (K : Nat → Nat) (n : Nat) (k : Nat) (vs : List jv) (σ : Nat → jcell) : Prop := cond (Nat.beq k 134) (rb_134 K n vs σ) False
def rTflrlrrr (K : Nat → Nat) (n : Nat) (k : Nat) (vs : List jv) (σ : Nat → jcell) : Prop := cond (Nat.ble k 133) (rTflrlrrrl K n k vs σ) (rTflrlrrrr K n k vs σ)
def rTflrlrr (K : Nat → Nat) (n : Nat) (k : Nat) (vs : List jv) (σ : Nat → jcell) : Prop := cond (Nat.ble k 132) (rTflrlrrl K n k vs σ) (rTflrlrrr K n k vs σ)
def rTflrlr (K : Nat → Nat) (n : Nat) (k : Nat) (vs : List jv) (σ : Nat → jcell) : Prop := cond (Nat.ble k 131) (rTflrlrl K n k vs σ) (rTflrlrr K n k vs σ)
def rTflrl (K : Nat → Nat) (n : Nat) (k : Nat) (vs : List jv) (σ : Nat → jcell) : Prop := cond (Nat.ble k 128) (rTflrll K n k vs σ) (rTflrlr K n k vs σ)
def rTflrrlll (K : Nat → Nat) (n : Nat) (k : Nat) (vs : List jv) (σ : Nat → jcell) : Prop := cond (Nat.beq k 135) (rb_135 K n vs σ) False
def rTflrrllrl (K : Nat → Nat) (n : Nat) (k : Nat) (vs : List jv) (σ : Nat → jcell) : Prop := cond (Nat.beq k 136) (rb_136 K n vs σ) False
def rTflrrllrr (K : Nat → Nat) (n : Nat) (k : Nat) (vs : List jv) (σ : Nat → jcell) : Prop := cond (Nat.beq k 137) (rb_137 K n vs σ) False
def rTflrrllr (K : Nat → Nat) (n : Nat) (k : Nat) (vs : List jv) (σ : Nat → jcell) : Prop := cond (Nat.ble k 136) (rTflrrllrl K n k vs σ) (rTflrrllrr K n k vs σ)
def rTflrrll (K : Nat → Nat) (n : Nat) (k : Nat) (vs : List jv) (σ : Nat → jcell) : Prop := cond (Nat.ble k 135) (rTflrrlll K n k vs σ) (rTflrrllr K n k vs σ)
def rTflrrlrl (K : Nat → Nat) (n : Nat) (k : Nat) (vs : List jv) (σ : Nat → jcell) : Prop := cond (Nat.beq k 138) (rb_138 K n vs σ) False
def rTflrrlrrl (K : Nat → Nat) (n : Nat) (k : Nat) (vs : List jv) (σ : Nat → jcell) : Prop := cond (Nat.beq k 139) (rb_139 K n vs σ) False
def rTflrrlrrr (K : Nat → Nat) (n : Nat) (k : Nat) (vs : List jv) (σ : Nat → jcell) : Prop := cond (Nat.beq k 140) (rb_140 K n vs σ) False
def rTflrrlrr (K : Nat → Nat) (n : Nat) (k : Nat) (vs : List jv) (σ : Nat → jcell) : Prop := cond (Nat.ble k 139) (rTflrrlrrl K n k vs σ) (rTflrrlrrr K n k vs σ)
def rTflrrlr (K : Nat → Nat) (n : Nat) (k : Nat) (vs : List jv) (σ : Nat → jcell) : Prop := cond (Nat.ble k 138) (rTflrrlrl K n k vs σ) (rTflrrlrr K n k vs σ)
def rTflrrl (K : Nat → Nat) (n : Nat) (k : Nat) (vs : List jv) (σ : Nat → jcell) : Prop := cond (Nat.ble k 137) (rTflrrll K n k vs σ) (rTflrrlr K n k vs σ)
def rTflrrrll (K : Nat → Nat) (n : Nat) (k : Nat) (vs : List jv) (σ : Nat → jcell) : Prop := cond (Nat.beq k 141) (rb_141 K n vs σ) False
def rTflrrrlrl (K : Nat → Nat) (n : Nat) (k : Nat) (vs : List jv) (σ : Nat → jcell) : Prop := cond (Nat.beq k 142) (rb_142 K n vs σ) False
def rTflrrrlrr (K : Nat → Nat) (n : Nat) (k : Nat) (vs : List jv) (σ : Nat → jcell) : Prop := cond (Nat.beq k 143) (rb_143 K n vs σ) False
def rTflrrrlr (K : Nat → Nat) (n : Nat) (k : Nat) (vs : List jv) (σ : Nat → jcell) : Prop := cond (Nat.ble k 142) (rTflrrrlrl K n k vs σ) (rTflrrrlrr K n k vs σ)
def rTflrrrl (K : Nat → Nat) (n : Nat) (k : Nat) (vs : List jv) (σ : Nat → jcell) : Prop := cond (Nat.ble k 141) (rTflrrrll K n k vs σ) (rTflrrrlr K n k vs σ)
def rTflrrrrl (K : Nat → Nat) (n : Nat) (k : Nat) (vs : List jv) (σ : Nat → jcell) : Prop := cond (Nat.beq k 144) (rb_144 K n vs σ) False
def rTflrrrrrl (K : Nat → Nat) (n : Nat) (k : Nat) (vs : List jv) (σ : Nat → jcell) : Prop := cond (Nat.beq k 145) (rb_145 K n vs σ) False
def rTflrrrrrr (K : Nat → Nat) (n : Nat) (k : Nat) (vs : List jv) (σ : Nat → jcell) : Prop := cond (Nat.beq k 146) (rb_146 K n vs σ) False
def rTflrrrrr (K : Nat → Nat) (n : Nat) (k : Nat) (vs : List jv) (σ : Nat → jcell) : Prop := cond (Nat.ble k 145) (rTflrrrrrl K n k vs σ) (rTflrrrrrr K n k vs σ)
def rTflrrrr (K : Nat → Nat) (n : Nat) (k : Nat) (vs : List jv) (σ : Nat → jcell) : Prop := cond (Nat.ble k 144) (rTflrrrrl K n k vs σ) (rTflrrrrr K n k vs σ)
def rTflrrr (K : Nat → Nat) (n : Nat) (k : Nat) (vs : List jv) (σ : Nat → jcell) : Prop := cond (Nat.ble k 143) (rTflrrrl K n k vs σ) (rTflrrrr K n k vs σ)
def rTflrr (K : Nat → Nat) (n : Nat) (k : Nat) (vs : List jv) (σ : Nat → jcell) : Prop := cond (Nat.ble k 140) (rTflrrl K n k vs σ) (rTflrrr K n k vs σ)
def rTflr (K : Nat → Nat) (n : Nat) (k : Nat) (vs : List jv) (σ : Nat → jcell) : Prop := cond (Nat.ble k 134) (rTflrl K n k vs σ) (rTflrr K n k vs σ)
def rTfl (K : Nat → Nat) (n : Nat) (k : Nat) (vs : List jv) (σ : Nat → jcell) : Prop := cond (Nat.ble k 123) (rTfll K n k vs σ) (rTflr K n k vs σ)
def rTfrlllll (K : Nat → Nat) (n : Nat) (k : Nat) (vs : List jv) (σ : Nat → jcell) : Prop := cond (Nat.beq k 147) (rb_147 K n vs σ) False
def rTfrllllr (K : Nat → Nat) (n : Nat) (k : Nat) (vs : List jv) (σ : Nat → jcell) : Prop := cond (Nat.beq k 148) (rb_148 K n vs σ) False
def rTfrllll (K : Nat → Nat) (n : Nat) (k : Nat) (vs : List jv) (σ : Nat → jcell) : Prop := cond (Nat.ble k 147) (rTfrlllll K n k vs σ) (rTfrllllr K n k vs σ)
def rTfrlllrl (K : Nat → Nat) (n : Nat) (k : Nat) (vs : List jv) (σ : Nat → jcell) : Prop := cond (Nat.beq k 149) (rb_149 K n vs σ) False
def rTfrlllrrl (K : Nat → Nat) (n : Nat) (k : Nat) (vs : List jv) (σ : Nat → jcell) : Prop := cond (Nat.beq k 150) (rb_150 K n vs σ) False
def rTfrlllrrr (K : Nat → Nat) (n : Nat) (k : Nat) (vs : List jv) (σ : Nat → jcell) : Prop := cond (Nat.beq k 151) (rb_151 K n vs σ) False
def rTfrlllrr (K : Nat → Nat) (n : Nat) (k : Nat) (vs : List jv) (σ : Nat → jcell) : Prop := cond (Nat.ble k 150) (rTfrlllrrl K n k vs σ) (rTfrlllrrr K n k vs σ)
def rTfrlllr (K : Nat → Nat) (n : Nat) (k : Nat) (vs : List jv) (σ : Nat → jcell) : Prop := cond (Nat.ble k 149) (rTfrlllrl K n k vs σ) (rTfrlllrr K n k vs σ)
def rTfrlll (K : Nat → Nat) (n : Nat) (k : Nat) (vs : List jv) (σ : Nat → jcell) : Prop := cond (Nat.ble k 148) (rTfrllll K n k vs σ) (rTfrlllr K n k vs σ)
def rTfrllrll (K : Nat → Nat) (n : Nat) (k : Nat) (vs : List jv) (σ : Nat → jcell) : Prop := cond (Nat.beq k 152) (rb_152 K n vs σ) False
def rTfrllrlrl (K : Nat → Nat) (n : Nat) (k : Nat) (vs : List jv) (σ : Nat → jcell) : Prop := cond (Nat.beq k 153) (rb_153 K n vs σ) False
def rTfrllrlrr (K : Nat → Nat) (n : Nat) (k : Nat) (vs : List jv) (σ : Nat → jcell) : Prop := cond (Nat.beq k 154) (rb_154 K n vs σ) False
def rTfrllrlr (K : Nat → Nat) (n : Nat) (k : Nat) (vs : List jv) (σ : Nat → jcell) : Prop := cond (Nat.ble k 153) (rTfrllrlrl K n k vs σ) (rTfrllrlrr K n k vs σ)
def rTfrllrl (K : Nat → Nat) (n : Nat) (k : Nat) (vs : List jv) (σ : Nat → jcell) : Prop := cond (Nat.ble k 152) (rTfrllrll K n k vs σ) (rTfrllrlr K n k vs σ)
def rTfrllrrl (K : Nat → Nat) (n : Nat) (k : Nat) (vs : List jv) (σ : Nat → jcell) : Prop := cond (Nat.beq k 155) (rb_155 K n vs σ) False
def rTfrllrrrl (K : Nat → Nat) (n : Nat) (k : Nat) (vs : List jv) (σ : Nat → jcell) : Prop := cond (Nat.beq k 156) (rb_156 K n vs σ) False
def rTfrllrrrr (K : Nat → Nat) (n : Nat) (k : Nat) (vs : List jv) (σ : Nat → jcell) : Prop := cond (Nat.beq k 157) (rb_157 K n vs σ) False
def rTfrllrrr (K : Nat → Nat) (n : Nat) (k : Nat) (vs : List jv) (σ : Nat → jcell) : Prop := cond (Nat.ble k 156) (rTfrllrrrl K n k vs σ) (rTfrllrrrr K n k vs σ)
def rTfrllrr (K : Nat → Nat) (n : Nat) (k : Nat) (vs : List jv) (σ : Nat → jcell) : Prop := cond (Nat.ble k 155) (rTfrllrrl K n k vs σ) (rTfrllrrr K n k vs σ)
def rTfrllr (K : Nat → Nat) (n : Nat) (k : Nat) (vs : List jv) (σ : Nat → jcell) : Prop := cond (Nat.ble k 154) (rTfrllrl K n k vs σ) (rTfrllrr K n k vs σ)
def rTfrll (K : Nat → Nat) (n : Nat) (k : Nat) (vs : List jv) (σ : Nat → jcell) : Prop := cond (Nat.ble k 151) (rTfrlll K n k vs σ) (rTfrllr K n k vs σ)
def rTfrlrlll (K : Nat → Nat) (n : Nat) (k : Nat) (vs : List jv) (σ : Nat → jcell) : Prop := cond (Nat.beq k 160) (rb_160 K n vs σ) False
def rTfrlrllrl (K : Nat → Nat) (n : Nat) (k : Nat) (vs : List jv) (σ : Nat → jcell) : Prop := cond (Nat.beq k 161) (rb_161 K n vs σ) False
def rTfrlrllrr (K : Nat → Nat) (n : Nat) (k : Nat) (vs : List jv) (σ : Nat → jcell) : Prop := cond (Nat.beq k 162) (rb_162 K n vs σ) False
def rTfrlrllr (K : Nat → Nat) (n : Nat) (k : Nat) (vs : List jv) (σ : Nat → jcell) : Prop := cond (Nat.ble k 161) (rTfrlrllrl K n k vs σ) (rTfrlrllrr K n k vs σ)
def rTfrlrll (K : Nat → Nat) (n : Nat) (k : Nat) (vs : List jv) (σ : Nat → jcell) : Prop := cond (Nat.ble k 160) (rTfrlrlll K n k vs σ) (rTfrlrllr K n k vs σ)
def rTfrlrlrl (K : Nat → Nat) (n : Nat) (k : Nat) (vs : List jv) (σ : Nat → jcell) : Prop := cond (Nat.beq k 163) (rb_163 K n vs σ) False
def rTfrlrlrrl (K : Nat → Nat) (n : Nat) (k : Nat) (vs : List jv) (σ : Nat → jcell) : Prop := cond (Nat.beq k 164) (rb_164 K n vs σ) False
def rTfrlrlrrr (K : Nat → Nat) (n : Nat) (k : Nat) (vs : List jv) (σ : Nat → jcell) : Prop := cond (Nat.beq k 167) (rb_167 K n vs σ) False
def rTfrlrlrr (K : Nat → Nat) (n : Nat) (k : Nat) (vs : List jv) (σ : Nat → jcell) : Prop := cond (Nat.ble k 164) (rTfrlrlrrl K n k vs σ) (rTfrlrlrrr K n k vs σ)
def rTfrlrlr (K : Nat → Nat) (n : Nat) (k : Nat) (vs : List jv) (σ : Nat → jcell) : Prop := cond (Nat.ble k 163) (rTfrlrlrl K n k vs σ) (rTfrlrlrr K n k vs σ)
def rTfrlrl (K : Nat → Nat) (n : Nat) (k : Nat) (vs : List jv) (σ : Nat → jcell) : Prop := cond (Nat.ble k 162) (rTfrlrll K n k vs σ) (rTfrlrlr K n k vs σ)
def rTfrlrrll (K : Nat → Nat) (n : Nat) (k : Nat) (vs : List jv) (σ : Nat → jcell) : Prop := cond (Nat.beq k 168) (rb_168 K n vs σ) False
def rTfrlrrlrl (K : Nat → Nat) (n : Nat) (k : Nat) (vs : List jv) (σ : Nat → jcell) : Prop := cond (Nat.beq k 169) (rb_169 K n vs σ) False
def rTfrlrrlrr (K : Nat → Nat) (n : Nat) (k : Nat) (vs : List jv) (σ : Nat → jcell) : Prop := cond (Nat.beq k 170) (rb_170 K n vs σ) False
def rTfrlrrlr (K : Nat → Nat) (n : Nat) (k : Nat) (vs : List jv) (σ : Nat → jcell) : Prop := cond (Nat.ble k 169) (rTfrlrrlrl K n k vs σ) (rTfrlrrlrr K n k vs σ)
def rTfrlrrl (K : Nat → Nat) (n : Nat) (k : Nat) (vs : List jv) (σ : Nat → jcell) : Prop := cond (Nat.ble k 168) (rTfrlrrll K n k vs σ) (rTfrlrrlr K n k vs σ)
def rTfrlrrrl (K : Nat → Nat) (n : Nat) (k : Nat) (vs : List jv) (σ : Nat → jcell) : Prop := cond (Nat.beq k 171) (rb_171 K n vs σ) False
def rTfrlrrrrl (K : Nat → Nat) (n : Nat) (k : Nat) (vs : List jv) (σ : Nat → jcell) : Prop := cond (Nat.beq k 172) (rb_172 K n vs σ) False
def rTfrlrrrrr (K : Nat → Nat) (n : Nat) (k : Nat) (vs : List jv) (σ : Nat → jcell) : Prop := cond (Nat.beq k 173) (rb_173 K n vs σ) False
def rTfrlrrrr (K : Nat → Nat) (n : Nat) (k : Nat) (vs : List jv) (σ : Nat → jcell) : Prop := cond (Nat.ble k 172) (rTfrlrrrrl K n k vs σ) (rTfrlrrrrr K n k vs σ)
def rTfrlrrr (K : Nat → Nat) (n : Nat) (k : Nat) (vs : List jv) (σ : Nat → jcell) : Prop := cond (Nat.ble k 171) (rTfrlrrrl K n k vs σ) (rTfrlrrrr K n k vs σ)
def rTfrlrr (K : Nat → Nat) (n : Nat) (k : Nat) (vs : List jv) (σ : Nat → jcell) : Prop := cond (Nat.ble k 170) (rTfrlrrl K n k vs σ) (rTfrlrrr K n k vs σ)
def rTfrlr (K : Nat → Nat) (n : Nat) (k : Nat) (vs : List jv) (σ : Nat → jcell) : Prop := cond (Nat.ble k 167) (rTfrlrl K n k vs σ) (rTfrlrr K n k vs σ)
def rTfrl (K : Nat → Nat) (n : Nat) (k : Nat) (vs : List jv) (σ : Nat → jcell) : Prop := cond (Nat.ble k 157) (rTfrll K n k vs σ) (rTfrlr K n k vs σ)
def rTfrrllll (K : Nat → Nat) (n : Nat) (k : Nat) (vs : List jv) (σ : Nat → jcell) : Prop := cond (Nat.beq k 174) (rb_174 K n vs σ) False
def rTfrrlllr (K : Nat → Nat) (n : Nat) (k : Nat) (vs : List jv) (σ : Nat → jcell) : Prop := cond (Nat.beq k 175) (rb_175 K n vs σ) False
def rTfrrlll (K : Nat → Nat) (n : Nat) (k : Nat) (vs : List jv) (σ : Nat → jcell) : Prop := cond (Nat.ble k 174) (rTfrrllll K n k vs σ) (rTfrrlllr K n k vs σ)
def rTfrrllrl (K : Nat → Nat) (n : Nat) (k : Nat) (vs : List jv) (σ : Nat → jcell) : Prop := cond (Nat.beq k 176) (rb_176 K n vs σ) False
def rTfrrllrrl (K : Nat → Nat) (n : Nat) (k : Nat) (vs : List jv) (σ : Nat → jcell) : Prop := cond (Nat.beq k 177) (rb_177 K n vs σ) False
def rTfrrllrrr (K : Nat → Nat) (n : Nat) (k : Nat) (vs : List jv) (σ : Nat → jcell) : Prop := cond (Nat.beq k 179) (rb_179 K n vs σ) False
def rTfrrllrr (K : Nat → Nat) (n : Nat) (k : Nat) (vs : List jv) (σ : Nat → jcell) : Prop := cond (Nat.ble k 177) (rTfrrllrrl K n k vs σ) (rTfrrllrrr K n k vs σ)
def rTfrrllr (K : Nat → Nat) (n : Nat) (k : Nat) (vs : List jv) (σ : Nat → jcell) : Prop := cond (Nat.ble k 176) (rTfrrllrl K n k vs σ) (rTfrrllrr K n k vs σ)
def rTfrrll (K : Nat → Nat) (n : Nat) (k : Nat) (vs : List jv) (σ : Nat → jcell) : Prop := cond (Nat.ble k 175) (rTfrrlll K n k vs σ) (rTfrrllr K n k vs σ)
def rTfrrlrll (K : Nat → Nat) (n : Nat) (k : Nat) (vs : List jv) (σ : Nat → jcell) : Prop := cond (Nat.beq k 181) (rb_181 K n vs σ) False
def rTfrrlrlrl (K : Nat → Nat) (n : Nat) (k : Nat) (vs : List jv) (σ : Nat → jcell) : Prop := cond (Nat.beq k 182) (rb_182 K n vs σ) False
def rTfrrlrlrr (K : Nat → Nat) (n : Nat) (k : Nat) (vs : List jv) (σ : Nat → jcell) : Prop := cond (Nat.beq k 183) (rb_183 K n vs σ) False
def rTfrrlrlr (K : Nat → Nat) (n : Nat) (k : Nat) (vs : List jv) (σ : Nat → jcell) : Prop := cond (Nat.ble k 182) (rTfrrlrlrl K n k vs σ) (rTfrrlrlrr K n k vs σ)
def rTfrrlrl (K : Nat → Nat) (n : Nat) (k : Nat) (vs : List jv) (σ : Nat → jcell) : Prop := cond (Nat.ble k 181) (rTfrrlrll K n k vs σ) (rTfrrlrlr K n k vs σ)
def rTfrrlrrl (K : Nat → Nat) (n : Nat) (k : Nat) (vs : List jv) (σ : Nat → jcell) : Prop := cond (Nat.beq k 184) (rb_184 K n vs σ) False
def rTfrrlrrrl (K : Nat → Nat) (n : Nat) (k : Nat) (vs : List jv) (σ : Nat → jcell) : Prop := cond (Nat.beq k 185) (rb_185 K n vs σ) False
def rTfrrlrrrr (K : Nat → Nat) (n : Nat) (k : Nat) (vs : List jv) (σ : Nat → jcell) : Prop := cond (Nat.beq k 186) (rb_186 K n vs σ) False
def rTfrrlrrr (K : Nat → Nat) (n : Nat) (k : Nat) (vs : List jv) (σ : Nat → jcell) : Prop := cond (Nat.ble k 185) (rTfrrlrrrl K n k vs σ) (rTfrrlrrrr K n k vs σ)
def rTfrrlrr (K : Nat → Nat) (n : Nat) (k : Nat) (vs : List jv) (σ : Nat → jcell) : Prop := cond (Nat.ble k 184) (rTfrrlrrl K n k vs σ) (rTfrrlrrr K n k vs σ)
def rTfrrlr (K : Nat → Nat) (n : Nat) (k : Nat) (vs : List jv) (σ : Nat → jcell) : Prop := cond (Nat.ble k 183) (rTfrrlrl K n k vs σ) (rTfrrlrr K n k vs σ)
def rTfrrl (K : Nat → Nat) (n : Nat) (k : Nat) (vs : List jv) (σ : Nat → jcell) : Prop := cond (Nat.ble k 179) (rTfrrll K n k vs σ) (rTfrrlr K n k vs σ)
def rTfrrrlll (K : Nat → Nat) (n : Nat) (k : Nat) (vs : List jv) (σ : Nat → jcell) : Prop := cond (Nat.beq k 187) (rb_187 K n vs σ) False
def rTfrrrllrl (K : Nat → Nat) (n : Nat) (k : Nat) (vs : List jv) (σ : Nat → jcell) : Prop := cond (Nat.beq k 188) (rb_188 K n vs σ) False
def rTfrrrllrr (K : Nat → Nat) (n : Nat) (k : Nat) (vs : List jv) (σ : Nat → jcell) : Prop := cond (Nat.beq k 189) (rb_189 K n vs σ) False
def rTfrrrllr (K : Nat → Nat) (n : Nat) (k : Nat) (vs : List jv) (σ : Nat → jcell) : Prop := cond (Nat.ble k 188) (rTfrrrllrl K n k vs σ) (rTfrrrllrr K n k vs σ)
def rTfrrrll (K : Nat → Nat) (n : Nat) (k : Nat) (vs : List jv) (σ : Nat → jcell) : Prop := cond (Nat.ble k 187) (rTfrrrlll K n k vs σ) (rTfrrrllr K n k vs σ)
def rTfrrrlrl (K : Nat → Nat) (n : Nat) (k : Nat) (vs : List jv) (σ : Nat → jcell) : Prop := cond (Nat.beq k 190) (rb_190 K n vs σ) False
def rTfrrrlrrl (K : Nat → Nat) (n : Nat) (k : Nat) (vs : List jv) (σ : Nat → jcell) : Prop := cond (Nat.beq k 191) (rb_191 K n vs σ) False
def rTfrrrlrrr (K : Nat → Nat) (n : Nat) (k : Nat) (vs : List jv) (σ : Nat → jcell) : Prop := cond (Nat.beq k 192) (rb_192 K n vs σ) False
def rTfrrrlrr (K : Nat → Nat) (n : Nat) (k : Nat) (vs : List jv) (σ : Nat → jcell) : Prop := cond (Nat.ble k 191) (rTfrrrlrrl K n k vs σ) (rTfrrrlrrr K n k vs σ)
def rTfrrrlr (K : Nat → Nat) (n : Nat) (k : Nat) (vs : List jv) (σ : Nat → jcell) : Prop := cond (Nat.ble k 190) (rTfrrrlrl K n k vs σ) (rTfrrrlrr K n k vs σ)
def rTfrrrl (K : Nat → Nat) (n : Nat) (k : Nat) (vs : List jv) (σ : Nat → jcell) : Prop := cond (Nat.ble k 189) (rTfrrrll K n k vs σ) (rTfrrrlr K n k vs σ)
def rTfrrrrll (K : Nat → Nat) (n : Nat) (k : Nat) (vs : List jv) (σ : Nat → jcell) : Prop := cond (Nat.beq k 193) (rb_193 K n vs σ) False
def rTfrrrrlrl (K : Nat → Nat) (n : Nat) (k : Nat) (vs : List jv) (σ : Nat → jcell) : Prop := cond (Nat.beq k 194) (rb_194 K n vs σ) False
def rTfrrrrlrr (K : Nat → Nat) (n : Nat) (k : Nat) (vs : List jv) (σ : Nat → jcell) : Prop := cond (Nat.beq k 195) (rb_195 K n vs σ) False
def rTfrrrrlr (K : Nat → Nat) (n : Nat) (k : Nat) (vs : List jv) (σ : Nat → jcell) : Prop := cond (Nat.ble k 194) (rTfrrrrlrl K n k vs σ) (rTfrrrrlrr K n k vs σ)
def rTfrrrrl (K : Nat → Nat) (n : Nat) (k : Nat) (vs : List jv) (σ : Nat → jcell) : Prop := cond (Nat.ble k 193) (rTfrrrrll K n k vs σ) (rTfrrrrlr K n k vs σ)
def rTfrrrrrl (K : Nat → Nat) (n : Nat) (k : Nat) (vs : List jv) (σ : Nat → jcell) : Prop := cond (Nat.beq k 197) (rb_197 K n vs σ) False
def rTfrrrrrrl (K : Nat → Nat) (n : Nat) (k : Nat) (vs : List jv) (σ : Nat → jcell) : Prop := cond (Nat.beq k 198) (rb_198 K n vs σ) False
def rTfrrrrrrr (K : Nat → Nat) (n : Nat) (k : Nat) (vs : List jv) (σ : Nat → jcell) : Prop := cond (Nat.beq k 199) (rb_199 K n vs σ) False
def rTfrrrrrr (K : Nat → Nat) (n : Nat) (k : Nat) (vs : List jv) (σ : Nat → jcell) : Prop := cond (Nat.ble k 198) (rTfrrrrrrl K n k vs σ) (rTfrrrrrrr K n k vs σ)
def rTfrrrrr (K : Nat → Nat) (n : Nat) (k : Nat) (vs : List jv) (σ : Nat → jcell) : Prop := cond (Nat.ble k 197) (rTfrrrrrl K n k vs σ) (rTfrrrrrr K n k vs σ)
def rTfrrrr (K : Nat → Nat) (n : Nat) (k : Nat) (vs : List jv) (σ : Nat → jcell) : Prop := cond (Nat.ble k 195) (rTfrrrrl K n k vs σ) (rTfrrrrr K n k vs σ)
def rTfrrr (K : Nat → Nat) (n : Nat) (k : Nat) (vs : List jv) (σ : Nat → jcell) : Prop := cond (Nat.ble k 192) (rTfrrrl K n k vs σ) (rTfrrrr K n k vs σ)
def rTfrr (K : Nat → Nat) (n : Nat) (k : Nat) (vs : List jv) (σ : Nat → jcell) : Prop := cond (Nat.ble k 186) (rTfrrl K n k vs σ) (rTfrrr K n k vs σ)
def rTfr (K : Nat → Nat) (n : Nat) (k : Nat) (vs : List jv) (σ : Nat → jcell) : Prop := cond (Nat.ble k 173) (rTfrl K n k vs σ) (rTfrr K n k vs σ)
def rTf (K : Nat → Nat) (n : Nat) (k : Nat) (vs : List jv) (σ : Nat → jcell) : Prop := cond (Nat.ble k 146) (rTfl K n k vs σ) (rTfr K n k vs σ)
def rTgllllll (K : Nat → Nat) (n : Nat) (p : rP) (k : Nat) (vs : List jv) (σ : Nat → jcell) : Prop := cond (Nat.beq k 22) (rb_22 K n p vs σ) False
def rTglllllr (K : Nat → Nat) (n : Nat) (p : rP) (k : Nat) (vs : List jv) (σ : Nat → jcell) : Prop := cond (Nat.beq k 23) (rb_23 K n p vs σ) False
def rTglllll (K : Nat → Nat) (n : Nat) (p : rP) (k : Nat) (vs : List jv) (σ : Nat → jcell) : Prop := cond (Nat.ble k 22) (rTgllllll K n p k vs σ) (rTglllllr K n p k vs σ)
def rTgllllrl (K : Nat → Nat) (n : Nat) (p : rP) (k : Nat) (vs : List jv) (σ : Nat → jcell) : Prop := cond (Nat.beq k 24) (rb_24 K n p vs σ) False
def rTgllllrr (K : Nat → Nat) (n : Nat) (p : rP) (k : Nat) (vs : List jv) (σ : Nat → jcell) : Prop := cond (Nat.beq k 25) (rb_25 K n p vs σ) False
def rTgllllr (K : Nat → Nat) (n : Nat) (p : rP) (k : Nat) (vs : List jv) (σ : Nat → jcell) : Prop := cond (Nat.ble k 24) (rTgllllrl K n p k vs σ) (rTgllllrr K n p k vs σ)
def rTgllll (K : Nat → Nat) (n : Nat) (p : rP) (k : Nat) (vs : List jv) (σ : Nat → jcell) : Prop := cond (Nat.ble k 23) (rTglllll K n p k vs σ) (rTgllllr K n p k vs σ)
def rTglllrll (K : Nat → Nat) (n : Nat) (p : rP) (k : Nat) (vs : List jv) (σ : Nat → jcell) : Prop := cond (Nat.beq k 26) (rb_26 K n p vs σ) False
def rTglllrlr (K : Nat → Nat) (n : Nat) (p : rP) (k : Nat) (vs : List jv) (σ : Nat → jcell) : Prop := cond (Nat.beq k 27) (rb_27 K n p vs σ) False
def rTglllrl (K : Nat → Nat) (n : Nat) (p : rP) (k : Nat) (vs : List jv) (σ : Nat → jcell) : Prop := cond (Nat.ble k 26) (rTglllrll K n p k vs σ) (rTglllrlr K n p k vs σ)
def rTglllrrl (K : Nat → Nat) (n : Nat) (p : rP) (k : Nat) (vs : List jv) (σ : Nat → jcell) : Prop := cond (Nat.beq k 28) (rb_28 K n p vs σ) False
def rTglllrrrl (K : Nat → Nat) (n : Nat) (p : rP) (k : Nat) (vs : List jv) (σ : Nat → jcell) : Prop := cond (Nat.beq k 29) (rb_29 K n p vs σ) False
def rTglllrrrr (K : Nat → Nat) (n : Nat) (p : rP) (k : Nat) (vs : List jv) (σ : Nat → jcell) : Prop := cond (Nat.beq k 30) (rb_30 K n p vs σ) False
def rTglllrrr (K : Nat → Nat) (n : Nat) (p : rP) (k : Nat) (vs : List jv) (σ : Nat → jcell) : Prop := cond (Nat.ble k 29) (rTglllrrrl K n p k vs σ) (rTglllrrrr K n p k vs σ)
def rTglllrr (K : Nat → Nat) (n : Nat) (p : rP) (k : Nat) (vs : List jv) (σ : Nat → jcell) : Prop := cond (Nat.ble k 28) (rTglllrrl K n p k vs σ) (rTglllrrr K n p k vs σ)
def rTglllr (K : Nat → Nat) (n : Nat) (p : rP) (k : Nat) (vs : List jv) (σ : Nat → jcell) : Prop := cond (Nat.ble k 27) (rTglllrl K n p k vs σ) (rTglllrr K n p k vs σ)
def rTglll (K : Nat → Nat) (n : Nat) (p : rP) (k : Nat) (vs : List jv) (σ : Nat → jcell) : Prop := cond (Nat.ble k 25) (rTgllll K n p k vs σ) (rTglllr K n p k vs σ)
def rTgllrlll (K : Nat → Nat) (n : Nat) (p : rP) (k : Nat) (vs : List jv) (σ : Nat → jcell) : Prop := cond (Nat.beq k 31) (rb_31 K n p vs σ) False
def rTgllrllr (K : Nat → Nat) (n : Nat) (p : rP) (k : Nat) (vs : List jv) (σ : Nat → jcell) : Prop := cond (Nat.beq k 32) (rb_32 K n p vs σ) False
def rTgllrll (K : Nat → Nat) (n : Nat) (p : rP) (k : Nat) (vs : List jv) (σ : Nat → jcell) : Prop := cond (Nat.ble k 31) (rTgllrlll K n p k vs σ) (rTgllrllr K n p k vs σ)
def rTgllrlrl (K : Nat → Nat) (n : Nat) (p : rP) (k : Nat) (vs : List jv) (σ : Nat → jcell) : Prop := cond (Nat.beq k 33) (rb_33 K n p vs σ) False
def rTgllrlrrl (K : Nat → Nat) (n : Nat) (p : rP) (k : Nat) (vs : List jv) (σ : Nat → jcell) : Prop := cond (Nat.beq k 34) (rb_34 K n p vs σ) False
def rTgllrlrrr (K : Nat → Nat) (n : Nat) (p : rP) (k : Nat) (vs : List jv) (σ : Nat → jcell) : Prop := cond (Nat.beq k 35) (rb_35 K n p vs σ) False
def rTgllrlrr (K : Nat → Nat) (n : Nat) (p : rP) (k : Nat) (vs : List jv) (σ : Nat → jcell) : Prop := cond (Nat.ble k 34) (rTgllrlrrl K n p k vs σ) (rTgllrlrrr K n p k vs σ)
def rTgllrlr (K : Nat → Nat) (n : Nat) (p : rP) (k : Nat) (vs : List jv) (σ : Nat → jcell) : Prop := cond (Nat.ble k 33) (rTgllrlrl K n p k vs σ) (rTgllrlrr K n p k vs σ)
def rTgllrl (K : Nat → Nat) (n : Nat) (p : rP) (k : Nat) (vs : List jv) (σ : Nat → jcell) : Prop := cond (Nat.ble k 32) (rTgllrll K n p k vs σ) (rTgllrlr K n p k vs σ)
def rTgllrrll (K : Nat → Nat) (n : Nat) (p : rP) (k : Nat) (vs : List jv) (σ : Nat → jcell) : Prop := cond (Nat.beq k 36) (rb_36 K n p vs σ) False
def rTgllrrlr (K : Nat → Nat) (n : Nat) (p : rP) (k : Nat) (vs : List jv) (σ : Nat → jcell) : Prop := cond (Nat.beq k 37) (rb_37 K n p vs σ) False
def rTgllrrl (K : Nat → Nat) (n : Nat) (p : rP) (k : Nat) (vs : List jv) (σ : Nat → jcell) : Prop := cond (Nat.ble k 36) (rTgllrrll K n p k vs σ) (rTgllrrlr K n p k vs σ)
def rTgllrrrl (K : Nat → Nat) (n : Nat) (p : rP) (k : Nat) (vs : List jv) (σ : Nat → jcell) : Prop := cond (Nat.beq k 38) (rb_38 K n p vs σ) False
def rTgllrrrrl (K : Nat → Nat) (n : Nat) (p : rP) (k : Nat) (vs : List jv) (σ : Nat → jcell) : Prop := cond (Nat.beq k 39) (rb_39 K n p vs σ) False
def rTgllrrrrr (K : Nat → Nat) (n : Nat) (p : rP) (k : Nat) (vs : List jv) (σ : Nat → jcell) : Prop := cond (Nat.beq k 40) (rb_40 K n p vs σ) False
def rTgllrrrr (K : Nat → Nat) (n : Nat) (p : rP) (k : Nat) (vs : List jv) (σ : Nat → jcell) : Prop := cond (Nat.ble k 39) (rTgllrrrrl K n p k vs σ) (rTgllrrrrr K n p k vs σ)
def rTgllrrr (K : Nat → Nat) (n : Nat) (p : rP) (k : Nat) (vs : List jv) (σ : Nat → jcell) : Prop := cond (Nat.ble k 38) (rTgllrrrl K n p k vs σ) (rTgllrrrr K n p k vs σ)
def rTgllrr (K : Nat → Nat) (n : Nat) (p : rP) (k : Nat) (vs : List jv) (σ : Nat → jcell) : Prop := cond (Nat.ble k 37) (rTgllrrl K n p k vs σ) (rTgllrrr K n p k vs σ)
def rTgllr (K : Nat → Nat) (n : Nat) (p : rP) (k : Nat) (vs : List jv) (σ : Nat → jcell) : Prop := cond (Nat.ble k 35) (rTgllrl K n p k vs σ) (rTgllrr K n p k vs σ)
def rTgll (K : Nat → Nat) (n : Nat) (p : rP) (k : Nat) (vs : List jv) (σ : Nat → jcell) : Prop := cond (Nat.ble k 30) (rTglll K n p k vs σ) (rTgllr K n p k vs σ)
def rTglrllll (K : Nat → Nat) (n : Nat) (p : rP) (k : Nat) (vs : List jv) (σ : Nat → jcell) : Prop := cond (Nat.beq k 41) (rb_41 K n p vs σ) False
def rTglrlllr (K : Nat → Nat) (n : Nat) (p : rP) (k : Nat) (vs : List jv) (σ : Nat → jcell) : Prop := cond (Nat.beq k 42) (rb_42 K n p vs σ) False
def rTglrlll (K : Nat → Nat) (n : Nat) (p : rP) (k : Nat) (vs : List jv) (σ : Nat → jcell) : Prop := cond (Nat.ble k 41) (rTglrllll K n p k vs σ) (rTglrlllr K n p k vs σ)
def rTglrllrl (K : Nat → Nat) (n : Nat) (p : rP) (k : Nat) (vs : List jv) (σ : Nat → jcell) : Prop := cond (Nat.beq k 43) (rb_43 K n p vs σ) False
def rTglrllrr (K : Nat → Nat) (n : Nat) (p : rP) (k : Nat) (vs : List jv) (σ : Nat → jcell) : Prop := cond (Nat.beq k 45) (rb_45 K n p vs σ) False
def rTglrllr (K : Nat → Nat) (n : Nat) (p : rP) (k : Nat) (vs : List jv) (σ : Nat → jcell) : Prop := cond (Nat.ble k 43) (rTglrllrl K n p k vs σ) (rTglrllrr K n p k vs σ)
def rTglrll (K : Nat → Nat) (n : Nat) (p : rP) (k : Nat) (vs : List jv) (σ : Nat → jcell) : Prop := cond (Nat.ble k 42) (rTglrlll K n p k vs σ) (rTglrllr K n p k vs σ)
def rTglrlrll (K : Nat → Nat) (n : Nat) (p : rP) (k : Nat) (vs : List jv) (σ : Nat → jcell) : Prop := cond (Nat.beq k 46) (rb_46 K n p vs σ) False
def rTglrlrlr (K : Nat → Nat) (n : Nat) (p : rP) (k : Nat) (vs : List jv) (σ : Nat → jcell) : Prop := cond (Nat.beq k 47) (rb_47 K n p vs σ) False
def rTglrlrl (K : Nat → Nat) (n : Nat) (p : rP) (k : Nat) (vs : List jv) (σ : Nat → jcell) : Prop := cond (Nat.ble k 46) (rTglrlrll K n p k vs σ) (rTglrlrlr K n p k vs σ)
def rTglrlrrl (K : Nat → Nat) (n : Nat) (p : rP) (k : Nat) (vs : List jv) (σ : Nat → jcell) : Prop := cond (Nat.beq k 48) (rb_48 K n p vs σ) False
def rTglrlrrrl (K : Nat → Nat) (n : Nat) (p : rP) (k : Nat) (vs : List jv) (σ : Nat → jcell) : Prop := cond (Nat.beq k 49) (rb_49 K n p vs σ) False
def rTglrlrrrr (K : Nat → Nat) (n : Nat) (p : rP) (k : Nat) (vs : List jv) (σ : Nat → jcell) : Prop := cond (Nat.beq k 50) (rb_50 K n p vs σ) False
def rTglrlrrr (K : Nat → Nat) (n : Nat) (p : rP) (k : Nat) (vs : List jv) (σ : Nat → jcell) : Prop := cond (Nat.ble k 49) (rTglrlrrrl K n p k vs σ) (rTglrlrrrr K n p k vs σ)
def rTglrlrr (K : Nat → Nat) (n : Nat) (p : rP) (k : Nat) (vs : List jv) (σ : Nat → jcell) : Prop := cond (Nat.ble k 48) (rTglrlrrl K n p k vs σ) (rTglrlrrr K n p k vs σ)
def rTglrlr (K : Nat → Nat) (n : Nat) (p : rP) (k : Nat) (vs : List jv) (σ : Nat → jcell) : Prop := cond (Nat.ble k 47) (rTglrlrl K n p k vs σ) (rTglrlrr K n p k vs σ)
def rTglrl (K : Nat → Nat) (n : Nat) (p : rP) (k : Nat) (vs : List jv) (σ : Nat → jcell) : Prop := cond (Nat.ble k 45) (rTglrll K n p k vs σ) (rTglrlr K n p k vs σ)
def rTglrrlll (K : Nat → Nat) (n : Nat) (p : rP) (k : Nat) (vs : List jv) (σ : Nat → jcell) : Prop := cond (Nat.beq k 51) (rb_51 K n p vs σ) False
def rTglrrllr (K : Nat → Nat) (n : Nat) (p : rP) (k : Nat) (vs : List jv) (σ : Nat → jcell) : Prop := cond (Nat.beq k 52) (rb_52 K n p vs σ) False
def rTglrrll (K : Nat → Nat) (n : Nat) (p : rP) (k : Nat) (vs : List jv) (σ : Nat → jcell) : Prop := cond (Nat.ble k 51) (rTglrrlll K n p k vs σ) (rTglrrllr K n p k vs σ)
def rTglrrlrl (K : Nat → Nat) (n : Nat) (p : rP) (k : Nat) (vs : List jv) (σ : Nat → jcell) : Prop := cond (Nat.beq k 53) (rb_53 K n p vs σ) False
def rTglrrlrrl (K : Nat → Nat) (n : Nat) (p : rP) (k : Nat) (vs : List jv) (σ : Nat → jcell) : Prop := cond (Nat.beq k 54) (rb_54 K n p vs σ) False
def rTglrrlrrr (K : Nat → Nat) (n : Nat) (p : rP) (k : Nat) (vs : List jv) (σ : Nat → jcell) : Prop := cond (Nat.beq k 55) (rb_55 K n p vs σ) False
def rTglrrlrr (K : Nat → Nat) (n : Nat) (p : rP) (k : Nat) (vs : List jv) (σ : Nat → jcell) : Prop := cond (Nat.ble k 54) (rTglrrlrrl K n p k vs σ) (rTglrrlrrr K n p k vs σ)
def rTglrrlr (K : Nat → Nat) (n : Nat) (p : rP) (k : Nat) (vs : List jv) (σ : Nat → jcell) : Prop := cond (Nat.ble k 53) (rTglrrlrl K n p k vs σ) (rTglrrlrr K n p k vs σ)
def rTglrrl (K : Nat → Nat) (n : Nat) (p : rP) (k : Nat) (vs : List jv) (σ : Nat → jcell) : Prop := cond (Nat.ble k 52) (rTglrrll K n p k vs σ) (rTglrrlr K n p k vs σ)
def rTglrrrll (K : Nat → Nat) (n : Nat) (p : rP) (k : Nat) (vs : List jv) (σ : Nat → jcell) : Prop := cond (Nat.beq k 56) (rb_56 K n p vs σ) False
def rTglrrrlr (K : Nat → Nat) (n : Nat) (p : rP) (k : Nat) (vs : List jv) (σ : Nat → jcell) : Prop := cond (Nat.beq k 57) (rb_57 K n p vs σ) False
def rTglrrrl (K : Nat → Nat) (n : Nat) (p : rP) (k : Nat) (vs : List jv) (σ : Nat → jcell) : Prop := cond (Nat.ble k 56) (rTglrrrll K n p k vs σ) (rTglrrrlr K n p k vs σ)
def rTglrrrrl (K : Nat → Nat) (n : Nat) (p : rP) (k : Nat) (vs : List jv) (σ : Nat → jcell) : Prop := cond (Nat.beq k 58) (rb_58 K n p vs σ) False
def rTglrrrrrl (K : Nat → Nat) (n : Nat) (p : rP) (k : Nat) (vs : List jv) (σ : Nat → jcell) : Prop := cond (Nat.beq k 59) (rb_59 K n p vs σ) False
def rTglrrrrrr (K : Nat → Nat) (n : Nat) (p : rP) (k : Nat) (vs : List jv) (σ : Nat → jcell) : Prop := cond (Nat.beq k 60) (rb_60 K n p vs σ) False
def rTglrrrrr (K : Nat → Nat) (n : Nat) (p : rP) (k : Nat) (vs : List jv) (σ : Nat → jcell) : Prop := cond (Nat.ble k 59) (rTglrrrrrl K n p k vs σ) (rTglrrrrrr K n p k vs σ)
def rTglrrrr (K : Nat → Nat) (n : Nat) (p : rP) (k : Nat) (vs : List jv) (σ : Nat → jcell) : Prop := cond (Nat.ble k 58) (rTglrrrrl K n p k vs σ) (rTglrrrrr K n p k vs σ)
def rTglrrr (K : Nat → Nat) (n : Nat) (p : rP) (k : Nat) (vs : List jv) (σ : Nat → jcell) : Prop := cond (Nat.ble k 57) (rTglrrrl K n p k vs σ) (rTglrrrr K n p k vs σ)
def rTglrr (K : Nat → Nat) (n : Nat) (p : rP) (k : Nat) (vs : List jv) (σ : Nat → jcell) : Prop := cond (Nat.ble k 55) (rTglrrl K n p k vs σ) (rTglrrr K n p k vs σ)
def rTglr (K : Nat → Nat) (n : Nat) (p : rP) (k : Nat) (vs : List jv) (σ : Nat → jcell) : Prop := cond (Nat.ble k 50) (rTglrl K n p k vs σ) (rTglrr K n p k vs σ)
def rTgl (K : Nat → Nat) (n : Nat) (p : rP) (k : Nat) (vs : List jv) (σ : Nat → jcell) : Prop := cond (Nat.ble k 40) (rTgll K n p k vs σ) (rTglr K n p k vs σ)
def rTgrlllll (K : Nat → Nat) (n : Nat) (p : rP) (k : Nat) (vs : List jv) (σ : Nat → jcell) : Prop := cond (Nat.beq k 61) (rb_61 K n p vs σ) False
def rTgrllllr (K : Nat → Nat) (n : Nat) (p : rP) (k : Nat) (vs : List jv) (σ : Nat → jcell) : Prop := cond (Nat.beq k 62) (rb_62 K n p vs σ) False
def rTgrllll (K : Nat → Nat) (n : Nat) (p : rP) (k : Nat) (vs : List jv) (σ : Nat → jcell) : Prop := cond (Nat.ble k 61) (rTgrlllll K n p k vs σ) (rTgrllllr K n p k vs σ)
def rTgrlllrl (K : Nat → Nat) (n : Nat) (p : rP) (k : Nat) (vs : List jv) (σ : Nat → jcell) : Prop := cond (Nat.beq k 63) (rb_63 K n p vs σ) False
def rTgrlllrr (K : Nat → Nat) (n : Nat) (p : rP) (k : Nat) (vs : List jv) (σ : Nat → jcell) : Prop := cond (Nat.beq k 64) (rb_64 K n p vs σ) False
def rTgrlllr (K : Nat → Nat) (n : Nat) (p : rP) (k : Nat) (vs : List jv) (σ : Nat → jcell) : Prop := cond (Nat.ble k 63) (rTgrlllrl K n p k vs σ) (rTgrlllrr K n p k vs σ)
def rTgrlll (K : Nat → Nat) (n : Nat) (p : rP) (k : Nat) (vs : List jv) (σ : Nat → jcell) : Prop := cond (Nat.ble k 62) (rTgrllll K n p k vs σ) (rTgrlllr K n p k vs σ)
def rTgrllrll (K : Nat → Nat) (n : Nat) (p : rP) (k : Nat) (vs : List jv) (σ : Nat → jcell) : Prop := cond (Nat.beq k 65) (rb_65 K n p vs σ) False
def rTgrllrlr (K : Nat → Nat) (n : Nat) (p : rP) (k : Nat) (vs : List jv) (σ : Nat → jcell) : Prop := cond (Nat.beq k 66) (rb_66 K n p vs σ) False
def rTgrllrl (K : Nat → Nat) (n : Nat) (p : rP) (k : Nat) (vs : List jv) (σ : Nat → jcell) : Prop := cond (Nat.ble k 65) (rTgrllrll K n p k vs σ) (rTgrllrlr K n p k vs σ)
def rTgrllrrl (K : Nat → Nat) (n : Nat) (p : rP) (k : Nat) (vs : List jv) (σ : Nat → jcell) : Prop := cond (Nat.beq k 67) (rb_67 K n p vs σ) False
def rTgrllrrrl (K : Nat → Nat) (n : Nat) (p : rP) (k : Nat) (vs : List jv) (σ : Nat → jcell) : Prop := cond (Nat.beq k 68) (rb_68 K n p vs σ) False
def rTgrllrrrr (K : Nat → Nat) (n : Nat) (p : rP) (k : Nat) (vs : List jv) (σ : Nat → jcell) : Prop := cond (Nat.beq k 69) (rb_69 K n p vs σ) False
def rTgrllrrr (K : Nat → Nat) (n : Nat) (p : rP) (k : Nat) (vs : List jv) (σ : Nat → jcell) : Prop := cond (Nat.ble k 68) (rTgrllrrrl K n p k vs σ) (rTgrllrrrr K n p k vs σ)
def rTgrllrr (K : Nat → Nat) (n : Nat) (p : rP) (k : Nat) (vs : List jv) (σ : Nat → jcell) : Prop := cond (Nat.ble k 67) (rTgrllrrl K n p k vs σ) (rTgrllrrr K n p k vs σ)
def rTgrllr (K : Nat → Nat) (n : Nat) (p : rP) (k : Nat) (vs : List jv) (σ : Nat → jcell) : Prop := cond (Nat.ble k 66) (rTgrllrl K n p k vs σ) (rTgrllrr K n p k vs σ)
def rTgrll (K : Nat → Nat) (n : Nat) (p : rP) (k : Nat) (vs : List jv) (σ : Nat → jcell) : Prop := cond (Nat.ble k 64) (rTgrlll K n p k vs σ) (rTgrllr K n p k vs σ)
def rTgrlrlll (K : Nat → Nat) (n : Nat) (p : rP) (k : Nat) (vs : List jv) (σ : Nat → jcell) : Prop := cond (Nat.beq k 70) (rb_70 K n p vs σ) False
def rTgrlrllr (K : Nat → Nat) (n : Nat) (p : rP) (k : Nat) (vs : List jv) (σ : Nat → jcell) : Prop := cond (Nat.beq k 71) (rb_71 K n p vs σ) False
def rTgrlrll (K : Nat → Nat) (n : Nat) (p : rP) (k : Nat) (vs : List jv) (σ : Nat → jcell) : Prop := cond (Nat.ble k 70) (rTgrlrlll K n p k vs σ) (rTgrlrllr K n p k vs σ)
def rTgrlrlrl (K : Nat → Nat) (n : Nat) (p : rP) (k : Nat) (vs : List jv) (σ : Nat → jcell) : Prop := cond (Nat.beq k 72) (rb_72 K n p vs σ) False
def rTgrlrlrrl (K : Nat → Nat) (n : Nat) (p : rP) (k : Nat) (vs : List jv) (σ : Nat → jcell) : Prop := cond (Nat.beq k 73) (rb_73 K n p vs σ) False
def rTgrlrlrrr (K : Nat → Nat) (n : Nat) (p : rP) (k : Nat) (vs : List jv) (σ : Nat → jcell) : Prop := cond (Nat.beq k 74) (rb_74 K n p vs σ) False
def rTgrlrlrr (K : Nat → Nat) (n : Nat) (p : rP) (k : Nat) (vs : List jv) (σ : Nat → jcell) : Prop := cond (Nat.ble k 73) (rTgrlrlrrl K n p k vs σ) (rTgrlrlrrr K n p k vs σ)
def rTgrlrlr (K : Nat → Nat) (n : Nat) (p : rP) (k : Nat) (vs : List jv) (σ : Nat → jcell) : Prop := cond (Nat.ble k 72) (rTgrlrlrl K n p k vs σ) (rTgrlrlrr K n p k vs σ)
def rTgrlrl (K : Nat → Nat) (n : Nat) (p : rP) (k : Nat) (vs : List jv) (σ : Nat → jcell) : Prop := cond (Nat.ble k 71) (rTgrlrll K n p k vs σ) (rTgrlrlr K n p k vs σ)
def rTgrlrrll (K : Nat → Nat) (n : Nat) (p : rP) (k : Nat) (vs : List jv) (σ : Nat → jcell) : Prop := cond (Nat.beq k 75) (rb_75 K n p vs σ) False
def rTgrlrrlr (K : Nat → Nat) (n : Nat) (p : rP) (k : Nat) (vs : List jv) (σ : Nat → jcell) : Prop := cond (Nat.beq k 76) (rb_76 K n p vs σ) False
def rTgrlrrl (K : Nat → Nat) (n : Nat) (p : rP) (k : Nat) (vs : List jv) (σ : Nat → jcell) : Prop := cond (Nat.ble k 75) (rTgrlrrll K n p k vs σ) (rTgrlrrlr K n p k vs σ)
def rTgrlrrrl (K : Nat → Nat) (n : Nat) (p : rP) (k : Nat) (vs : List jv) (σ : Nat → jcell) : Prop := cond (Nat.beq k 77) (rb_77 K n p vs σ) False
def rTgrlrrrrl (K : Nat → Nat) (n : Nat) (p : rP) (k : Nat) (vs : List jv) (σ : Nat → jcell) : Prop := cond (Nat.beq k 78) (rb_78 K n p vs σ) False
def rTgrlrrrrr (K : Nat → Nat) (n : Nat) (p : rP) (k : Nat) (vs : List jv) (σ : Nat → jcell) : Prop := cond (Nat.beq k 79) (rb_79 K n p vs σ) False
def rTgrlrrrr (K : Nat → Nat) (n : Nat) (p : rP) (k : Nat) (vs : List jv) (σ : Nat → jcell) : Prop := cond (Nat.ble k 78) (rTgrlrrrrl K n p k vs σ) (rTgrlrrrrr K n p k vs σ)
def rTgrlrrr (K : Nat → Nat) (n : Nat) (p : rP) (k : Nat) (vs : List jv) (σ : Nat → jcell) : Prop := cond (Nat.ble k 77) (rTgrlrrrl K n p k vs σ) (rTgrlrrrr K n p k vs σ)
def rTgrlrr (K : Nat → Nat) (n : Nat) (p : rP) (k : Nat) (vs : List jv) (σ : Nat → jcell) : Prop := cond (Nat.ble k 76) (rTgrlrrl K n p k vs σ) (rTgrlrrr K n p k vs σ)
def rTgrlr (K : Nat → Nat) (n : Nat) (p : rP) (k : Nat) (vs : List jv) (σ : Nat → jcell) : Prop := cond (Nat.ble k 74) (rTgrlrl K n p k vs σ) (rTgrlrr K n p k vs σ)
def rTgrl (K : Nat → Nat) (n : Nat) (p : rP) (k : Nat) (vs : List jv) (σ : Nat → jcell) : Prop := cond (Nat.ble k 69) (rTgrll K n p k vs σ) (rTgrlr K n p k vs σ)
def rTgrrllll (K : Nat → Nat) (n : Nat) (p : rP) (k : Nat) (vs : List jv) (σ : Nat → jcell) : Prop := cond (Nat.beq k 80) (rb_80 K n p vs σ) False
def rTgrrlllr (K : Nat → Nat) (n : Nat) (p : rP) (k : Nat) (vs : List jv) (σ : Nat → jcell) : Prop := cond (Nat.beq k 81) (rb_81 K n p vs σ) False
def rTgrrlll (K : Nat → Nat) (n : Nat) (p : rP) (k : Nat) (vs : List jv) (σ : Nat → jcell) : Prop := cond (Nat.ble k 80) (rTgrrllll K n p k vs σ) (rTgrrlllr K n p k vs σ)
def rTgrrllrl (K : Nat → Nat) (n : Nat) (p : rP) (k : Nat) (vs : List jv) (σ : Nat → jcell) : Prop := cond (Nat.beq k 82) (rb_82 K n p vs σ) False
def rTgrrllrrl (K : Nat → Nat) (n : Nat) (p : rP) (k : Nat) (vs : List jv) (σ : Nat → jcell) : Prop := cond (Nat.beq k 83) (rb_83 K n p vs σ) False
def rTgrrllrrr (K : Nat → Nat) (n : Nat) (p : rP) (k : Nat) (vs : List jv) (σ : Nat → jcell) : Prop := cond (Nat.beq k 84) (rb_84 K n p vs σ) False
def rTgrrllrr (K : Nat → Nat) (n : Nat) (p : rP) (k : Nat) (vs : List jv) (σ : Nat → jcell) : Prop := cond (Nat.ble k 83) (rTgrrllrrl K n p k vs σ) (rTgrrllrrr K n p k vs σ)
def rTgrrllr (K : Nat → Nat) (n : Nat) (p : rP) (k : Nat) (vs : List jv) (σ : Nat → jcell) : Prop := cond (Nat.ble k 82) (rTgrrllrl K n p k vs σ) (rTgrrllrr K n p k vs σ)
def rTgrrll (K : Nat → Nat) (n : Nat) (p : rP) (k : Nat) (vs : List jv) (σ : Nat → jcell) : Prop := cond (Nat.ble k 81) (rTgrrlll K n p k vs σ) (rTgrrllr K n p k vs σ)
def rTgrrlrll (K : Nat → Nat) (n : Nat) (p : rP) (k : Nat) (vs : List jv) (σ : Nat → jcell) : Prop := cond (Nat.beq k 85) (rb_85 K n p vs σ) False
def rTgrrlrlr (K : Nat → Nat) (n : Nat) (p : rP) (k : Nat) (vs : List jv) (σ : Nat → jcell) : Prop := cond (Nat.beq k 86) (rb_86 K n p vs σ) False
def rTgrrlrl (K : Nat → Nat) (n : Nat) (p : rP) (k : Nat) (vs : List jv) (σ : Nat → jcell) : Prop := cond (Nat.ble k 85) (rTgrrlrll K n p k vs σ) (rTgrrlrlr K n p k vs σ)
def rTgrrlrrl (K : Nat → Nat) (n : Nat) (p : rP) (k : Nat) (vs : List jv) (σ : Nat → jcell) : Prop := cond (Nat.beq k 87) (rb_87 K n p vs σ) False
def rTgrrlrrrl (K : Nat → Nat) (n : Nat) (p : rP) (k : Nat) (vs : List jv) (σ : Nat → jcell) : Prop := cond (Nat.beq k 88) (rb_88 K n p vs σ) False
def rTgrrlrrrr (K : Nat → Nat) (n : Nat) (p : rP) (k : Nat) (vs : List jv) (σ : Nat → jcell) : Prop := cond (Nat.beq k 89) (rb_89 K n p vs σ) False
def rTgrrlrrr (K : Nat → Nat) (n : Nat) (p : rP) (k : Nat) (vs : List jv) (σ : Nat → jcell) : Prop := cond (Nat.ble k 88) (rTgrrlrrrl K n p k vs σ) (rTgrrlrrrr K n p k vs σ)
def rTgrrlrr (K : Nat → Nat) (n : Nat) (p : rP) (k : Nat) (vs : List jv) (σ : Nat → jcell) : Prop := cond (Nat.ble k 87) (rTgrrlrrl K n p k vs σ) (rTgrrlrrr K n p k vs σ)
def rTgrrlr (K : Nat → Nat) (n : Nat) (p : rP) (k : Nat) (vs : List jv) (σ : Nat → jcell) : Prop := cond (Nat.ble k 86) (rTgrrlrl K n p k vs σ) (rTgrrlrr K n p k vs σ)
def rTgrrl (K : Nat → Nat) (n : Nat) (p : rP) (k : Nat) (vs : List jv) (σ : Nat → jcell) : Prop := cond (Nat.ble k 84) (rTgrrll K n p k vs σ) (rTgrrlr K n p k vs σ)
def rTgrrrlll (K : Nat → Nat) (n : Nat) (p : rP) (k : Nat) (vs : List jv) (σ : Nat → jcell) : Prop := cond (Nat.beq k 90) (rb_90 K n p vs σ) False
def rTgrrrllr (K : Nat → Nat) (n : Nat) (p : rP) (k : Nat) (vs : List jv) (σ : Nat → jcell) : Prop := cond (Nat.beq k 91) (rb_91 K n p vs σ) False
def rTgrrrll (K : Nat → Nat) (n : Nat) (p : rP) (k : Nat) (vs : List jv) (σ : Nat → jcell) : Prop := cond (Nat.ble k 90) (rTgrrrlll K n p k vs σ) (rTgrrrllr K n p k vs σ)
def rTgrrrlrl (K : Nat → Nat) (n : Nat) (p : rP) (k : Nat) (vs : List jv) (σ : Nat → jcell) : Prop := cond (Nat.beq k 92) (rb_92 K n p vs σ) False
def rTgrrrlrrl (K : Nat → Nat) (n : Nat) (p : rP) (k : Nat) (vs : List jv) (σ : Nat → jcell) : Prop := cond (Nat.beq k 93) (rb_93 K n p vs σ) False
def rTgrrrlrrr (K : Nat → Nat) (n : Nat) (p : rP) (k : Nat) (vs : List jv) (σ : Nat → jcell) : Prop := cond (Nat.beq k 94) (rb_94 K n p vs σ) False
def rTgrrrlrr (K : Nat → Nat) (n : Nat) (p : rP) (k : Nat) (vs : List jv) (σ : Nat → jcell) : Prop := cond (Nat.ble k 93) (rTgrrrlrrl K n p k vs σ) (rTgrrrlrrr K n p k vs σ)
def rTgrrrlr (K : Nat → Nat) (n : Nat) (p : rP) (k : Nat) (vs : List jv) (σ : Nat → jcell) : Prop := cond (Nat.ble k 92) (rTgrrrlrl K n p k vs σ) (rTgrrrlrr K n p k vs σ)
def rTgrrrl (K : Nat → Nat) (n : Nat) (p : rP) (k : Nat) (vs : List jv) (σ : Nat → jcell) : Prop := cond (Nat.ble k 91) (rTgrrrll K n p k vs σ) (rTgrrrlr K n p k vs σ)
def rTgrrrrll (K : Nat → Nat) (n : Nat) (p : rP) (k : Nat) (vs : List jv) (σ : Nat → jcell) : Prop := cond (Nat.beq k 95) (rb_95 K n p vs σ) False
def rTgrrrrlr (K : Nat → Nat) (n : Nat) (p : rP) (k : Nat) (vs : List jv) (σ : Nat → jcell) : Prop := cond (Nat.beq k 96) (rb_96 K n p vs σ) False
def rTgrrrrl (K : Nat → Nat) (n : Nat) (p : rP) (k : Nat) (vs : List jv) (σ : Nat → jcell) : Prop := cond (Nat.ble k 95) (rTgrrrrll K n p k vs σ) (rTgrrrrlr K n p k vs σ)
def rTgrrrrrl (K : Nat → Nat) (n : Nat) (p : rP) (k : Nat) (vs : List jv) (σ : Nat → jcell) : Prop := cond (Nat.beq k 97) (rb_97 K n p vs σ) False
def rTgrrrrrrl (K : Nat → Nat) (n : Nat) (p : rP) (k : Nat) (vs : List jv) (σ : Nat → jcell) : Prop := cond (Nat.beq k 98) (rb_98 K n p vs σ) False
def rTgrrrrrrr (K : Nat → Nat) (n : Nat) (p : rP) (k : Nat) (vs : List jv) (σ : Nat → jcell) : Prop := cond (Nat.beq k 99) (rb_99 K n p vs σ) False
def rTgrrrrrr (K : Nat → Nat) (n : Nat) (p : rP) (k : Nat) (vs : List jv) (σ : Nat → jcell) : Prop := cond (Nat.ble k 98) (rTgrrrrrrl K n p k vs σ) (rTgrrrrrrr K n p k vs σ)
def rTgrrrrr (K : Nat → Nat) (n : Nat) (p : rP) (k : Nat) (vs : List jv) (σ : Nat → jcell) : Prop := cond (Nat.ble k 97) (rTgrrrrrl K n p k vs σ) (rTgrrrrrr K n p k vs σ)
def rTgrrrr (K : Nat → Nat) (n : Nat) (p : rP) (k : Nat) (vs : List jv) (σ : Nat → jcell) : Prop := cond (Nat.ble k 96) (rTgrrrrl K n p k vs σ) (rTgrrrrr K n p k vs σ)
def rTgrrr (K : Nat → Nat) (n : Nat) (p : rP) (k : Nat) (vs : List jv) (σ : Nat → jcell) : Prop := cond (Nat.ble k 94) (rTgrrrl K n p k vs σ) (rTgrrrr K n p k vs σ)
def rTgrr (K : Nat → Nat) (n : Nat) (p : rP) (k : Nat) (vs : List jv) (σ : Nat → jcell) : Prop := cond (Nat.ble k 89) (rTgrrl K n p k vs σ) (rTgrrr K n p k vs σ)
def rTgr (K : Nat → Nat) (n : Nat) (p : rP) (k : Nat) (vs : List jv) (σ : Nat → jcell) : Prop := cond (Nat.ble k 79) (rTgrl K n p k vs σ) (rTgrr K n p k vs σ)
def rTg (K : Nat → Nat) (n : Nat) (p : rP) (k : Nat) (vs : List jv) (σ : Nat → jcell) : Prop := cond (Nat.ble k 60) (rTgl K n p k vs σ) (rTgr K n p k vs σ)
def rB (K : Nat → Nat) (n : Nat) (p : rP) (k : Nat) (vs : List jv) (σ : Nat → jcell) : Prop := cond (Nat.ble 1000 k) False (cond (Nat.ble 100 k) (cond (Nat.ble k 399) (rTf K n k vs σ) (rTg K n p k vs σ)) (rTg K n p k vs σ))
abbrev rF (K : Nat → Nat) (n : Nat) : aFt rP := rFF (rB K n) rS1
theorem rB_fre (K : Nat → Nat) (n : Nat) (p p' : rP) (k : Nat) (vs : List jv) (σ : Nat → jcell) (h1 : 100 ≤ k) (h2 : k < 400) (h : rB K n p k vs σ) : rB K n p' k vs σ := by
  unfold rB at h ⊢
  rw [show Nat.ble 100 k = true from Nat.ble_eq_true_of_le h1, show Nat.ble k 399 = true from Nat.ble_eq_true_of_le (by omega)] at h ⊢
  exact h
theorem rB_hi (K : Nat → Nat) (n : Nat) (p : rP) (k : Nat) (vs : List jv) (σ : Nat → jcell) (h1 : 1000 ≤ k) (h : rB K n p k vs σ) : False := by
  unfold rB at h
  rw [show Nat.ble 1000 k = true from Nat.ble_eq_true_of_le h1] at h
  exact h
theorem rF_shf (K : Nat → Nat) (n : Nat) : aShf (rF K n) (rSh rS1) := rF_sh (rB_fre K n) (rB_hi K n)
theorem ro_22 {K : Nat → Nat} {n : Nat} {p : rP} {x0 : Nat} {σ : Nat → jcell} : rB K n p 22 [rR x0] σ ↔ (p.2 = none ∧ rRX K n σ x0 p.1) := Iff.rfl
theorem ro_23 {K : Nat → Nat} {n : Nat} {p : rP} {x0 : Nat} {x1 : Int32} {σ : Nat → jcell} : rB K n p 23 [rR x0, rI x1] σ ↔ (p.2 = none ∧ rUD K n σ x0 0 p.1 x1.toInt) := Iff.rfl
theorem ro_24 {K : Nat → Nat} {n : Nat} {p : rP}  {σ : Nat → jcell} : rB K n p 24 [] σ ↔ (rGd p.1) := Iff.rfl
theorem ro_25 {K : Nat → Nat} {n : Nat} {p : rP} {x0 : Int32} {σ : Nat → jcell} : rB K n p 25 [rI x0] σ ↔ (rLm p.1 x0.toInt) := Iff.rfl
theorem ro_26 {K : Nat → Nat} {n : Nat} {p : rP} {x0 : Nat} {x1 : Int32} {σ : Nat → jcell} : rB K n p 26 [rR x0, rI x1] σ ↔ (p.2 = none ∧ rUD K n σ x0 1 p.1 x1.toInt) := Iff.rfl
theorem ro_27 {K : Nat → Nat} {n : Nat} {p : rP} {x0 : Nat} {x1 : Int32} {σ : Nat → jcell} : rB K n p 27 [rR x0, rI x1] σ ↔ (p.2 = none ∧ rUD K n σ x0 2 p.1 x1.toInt) := Iff.rfl
theorem ro_28 {K : Nat → Nat} {n : Nat} {p : rP} {x0 : Nat} {x1 : Int32} {x2 : Int32} {σ : Nat → jcell} : rB K n p 28 [rR x0, rI x1, rI x2] σ ↔ (p.2 = none ∧ rUD K n σ x0 x1.toInt p.1 x2.toInt) := Iff.rfl
theorem ro_29 {K : Nat → Nat} {n : Nat} {p : rP} {x0 : Int32} {x1 : Int32} {σ : Nat → jcell} : rB K n p 29 [rI x0, rI x1] σ ↔ ((x1.toInt = 1 ∧ rGd (rMk p.1 x0.toInt)) ∨ (x1.toInt = 0 ∧ ¬ rGd (rMk p.1 x0.toInt))) := Iff.rfl
theorem ro_30 {K : Nat → Nat} {n : Nat} {p : rP} {x0 : Int32} {x1 : Int64} {σ : Nat → jcell} : rB K n p 30 [rI x0, rL x1] σ ↔ (∀ u, 0 ≤ u → u ≤ 63 → (rBt x1 u ↔ rGO p.1 x0.toInt u)) := Iff.rfl
theorem ro_31 {K : Nat → Nat} {n : Nat} {p : rP} {x0 : Int32} {σ : Nat → jcell} : rB K n p 31 [rI x0] σ ↔ (rLm p.1 x0.toInt ∧ rGd (rMk p.1 x0.toInt)) := Iff.rfl
theorem ro_32 {K : Nat → Nat} {n : Nat} {p : rP} {x0 : Int32} {x1 : Int32} {σ : Nat → jcell} : rB K n p 32 [rI x0, rI x1] σ ↔ ((x1.toInt = 1 ∧ rCa p.1 x0.toInt) ∨ (x1.toInt = 0 ∧ ¬ rCa p.1 x0.toInt)) := Iff.rfl
theorem ro_33 {K : Nat → Nat} {n : Nat} {p : rP} {x0 : Int32} {x1 : Int32} {σ : Nat → jcell} : rB K n p 33 [rI x0, rI x1] σ ↔ (∀ j, 56 * p.1.2.1 + (if x0.toInt = 1 then 5 else 1) ≤ j → j < x1.toInt → p.1.1 j = 0) := Iff.rfl
theorem ro_34 {K : Nat → Nat} {n : Nat} {p : rP} {x0 : Int32} {x1 : Int64} {σ : Nat → jcell} : rB K n p 34 [rI x0, rL x1] σ ↔ (p.1.1 x0.toInt % 8 = 6 ∧ ∀ u, 0 ≤ u → u ≤ 63 → (rBt x1 u ↔ rRe p.1.1 (p.1.1 x0.toInt % 8) x0.toInt u ∨ (rCa p.1 1 ∧ u = x0.toInt + 2))) := Iff.rfl
theorem ro_35 {K : Nat → Nat} {n : Nat} {p : rP} {x0 : Int32} {x1 : Int32} {σ : Nat → jcell} : rB K n p 35 [rI x0, rI x1] σ ↔ (x1.toInt = rSp x0.toInt 0 (rUpw p.1)) := Iff.rfl
theorem ro_36 {K : Nat → Nat} {n : Nat} {p : rP} {x0 : Int32} {x1 : Int32} {σ : Nat → jcell} : rB K n p 36 [rI x0, rI x1] σ ↔ (x1.toInt = rSp x0.toInt 0 (rUpw p.1)) := Iff.rfl
theorem ro_37 {K : Nat → Nat} {n : Nat} {p : rP} {x0 : Int32} {x1 : Int32} {σ : Nat → jcell} : rB K n p 37 [rI x0, rI x1] σ ↔ (p.1.1 x0.toInt = x1.toInt) := Iff.rfl
theorem ro_38 {K : Nat → Nat} {n : Nat} {p : rP} {x0 : Int32} {x1 : Int32} {x2 : Int64} {σ : Nat → jcell} : rB K n p 38 [rI x0, rI x1, rL x2] σ ↔ (x1.toInt = rSp x0.toInt 0 (rUpw p.1) ∧ p.1.1 x1.toInt = 0 ∧ ∀ u, 0 ≤ u → u ≤ 63 → (rBt x2 u ↔ u = x1.toInt)) := Iff.rfl
theorem ro_39 {K : Nat → Nat} {n : Nat} {p : rP} {x0 : Int32} {x1 : Int64} {σ : Nat → jcell} : rB K n p 39 [rI x0, rL x1] σ ↔ (∀ u, 0 ≤ u → u ≤ 63 → (rBt x1 u ↔ rPF p.1 x0.toInt u)) := Iff.rfl
theorem ro_40 {K : Nat → Nat} {n : Nat} {p : rP} {x0 : Int32} {x1 : Int32} {x2 : Int64} {σ : Nat → jcell} : rB K n p 40 [rI x0, rI x1, rL x2] σ ↔ ((x1.toInt = -1 ∨ x1.toInt = 1 ∨ x1.toInt = 3) ∧ ∀ u, 0 ≤ u → u ≤ 63 → (rBt x2 u ↔ rPF p.1 x0.toInt u ∨ ∃ f, f < x1.toInt ∧ rPT p.1 x0.toInt f u)) := Iff.rfl
theorem ro_41 {K : Nat → Nat} {n : Nat} {p : rP} {x0 : Int32} {x1 : Int32} {x2 : Int64} {σ : Nat → jcell} : rB K n p 41 [rI x0, rI x1, rL x2] σ ↔ ((x1.toInt = -1 ∨ x1.toInt = 1) ∧ ∀ u, 0 ≤ u → u ≤ 63 → (rBt x2 u ↔ rPF p.1 x0.toInt u ∨ ∃ f, f < x1.toInt + 2 ∧ rPT p.1 x0.toInt f u)) := Iff.rfl
theorem ro_42 {K : Nat → Nat} {n : Nat} {p : rP} {x0 : Int32} {σ : Nat → jcell} : rB K n p 42 [rI x0] σ ↔ (rTk p.1 x0.toInt) := Iff.rfl
theorem ro_43 {K : Nat → Nat} {n : Nat} {p : rP} {x0 : Int32} {x1 : Int64} {σ : Nat → jcell} : rB K n p 43 [rI x0, rL x1] σ ↔ (∀ u, 0 ≤ u → u ≤ 63 → (rBt x1 u ↔ rPG p.1 x0.toInt u)) := Iff.rfl
theorem ro_45 {K : Nat → Nat} {n : Nat} {p : rP} {x0 : Int32} {σ : Nat → jcell} : rB K n p 45 [rI x0] σ ↔ (rHas p.1.2.2.1 ((if x0.toInt = 1 then 1 else 2) * (if p.1.2.1 = 0 then 1 else 4))) := Iff.rfl
theorem ro_46 {K : Nat → Nat} {n : Nat} {p : rP} {x0 : Int32} {x1 : Int32} {x2 : Int32} {σ : Nat → jcell} : rB K n p 46 [rI x0, rI x1, rI x2] σ ↔ (x2.toInt = rSp x0.toInt x1.toInt (rUpw p.1)) := Iff.rfl
theorem ro_47 {K : Nat → Nat} {n : Nat} {p : rP} {x0 : Int32} {σ : Nat → jcell} : rB K n p 47 [rI x0] σ ↔ (¬ p.1.1 x0.toInt % 8 = 1) := Iff.rfl
theorem ro_48 {K : Nat → Nat} {n : Nat} {p : rP} {x0 : Nat} {x1 : Int32} {σ : Nat → jcell} : rB K n p 48 [rR x0, rI x1] σ ↔ (p.2 = none ∧ rUD K n σ x0 3 p.1 x1.toInt) := Iff.rfl
theorem ro_49 {K : Nat → Nat} {n : Nat} {p : rP} {x0 : Nat} {σ : Nat → jcell} : rB K n p 49 [rR x0] σ ↔ (p.2 = none ∧ ∃ c, 1 ≤ c ∧ c ≤ 2048 ∧ rCT K n σ x0 0 c ∧ rLF K n σ x0 0 c p.1) := Iff.rfl
theorem ro_50 {K : Nat → Nat} {n : Nat} {p : rP} {x0 : Nat} {x1 : Int32} {σ : Nat → jcell} : rB K n p 50 [rR x0, rI x1] σ ↔ (∃ M, rMe K n σ x0 M ∧ (p.2 = none ∧ M = rM1 p.1 x1.toInt)) := Iff.rfl
theorem ro_51 {K : Nat → Nat} {n : Nat} {p : rP} {x0 : Nat} {x1 : Int32} {σ : Nat → jcell} : rB K n p 51 [rR x0, rI x1] σ ↔ (∃ M, rMe K n σ x0 M ∧ (p.2 = none ∧ M = rM2 p.1 x1.toInt)) := Iff.rfl
theorem ro_52 {K : Nat → Nat} {n : Nat} {p : rP} {x0 : Nat} {x1 : Int32} {σ : Nat → jcell} : rB K n p 52 [rR x0, rI x1] σ ↔ (∃ M, rMe K n σ x0 M ∧ (p.2 = none ∧ M = rM3 p.1 x1.toInt)) := Iff.rfl
theorem ro_53 {K : Nat → Nat} {n : Nat} {p : rP} {x0 : Nat} {x1 : Int32} {σ : Nat → jcell} : rB K n p 53 [rR x0, rI x1] σ ↔ (∃ M, rMe K n σ x0 M ∧ (p.2 = none ∧ M = rM4 p.1 x1.toInt)) := Iff.rfl
theorem ro_54 {K : Nat → Nat} {n : Nat} {p : rP} {x0 : Nat} {x1 : Int32} {x2 : Int32} {σ : Nat → jcell} : rB K n p 54 [rR x0, rI x1, rI x2] σ ↔ (∃ M, rMe K n σ x0 M ∧ (p.2 = none ∧ M = rM3 p.1 (x1.toInt + 64 * x2.toInt))) := Iff.rfl
theorem ro_55 {K : Nat → Nat} {n : Nat} {p : rP} {x0 : Nat} {x1 : Int32} {x2 : Int32} {σ : Nat → jcell} : rB K n p 55 [rR x0, rI x1, rI x2] σ ↔ (∃ M, rMe K n σ x0 M ∧ (p.2 = none ∧ M = rUp (rM3 p.1 (x1.toInt + 64 * x2.toInt)) (rOv x1.toInt x2.toInt) (rM3 p.1 (x1.toInt + 64 * x2.toInt) (rCo x1.toInt x2.toInt)))) := Iff.rfl
theorem ro_56 {K : Nat → Nat} {n : Nat} {p : rP} {x0 : Nat} {x1 : Int32} {x2 : Int32} {σ : Nat → jcell} : rB K n p 56 [rR x0, rI x1, rI x2] σ ↔ (∃ M, rMe K n σ x0 M ∧ (p.2 = none ∧ M = rM4c p.1 (x1.toInt + 64 * x2.toInt))) := Iff.rfl
theorem ro_57 {K : Nat → Nat} {n : Nat} {p : rP} {x0 : Nat} {x1 : Int32} {x2 : Int32} {σ : Nat → jcell} : rB K n p 57 [rR x0, rI x1, rI x2] σ ↔ (∃ M, rMe K n σ x0 M ∧ (p.2 = none ∧ rIsC p.1 (x1.toInt + 64 * x2.toInt) ∧ M = rT0c p.1 (x1.toInt + 64 * x2.toInt))) := Iff.rfl
theorem ro_58 {K : Nat → Nat} {n : Nat} {p : rP} {x0 : Nat} {x1 : Int32} {σ : Nat → jcell} : rB K n p 58 [rR x0, rI x1] σ ↔ (∃ M, rMe K n σ x0 M ∧ (p.2 = none ∧ M = rT0 p.1 x1.toInt)) := Iff.rfl
theorem ro_59 {K : Nat → Nat} {n : Nat} {p : rP} {x0 : Nat} {x1 : Int32} {σ : Nat → jcell} : rB K n p 59 [rR x0, rI x1] σ ↔ (∃ M, rMe K n σ x0 M ∧ (p.2 = none ∧ M = rT1 p.1 x1.toInt)) := Iff.rfl
theorem ro_60 {K : Nat → Nat} {n : Nat} {p : rP} {x0 : Nat} {x1 : Int32} {σ : Nat → jcell} : rB K n p 60 [rR x0, rI x1] σ ↔ (∃ M, rMe K n σ x0 M ∧ (p.2 = none ∧ M = rT2 p.1 x1.toInt)) := Iff.rfl
theorem ro_61 {K : Nat → Nat} {n : Nat} {p : rP} {x0 : Nat} {x1 : Int32} {σ : Nat → jcell} : rB K n p 61 [rR x0, rI x1] σ ↔ (∃ M, rMe K n σ x0 M ∧ (p.2 = none ∧ M = rT3 p.1 x1.toInt)) := Iff.rfl
theorem ro_62 {K : Nat → Nat} {n : Nat} {p : rP} {x0 : Nat} {x1 : Int32} {x2 : Int32} {σ : Nat → jcell} : rB K n p 62 [rR x0, rI x1, rI x2] σ ↔ (∃ M, rMe K n σ x0 M ∧ (p.2 = none ∧ rIsC p.1 (x1.toInt + 64 * x2.toInt) ∧ M = rM4c p.1 (x1.toInt + 64 * x2.toInt))) := Iff.rfl
theorem ro_63 {K : Nat → Nat} {n : Nat} {p : rP} {x0 : Nat} {x1 : Int32} {x2 : Int32} {σ : Nat → jcell} : rB K n p 63 [rR x0, rI x1, rI x2] σ ↔ (∃ M, rMe K n σ x0 M ∧ (p.2 = none ∧ rIsC p.1 (x1.toInt + 64 * x2.toInt) ∧ M = rUp (rM4c p.1 (x1.toInt + 64 * x2.toInt)) (rCo x1.toInt x2.toInt) (rM4c p.1 (x1.toInt + 64 * x2.toInt) (rOv x1.toInt x2.toInt)))) := Iff.rfl
theorem ro_64 {K : Nat → Nat} {n : Nat} {p : rP} {x0 : Int32} {x1 : Int32} {σ : Nat → jcell} : rB K n p 64 [rI x0, rI x1] σ ↔ (x1.toInt = rWh p.1 x0.toInt) := Iff.rfl
theorem ro_65 {K : Nat → Nat} {n : Nat} {p : rP} {x0 : Int32} {x1 : Int32} {σ : Nat → jcell} : rB K n p 65 [rI x0, rI x1] σ ↔ (x1.toInt = p.1.1 (rFr x0.toInt)) := Iff.rfl
theorem ro_66 {K : Nat → Nat} {n : Nat} {p : rP} {x0 : Int32} {x1 : Int32} {σ : Nat → jcell} : rB K n p 66 [rI x0, rI x1] σ ↔ (x1.toInt = p.1.1 (rWh p.1 x0.toInt)) := Iff.rfl
theorem ro_67 {K : Nat → Nat} {n : Nat} {p : rP} {x0 : Int32} {σ : Nat → jcell} : rB K n p 67 [rI x0] σ ↔ (x0.toInt = p.1.2.1) := Iff.rfl
theorem ro_68 {K : Nat → Nat} {n : Nat} {p : rP} {x0 : Int32} {σ : Nat → jcell} : rB K n p 68 [rI x0] σ ↔ (x0.toInt = p.1.2.2.1) := Iff.rfl
theorem ro_69 {K : Nat → Nat} {n : Nat} {p : rP} {x0 : Int32} {σ : Nat → jcell} : rB K n p 69 [rI x0] σ ↔ (x0.toInt = p.1.2.2.2) := Iff.rfl
theorem ro_70 {K : Nat → Nat} {n : Nat} {p : rP} {x0 : Int32} {x1 : Int32} {σ : Nat → jcell} : rB K n p 70 [rI x0, rI x1] σ ↔ (x1.toInt = rAn (rAn p.1.2.2.1 (rLo (rFr x0.toInt))) (rLo (rTo x0.toInt))) := Iff.rfl
theorem ro_71 {K : Nat → Nat} {n : Nat} {p : rP} {x0 : Int32} {x1 : Int32} {σ : Nat → jcell} : rB K n p 71 [rI x0, rI x1] σ ↔ (x1.toInt = rNp p.1 x0.toInt) := Iff.rfl
theorem ro_72 {K : Nat → Nat} {n : Nat} {p : rP} {x0 : Int32} {σ : Nat → jcell} : rB K n p 72 [rI x0] σ ↔ (¬ rNbr (rM4 p.1 x0.toInt) (rTo x0.toInt) (-1) (1 + 8 * (1 - p.1.2.1))) := Iff.rfl
theorem ro_73 {K : Nat → Nat} {n : Nat} {p : rP} {x0 : Int32} {x1 : Int32} {σ : Nat → jcell} : rB K n p 73 [rI x0, rI x1] σ ↔ (rCB p.1 x0.toInt 0 x1.toInt) := Iff.rfl
theorem ro_74 {K : Nat → Nat} {n : Nat} {p : rP} {x0 : Int32} {x1 : Int32} {x2 : Int32} {σ : Nat → jcell} : rB K n p 74 [rI x0, rI x1, rI x2] σ ↔ (rCB p.1 x0.toInt x1.toInt x2.toInt) := Iff.rfl
theorem ro_75 {K : Nat → Nat} {n : Nat} {p : rP} {x0 : Int32} {x1 : Int32} {x2 : Int32} {x3 : Int32} {σ : Nat → jcell} : rB K n p 75 [rI x0, rI x1, rI x2, rI x3] σ ↔ (rCJ p.1 x0.toInt x1.toInt x2.toInt x3.toInt) := Iff.rfl
theorem ro_76 {K : Nat → Nat} {n : Nat} {p : rP} {x0 : Nat} {x1 : Int32} {x2 : Int32} {σ : Nat → jcell} : rB K n p 76 [rR x0, rI x1, rI x2] σ ↔ (p.2 = none ∧ x2.toInt ≤ 2048 ∧ rLF K n σ x0 x1.toInt x2.toInt p.1) := Iff.rfl
theorem ro_77_3 {K : Nat → Nat} {n : Nat} {p : rP} {x0 : Nat} {x1 : Int32} {x2 : Int32} {σ : Nat → jcell} : rB K n p 77 [rR x0, rI x1, rI x2] σ ↔ (p.2 = none ∧ x2.toInt ≤ 2048 ∧ rLF K n σ x0 x1.toInt (x2.toInt + 1) p.1) := ⟨fun h => (fun h => Or.elim h id False.elim) (show rb_77 K n p [rR x0, rI x1, rI x2] σ from h), fun h => Or.inl (h)⟩
theorem ro_77_4 {K : Nat → Nat} {n : Nat} {p : rP} {x0 : Nat} {x1 : Int32} {x2 : Int32} {x3 : Int32} {σ : Nat → jcell} : rB K n p 77 [rR x0, rI x1, rI x2, rI x3] σ ↔ (p.2 = none ∧ x2.toInt ≤ 2048 ∧ rLF K n σ x0 (x1.toInt + 1) x2.toInt p.1) := ⟨fun h => (fun h => Or.elim h False.elim id) (show rb_77 K n p [rR x0, rI x1, rI x2, rI x3] σ from h), fun h => Or.inr (h)⟩
theorem ro_78 {K : Nat → Nat} {n : Nat} {p : rP} {x0 : Int32} {σ : Nat → jcell} : rB K n p 78 [rI x0] σ ↔ (x0.toInt = 0 → ∀ m, rLm p.1 m → ¬ rGd (rMk p.1 m)) := Iff.rfl
theorem ro_79 {K : Nat → Nat} {n : Nat} {p : rP} {x0 : Int32} {x1 : Int32} {σ : Nat → jcell} : rB K n p 79 [rI x0, rI x1] σ ↔ ((x1.toInt = 1 ∧ p.1.1 (rFr x0.toInt) % 8 = 1) ∨ (x1.toInt = 0 ∧ ¬ p.1.1 (rFr x0.toInt) % 8 = 1)) := Iff.rfl
theorem ro_80 {K : Nat → Nat} {n : Nat} {p : rP} {x0 : Nat} {x1 : Int32} {σ : Nat → jcell} : rB K n p 80 [rR x0, rI x1] σ ↔ (p.2 = none ∧ x1.toInt ≤ 2048 ∧ rLF K n σ x0 1 x1.toInt p.1) := Iff.rfl
theorem ro_81 {K : Nat → Nat} {n : Nat} {p : rP} {x0 : Int32} {x1 : Int32} {σ : Nat → jcell} : rB K n p 81 [rI x0, rI x1] σ ↔ (x1.toInt = 1 - p.1.2.1) := Iff.rfl
theorem ro_82 {K : Nat → Nat} {n : Nat} {p : rP} {x0 : Int32} {x1 : Int32} {σ : Nat → jcell} : rB K n p 82 [rI x0, rI x1] σ ↔ (0 ≤ p.1.2.1 ∧ p.1.2.1 ≤ 1 ∧ ((x1.toInt = 1 ∧ rOwn p.1 x0.toInt) ∨ (x1.toInt = 0 ∧ ¬ rOwn p.1 x0.toInt))) := Iff.rfl
theorem ro_83 {K : Nat → Nat} {n : Nat} {p : rP} {x0 : Int32} {x1 : Int64} {σ : Nat → jcell} : rB K n p 83 [rI x0, rL x1] σ ↔ (∀ u, 0 ≤ u → u ≤ 63 → (rBt x1 u ↔ rOwn p.1 x0.toInt ∧ rGO p.1 x0.toInt u)) := Iff.rfl
theorem ro_84 {K : Nat → Nat} {n : Nat} {p : rP} {x0 : Int32} {x1 : Int32} {x2 : Int32} {σ : Nat → jcell} : rB K n p 84 [rI x0, rI x1, rI x2] σ ↔ (rCB p.1 x0.toInt (x1.toInt + 1) x2.toInt) := Iff.rfl
theorem ro_85 {K : Nat → Nat} {n : Nat} {p : rP} {x0 : Int32} {x1 : Int32} {σ : Nat → jcell} : rB K n p 85 [rI x0, rI x1] σ ↔ (rCB p.1 (x0.toInt + 1) 0 x1.toInt) := Iff.rfl
theorem ro_86 {K : Nat → Nat} {n : Nat} {p : rP} {x0 : Int32} {x1 : Int32} {x2 : Int32} {σ : Nat → jcell} : rB K n p 86 [rI x0, rI x1, rI x2] σ ↔ ((x2.toInt = 1 ∧ rLs p.1 x0.toInt x1.toInt) ∨ (x2.toInt = 0 ∧ ¬ rLs p.1 x0.toInt x1.toInt)) := Iff.rfl
theorem ro_87 {K : Nat → Nat} {n : Nat} {p : rP} {x0 : Int32} {x1 : Int32} {x2 : Int32} {x3 : Int32} {σ : Nat → jcell} : rB K n p 87 [rI x0, rI x1, rI x2, rI x3] σ ↔ (rCJ p.1 x0.toInt x1.toInt (x2.toInt + 1) x3.toInt) := Iff.rfl
theorem ro_88 {K : Nat → Nat} {n : Nat} {p : rP} {x0 : Nat} {x1 : Int32} {x2 : Int32} {σ : Nat → jcell} : rB K n p 88 [rR x0, rI x1, rI x2] σ ↔ (rEN K n σ x0 x1.toInt x2.toInt p.1.1) := Iff.rfl
theorem ro_89 {K : Nat → Nat} {n : Nat} {p : rP} {x0 : Nat} {x1 : Int32} {x2 : Int32} {σ : Nat → jcell} : rB K n p 89 [rR x0, rI x1, rI x2] σ ↔ (rEN K n σ x0 x1.toInt (x2.toInt + 1) p.1.1) := Iff.rfl
theorem ro_90 {K : Nat → Nat} {n : Nat} {p : rP} {x0 : Nat} {x1 : Int32} {σ : Nat → jcell} : rB K n p 90 [rR x0, rI x1] σ ↔ (p.2 = none ∧ rAP K n σ x0 x1.toInt p.1) := Iff.rfl
theorem ro_91 {K : Nat → Nat} {n : Nat} {p : rP} {x0 : Nat} {x1 : Int32} {σ : Nat → jcell} : rB K n p 91 [rR x0, rI x1] σ ↔ (p.2 = none ∧ ∃ c, c ≤ 2048 ∧ rCT K n σ x0 x1.toInt c ∧ rLF K n σ x0 x1.toInt c p.1) := Iff.rfl
theorem ro_92 {K : Nat → Nat} {n : Nat} {p : rP} {x0 : Nat} {x1 : Int32} {x2 : Int32} {σ : Nat → jcell} : rB K n p 92 [rR x0, rI x1, rI x2] σ ↔ (p.2 = none ∧ x2.toInt ≤ 2048 ∧ rCT K n σ x0 x1.toInt x2.toInt ∧ rLF K n σ x0 x1.toInt x2.toInt p.1) := Iff.rfl
theorem ro_93 {K : Nat → Nat} {n : Nat} {p : rP} {x0 : Int32} {σ : Nat → jcell} : rB K n p 93 [rI x0] σ ↔ (rLm p.1 x0.toInt ∧ rGd (rSh rS1 p [rR 0, rI (Int32.ofInt x0.toInt)]).1) := Iff.rfl
theorem ro_94 {K : Nat → Nat} {n : Nat} {p : rP} {x0 : Nat} {σ : Nat → jcell} : rB K n p 94 [rR x0] σ ↔ (∃ v : Int32, rOb K n σ x0 88 25 (rI v) ∧ rLm p.1 v.toInt ∧ rGd (rSh rS1 p [rR 0, rI (Int32.ofInt v.toInt)]).1) := Iff.rfl
theorem ro_95 {K : Nat → Nat} {n : Nat} {p : rP}  {σ : Nat → jcell} : rB K n p 95 [] σ ↔ (∃ m, rLm p.1 m ∧ rGd (rMk p.1 m)) := Iff.rfl
theorem ro_96 {K : Nat → Nat} {n : Nat} {p : rP} {x0 : Nat} {x1 : Int32} {σ : Nat → jcell} : rB K n p 96 [rR x0, rI x1] σ ↔ (∃ g a, (rRw K n σ x0 105 4 g ∨ rRw K n σ x0 107 4 g) ∧ rLn a p g 0 x1.toInt.toNat) := Iff.rfl
theorem ro_97_3 {K : Nat → Nat} {n : Nat} {p : rP} {x0 : Nat} {x1 : Int32} {x2 : Int32} {σ : Nat → jcell} : rB K n p 97 [rR x0, rI x1, rI x2] σ ↔ (∃ g, rRo K n σ x0 88 33 107 4 g ∧ rLn x0 p g x1.toInt.toNat x2.toInt.toNat) := ⟨fun h => (fun h => Or.elim h id False.elim) (show rb_97 K n p [rR x0, rI x1, rI x2] σ from h), fun h => Or.inl (h)⟩
theorem ro_97_4 {K : Nat → Nat} {n : Nat} {p : rP} {x0 : Nat} {x1 : Int32} {x2 : Int32} {x3 : Int32} {σ : Nat → jcell} : rB K n p 97 [rR x0, rI x1, rI x2, rI x3] σ ↔ (x3.toInt = 1 → ∃ g, rRo K n σ x0 88 33 107 4 g ∧ rLn x0 p g x1.toInt.toNat x2.toInt.toNat) := ⟨fun h => (fun h => Or.elim h False.elim id) (show rb_97 K n p [rR x0, rI x1, rI x2, rI x3] σ from h), fun h => Or.inr (h)⟩
theorem ro_98 {K : Nat → Nat} {n : Nat} {p : rP} {x0 : Nat} {x1 : Int32} {σ : Nat → jcell} : rB K n p 98 [rR x0, rI x1] σ ↔ (p.2 = none ∧ x1.toInt ≤ 2048 ∧ rCT K n σ x0 0 x1.toInt ∧ rLF K n σ x0 0 x1.toInt p.1) := Iff.rfl
theorem ro_99 {K : Nat → Nat} {n : Nat} {p : rP} {x0 : Nat} {x1 : Int32} {σ : Nat → jcell} : rB K n p 99 [rR x0, rI x1] σ ↔ (p.2 = none ∧ x1.toInt ≤ 2048 ∧ rLF K n σ x0 0 x1.toInt p.1) := Iff.rfl
theorem ro_100 {K : Nat → Nat} {n : Nat} {p : rP} {x0 : jv} {x1 : jv} {x2 : jv} {σ : Nat → jcell} : rB K n p 100 [x0, x1, x2] σ ↔ (aOv 0 x0 x1 x2) := Iff.rfl
theorem ro_101 {K : Nat → Nat} {n : Nat} {p : rP} {x0 : jv} {x1 : jv} {x2 : jv} {σ : Nat → jcell} : rB K n p 101 [x0, x1, x2] σ ↔ (aOv 1 x0 x1 x2) := Iff.rfl
theorem ro_102 {K : Nat → Nat} {n : Nat} {p : rP} {x0 : jv} {x1 : jv} {x2 : jv} {σ : Nat → jcell} : rB K n p 102 [x0, x1, x2] σ ↔ (aOv 2 x0 x1 x2) := Iff.rfl
theorem ro_103 {K : Nat → Nat} {n : Nat} {p : rP} {x0 : jv} {x1 : jv} {x2 : jv} {σ : Nat → jcell} : rB K n p 103 [x0, x1, x2] σ ↔ (aOv 3 x0 x1 x2) := Iff.rfl
theorem ro_104 {K : Nat → Nat} {n : Nat} {p : rP} {x0 : jv} {x1 : jv} {x2 : jv} {σ : Nat → jcell} : rB K n p 104 [x0, x1, x2] σ ↔ (aOv 4 x0 x1 x2) := Iff.rfl
theorem ro_105 {K : Nat → Nat} {n : Nat} {p : rP} {x0 : jv} {x1 : jv} {x2 : jv} {σ : Nat → jcell} : rB K n p 105 [x0, x1, x2] σ ↔ (aOv 5 x0 x1 x2) := Iff.rfl
theorem ro_106 {K : Nat → Nat} {n : Nat} {p : rP} {x0 : jv} {x1 : jv} {x2 : jv} {σ : Nat → jcell} : rB K n p 106 [x0, x1, x2] σ ↔ (aOv 6 x0 x1 x2) := Iff.rfl
theorem ro_107 {K : Nat → Nat} {n : Nat} {p : rP} {x0 : jv} {x1 : jv} {x2 : jv} {σ : Nat → jcell} : rB K n p 107 [x0, x1, x2] σ ↔ (aOv 7 x0 x1 x2) := Iff.rfl
theorem ro_108 {K : Nat → Nat} {n : Nat} {p : rP} {x0 : jv} {x1 : jv} {x2 : jv} {σ : Nat → jcell} : rB K n p 108 [x0, x1, x2] σ ↔ (aOv 8 x0 x1 x2) := Iff.rfl
theorem ro_109 {K : Nat → Nat} {n : Nat} {p : rP} {x0 : jv} {x1 : jv} {x2 : jv} {σ : Nat → jcell} : rB K n p 109 [x0, x1, x2] σ ↔ (aOv 9 x0 x1 x2) := Iff.rfl
theorem ro_110 {K : Nat → Nat} {n : Nat} {p : rP} {x0 : jv} {x1 : jv} {x2 : jv} {σ : Nat → jcell} : rB K n p 110 [x0, x1, x2] σ ↔ (aOv 10 x0 x1 x2) := Iff.rfl
theorem ro_111 {K : Nat → Nat} {n : Nat} {p : rP} {x0 : jv} {x1 : jv} {x2 : jv} {σ : Nat → jcell} : rB K n p 111 [x0, x1, x2] σ ↔ (aOv 11 x0 x1 x2) := Iff.rfl
theorem ro_112 {K : Nat → Nat} {n : Nat} {p : rP} {x0 : jv} {x1 : jv} {x2 : jv} {σ : Nat → jcell} : rB K n p 112 [x0, x1, x2] σ ↔ (aOv 12 x0 x1 x2) := Iff.rfl
theorem ro_113 {K : Nat → Nat} {n : Nat} {p : rP} {x0 : jv} {x1 : jv} {x2 : jv} {σ : Nat → jcell} : rB K n p 113 [x0, x1, x2] σ ↔ (aOv 13 x0 x1 x2) := Iff.rfl
theorem ro_114 {K : Nat → Nat} {n : Nat} {p : rP} {x0 : jv} {x1 : jv} {x2 : jv} {σ : Nat → jcell} : rB K n p 114 [x0, x1, x2] σ ↔ (aOv 14 x0 x1 x2) := Iff.rfl
theorem ro_115 {K : Nat → Nat} {n : Nat} {p : rP} {x0 : jv} {x1 : jv} {x2 : jv} {σ : Nat → jcell} : rB K n p 115 [x0, x1, x2] σ ↔ (aOv 15 x0 x1 x2) := Iff.rfl
theorem ro_116 {K : Nat → Nat} {n : Nat} {p : rP} {x0 : jv} {x1 : jv} {x2 : jv} {σ : Nat → jcell} : rB K n p 116 [x0, x1, x2] σ ↔ (aOv 16 x0 x1 x2) := Iff.rfl
theorem ro_117 {K : Nat → Nat} {n : Nat} {p : rP} {x0 : jv} {x1 : jv} {x2 : jv} {σ : Nat → jcell} : rB K n p 117 [x0, x1, x2] σ ↔ (aOv 17 x0 x1 x2) := Iff.rfl
theorem ro_120 {K : Nat → Nat} {n : Nat} {p : rP} {x0 : Int32} {x1 : Int32} {x2 : Int32} {x3 : Int32} {σ : Nat → jcell} : rB K n p 120 [rI x0, rI x1, rI x2, rI x3] σ ↔ (x3.toInt = rSp x0.toInt x1.toInt x2.toInt) := Iff.rfl
theorem ro_121 {K : Nat → Nat} {n : Nat} {p : rP} {x0 : Int32} {x1 : Int32} {x2 : Int32} {σ : Nat → jcell} : rB K n p 121 [rI x0, rI x1, rI x2] σ ↔ ((x2.toInt = 1 ∧ 0 ≤ x0.toInt ∧ x0.toInt ≤ 7 ∧ 0 ≤ x1.toInt ∧ x1.toInt ≤ 7) ∨ (x2.toInt = 0 ∧ ¬ (0 ≤ x0.toInt ∧ x0.toInt ≤ 7 ∧ 0 ≤ x1.toInt ∧ x1.toInt ≤ 7))) := Iff.rfl
theorem ro_122 {K : Nat → Nat} {n : Nat} {p : rP} {x0 : Nat} {x1 : Int32} {x2 : Int32} {x3 : Int32} {σ : Nat → jcell} : rB K n p 122 [rR x0, rI x1, rI x2, rI x3] σ ↔ (∃ M, rMe K n σ x0 M ∧ ((x3.toInt = 1 ∧ 0 ≤ x1.toInt ∧ M x1.toInt = x2.toInt) ∨ (x3.toInt = 0 ∧ ¬ (0 ≤ x1.toInt ∧ M x1.toInt = x2.toInt)))) := Iff.rfl
theorem ro_123 {K : Nat → Nat} {n : Nat} {p : rP} {x0 : Nat} {x1 : Int32} {x2 : Int32} {x3 : Int32} {x4 : Int32} {σ : Nat → jcell} : rB K n p 123 [rR x0, rI x1, rI x2, rI x3, rI x4] σ ↔ (∃ M, rMe K n σ x0 M ∧ (∀ m, rGf M x2.toInt x3.toInt x4.toInt m → rGf M x2.toInt x3.toInt (rSp x1.toInt x2.toInt x3.toInt) m)) := Iff.rfl
theorem ro_124 {K : Nat → Nat} {n : Nat} {p : rP} {x0 : Nat} {x1 : Int32} {x2 : Int32} {x3 : Int32} {x4 : Int32} {σ : Nat → jcell} : rB K n p 124 [rR x0, rI x1, rI x2, rI x3, rI x4] σ ↔ (∃ M, rMe K n σ x0 M ∧ (∀ m, rGf M x2.toInt x3.toInt (rSp x4.toInt x2.toInt x3.toInt) m → rGf M x2.toInt x3.toInt (rSp x1.toInt x2.toInt x3.toInt) m)) := Iff.rfl
theorem ro_125 {K : Nat → Nat} {n : Nat} {p : rP} {x0 : Nat} {x1 : Int32} {x2 : Int32} {x3 : Int32} {x4 : Int32} {σ : Nat → jcell} : rB K n p 125 [rR x0, rI x1, rI x2, rI x3, rI x4] σ ↔ (∃ M, rMe K n σ x0 M ∧ (rGf M x2.toInt x3.toInt (rSp x1.toInt x2.toInt x3.toInt) x4.toInt)) := Iff.rfl
theorem ro_126 {K : Nat → Nat} {n : Nat} {p : rP} {x0 : Nat} {x1 : Int32} {x2 : Int32} {σ : Nat → jcell} : rB K n p 126 [rR x0, rI x1, rI x2] σ ↔ (∃ M, rMe K n σ x0 M ∧ (¬ rP1 M x1.toInt x2.toInt (-1))) := Iff.rfl
theorem ro_127 {K : Nat → Nat} {n : Nat} {p : rP} {x0 : Nat} {x1 : Int32} {x2 : Int32} {σ : Nat → jcell} : rB K n p 127 [rR x0, rI x1, rI x2] σ ↔ (∃ M, rMe K n σ x0 M ∧ (¬ rP1 M x1.toInt x2.toInt (-1) ∧ ¬ rP1 M x1.toInt x2.toInt 1)) := Iff.rfl
theorem ro_128 {K : Nat → Nat} {n : Nat} {p : rP} {x0 : Nat} {x1 : Int32} {x2 : Int32} {x3 : Int32} {σ : Nat → jcell} : rB K n p 128 [rR x0, rI x1, rI x2, rI x3] σ ↔ (∃ M, rMe K n σ x0 M ∧ (¬ rP1 M x1.toInt x2.toInt (-1) ∧ ¬ rP1 M x1.toInt x2.toInt 1 ∧ ∀ f r, -2 ≤ f → f < x3.toInt → -2 ≤ r → r ≤ 2 → ¬ rA1 M x1.toInt x2.toInt f r)) := Iff.rfl
theorem ro_129 {K : Nat → Nat} {n : Nat} {p : rP} {x0 : Nat} {x1 : Int32} {x2 : Int32} {x3 : Int32} {x4 : Int32} {σ : Nat → jcell} : rB K n p 129 [rR x0, rI x1, rI x2, rI x3, rI x4] σ ↔ (∃ M, rMe K n σ x0 M ∧ (¬ rP1 M x1.toInt x2.toInt (-1) ∧ ¬ rP1 M x1.toInt x2.toInt 1 ∧ (∀ f r, -2 ≤ f → f < x3.toInt → -2 ≤ r → r ≤ 2 → ¬ rA1 M x1.toInt x2.toInt f r) ∧ ∀ r, -2 ≤ r → r < x4.toInt → ¬ rA1 M x1.toInt x2.toInt x3.toInt r)) := Iff.rfl
theorem ro_130 {K : Nat → Nat} {n : Nat} {p : rP} {x0 : Nat} {x1 : Int32} {x2 : Int32} {x3 : Int32} {x4 : Int32} {σ : Nat → jcell} : rB K n p 130 [rR x0, rI x1, rI x2, rI x3, rI x4] σ ↔ (∃ M, rMe K n σ x0 M ∧ (¬ rP1 M x1.toInt x2.toInt (-1) ∧ ¬ rP1 M x1.toInt x2.toInt 1 ∧ (∀ f r, -2 ≤ f → f < x3.toInt → -2 ≤ r → r ≤ 2 → ¬ rA1 M x1.toInt x2.toInt f r) ∧ ∀ r, -2 ≤ r → r < x4.toInt + 1 → ¬ rA1 M x1.toInt x2.toInt x3.toInt r)) := Iff.rfl
theorem ro_131 {K : Nat → Nat} {n : Nat} {p : rP} {x0 : Nat} {x1 : Int32} {x2 : Int32} {σ : Nat → jcell} : rB K n p 131 [rR x0, rI x1, rI x2] σ ↔ (∃ M, rMe K n σ x0 M ∧ (rAk M x1.toInt x2.toInt)) := Iff.rfl
theorem ro_132 {K : Nat → Nat} {n : Nat} {p : rP} {x0 : Nat} {x1 : Int32} {x2 : Int32} {x3 : Int32} {σ : Nat → jcell} : rB K n p 132 [rR x0, rI x1, rI x2, rI x3] σ ↔ (∃ M, rMe K n σ x0 M ∧ ((x3.toInt = 1 ∧ rAk M x1.toInt x2.toInt) ∨ (x3.toInt = 0 ∧ ¬ rAk M x1.toInt x2.toInt))) := Iff.rfl
theorem ro_133 {K : Nat → Nat} {n : Nat} {p : rP} {x0 : Int32} {x1 : Int32} {σ : Nat → jcell} : rB K n p 133 [rI x0, rI x1] σ ↔ (¬ x0.toInt = x1.toInt + 5) := Iff.rfl
theorem ro_134 {K : Nat → Nat} {n : Nat} {p : rP} {x0 : Int32} {x1 : Int32} {x2 : Int32} {σ : Nat → jcell} : rB K n p 134 [rI x0, rI x1, rI x2] σ ↔ ((x2.toInt = 1 → ¬ x0.toInt = x1.toInt + 4) ∧ (x2.toInt = 2 → ¬ x0.toInt = x1.toInt + 3)) := Iff.rfl
theorem ro_135 {K : Nat → Nat} {n : Nat} {p : rP} {x0 : Int32} {x1 : Int32} {σ : Nat → jcell} : rB K n p 135 [rI x0, rI x1] σ ↔ (True) := Iff.rfl
theorem ro_136 {K : Nat → Nat} {n : Nat} {p : rP} {x0 : Int32} {σ : Nat → jcell} : rB K n p 136 [rI x0] σ ↔ (True) := Iff.rfl
theorem ro_137 {K : Nat → Nat} {n : Nat} {p : rP} {x0 : Nat} {x1 : Int32} {x2 : Int32} {σ : Nat → jcell} : rB K n p 137 [rR x0, rI x1, rI x2] σ ↔ (∃ M, rMe K n σ x0 M ∧ (∀ j, 0 ≤ j → j < x2.toInt → ¬ M j = 8 * x1.toInt + 6)) := Iff.rfl
theorem ro_138 {K : Nat → Nat} {n : Nat} {p : rP} {x0 : Nat} {x1 : Int32} {x2 : Int32} {σ : Nat → jcell} : rB K n p 138 [rR x0, rI x1, rI x2] σ ↔ (∃ M, rMe K n σ x0 M ∧ (rKg M x1.toInt x2.toInt)) := Iff.rfl
theorem ro_139 {K : Nat → Nat} {n : Nat} {p : rP} {x0 : Nat} {σ : Nat → jcell} : rB K n p 139 [rR x0] σ ↔ (∃ M, rMe K n σ x0 M ∧ (rKs M)) := Iff.rfl
theorem ro_140 {K : Nat → Nat} {n : Nat} {p : rP} {x0 : Nat} {x1 : Int32} {x2 : Int32} {σ : Nat → jcell} : rB K n p 140 [rR x0, rI x1, rI x2] σ ↔ (∃ M, rMe K n σ x0 M ∧ (∃ s, rKg M x1.toInt s ∧ ((x2.toInt = 1 ∧ rAk M s (1 - x1.toInt)) ∨ (x2.toInt = 0 ∧ ¬ rAk M s (1 - x1.toInt))))) := Iff.rfl
theorem ro_141 {K : Nat → Nat} {n : Nat} {p : rP} {x0 : Int32} {x1 : Int64} {σ : Nat → jcell} : rB K n p 141 [rI x0, rL x1] σ ↔ (∀ u, 0 ≤ u → u ≤ 63 → (rBt x1 u ↔ u = x0.toInt)) := Iff.rfl
theorem ro_142 {K : Nat → Nat} {n : Nat} {p : rP} {x0 : Nat} {x1 : Int32} {x2 : Int32} {x3 : Int32} {x4 : Int32} {x5 : Int64} {σ : Nat → jcell} : rB K n p 142 [rR x0, rI x1, rI x2, rI x3, rI x4, rL x5] σ ↔ (∃ M, rMe K n σ x0 M ∧ (∀ u, 0 ≤ u → u ≤ 63 → (rWf M x2.toInt x3.toInt (rSp x1.toInt x2.toInt x3.toInt) u ↔ rBt x5 u ∨ rWf M x2.toInt x3.toInt x4.toInt u))) := Iff.rfl
theorem ro_143 {K : Nat → Nat} {n : Nat} {p : rP} {x0 : Nat} {x1 : Int32} {x2 : Int32} {x3 : Int32} {x4 : Int32} {x5 : Int64} {σ : Nat → jcell} : rB K n p 143 [rR x0, rI x1, rI x2, rI x3, rI x4, rL x5] σ ↔ (∃ M, rMe K n σ x0 M ∧ (∀ u, 0 ≤ u → u ≤ 63 → (rWf M x2.toInt x3.toInt (rSp x1.toInt x2.toInt x3.toInt) u ↔ rBt x5 u ∨ (M x4.toInt = 0 ∧ rWf M x2.toInt x3.toInt (rSp x4.toInt x2.toInt x3.toInt) u)))) := Iff.rfl
theorem ro_144 {K : Nat → Nat} {n : Nat} {p : rP} {x0 : Nat} {x1 : Int32} {x2 : Int32} {x3 : Int32} {x4 : Int64} {σ : Nat → jcell} : rB K n p 144 [rR x0, rI x1, rI x2, rI x3, rL x4] σ ↔ (∃ M, rMe K n σ x0 M ∧ (∀ u, 0 ≤ u → u ≤ 63 → (rWf M x2.toInt x3.toInt (rSp x1.toInt x2.toInt x3.toInt) u ↔ rBt x4 u))) := Iff.rfl
theorem ro_145 {K : Nat → Nat} {n : Nat} {p : rP} {x0 : Nat} {x1 : Int32} {x2 : Int32} {σ : Nat → jcell} : rB K n p 145 [rR x0, rI x1, rI x2] σ ↔ (∃ M, rMe K n σ x0 M ∧ (∀ j, 0 ≤ j → j < x2.toInt + 1 → ¬ M j = 8 * x1.toInt + 6)) := Iff.rfl
theorem ro_146 {K : Nat → Nat} {n : Nat} {p : rP} {x0 : Nat} {x1 : Int32} {x2 : Int32} {x3 : Int32} {x4 : Int32} {x5 : Int64} {σ : Nat → jcell} : rB K n p 146 [rR x0, rI x1, rI x2, rI x3, rI x4, rL x5] σ ↔ (∃ M, rMe K n σ x0 M ∧ (∀ u, 0 ≤ u → u ≤ 63 → (rWf M x2.toInt x3.toInt (rSp x1.toInt x2.toInt x3.toInt) u ↔ rBt x5 u ∨ rWf M x2.toInt x3.toInt (rSp x4.toInt x2.toInt x3.toInt) u))) := Iff.rfl
theorem ro_147 {K : Nat → Nat} {n : Nat} {p : rP} {x0 : Int32} {x1 : Int32} {σ : Nat → jcell} : rB K n p 147 [rI x0, rI x1] σ ↔ (x1.toInt = x0.toInt % 8) := Iff.rfl
theorem ro_148 {K : Nat → Nat} {n : Nat} {p : rP} {x0 : Nat} {x1 : Int32} {x2 : Int32} {σ : Nat → jcell} : rB K n p 148 [rR x0, rI x1, rI x2] σ ↔ (∃ M, rMe K n σ x0 M ∧ (x2.toInt = M x1.toInt % 8)) := Iff.rfl
theorem ro_149 {K : Nat → Nat} {n : Nat} {p : rP} {x0 : Nat} {x1 : Int32} {x2 : Int32} {x3 : Int32} {x4 : Int64} {σ : Nat → jcell} : rB K n p 149 [rR x0, rI x1, rI x2, rI x3, rL x4] σ ↔ (∃ M, rMe K n σ x0 M ∧ (x2.toInt = M x1.toInt % 8 ∧ ∀ u, 0 ≤ u → u ≤ 63 → (rBt x4 u ↔ ∃ f r, -2 ≤ f ∧ f < x3.toInt ∧ -2 ≤ r ∧ r ≤ 2 ∧ rR1 M x2.toInt x1.toInt f r u))) := Iff.rfl
theorem ro_150 {K : Nat → Nat} {n : Nat} {p : rP} {x0 : Nat} {x1 : Int32} {x2 : Int32} {x3 : Int32} {x4 : Int32} {x5 : Int64} {σ : Nat → jcell} : rB K n p 150 [rR x0, rI x1, rI x2, rI x3, rI x4, rL x5] σ ↔ (∃ M, rMe K n σ x0 M ∧ (x2.toInt = M x1.toInt % 8 ∧ ∀ u, 0 ≤ u → u ≤ 63 → (rBt x5 u ↔ ∃ f r, -2 ≤ f ∧ (f < x3.toInt ∨ (f = x3.toInt ∧ r < x4.toInt)) ∧ -2 ≤ r ∧ r ≤ 2 ∧ rR1 M x2.toInt x1.toInt f r u))) := Iff.rfl
theorem ro_151 {K : Nat → Nat} {n : Nat} {p : rP} {x0 : Nat} {x1 : Int32} {x2 : Int32} {x3 : Int32} {x4 : Int32} {x5 : Int64} {σ : Nat → jcell} : rB K n p 151 [rR x0, rI x1, rI x2, rI x3, rI x4, rL x5] σ ↔ (∃ M, rMe K n σ x0 M ∧ (x2.toInt = M x1.toInt % 8 ∧ ∀ u, 0 ≤ u → u ≤ 63 → (rBt x5 u ↔ ∃ f r, -2 ≤ f ∧ (f < x3.toInt ∨ (f = x3.toInt ∧ r < x4.toInt + 1)) ∧ -2 ≤ r ∧ r ≤ 2 ∧ rR1 M x2.toInt x1.toInt f r u))) := Iff.rfl
theorem ro_152 {K : Nat → Nat} {n : Nat} {p : rP} {x0 : Nat} {x1 : Int32} {x2 : Int32} {x3 : Int32} {x4 : Int64} {σ : Nat → jcell} : rB K n p 152 [rR x0, rI x1, rI x2, rI x3, rL x4] σ ↔ (∃ M, rMe K n σ x0 M ∧ (x2.toInt = M x1.toInt % 8 ∧ ∀ u, 0 ≤ u → u ≤ 63 → (rBt x4 u ↔ ∃ f r, -2 ≤ f ∧ f < x3.toInt + 1 ∧ -2 ≤ r ∧ r ≤ 2 ∧ rR1 M x2.toInt x1.toInt f r u))) := Iff.rfl
theorem ro_153 {K : Nat → Nat} {n : Nat} {p : rP} {x0 : Nat} {x1 : Int32} {x2 : Int64} {σ : Nat → jcell} : rB K n p 153 [rR x0, rI x1, rL x2] σ ↔ (∃ M, rMe K n σ x0 M ∧ (∀ u, 0 ≤ u → u ≤ 63 → (rBt x2 u ↔ rRe M (M x1.toInt % 8) x1.toInt u))) := Iff.rfl
theorem ro_154 {K : Nat → Nat} {n : Nat} {p : rP} {x0 : Int32} {x1 : Int32} {σ : Nat → jcell} : rB K n p 154 [rI x0, rI x1] σ ↔ (x1.toInt = x0.toInt * x0.toInt) := Iff.rfl
theorem ro_155 {K : Nat → Nat} {n : Nat} {p : rP} {x0 : Int32} {x1 : Int32} {x2 : Int32} {σ : Nat → jcell} : rB K n p 155 [rI x0, rI x1, rI x2] σ ↔ (x2.toInt = x0.toInt * x0.toInt + x1.toInt * x1.toInt) := Iff.rfl
theorem ro_156 {K : Nat → Nat} {n : Nat} {p : rP} {x0 : Nat} {x1 : Int32} {x2 : Int32} {x3 : Int32} {σ : Nat → jcell} : rB K n p 156 [rR x0, rI x1, rI x2, rI x3] σ ↔ (∃ M, rMe K n σ x0 M ∧ ((x3.toInt = 1 ∧ ¬ M x1.toInt = 0 ∧ M x1.toInt / 8 = x2.toInt) ∨ (x3.toInt = 0 ∧ ¬ (¬ M x1.toInt = 0 ∧ M x1.toInt / 8 = x2.toInt)))) := Iff.rfl
theorem ro_157 {K : Nat → Nat} {n : Nat} {p : rP} {x0 : Int32} {x1 : Int32} {σ : Nat → jcell} : rB K n p 157 [rI x0, rI x1] σ ↔ (x1.toInt = x0.toInt / 8) := Iff.rfl
theorem ro_160 {K : Nat → Nat} {n : Nat} {p : rP} {x0 : Int32} {x1 : Int32} {x2 : Int32} {x3 : Int32} {σ : Nat → jcell} : rB K n p 160 [rI x0, rI x1, rI x2, rI x3] σ ↔ (x1.toInt = rFr x0.toInt ∧ x2.toInt = rTo x0.toInt ∧ x3.toInt = rBc x0.toInt) := Iff.rfl
theorem ro_161 {K : Nat → Nat} {n : Nat} {p : rP} {x0 : Int32} {x1 : Int32} {x2 : Int32} {σ : Nat → jcell} : rB K n p 161 [rI x0, rI x1, rI x2] σ ↔ ((x1.toInt = x0.toInt + 2 ∨ x1.toInt = x0.toInt - 2) ∧ (x0.toInt = 4 ∨ x0.toInt = 60) ∧ x2.toInt = 0) := Iff.rfl
theorem ro_162 {K : Nat → Nat} {n : Nat} {p : rP} {x0 : Int32} {x1 : Int32} {σ : Nat → jcell} : rB K n p 162 [rI x0, rI x1] σ ↔ (x1.toInt = rLo x0.toInt) := Iff.rfl
theorem ro_163 {K : Nat → Nat} {n : Nat} {p : rP} {x0 : Int32} {x1 : Int32} {x2 : Int32} {σ : Nat → jcell} : rB K n p 163 [rI x0, rI x1, rI x2] σ ↔ (x2.toInt = rAn x1.toInt (rLo x0.toInt)) := Iff.rfl
theorem ro_164 {K : Nat → Nat} {n : Nat} {p : rP} {x0 : Int64} {x1 : Int32} {σ : Nat → jcell} : rB K n p 164 [rL x0, rI x1] σ ↔ (rBt x0 x1.toInt) := Iff.rfl
theorem ro_167 {K : Nat → Nat} {n : Nat} {p : rP} {x0 : Int64} {x1 : Int32} {x2 : Int64} {σ : Nat → jcell} : rB K n p 167 [rL x0, rI x1, rL x2] σ ↔ (x2 = x0 >>> ((Int32.ofInt x1.toInt).toInt64 &&& 63)) := Iff.rfl
theorem ro_168 {K : Nat → Nat} {n : Nat} {p : rP} {x0 : Nat} {x1 : Int32} {x2 : Int32} {σ : Nat → jcell} : rB K n p 168 [rR x0, rI x1, rI x2] σ ↔ (rCT K n σ x0 x1.toInt x2.toInt) := Iff.rfl
theorem ro_169 {K : Nat → Nat} {n : Nat} {p : rP} {x0 : Int32} {x1 : Int32} {σ : Nat → jcell} : rB K n p 169 [rI x0, rI x1] σ ↔ ((x1.toInt = x0.toInt + 2 ∨ x1.toInt = x0.toInt - 2) ∧ (x0.toInt = 4 ∨ x0.toInt = 60)) := Iff.rfl
theorem ro_170 {K : Nat → Nat} {n : Nat} {p : rP} {x0 : Nat} {x1 : Int32} {σ : Nat → jcell} : rB K n p 170 [rR x0, rI x1] σ ↔ (rPG0 K n σ x0 x1.toInt) := Iff.rfl
theorem ro_171 {K : Nat → Nat} {n : Nat} {p : rP} {x0 : Nat} {x1 : Int32} {σ : Nat → jcell} : rB K n p 171 [rR x0, rI x1] σ ↔ (rPG0 K n σ x0 (x1.toInt + 1)) := Iff.rfl
theorem ro_172 {K : Nat → Nat} {n : Nat} {p : rP} {x0 : Nat} {x1 : Int32} {x2 : Int32} {σ : Nat → jcell} : rB K n p 172 [rR x0, rI x1, rI x2] σ ↔ (rPG0 K n σ x0 (x1.toInt + x2.toInt)) := Iff.rfl
theorem ro_173 {K : Nat → Nat} {n : Nat} {p : rP} {x0 : Nat} {x1 : Int32} {x2 : Int32} {σ : Nat → jcell} : rB K n p 173 [rR x0, rI x1, rI x2] σ ↔ (rPG0 K n σ x0 (x1.toInt + x2.toInt + 1)) := Iff.rfl
theorem ro_174 {K : Nat → Nat} {n : Nat} {p : rP} {x0 : Nat} {x1 : Int32} {x2 : Int32} {σ : Nat → jcell} : rB K n p 174 [rR x0, rI x1, rI x2] σ ↔ (x2.toInt = 1 → rAS K n σ x0 x1.toInt 64) := Iff.rfl
theorem ro_175 {K : Nat → Nat} {n : Nat} {p : rP} {x0 : Nat} {x1 : Int32} {x2 : Int32} {σ : Nat → jcell} : rB K n p 175 [rR x0, rI x1, rI x2] σ ↔ (x2.toInt = 1 → rAS K n σ x0 x1.toInt 0) := Iff.rfl
theorem ro_176 {K : Nat → Nat} {n : Nat} {p : rP} {x0 : Nat} {x1 : Int32} {x2 : Int32} {x3 : Int32} {σ : Nat → jcell} : rB K n p 176 [rR x0, rI x1, rI x2, rI x3] σ ↔ (x3.toInt = 1 → rAS K n σ x0 x1.toInt x2.toInt) := Iff.rfl
theorem ro_177 {K : Nat → Nat} {n : Nat} {p : rP} {x0 : Nat} {x1 : Int32} {x2 : Int32} {x3 : Int32} {σ : Nat → jcell} : rB K n p 177 [rR x0, rI x1, rI x2, rI x3] σ ↔ (x3.toInt = 1 → rAS K n σ x0 x1.toInt (x2.toInt + 1)) := Iff.rfl
theorem ro_179 {K : Nat → Nat} {n : Nat} {p : rP} {x0 : Nat} {x1 : Int32} {σ : Nat → jcell} : rB K n p 179 [rR x0, rI x1] σ ↔ (∃ c, 1 ≤ c ∧ rCT K n σ x0 x1.toInt c) := Iff.rfl
theorem ro_181 {K : Nat → Nat} {n : Nat} {p : rP} {x0 : Nat} {x1 : Int32} {x2 : Int32} {σ : Nat → jcell} : rB K n p 181 [rR x0, rI x1, rI x2] σ ↔ (x2.toInt = 0 → ∃ c, 1 ≤ c ∧ rCT K n σ x0 x1.toInt c) := Iff.rfl
theorem ro_182_2 {K : Nat → Nat} {n : Nat} {p : rP} {x0 : Nat} {x1 : Int32} {σ : Nat → jcell} : rB K n p 182 [rR x0, rI x1] σ ↔ (rHP K n σ x0 x1.toInt) := ⟨fun h => (fun h => Or.elim h id False.elim) (show rb_182 K n [rR x0, rI x1] σ from h), fun h => Or.inl (h)⟩
theorem ro_182_3 {K : Nat → Nat} {n : Nat} {p : rP} {x0 : Nat} {x1 : Int32} {x2 : Int32} {σ : Nat → jcell} : rB K n p 182 [rR x0, rI x1, rI x2] σ ↔ (x2.toInt = 1 → rHP K n σ x0 x1.toInt) := ⟨fun h => (fun h => Or.elim h False.elim id) (show rb_182 K n [rR x0, rI x1, rI x2] σ from h), fun h => Or.inr (h)⟩
theorem ro_183 {K : Nat → Nat} {n : Nat} {p : rP} {x0 : Nat} {x1 : Int32} {σ : Nat → jcell} : rB K n p 183 [rR x0, rI x1] σ ↔ (rHP K n σ x0 (x1.toInt + 1)) := Iff.rfl
theorem ro_184 {K : Nat → Nat} {n : Nat} {p : rP} {x0 : Nat} {x1 : Int32} {σ : Nat → jcell} : rB K n p 184 [rR x0, rI x1] σ ↔ (∃ g, rRw K n σ x0 105 4 g ∧ (g 0).toInt = x1.toInt) := Iff.rfl
theorem ro_185 {K : Nat → Nat} {n : Nat} {p : rP} {x0 : Nat} {x1 : Int32} {σ : Nat → jcell} : rB K n p 185 [rR x0, rI x1] σ ↔ (∃ g, rRw K n σ x0 105 4 g ∧ (g 1).toInt = x1.toInt) := Iff.rfl
theorem ro_186 {K : Nat → Nat} {n : Nat} {p : rP} {x0 : Nat} {x1 : Int32} {σ : Nat → jcell} : rB K n p 186 [rR x0, rI x1] σ ↔ (∃ g, rRw K n σ x0 105 4 g ∧ (g 2).toInt = x1.toInt) := Iff.rfl
theorem ro_187 {K : Nat → Nat} {n : Nat} {p : rP} {x0 : Nat} {x1 : Int32} {σ : Nat → jcell} : rB K n p 187 [rR x0, rI x1] σ ↔ (∃ g, rRw K n σ x0 105 4 g ∧ (g 3).toInt = x1.toInt) := Iff.rfl
theorem ro_188 {K : Nat → Nat} {n : Nat} {p : rP} {x0 : Nat} {x1 : Int32} {x2 : Int32} {σ : Nat → jcell} : rB K n p 188 [rR x0, rI x1, rI x2] σ ↔ (0 ≤ x1.toInt ∧ ∃ g, rRo K n σ x0 88 34 108 4 g ∧ (g x1.toInt.toNat).toInt = x2.toInt) := Iff.rfl
theorem ro_189 {K : Nat → Nat} {n : Nat} {p : rP} {x0 : Nat} {x1 : Int32} {x2 : Int32} {σ : Nat → jcell} : rB K n p 189 [rR x0, rI x1, rI x2] σ ↔ (rSGN K n σ x0 x1.toInt x2.toInt) := Iff.rfl
theorem ro_190 {K : Nat → Nat} {n : Nat} {p : rP} {x0 : Int32} {σ : Nat → jcell} : rB K n p 190 [rI x0] σ ↔ (True) := Iff.rfl
theorem ro_191 {K : Nat → Nat} {n : Nat} {p : rP} {x0 : Int32} {σ : Nat → jcell} : rB K n p 191 [rI x0] σ ↔ (True) := Iff.rfl
theorem ro_192 {K : Nat → Nat} {n : Nat} {p : rP} {x0 : Nat} {x1 : Int32} {x2 : Int32} {x3 : Int32} {σ : Nat → jcell} : rB K n p 192 [rR x0, rI x1, rI x2, rI x3] σ ↔ (∃ M, rMe K n σ x0 M ∧ (x3.toInt = rCnt M x1.toInt x2.toInt.toNat)) := Iff.rfl
theorem ro_193_1 {K : Nat → Nat} {n : Nat} {p : rP} {x0 : Nat} {σ : Nat → jcell} : rB K n p 193 [rR x0] σ ↔ (∃ M, rMe K n σ x0 M ∧ (rCnt M 6 64 = 1)) := ⟨fun h => (fun h => Or.elim h id False.elim) (show rb_193 K n [rR x0] σ from h), fun h => Or.inl (h)⟩
theorem ro_193_4 {K : Nat → Nat} {n : Nat} {p : rP} {x0 : Nat} {x1 : Int32} {x2 : Int32} {x3 : Int32} {σ : Nat → jcell} : rB K n p 193 [rR x0, rI x1, rI x2, rI x3] σ ↔ (∃ M, rMe K n σ x0 M ∧ (x3.toInt = rCnt M x1.toInt (x2.toInt + 1).toNat)) := ⟨fun h => (fun h => Or.elim h False.elim id) (show rb_193 K n [rR x0, rI x1, rI x2, rI x3] σ from h), fun h => Or.inr (h)⟩
theorem ro_194 {K : Nat → Nat} {n : Nat} {p : rP} {x0 : Nat} {x1 : Int32} {x2 : Int32} {σ : Nat → jcell} : rB K n p 194 [rR x0, rI x1, rI x2] σ ↔ (∃ M, rMe K n σ x0 M ∧ (x2.toInt = rCnt M x1.toInt 64)) := Iff.rfl
theorem ro_195 {K : Nat → Nat} {n : Nat} {p : rP} {x0 : Nat} {x1 : Int32} {σ : Nat → jcell} : rB K n p 195 [rR x0, rI x1] σ ↔ (x1.toInt = 0 → rPSW K n σ x0) := Iff.rfl
theorem ro_197 {K : Nat → Nat} {n : Nat} {p : rP} {x0 : Nat} {x1 : Int32} {σ : Nat → jcell} : rB K n p 197 [rR x0, rI x1] σ ↔ (x1.toInt = 0 → rFO K n σ x0) := Iff.rfl
theorem ro_198 {K : Nat → Nat} {n : Nat} {p : rP} {x0 : Int32} {x1 : Int32} {σ : Nat → jcell} : rB K n p 198 [rI x0, rI x1] σ ↔ (True) := Iff.rfl
theorem ro_199 {K : Nat → Nat} {n : Nat} {p : rP} {x0 : Int32} {x1 : Int32} {σ : Nat → jcell} : rB K n p 199 [rI x0, rI x1] σ ↔ (True) := Iff.rfl

