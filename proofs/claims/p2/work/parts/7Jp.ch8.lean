/-! Math.max, Math.min -/
section MMX
variable {E : jE} {own : String} {Ts : List Jvm.Cond} {cl : List vw_C} {tb : jTb} {nL : Nat} {ini : Bool} {cc : ByteArray} {M : jM} {Q : State → Prop} {n cells slots : Nat}
theorem jk_mmax (X : jX E own Ts cl tb nL ini cc M) {rm : Room} (hR : M.2.2.2.1 = rm) {pc i : Nat} (hd : decode cc pc = .ok (.invokestatic i, 3)) (hli : Jvm.Cond.methodLink own i Lib.Math.max.name ∈ jTA Ts) (hst : Jvm.Cond.static Lib.Math.max.name ∈ jTA Ts) (hin : Jvm.Cond.initialized "java/lang/Math" ∈ jTA Ts) (hco : Jvm.Cond.code Lib.Math.max.name Lib.Math.max.code 2 (some .int) ∈ jTA Ts) {lv : List (Option jv)} {r : List jv} {σ : Nat → jcell} (hf : 1 ≤ rm.frames) (hz : (r.map jcat).sum ≤ 8) (hl : 21 ≤ rm.locals) (hc : cells ≤ rm.cells ∧ slots ≤ rm.slots) {x y : Int32} (k : jJ E cl nL M Q n cells slots (pc + 3) lv (.inl (if x < y then y else x) :: r) σ) : jJ E cl nL M Q n cells slots pc lv (.inl y :: .inl x :: r) σ := by
  obtain ⟨p, l, e, R, s, m, args, below, meth, c⟩ := M
  dsimp only at hR
  subst hR
  obtain ⟨hx, hb, hml, ho, hts, hK, -, -⟩ := X
  intro H locs ls hW hS hL
  refine va_mmax hx hb (by rw [hL.1]; exact hml) ho (hts _ hli) (hts _ hst) (hts _ hin) (hts _ hco) hf (by have := jcat_sum E r; omega) hc.1 hc.2 hd ?_
  exact k H locs ls hW hS hL
theorem jk_mmin (X : jX E own Ts cl tb nL ini cc M) {rm : Room} (hR : M.2.2.2.1 = rm) {pc i : Nat} (hd : decode cc pc = .ok (.invokestatic i, 3)) (hli : Jvm.Cond.methodLink own i Lib.Math.min.name ∈ jTA Ts) (hst : Jvm.Cond.static Lib.Math.min.name ∈ jTA Ts) (hin : Jvm.Cond.initialized "java/lang/Math" ∈ jTA Ts) (hco : Jvm.Cond.code Lib.Math.min.name Lib.Math.min.code 2 (some .int) ∈ jTA Ts) {lv : List (Option jv)} {r : List jv} {σ : Nat → jcell} (hf : 1 ≤ rm.frames) (hz : (r.map jcat).sum ≤ 8) (hl : 21 ≤ rm.locals) (hc : cells ≤ rm.cells ∧ slots ≤ rm.slots) {x y : Int32} (k : jJ E cl nL M Q n cells slots (pc + 3) lv (.inl (if y < x then y else x) :: r) σ) : jJ E cl nL M Q n cells slots pc lv (.inl y :: .inl x :: r) σ := by
  obtain ⟨p, l, e, R, s, m, args, below, meth, c⟩ := M
  dsimp only at hR
  subst hR
  obtain ⟨hx, hb, hml, ho, hts, hK, -, -⟩ := X
  intro H locs ls hW hS hL
  refine va_mmin hx hb (by rw [hL.1]; exact hml) ho (hts _ hli) (hts _ hst) (hts _ hin) (hts _ hco) hf (by have := jcat_sum E r; omega) hc.1 hc.2 hd ?_
  exact k H locs ls hW hS hL
end MMX
/-- two equal numbers give way to one -/
def gP2 (m : aMi) (a : Int) (c : aCu) : Bool := (match c.2.1.2.1 with
  | y :: x :: r => decide (aIv c.2.1.2.2.1 y = some (a, a)) && decide (aIv c.2.1.2.2.1 x = some (a, a)) && decide (r.length ≤ 4)
  | _ => false) && aRo c.2.1.2.2.1.length c.2.2.2 && [(c.1 + 3, aPu c.2.1 (c.2.1.2.1.drop 2) (.inl (a, a)) none)].all (fun q => m.2.2.2.2.2.any (fun c2 => Nat.beq c2.1 q.1 && aTo m.2.1 c.2.2.2 c2 q.2))
theorem gP2_ok {P : Type} {F : aFt P} {K : Nat → Nat} {n : Nat} {JX : (Nat → jcell) → Prop} {ρ0 ρ' : List jv} {σ0 : Nat → jcell} {J : jN} {m : aMi} {a : Int} {c : aCu} (h : gP2 m a c = true) (hE : m.2.1.2.2.2.2.2.2 = ρ0.length) (hx0 : aX ρ0 ρ') {lv : List (Option jv)} {st : List jv} {σ : Nat → jcell} (hc : aCx F (aHp m.2.1 K n JX ρ0 σ0) K n c.2.1 ρ' lv st σ) (IH : ∀ c2 ∈ m.2.2.2.2.2, ∀ (ρ2 : List jv) (lv : List (Option jv)) (st : List jv) (σ : Nat → jcell), aLt (c2.2.2.2.map (aRn ρ2)) (c.2.2.2.map (aRn ρ')) → aX ρ0 ρ2 → aCx F (aHp m.2.1 K n JX ρ0 σ0) K n c2.2.1 ρ2 lv st σ → J c2.1 lv st σ) : ∃ (x : Int32) (r : List jv), st = .inl x :: .inl x :: r ∧ (r.map jcat).sum ≤ 8 ∧ J (c.1 + 3) lv (.inl x :: r) σ := by
  unfold gP2 at h
  rw [Bool.and_eq_true, Bool.and_eq_true] at h
  obtain ⟨⟨h1, h2⟩, h3⟩ := h
  split at h1
  next y x r hs =>
    rw [Bool.and_eq_true, Bool.and_eq_true, decide_eq_true_eq, decide_eq_true_eq, decide_eq_true_eq] at h1
    obtain ⟨⟨i1, i2⟩, i3⟩ := h1
    obtain ⟨v1, v2, s1, rfl, k1, k2, k3⟩ := aSk_2 (hs ▸ hc.2.2.1)
    obtain ⟨y0, rfl, hy⟩ := aIv_ok hc.1 i1 k1
    obtain ⟨x0, rfl, hx⟩ := aIv_ok hc.1 i2 k2
    have e : x0 = y0 := Int32.toInt_inj.mp (by
      have a1 : a ≤ x0.toInt := hx.1
      have a2 : x0.toInt ≤ a := hx.2
      have a3 : a ≤ y0.toInt := hy.1
      have a4 : y0.toInt ≤ a := hy.2
      omega)
    subst e
    refine ⟨x0, s1, rfl, by have q1 := jcat_le s1; have q2 := aSk_len k3; omega, ?_⟩
    rw [hs] at h3
    exact aPu_ok (r := none) hc k3 (show aG K n (.inl (a, a)) (.inl x0) from hx) trivial (gArr hE h3 hx0 (gDf h2 hc) IH)
  next => cases h1
theorem ek_max : prog_24_method_65_code = Lib.Math.max.code := by decide +kernel
theorem ek_min : prog_24_method_69_code = Lib.Math.min.code := by decide +kernel
section IXO
variable {P : Type} {F : (Nat → Nat) → Nat → aFt P} {JX : (Nat → Nat) → Nat → (Nat → jcell) → Prop} {l : Launch} {E : jE}
theorem dk_ix11 : decode prog_27_method_22_code 11 = .ok (.invokestatic 92, 3) := by decide +kernel
theorem dk_ix18 : decode prog_27_method_22_code 18 = .ok (.invokestatic 38, 3) := by decide +kernel
theorem ck_ixSLindexOfL : am_SLindexOfXL.2.2.2.2.2.all (fun c => (!(Nat.beq c.1 11) || gP2 am_SLindexOfXL 0 c) && (!(Nat.beq c.1 18) || gP2 am_SLindexOfXL 7 c)) = true := by decide +kernel
theorem az_SLindexOfL (h : gMe F JX l E jtb am_SLindexOfXL an_SLindexOfXL [11, 18] 4 prog_27_method_22_code false) (K : Nat → Nat) (n : Nat) : aMe (F K n) l E jcl jtb lw_tbl fa_T K n (JX K n) ag_SLindexOfL := by
  intro p σ ρ hH hX hA hM
  refine h _ ag_SLindexOfL.2.2.2.2.2.2 ⟨by decide, by decide⟩ K n p σ ρ hH hX hA hM (fun w => w = (K, n, σ, 0, 0)) rfl (fun G hG => by cases hG) ?_ ?_
  · intro K1 n1 σ0 ca sl hw
    cases hw
    exact ⟨⟨Nat.zero_le _, Nat.zero_le _⟩, fun r σ' hp => hp⟩
  · intro M hl hR hsz X hok c hc hx K1 n1 σ0 ca sl hw ρ' lv st σ1 hx0 hcx IH
    cases hw
    have hk := List.all_eq_true.mp ck_ixSLindexOfL c hc
    rw [Bool.and_eq_true, Bool.or_eq_true, Bool.or_eq_true] at hk
    have X : jX E "java/lang/StringLatin1" lw_tbl jcl jtb 4 false prog_27_method_22_code M := X
    obtain ⟨k, hk1, hk2⟩ := List.any_eq_true.mp hx
    have hk2 := Nat.eq_of_beq_eq_true hk2
    rcases List.mem_cons.mp hk1 with rfl | hk1
    · have h1 : gP2 am_SLindexOfXL 0 c = true := hk.1.resolve_left (fun h9 => by rw [← hk2] at h9; cases h9)
      obtain ⟨x, r, rfl, hr, hj⟩ := gP2_ok h1 (ρ0 := ρ) hA.1.symm hx0 hcx (IH K n σ 0 0 rfl)
      rw [← hk2] at hj ⊢
      refine jk_mmax X hR dk_ix11 (jTA_in (wi := 1109) (jtF_ok rfl) rfl) (jTA_in (wi := 1110) (jtF_ok rfl) rfl) (jTA_in (wi := 329) (jtF_ok rfl) rfl) (by rw [← ek_max]; exact jTA_in (wi := 1111) (jtF_ok rfl) rfl) (by decide) hr (by decide) ⟨Nat.zero_le _, Nat.zero_le _⟩ ?_
      rw [ite_self]
      exact hj
    · rcases List.mem_cons.mp hk1 with rfl | hk1
      · have h1 : gP2 am_SLindexOfXL 7 c = true := hk.2.resolve_left (fun h9 => by rw [← hk2] at h9; cases h9)
        obtain ⟨x, r, rfl, hr, hj⟩ := gP2_ok h1 (ρ0 := ρ) hA.1.symm hx0 hcx (IH K n σ 0 0 rfl)
        rw [← hk2] at hj ⊢
        refine jk_mmin X hR dk_ix18 (jTA_in (wi := 1112) (jtF_ok rfl) rfl) (jTA_in (wi := 1113) (jtF_ok rfl) rfl) (jTA_in (wi := 329) (jtF_ok rfl) rfl) (by rw [← ek_min]; exact jTA_in (wi := 1114) (jtF_ok rfl) rfl) (by decide) hr (by decide) ⟨Nat.zero_le _, Nat.zero_le _⟩ ?_
        rw [ite_self]
        exact hj
      · cases hk1
theorem ck_ixSLindexOfM : am_SLindexOfXM.2.2.2.2.2.all (fun c => (!(Nat.beq c.1 11) || gP2 am_SLindexOfXM 0 c) && (!(Nat.beq c.1 18) || gP2 am_SLindexOfXM 15 c)) = true := by decide +kernel
theorem az_SLindexOfM (h : gMe F JX l E jtb am_SLindexOfXM an_SLindexOfXM [11, 18] 4 prog_27_method_22_code false) (K : Nat → Nat) (n : Nat) : aMe (F K n) l E jcl jtb lw_tbl fa_T K n (JX K n) ag_SLindexOfM := by
  intro p σ ρ hH hX hA hM
  refine h _ ag_SLindexOfM.2.2.2.2.2.2 ⟨by decide, by decide⟩ K n p σ ρ hH hX hA hM (fun w => w = (K, n, σ, 0, 0)) rfl (fun G hG => by cases hG) ?_ ?_
  · intro K1 n1 σ0 ca sl hw
    cases hw
    exact ⟨⟨Nat.zero_le _, Nat.zero_le _⟩, fun r σ' hp => hp⟩
  · intro M hl hR hsz X hok c hc hx K1 n1 σ0 ca sl hw ρ' lv st σ1 hx0 hcx IH
    cases hw
    have hk := List.all_eq_true.mp ck_ixSLindexOfM c hc
    rw [Bool.and_eq_true, Bool.or_eq_true, Bool.or_eq_true] at hk
    have X : jX E "java/lang/StringLatin1" lw_tbl jcl jtb 4 false prog_27_method_22_code M := X
    obtain ⟨k, hk1, hk2⟩ := List.any_eq_true.mp hx
    have hk2 := Nat.eq_of_beq_eq_true hk2
    rcases List.mem_cons.mp hk1 with rfl | hk1
    · have h1 : gP2 am_SLindexOfXM 0 c = true := hk.1.resolve_left (fun h9 => by rw [← hk2] at h9; cases h9)
      obtain ⟨x, r, rfl, hr, hj⟩ := gP2_ok h1 (ρ0 := ρ) hA.1.symm hx0 hcx (IH K n σ 0 0 rfl)
      rw [← hk2] at hj ⊢
      refine jk_mmax X hR dk_ix11 (jTA_in (wi := 1109) (jtF_ok rfl) rfl) (jTA_in (wi := 1110) (jtF_ok rfl) rfl) (jTA_in (wi := 329) (jtF_ok rfl) rfl) (by rw [← ek_max]; exact jTA_in (wi := 1111) (jtF_ok rfl) rfl) (by decide) hr (by decide) ⟨Nat.zero_le _, Nat.zero_le _⟩ ?_
      rw [ite_self]
      exact hj
    · rcases List.mem_cons.mp hk1 with rfl | hk1
      · have h1 : gP2 am_SLindexOfXM 15 c = true := hk.2.resolve_left (fun h9 => by rw [← hk2] at h9; cases h9)
        obtain ⟨x, r, rfl, hr, hj⟩ := gP2_ok h1 (ρ0 := ρ) hA.1.symm hx0 hcx (IH K n σ 0 0 rfl)
        rw [← hk2] at hj ⊢
        refine jk_mmin X hR dk_ix18 (jTA_in (wi := 1112) (jtF_ok rfl) rfl) (jTA_in (wi := 1113) (jtF_ok rfl) rfl) (jTA_in (wi := 329) (jtF_ok rfl) rfl) (by rw [← ek_min]; exact jTA_in (wi := 1114) (jtF_ok rfl) rfl) (by decide) hr (by decide) ⟨Nat.zero_le _, Nat.zero_le _⟩ ?_
        rw [ite_self]
        exact hj
      · cases hk1
theorem ck_ixSLiOL : am_SLiOXL.2.2.2.2.2.all (fun c => (!(Nat.beq c.1 11) || gP2 am_SLiOXL 0 c) && (!(Nat.beq c.1 18) || gP2 am_SLiOXL 15 c)) = true := by decide +kernel
theorem az_SLiOL (h : gMe F JX l E jtb am_SLiOXL an_SLiOXL [11, 18] 4 prog_27_method_22_code false) (K : Nat → Nat) (n : Nat) : aMe (F K n) l E jcl jtb lw_tbl fa_T K n (JX K n) ag_SLiOL := by
  intro p σ ρ hH hX hA hM
  refine h _ ag_SLiOL.2.2.2.2.2.2 ⟨by decide, by decide⟩ K n p σ ρ hH hX hA hM (fun w => w = (K, n, σ, 0, 0)) rfl (fun G hG => by cases hG) ?_ ?_
  · intro K1 n1 σ0 ca sl hw
    cases hw
    exact ⟨⟨Nat.zero_le _, Nat.zero_le _⟩, fun r σ' hp => hp⟩
  · intro M hl hR hsz X hok c hc hx K1 n1 σ0 ca sl hw ρ' lv st σ1 hx0 hcx IH
    cases hw
    have hk := List.all_eq_true.mp ck_ixSLiOL c hc
    rw [Bool.and_eq_true, Bool.or_eq_true, Bool.or_eq_true] at hk
    have X : jX E "java/lang/StringLatin1" lw_tbl jcl jtb 4 false prog_27_method_22_code M := X
    obtain ⟨k, hk1, hk2⟩ := List.any_eq_true.mp hx
    have hk2 := Nat.eq_of_beq_eq_true hk2
    rcases List.mem_cons.mp hk1 with rfl | hk1
    · have h1 : gP2 am_SLiOXL 0 c = true := hk.1.resolve_left (fun h9 => by rw [← hk2] at h9; cases h9)
      obtain ⟨x, r, rfl, hr, hj⟩ := gP2_ok h1 (ρ0 := ρ) hA.1.symm hx0 hcx (IH K n σ 0 0 rfl)
      rw [← hk2] at hj ⊢
      refine jk_mmax X hR dk_ix11 (jTA_in (wi := 1109) (jtF_ok rfl) rfl) (jTA_in (wi := 1110) (jtF_ok rfl) rfl) (jTA_in (wi := 329) (jtF_ok rfl) rfl) (by rw [← ek_max]; exact jTA_in (wi := 1111) (jtF_ok rfl) rfl) (by decide) hr (by decide) ⟨Nat.zero_le _, Nat.zero_le _⟩ ?_
      rw [ite_self]
      exact hj
    · rcases List.mem_cons.mp hk1 with rfl | hk1
      · have h1 : gP2 am_SLiOXL 15 c = true := hk.2.resolve_left (fun h9 => by rw [← hk2] at h9; cases h9)
        obtain ⟨x, r, rfl, hr, hj⟩ := gP2_ok h1 (ρ0 := ρ) hA.1.symm hx0 hcx (IH K n σ 0 0 rfl)
        rw [← hk2] at hj ⊢
        refine jk_mmin X hR dk_ix18 (jTA_in (wi := 1112) (jtF_ok rfl) rfl) (jTA_in (wi := 1113) (jtF_ok rfl) rfl) (jTA_in (wi := 329) (jtF_ok rfl) rfl) (by rw [← ek_min]; exact jTA_in (wi := 1114) (jtF_ok rfl) rfl) (by decide) hr (by decide) ⟨Nat.zero_le _, Nat.zero_le _⟩ ?_
        rw [ite_self]
        exact hj
      · cases hk1
theorem ck_ixSLiOS : am_SLiOXS.2.2.2.2.2.all (fun c => (!(Nat.beq c.1 11) || gP2 am_SLiOXS 0 c) && (!(Nat.beq c.1 18) || gP2 am_SLiOXS 15 c)) = true := by decide +kernel
theorem az_SLiOS (h : gMe F JX l E jtb am_SLiOXS an_SLiOXS [11, 18] 4 prog_27_method_22_code false) (K : Nat → Nat) (n : Nat) : aMe (F K n) l E jcl jtb lw_tbl fa_T K n (JX K n) ag_SLiOS := by
  intro p σ ρ hH hX hA hM
  refine h _ ag_SLiOS.2.2.2.2.2.2 ⟨by decide, by decide⟩ K n p σ ρ hH hX hA hM (fun w => w = (K, n, σ, 0, 0)) rfl (fun G hG => by cases hG) ?_ ?_
  · intro K1 n1 σ0 ca sl hw
    cases hw
    exact ⟨⟨Nat.zero_le _, Nat.zero_le _⟩, fun r σ' hp => hp⟩
  · intro M hl hR hsz X hok c hc hx K1 n1 σ0 ca sl hw ρ' lv st σ1 hx0 hcx IH
    cases hw
    have hk := List.all_eq_true.mp ck_ixSLiOS c hc
    rw [Bool.and_eq_true, Bool.or_eq_true, Bool.or_eq_true] at hk
    have X : jX E "java/lang/StringLatin1" lw_tbl jcl jtb 4 false prog_27_method_22_code M := X
    obtain ⟨k, hk1, hk2⟩ := List.any_eq_true.mp hx
    have hk2 := Nat.eq_of_beq_eq_true hk2
    rcases List.mem_cons.mp hk1 with rfl | hk1
    · have h1 : gP2 am_SLiOXS 0 c = true := hk.1.resolve_left (fun h9 => by rw [← hk2] at h9; cases h9)
      obtain ⟨x, r, rfl, hr, hj⟩ := gP2_ok h1 (ρ0 := ρ) hA.1.symm hx0 hcx (IH K n σ 0 0 rfl)
      rw [← hk2] at hj ⊢
      refine jk_mmax X hR dk_ix11 (jTA_in (wi := 1109) (jtF_ok rfl) rfl) (jTA_in (wi := 1110) (jtF_ok rfl) rfl) (jTA_in (wi := 329) (jtF_ok rfl) rfl) (by rw [← ek_max]; exact jTA_in (wi := 1111) (jtF_ok rfl) rfl) (by decide) hr (by decide) ⟨Nat.zero_le _, Nat.zero_le _⟩ ?_
      rw [ite_self]
      exact hj
    · rcases List.mem_cons.mp hk1 with rfl | hk1
      · have h1 : gP2 am_SLiOXS 15 c = true := hk.2.resolve_left (fun h9 => by rw [← hk2] at h9; cases h9)
        obtain ⟨x, r, rfl, hr, hj⟩ := gP2_ok h1 (ρ0 := ρ) hA.1.symm hx0 hcx (IH K n σ 0 0 rfl)
        rw [← hk2] at hj ⊢
        refine jk_mmin X hR dk_ix18 (jTA_in (wi := 1112) (jtF_ok rfl) rfl) (jTA_in (wi := 1113) (jtF_ok rfl) rfl) (jTA_in (wi := 329) (jtF_ok rfl) rfl) (by rw [← ek_min]; exact jTA_in (wi := 1114) (jtF_ok rfl) rfl) (by decide) hr (by decide) ⟨Nat.zero_le _, Nat.zero_le _⟩ ?_
        rw [ite_self]
        exact hj
      · cases hk1
theorem ck_ixSLiOH : am_SLiOXH.2.2.2.2.2.all (fun c => (!(Nat.beq c.1 11) || gP2 am_SLiOXH 0 c) && (!(Nat.beq c.1 18) || gP2 am_SLiOXH 15 c)) = true := by decide +kernel
theorem az_SLiOH (h : gMe F JX l E jtb am_SLiOXH an_SLiOXH [11, 18] 4 prog_27_method_22_code false) (K : Nat → Nat) (n : Nat) : aMe (F K n) l E jcl jtb lw_tbl fa_T K n (JX K n) ag_SLiOH := by
  intro p σ ρ hH hX hA hM
  refine h _ ag_SLiOH.2.2.2.2.2.2 ⟨by decide, by decide⟩ K n p σ ρ hH hX hA hM (fun w => w = (K, n, σ, 0, 0)) rfl (fun G hG => by cases hG) ?_ ?_
  · intro K1 n1 σ0 ca sl hw
    cases hw
    exact ⟨⟨Nat.zero_le _, Nat.zero_le _⟩, fun r σ' hp => hp⟩
  · intro M hl hR hsz X hok c hc hx K1 n1 σ0 ca sl hw ρ' lv st σ1 hx0 hcx IH
    cases hw
    have hk := List.all_eq_true.mp ck_ixSLiOH c hc
    rw [Bool.and_eq_true, Bool.or_eq_true, Bool.or_eq_true] at hk
    have X : jX E "java/lang/StringLatin1" lw_tbl jcl jtb 4 false prog_27_method_22_code M := X
    obtain ⟨k, hk1, hk2⟩ := List.any_eq_true.mp hx
    have hk2 := Nat.eq_of_beq_eq_true hk2
    rcases List.mem_cons.mp hk1 with rfl | hk1
    · have h1 : gP2 am_SLiOXH 0 c = true := hk.1.resolve_left (fun h9 => by rw [← hk2] at h9; cases h9)
      obtain ⟨x, r, rfl, hr, hj⟩ := gP2_ok h1 (ρ0 := ρ) hA.1.symm hx0 hcx (IH K n σ 0 0 rfl)
      rw [← hk2] at hj ⊢
      refine jk_mmax X hR dk_ix11 (jTA_in (wi := 1109) (jtF_ok rfl) rfl) (jTA_in (wi := 1110) (jtF_ok rfl) rfl) (jTA_in (wi := 329) (jtF_ok rfl) rfl) (by rw [← ek_max]; exact jTA_in (wi := 1111) (jtF_ok rfl) rfl) (by decide) hr (by decide) ⟨Nat.zero_le _, Nat.zero_le _⟩ ?_
      rw [ite_self]
      exact hj
    · rcases List.mem_cons.mp hk1 with rfl | hk1
      · have h1 : gP2 am_SLiOXH 15 c = true := hk.2.resolve_left (fun h9 => by rw [← hk2] at h9; cases h9)
        obtain ⟨x, r, rfl, hr, hj⟩ := gP2_ok h1 (ρ0 := ρ) hA.1.symm hx0 hcx (IH K n σ 0 0 rfl)
        rw [← hk2] at hj ⊢
        refine jk_mmin X hR dk_ix18 (jTA_in (wi := 1112) (jtF_ok rfl) rfl) (jTA_in (wi := 1113) (jtF_ok rfl) rfl) (jTA_in (wi := 329) (jtF_ok rfl) rfl) (by rw [← ek_min]; exact jTA_in (wi := 1114) (jtF_ok rfl) rfl) (by decide) hr (by decide) ⟨Nat.zero_le _, Nat.zero_le _⟩ ?_
        rw [ite_self]
        exact hj
      · cases hk1
theorem ck_ixSLiOX : am_SLiOXX.2.2.2.2.2.all (fun c => (!(Nat.beq c.1 11) || gP2 am_SLiOXX 0 c) && (!(Nat.beq c.1 18) || gP2 am_SLiOXX 15 c)) = true := by decide +kernel
theorem az_SLiOX (h : gMe F JX l E jtb am_SLiOXX an_SLiOXX [11, 18] 4 prog_27_method_22_code false) (K : Nat → Nat) (n : Nat) : aMe (F K n) l E jcl jtb lw_tbl fa_T K n (JX K n) ag_SLiOX := by
  intro p σ ρ hH hX hA hM
  refine h _ ag_SLiOX.2.2.2.2.2.2 ⟨by decide, by decide⟩ K n p σ ρ hH hX hA hM (fun w => w = (K, n, σ, 0, 0)) rfl (fun G hG => by cases hG) ?_ ?_
  · intro K1 n1 σ0 ca sl hw
    cases hw
    exact ⟨⟨Nat.zero_le _, Nat.zero_le _⟩, fun r σ' hp => hp⟩
  · intro M hl hR hsz X hok c hc hx K1 n1 σ0 ca sl hw ρ' lv st σ1 hx0 hcx IH
    cases hw
    have hk := List.all_eq_true.mp ck_ixSLiOX c hc
    rw [Bool.and_eq_true, Bool.or_eq_true, Bool.or_eq_true] at hk
    have X : jX E "java/lang/StringLatin1" lw_tbl jcl jtb 4 false prog_27_method_22_code M := X
    obtain ⟨k, hk1, hk2⟩ := List.any_eq_true.mp hx
    have hk2 := Nat.eq_of_beq_eq_true hk2
    rcases List.mem_cons.mp hk1 with rfl | hk1
    · have h1 : gP2 am_SLiOXX 0 c = true := hk.1.resolve_left (fun h9 => by rw [← hk2] at h9; cases h9)
      obtain ⟨x, r, rfl, hr, hj⟩ := gP2_ok h1 (ρ0 := ρ) hA.1.symm hx0 hcx (IH K n σ 0 0 rfl)
      rw [← hk2] at hj ⊢
      refine jk_mmax X hR dk_ix11 (jTA_in (wi := 1109) (jtF_ok rfl) rfl) (jTA_in (wi := 1110) (jtF_ok rfl) rfl) (jTA_in (wi := 329) (jtF_ok rfl) rfl) (by rw [← ek_max]; exact jTA_in (wi := 1111) (jtF_ok rfl) rfl) (by decide) hr (by decide) ⟨Nat.zero_le _, Nat.zero_le _⟩ ?_
      rw [ite_self]
      exact hj
    · rcases List.mem_cons.mp hk1 with rfl | hk1
      · have h1 : gP2 am_SLiOXX 15 c = true := hk.2.resolve_left (fun h9 => by rw [← hk2] at h9; cases h9)
        obtain ⟨x, r, rfl, hr, hj⟩ := gP2_ok h1 (ρ0 := ρ) hA.1.symm hx0 hcx (IH K n σ 0 0 rfl)
        rw [← hk2] at hj ⊢
        refine jk_mmin X hR dk_ix18 (jTA_in (wi := 1112) (jtF_ok rfl) rfl) (jTA_in (wi := 1113) (jtF_ok rfl) rfl) (jTA_in (wi := 329) (jtF_ok rfl) rfl) (by rw [← ek_min]; exact jTA_in (wi := 1114) (jtF_ok rfl) rfl) (by decide) hr (by decide) ⟨Nat.zero_le _, Nat.zero_le _⟩ ?_
        rw [ite_self]
        exact hj
      · cases hk1
end IXO
