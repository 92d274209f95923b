/-! a method, from cut to cut -/
abbrev aCu : Type := Nat × aS × List aSc2 × List aRk
def aSuf : List jI → Nat → Nat → Option (List jI)
  | [], _, _ => none
  | x :: r, p, pc => if p = pc then some (x :: r) else aSuf r (p + x.2.1) pc
theorem aSuf_ok {own : String} {Ts : List Jvm.Cond} {cl : List vw_C} {tb : jTb} {nL : Nat} {ini : Bool} {cc : ByteArray} {pc : Nat} : ∀ {is : List jI} {p : Nat} {js : List jI}, jokL own Ts cl tb nL ini cc p is = true → aSuf is p pc = some js → jokL own Ts cl tb nL ini cc pc js = true
  | [], _, _, _, h => by cases h
  | x :: r, p, js, hk, h => by
    unfold aSuf at h
    split at h
    next e => cases h; subst e; exact hk
    next =>
      unfold jokL at hk
      rw [Bool.and_eq_true] at hk
      exact aSuf_ok hk.2 h
def aFc (C : List aCu) (pc : Nat) : Option aCu := match C with
  | [] => none
  | c :: r => if c.1 = pc then some c else aFc r pc
theorem aFc_ok {pc : Nat} : ∀ {C : List aCu} {c : aCu}, aFc C pc = some c → c ∈ C ∧ c.1 = pc
  | [], _, h => by cases h
  | x :: r, c, h => by
    unfold aFc at h
    split at h
    next e => cases h; exact ⟨List.mem_cons_self, e⟩
    next => exact ⟨List.mem_cons_of_mem _ (aFc_ok h).1, (aFc_ok h).2⟩
def aRm (m : List Nat) (r : aRk) : aRk := match r.2 with
  | none => r
  | some q => (r.1, some (q.1, m.getD q.2 0))
def aRo (k : Nat) (rk : List aRk) : Bool := rk.all (fun r => match r.2 with
  | none => true
  | some q => decide (q.2 < k))
def aTo (rk0 : List aRk) (c : aCu) (S : aS) : Bool := match aMp S [] c.2.2.1 with
  | some m => aInB S c.2.1 m && aRo m.length c.2.2.2 && aRs S.2.2.1 rk0 (c.2.2.2.map (aRm m))
  | none => false
def aRet (rt : Option FieldType) (rs : Option aT) (I : Instr) (S : aS) : Bool := match I with
  | .return_ => (match rt, rs, S.2.1 with
    | none, none, [] => true
    | _, _, _ => false)
  | .ireturn => (match rt, rs, S.2.1 with
    | some ty, some t, [x] => (match aTy S.2.2.1 x with
      | some (.inl A) => aLe (.inl A) t && aSb A (aRg ty)
      | _ => false)
    | _, _, _ => false)
  | .lreturn => (match rt, rs, S.2.1 with
    | some .long, some (.inr none), [x] => (match aTy S.2.2.1 x with
      | some (.inr none) => true
      | _ => false)
    | _, _, _ => false)
  | _ => false
/-- what stands fast in a method: own file, room, types, what may change -/
abbrev aMi : Type := (String × List Jvm.Cond × List vw_C × Option FieldType × Option aT) × (List aKd × List (FieldType × Nat × Int × Int) × List Nat × List aCon) × (Room × List (Nat × Nat) × List jI × List aCu)
def aNe (m : aMi) (x : jI) (pc : Nat) (S : aS) : Option (List (Nat × aS)) := match x.1 with
  | .invokestatic _ => if x.2.1 = 3 then aCl m.1.1 m.1.2.1 m.1.2.2.1 m.2.1.1 m.2.1.2.2.2 m.2.2.1 m.2.2.2.1 x.1 x.2.2 pc S else none
  | .invokevirtual _ => if x.2.1 = 3 then aCl m.1.1 m.1.2.1 m.1.2.2.1 m.2.1.1 m.2.1.2.2.2 m.2.2.1 m.2.2.2.1 x.1 x.2.2 pc S else none
  | _ => aStp m.2.1.1 m.2.1.2.1 m.2.1.2.2.1 m.2.2.2.1 x.1 x.2.1 x.2.2 pc S
def aRun (m : aMi) (rk0 : List aRk) : Nat → List jI → Nat → aS → Bool
  | 0, _, _, _ => false
  | _ + 1, [], _, _ => false
  | f + 1, x :: r, pc, S => aRet m.1.2.2.2.1 m.1.2.2.2.2 x.1 S || (match aNe m x pc S with
    | some L => L.all (fun q => match aFc m.2.2.2.2.2 q.1 with
      | some c => aTo rk0 c q.2
      | none => if q.1 = pc + x.2.1 then aRun m rk0 f r q.1 q.2 else (match aSuf m.2.2.2.2.1 0 q.1 with
        | some is => aRun m rk0 f is q.1 q.2
        | none => false))
    | none => false)
def aChk (m : aMi) (f : Nat) : Bool := m.2.2.2.2.2.all (fun c => aRo c.2.1.2.2.1.length c.2.2.2 && (match aSuf m.2.2.2.2.1 0 c.1 with
  | some is => aRun m c.2.2.2 f is c.1 c.2.1
  | none => false))
section ASZ
variable {K : Nat → Nat} {n : Nat}
theorem aRo_ok {k : Nat} {rk : List aRk} (h : aRo k rk = true) {r : aRk} (hr : r ∈ rk) {b : Bool} {i : Nat} (e : r.2 = some (b, i)) : i < k := by
  have h1 := List.all_eq_true.mp h r hr
  rw [e] at h1
  exact of_decide_eq_true h1
def aDef (ρ : List jv) (rk : List aRk) : Prop := ∀ r ∈ rk, ∀ (b : Bool) (i : Nat), r.2 = some (b, i) → ∃ v, ρ[i]? = some v
theorem aRn_mo {ρ ρ' : List jv} (hx : aX ρ ρ') {rk : List aRk} (hd : aDef ρ rk) : rk.map (aRn ρ') = rk.map (aRn ρ) := by
  apply List.map_congr_left
  intro r hr
  obtain ⟨c, o⟩ := r
  rcases o with _ | ⟨b, i⟩
  · rfl
  · obtain ⟨v, hv⟩ := hd _ hr b i rfl
    unfold aRn
    dsimp only
    rw [hv, hx _ _ hv]
theorem aRn_mp {ρ : List jv} {m : List Nat} {rk : List aRk} (hm : aRo m.length rk = true) (hv : ∀ (i k : Nat), m[i]? = some k → ∃ v, ρ[k]? = some v) : rk.map (aRn (aVal ρ m)) = (rk.map (aRm m)).map (aRn ρ) := by
  rw [List.map_map]
  apply List.map_congr_left
  intro r hr
  obtain ⟨c, o⟩ := r
  rcases o with _ | ⟨b, i⟩
  · rfl
  · have hi := aRo_ok hm hr (b := b) (i := i) rfl
    have h1 : m[i]? = some (m.getD i 0) := by
      rw [List.getElem?_eq_getElem hi]
      simp [List.getD, List.getElem?_eq_getElem hi]
    obtain ⟨v, h2⟩ := hv i _ h1
    show aRn (aVal ρ m) (c, some (b, i)) = aRn ρ (c, some (b, m.getD i 0))
    unfold aRn
    dsimp only
    rw [aVal_at h1 h2, h2]
theorem nar_eq (ty : FieldType) (x : Int32) : narrow ty (.int x) = .int (vp_nar ty x) := by cases ty <;> rfl
variable {l : Launch} {E : jE} {tb : jTb} {nL : Nat} {ini : Bool} {cc : ByteArray} {M : jM} {JX : (Nat → jcell) → Prop} {σ0 : Nat → jcell} {m : aMi}
def aPo (T : List aKd) (K : Nat → Nat) (n : Nat) (JX : (Nat → jcell) → Prop) (md : List (Nat × Nat)) (σ0 : Nat → jcell) (rs : Option aT) : jPo := fun r σ' n' => n' = n ∧ aH T K n σ' ∧ JX σ' ∧ aFr K n md σ0 σ' ∧ aRt K n rs r
theorem aRet_ok (X : jX E m.1.1 m.1.2.1 m.1.2.2.1 tb nL ini cc M) (hrt : M.2.2.2.2.2.2.2.2.1.sig.returnType = m.1.2.2.2.1) {I : Instr} {pc : Nat} {x : jI} (hk : jok m.1.1 m.1.2.1 m.1.2.2.1 tb nL ini cc pc x = true) {S : aS} (h : aRet m.1.2.2.2.1 m.1.2.2.2.2 x.1 S = true) {ρ : List jv} {lv : List (Option jv)} {st : List jv} {σ : Nat → jcell} (hc : aCx (aHp m.2.1.1 K n JX m.2.2.2.1 σ0) K n S ρ lv st σ) : jJ E m.1.2.2.1 nL M (jQ E m.1.2.2.1 M (aPo m.2.1.1 K n JX m.2.2.2.1 σ0 m.1.2.2.2.2) 0 0) n 0 0 pc lv st σ := by
  obtain ⟨I, ln, py⟩ := x
  simp only [jok, Bool.and_eq_true, decide_eq_true_eq] at hk
  obtain ⟨hd, hk⟩ := hk
  obtain ⟨c5, c6, c7⟩ := hc.2.2.2.2
  unfold aRet at h
  split at h
  next hI =>
    dsimp only at hI
    subst hI
    simp only [jok1, decide_eq_true_eq] at hk
    subst hk
    split at h
    next e1 e2 e3 =>
      have hs := hc.2.2.1
      rw [e3] at hs
      cases st with
      | nil => exact jk_vret X hd (hrt.trans e1) (Nat.le_refl _) (Nat.le_refl _) ⟨rfl, c5, c6, c7, by rw [e2]; trivial⟩
      | cons => exact hs.elim
    next => cases h
  next hI =>
    dsimp only at hI
    subst hI
    simp only [jok1, decide_eq_true_eq] at hk
    subst hk
    split at h
    next ty t z e1 e2 e3 =>
      split at h
      next A hA =>
        rw [Bool.and_eq_true] at h
        obtain ⟨v, s, rfl, h1, h2⟩ := aSk_1 (e3 ▸ hc.2.2.1)
        obtain ⟨x, rfl, hx⟩ := aG_int (aTy_ok hc.1 hA h1)
        cases s with
        | nil => exact jk_iret X hd (hrt.trans e1) (by rw [nar_eq, aRg_ok (aSb_ok h.2 hx)]) (Nat.le_refl _) (Nat.le_refl _) ⟨rfl, c5, c6, c7, by rw [e2]; exact aLe_ok (t := .inl A) (v := .inl x) h.1 hx⟩
        | cons => exact h2.elim
      next => cases h
    next => cases h
  next hI =>
    dsimp only at hI
    subst hI
    simp only [jok1, decide_eq_true_eq] at hk
    subst hk
    split at h
    next z e1 e2 e3 =>
      split at h
      next hA =>
        obtain ⟨v, s, rfl, h1, h2⟩ := aSk_1 (e3 ▸ hc.2.2.1)
        obtain ⟨x, rfl⟩ := aG_lng (aTy_ok hc.1 hA h1)
        cases s with
        | nil => exact jk_lret X hd (hrt.trans e1) (Nat.le_refl _) (Nat.le_refl _) ⟨rfl, c5, c6, c7, by rw [e2]; trivial⟩
        | cons => exact h2.elim
      next => cases h
    next => cases h
  next => cases h
theorem aNe_ok (hC : jCl m.1.2.1 m.1.2.2.1) (X : jX E m.1.1 m.1.2.1 m.1.2.2.1 tb nL ini cc M) (hl : M.2.1 = l) (hR : M.2.2.2.1 = m.2.2.1) (hG : ∀ G ∈ m.2.1.2.2.2, aGd m.1.2.1 G ∧ aMe l E m.1.2.2.1 tb m.1.2.1 m.2.1.1 K n JX G) (hT : aTB m.2.1.2.1 tb) (hJ : aJx K n m.2.1.2.2.1 JX) {Q : State → Prop} {pc : Nat} {x : jI} (hk : jok m.1.1 m.1.2.1 m.1.2.2.1 tb nL ini cc pc x = true) {S : aS} {L : List (Nat × aS)} (hb : aNe m x pc S = some L) {ρ : List jv} {lv : List (Option jv)} {st : List jv} {σ : Nat → jcell} (hc : aCx (aHp m.2.1.1 K n JX m.2.2.2.1 σ0) K n S ρ lv st σ) (h : aNx (aHp m.2.1.1 K n JX m.2.2.2.1 σ0) K n (jJ E m.1.2.2.1 nL M Q n 0 0) ρ L) : jJ E m.1.2.2.1 nL M Q n 0 0 pc lv st σ := by
  have hd : decode cc pc = .ok (x.1, x.2.1) := by
    have h9 := hk
    simp only [jok, Bool.and_eq_true, decide_eq_true_eq] at h9
    exact h9.1
  unfold aNe at hb
  split at hb
  next i hi =>
    split at hb
    next h3 => exact aCl_ok X hl hR hG hd h3 hb hc h
    next => cases hb
  next i hi =>
    split at hb
    next h3 => exact aCl_ok X hl hR hG hd h3 hb hc h
    next => cases hb
  next => exact jstep_ok (I := x.1) (ln := x.2.1) (py := x.2.2) hC X hk (aStp_ok hT hJ hb hc h) (fun _ _ _ h' => h') (fun _ _ _ _ h' => h')
theorem aTo_ok {rk0 : List aRk} {c : aCu} {S : aS} (h : aTo rk0 c S = true) {Hp : (Nat → jcell) → Prop} {ρ : List jv} {lv : List (Option jv)} {st : List jv} {σ : Nat → jcell} (hc : aCx Hp K n S ρ lv st σ) : ∃ ρ' : List jv, aCx Hp K n c.2.1 ρ' lv st σ ∧ aLt (c.2.2.2.map (aRn ρ')) (rk0.map (aRn ρ)) := by
  unfold aTo at h
  split at h
  next mm hmm =>
    simp only [Bool.and_eq_true] at h
    obtain ⟨⟨h1, h2⟩, h3⟩ := h
    refine ⟨aVal ρ mm, aInB_ok h1 hc, ?_⟩
    have h4 := h1
    simp only [aInB, Bool.and_eq_true] at h4
    rw [aRn_mp h2 (aAllE_ok hc.1 h4.1.1.1).2.1]
    exact aRs_ok hc.1 h3
  next => cases h
theorem aRun_ok (hC : jCl m.1.2.1 m.1.2.2.1) (X : jX E m.1.1 m.1.2.1 m.1.2.2.1 tb nL ini cc M) (hl : M.2.1 = l) (hR : M.2.2.2.1 = m.2.2.1) (hrt : M.2.2.2.2.2.2.2.2.1.sig.returnType = m.1.2.2.2.1) (hG : ∀ G ∈ m.2.1.2.2.2, aGd m.1.2.1 G ∧ aMe l E m.1.2.2.1 tb m.1.2.1 m.2.1.1 K n JX G) (hT : aTB m.2.1.2.1 tb) (hJ : aJx K n m.2.1.2.2.1 JX) (hok : jokL m.1.1 m.1.2.1 m.1.2.2.1 tb nL ini cc 0 m.2.2.2.2.1 = true) {rk0 : List aRk} {R0 : List Nat}
    (hI : ∀ c ∈ m.2.2.2.2.2, ∀ (ρ' : List jv) (lv' : List (Option jv)) (st' : List jv) (σ' : Nat → jcell), aLt (c.2.2.2.map (aRn ρ')) R0 → aCx (aHp m.2.1.1 K n JX m.2.2.2.1 σ0) K n c.2.1 ρ' lv' st' σ' → jJ E m.1.2.2.1 nL M (jQ E m.1.2.2.1 M (aPo m.2.1.1 K n JX m.2.2.2.1 σ0 m.1.2.2.2.2) 0 0) n 0 0 c.1 lv' st' σ') : ∀ (f : Nat) (is : List jI) (pc : Nat) (S : aS) (ρ : List jv) (lv : List (Option jv)) (st : List jv) (σ : Nat → jcell), aRun m rk0 f is pc S = true → jokL m.1.1 m.1.2.1 m.1.2.2.1 tb nL ini cc pc is = true → aDef ρ rk0 → rk0.map (aRn ρ) = R0 → aCx (aHp m.2.1.1 K n JX m.2.2.2.1 σ0) K n S ρ lv st σ → jJ E m.1.2.2.1 nL M (jQ E m.1.2.2.1 M (aPo m.2.1.1 K n JX m.2.2.2.1 σ0 m.1.2.2.2.2) 0 0) n 0 0 pc lv st σ
  | 0, _, _, _, _, _, _, _, h, _, _, _, _ => by unfold aRun at h; cases h
  | _ + 1, [], _, _, _, _, _, _, h, _, _, _, _ => by unfold aRun at h; cases h
  | f + 1, x :: r, pc, S, ρ, lv, st, σ, h, hk, hdf, hr0, hc => by
    have hk2 : jok m.1.1 m.1.2.1 m.1.2.2.1 tb nL ini cc pc x = true ∧ jokL m.1.1 m.1.2.1 m.1.2.2.1 tb nL ini cc (pc + x.2.1) r = true := by
      have h9 := hk
      unfold jokL at h9
      rwa [Bool.and_eq_true] at h9
    unfold aRun at h
    rw [Bool.or_eq_true] at h
    rcases h with h | h
    · exact aRet_ok (I := x.1) X hrt hk2.1 h hc
    · split at h
      next L hL =>
        refine aNe_ok hC X hl hR hG hT hJ hk2.1 hL hc (fun q hq ρ' lv' st' σ' hx hc' => ?_)
        have h1 := List.all_eq_true.mp h q hq
        have hdf' : aDef ρ' rk0 := fun r1 hr1 b i e => by
          obtain ⟨v, hv⟩ := hdf r1 hr1 b i e
          exact ⟨v, hx _ _ hv⟩
        have hr0' : rk0.map (aRn ρ') = R0 := (aRn_mo hx hdf).trans hr0
        split at h1
        next c hcu =>
          obtain ⟨k1, k2⟩ := aFc_ok hcu
          obtain ⟨ρ2, g1, g2⟩ := aTo_ok h1 hc'
          rw [hr0'] at g2
          rw [← k2]
          exact hI c k1 ρ2 lv' st' σ' g2 g1
        next =>
          split at h1
          next e =>
            rw [e] at h1 ⊢
            exact aRun_ok hC X hl hR hrt hG hT hJ hok hI f r _ _ ρ' lv' st' σ' h1 hk2.2 hdf' hr0' hc'
          next =>
            split at h1
            next is2 hs2 => exact aRun_ok hC X hl hR hrt hG hT hJ hok hI f is2 _ _ ρ' lv' st' σ' h1 (aSuf_ok hok hs2) hdf' hr0' hc'
            next => cases h1
      next => cases h
theorem aChk_ok {f : Nat} (hC : jCl m.1.2.1 m.1.2.2.1) (X : jX E m.1.1 m.1.2.1 m.1.2.2.1 tb nL ini cc M) (hl : M.2.1 = l) (hR : M.2.2.2.1 = m.2.2.1) (hrt : M.2.2.2.2.2.2.2.2.1.sig.returnType = m.1.2.2.2.1) (hG : ∀ G ∈ m.2.1.2.2.2, aGd m.1.2.1 G ∧ aMe l E m.1.2.2.1 tb m.1.2.1 m.2.1.1 K n JX G) (hT : aTB m.2.1.2.1 tb) (hJ : aJx K n m.2.1.2.2.1 JX) (hok : jokL m.1.1 m.1.2.1 m.1.2.2.1 tb nL ini cc 0 m.2.2.2.2.1 = true) (hch : aChk m f = true) : ∀ (R : List Nat), ∀ c ∈ m.2.2.2.2.2, ∀ (ρ : List jv) (lv : List (Option jv)) (st : List jv) (σ : Nat → jcell), c.2.2.2.map (aRn ρ) = R → aCx (aHp m.2.1.1 K n JX m.2.2.2.1 σ0) K n c.2.1 ρ lv st σ → jJ E m.1.2.2.1 nL M (jQ E m.1.2.2.1 M (aPo m.2.1.1 K n JX m.2.2.2.1 σ0 m.1.2.2.2.2) 0 0) n 0 0 c.1 lv st σ := by
  intro R
  induction aLt_acc R.length R rfl with
  | intro R _ ih =>
    intro c hcm ρ lv st σ hR0 hc
    have h1 := List.all_eq_true.mp hch c hcm
    rw [Bool.and_eq_true] at h1
    obtain ⟨h1, h2⟩ := h1
    split at h2
    next is hs =>
      refine aRun_ok hC X hl hR hrt hG hT hJ hok (R0 := R) (fun c2 hc2 ρ' lv' st' σ' hlt hcx => ih _ hlt c2 hc2 ρ' lv' st' σ' rfl hcx) f is c.1 c.2.1 ρ lv st σ h2 (aSuf_ok hok hs) (fun r hr b i e => ?_) hR0 hc
      have h3 := aRo_ok h1 hr e
      exact ⟨_, List.getElem?_eq_getElem (by rw [hc.1.1]; exact h3)⟩
    next => cases h2
end ASZ
