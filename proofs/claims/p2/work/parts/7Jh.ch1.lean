/-! CLASS: rules for its last steps -/
section CHK
variable {E : jE} {own : String} {Ts : List Jvm.Cond} {cl : List vw_C} {tb : jTb} {nL n : Nat} {ini : Bool} {cc : ByteArray} {M : jM} {Q : State → Prop} {cells slots : Nat}
/-- a static of a nest mate -/
theorem jk_gsn (X : jX E own Ts cl tb nL ini cc M) {pc i : Nat} {host : String} {q : String × String × String × jSv} (hd : decode cc pc = .ok (.getstatic i, 3)) (hm : q ∈ js0.2.1) (hw : Jvm.Cond.fieldLinkNest own i q.1 q.2.1 q.2.2.1 host ∈ jNW Ts) {lv : List (Option jv)} {r : List jv} {σ : Nat → jcell} (k : jJ E cl nL M Q n cells slots (pc + 3) lv (jSw q.2.2.2 :: r) σ) : jJ E cl nL M Q n cells slots pc lv r σ := by
  obtain ⟨hx, hb, hml, ho, hts, ⟨hK, hSt, -, hN⟩, -⟩ := X
  intro H locs ls hW hS hL
  refine va_getsN hx hb (hSt.2.2.1 _ hm) hS ho (va_Nw.use rfl (hN _ hw)) (fun _ h9 => h9) hd ?_
  have h := k H locs ls hW hS hL
  rw [List.map_cons, jSw_c] at h
  exact h
/-- an inherited method of a static object is called -/
theorem jk_callU (X : jX E own Ts cl tb nL ini cc M) {rm rc : Room} (hR : M.2.2.2.1 = rm) {pc i k : Nat} {C owner : String} {x : MethodName} {Y : jY} (hd : decode cc pc = .ok (.invokevirtual i, 3)) (hT : GoodIn (jTA Ts) (va_wsU own i C owner x Y.1 (jws Ts Y))) (hyx : Y.1 = ⟨owner, x.name, x.desc⟩) (hdd : owner ≠ "java/lang/invoke/MethodHandle" ∧ owner ≠ "java/lang/invoke/VarHandle" ∧ (parseMethodDescriptor x.desc).map (fun d => d.parameters.length) = some k) {o : Nat × String × List (String × String × String × jSv)} (ho1 : o ∈ js0.1) (hoc : o.2.1 = C) {lv : List (Option jv)} {r vals : List jv} {σ : Nat → jcell} {post : jPo} (hM : jMet M.2.1 E cl tb Ts Y rc (.inr (.inr (some (.inr o.1))) :: vals) σ n post) {st : List jv} (hs : st = vals.reverse ++ .inr (.inr (some (.inr o.1))) :: r) (hk : vals.length = k)
    (hf : rc.frames + 1 ≤ rm.frames ∧ 8 + (Y.2.2.1 + 11) + rc.locals ≤ rm.locals) (hc : cells + rc.cells ≤ rm.cells ∧ slots + rc.slots ≤ rm.slots) (hz : (r.map jcat).sum ≤ 8)
    (kk : ∀ (v : Option jv) (σ' : Nat → jcell) (n' : Nat), post v σ' n' → jJ E cl nL M Q n' (cells + rc.cells) (slots + rc.slots) (pc + 3) lv (v.toList ++ r) σ') : jJ E cl nL M Q n cells slots pc lv st σ := by
  subst hs
  obtain ⟨p, l, e, R, s, m, args, below, meth, c⟩ := M
  dsimp only at hR
  subst hR
  obtain ⟨hx, hb, hml, ho, hts, hK, -, -⟩ := X
  intro H locs ls hW hS hL
  obtain ⟨cellB, hcB, hoB, hclB, -⟩ := (hK.2.1.2.1 _ ho1).1.kept hS.2.1
  rw [hoc] at hclB
  have hpre : PreV s H C (E.2.2.1 o.1) (jPc E cl tb Ts (.inr (.inr (some (.inr o.1))) :: vals) σ n) (vals.map (jc E)) := ⟨jPc_blind, ⟨cellB, hcB, hoB, hclB⟩, fun U hU hWm => ⟨rfl, by rw [hU]; exact hW, jK_go hK hS hU hWm⟩⟩
  have hstk : ((vals.reverse ++ .inr (.inr (some (.inr o.1))) :: r).map (jc E)) = (vals.map (jc E)).reverse ++ .ref (E.2.2.1 o.1) :: r.map (jc E) := by rw [List.map_append, List.map_reverse]; rfl
  have hgo : ∀ (v : Option jv) (σ' : Nat → jcell) (n' : Nat), post v σ' n' → ∀ (H1 : Heap) (locs1 : List Loc), jW E cl σ' n' H1 → va_S (jA E) s.heap H1 locs1 → W p l e R s m args below meth c H1 locs1 (cells + rc.cells) (slots + rc.slots) Q (F0 m (pc + 3) ls ((v.map (jc E)).toList ++ r.map (jc E))) := by
    intro v σ' n' hp H1 locs1 hW1 hS1
    have h := kk v σ' n' hp H1 locs1 ls hW1 hS1 hL
    have e1 : (v.toList ++ r).map (jc E) = (v.map (jc E)).toList ++ r.map (jc E) := by cases v <;> simp
    rw [e1] at h
    exact h
  exact jk_after (va_runU (C := C) (owner := owner) (x := x) (b := E.2.2.1 o.1) (As := vals.map (jc E)) (rest := r.map (jc E)) (Ts := jTA Ts) ⟨hx, hb, hml, ho, hts⟩ hM (va_cwU k hts hT rfl rfl rfl hyx hdd hf) hpre rfl (by rw [List.length_map]; exact hk) hL.1 hstk (lv_room (by rw [jcat_sum]; exact hz)) hd hc) hS hgo
end CHK
/-! cuts that are left to the hand: on to the next cut -/
section GAR
variable {P : Type} {F : aFt P} {K : Nat → Nat} {n : Nat} {JX : (Nat → jcell) → Prop} {ρ0 ρ' : List jv} {σ0 : Nat → jcell} {J : jN} {m : aMi}
theorem gArr {rk : List aF} {L : List (Nat × aS)} (hE : m.2.1.2.2.2.2.2.2 = ρ0.length) (h : L.all (fun q => m.2.2.2.2.2.any (fun c => Nat.beq c.1 q.1 && aTo m.2.1 rk c q.2)) = true) (hx0 : aX ρ0 ρ') (hd : aDef ρ' rk) (IH : ∀ c2 ∈ m.2.2.2.2.2, ∀ (ρ2 : List jv) (lv : List (Option jv)) (st : List jv) (σ : Nat → jcell), aLt (c2.2.2.2.map (aRn ρ2)) (rk.map (aRn ρ')) → aX ρ0 ρ2 → aCx F (aHp m.2.1 K n JX ρ0 σ0) K n c2.2.1 ρ2 lv st σ → J c2.1 lv st σ) : aNx F (aHp m.2.1 K n JX ρ0 σ0) K n J ρ' L := by
  intro q hq ρ2 lv st σ hx hc
  have h1 := List.all_eq_true.mp h q hq
  obtain ⟨c, k1, k2⟩ := List.any_eq_true.mp h1
  rw [Bool.and_eq_true] at k2
  obtain ⟨ρ3, g0, g1, g2⟩ := aTo_ok hE k2.2 (hx0.tr hx) (aDef_mo hx hd) hc
  rw [aRn_mo hx hd] at g2
  rw [← Nat.eq_of_beq_eq_true k2.1]
  exact IH c k1 ρ3 lv st σ g2 g0 g1
theorem gDf {c : aCu} {lv : List (Option jv)} {st : List jv} {σ : Nat → jcell} (h : aRo c.2.1.2.2.1.length c.2.2.2 = true) (hc : aCx F (aHp m.2.1 K n JX ρ0 σ0) K n c.2.1 ρ' lv st σ) : aDef ρ' c.2.2.2 := fun g hg => aEv_df (by rw [hc.1.1]; exact List.all_eq_true.mp h g hg)
/-- one more value on the stack -/
def gPk (m : aMi) (t : aT) (d : Nat) (c : aCu) : Bool := aRo c.2.1.2.2.1.length c.2.2.2 && [(c.1 + d, aPu c.2.1 c.2.1.2.1 t none)].all (fun q => m.2.2.2.2.2.any (fun c2 => Nat.beq c2.1 q.1 && aTo m.2.1 c.2.2.2 c2 q.2))
theorem gPk_ok {t : aT} {d : Nat} {c : aCu} (h : gPk m t d c = true) (hE : m.2.1.2.2.2.2.2.2 = ρ0.length) (hx0 : aX ρ0 ρ') {lv : List (Option jv)} {st : List jv} {σ : Nat → jcell} (hc : aCx F (aHp m.2.1 K n JX ρ0 σ0) K n c.2.1 ρ' lv st σ) (IH : ∀ c2 ∈ m.2.2.2.2.2, ∀ (ρ2 : List jv) (lv : List (Option jv)) (st : List jv) (σ : Nat → jcell), aLt (c2.2.2.2.map (aRn ρ2)) (c.2.2.2.map (aRn ρ')) → aX ρ0 ρ2 → aCx F (aHp m.2.1 K n JX ρ0 σ0) K n c2.2.1 ρ2 lv st σ → J c2.1 lv st σ) {v : jv} (hv : aG K n t v) : J (c.1 + d) lv (v :: st) σ := by
  unfold gPk at h
  rw [Bool.and_eq_true] at h
  exact aPu_ok (r := none) hc hc.2.2.1 hv trivial (gArr hE h.2 hx0 (gDf h.1 hc) IH)
end GAR
