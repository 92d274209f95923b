/-! calls over contracts of the same form -/
abbrev aCon : Type := jY × Bool × List aT × Option aT × List (Nat × Nat) × Room
def aRt (K : Nat → Nat) (n : Nat) (t : Option aT) (r : Option jv) : Prop := match t, r with
  | none, none => True
  | some t, some v => aG K n t v
  | _, _ => False
def aAG (K : Nat → Nat) (n : Nat) : List aT → List jv → Prop
  | [], [] => True
  | t :: ts, v :: vs => aG K n t v ∧ aAG K n ts vs
  | _, _ => False
/-- what a method of a contract does -/
def aMe (l : Launch) (E : jE) (cl : List vw_C) (tb : jTb) (Ts : List Jvm.Cond) (T : List aKd) (K : Nat → Nat) (n : Nat) (JX : (Nat → jcell) → Prop) (G : aCon) : Prop := ∀ (σ : Nat → jcell) (vals : List jv), aH T K n σ → JX σ → aAG K n G.2.2.1 vals → jMet l E cl tb Ts G.1 G.2.2.2.2.2 vals σ n (fun r σ' n' => n' = n ∧ aH T K n σ' ∧ JX σ' ∧ aFr K n G.2.2.2.2.1 σ σ' ∧ aRt K n G.2.2.2.1 r)
/-- what the tables say of it -/
def aGd (Ts : List Jvm.Cond) (G : aCon) : Prop := G.2.2.2.2.2.cells = 0 ∧ G.2.2.2.2.2.slots = 0 ∧ (if G.2.1 = true then jmth Ts G.1 G.2.2.1.length ∧ Jvm.Cond.static G.1.1 ∈ jTA Ts else jmth Ts G.1 (G.2.2.1.length - 1) ∧ Jvm.Cond.instanceMethod G.1.1 ∈ jTA Ts ∧ Jvm.Cond.selects G.1.1.cls G.1.1 G.1.1 ∈ jTA Ts)
def aArg (env : List aE) : List aT → List Nat → Option (List Nat)
  | [], sk => some sk
  | t :: ts, x :: sk => (match aTy env x with
    | some u => if aLe u t = true then aArg env ts sk else none
    | none => none)
  | _ :: _, [] => none
section ASY
variable {K : Nat → Nat} {n : Nat}
theorem aAG_len : ∀ {ts : List aT} {vs : List jv}, aAG K n ts vs → vs.length = ts.length
  | [], [], _ => rfl
  | _ :: _, _ :: _, h => by simp [aAG_len h.2]
  | [], _ :: _, h => h.elim
  | _ :: _, [], h => h.elim
theorem aAG_app : ∀ {ts : List aT} {vs : List jv} {ts2 : List aT} {vs2 : List jv}, aAG K n ts vs → aAG K n ts2 vs2 → aAG K n (ts ++ ts2) (vs ++ vs2)
  | [], [], _, _, _, h2 => h2
  | _ :: _, _ :: _, _, _, h, h2 => ⟨h.1, aAG_app h.2 h2⟩
  | [], _ :: _, _, _, h, _ => h.elim
  | _ :: _, [], _, _, h, _ => h.elim
theorem aAG_rev : ∀ {ts : List aT} {vs : List jv}, aAG K n ts vs → aAG K n ts.reverse vs.reverse
  | [], [], _ => trivial
  | t :: ts, v :: vs, h => by
    rw [List.reverse_cons, List.reverse_cons]
    exact aAG_app (aAG_rev h.2) ⟨h.1, trivial⟩
  | [], _ :: _, h => h.elim
  | _ :: _, [], h => h.elim
theorem aArg_ok {env : List aE} {ρ : List jv} (hR : aR K n env ρ) : ∀ {ts : List aT} {sk r : List Nat} {st : List jv}, aArg env ts sk = some r → aSk ρ sk st → ∃ vs s : List jv, st = vs ++ s ∧ aAG K n ts vs ∧ aSk ρ r s
  | [], _, _, st, h, hs => by cases h; exact ⟨[], st, rfl, trivial, hs⟩
  | t :: ts, x :: sk, r, st, h, hs => by
    unfold aArg at h
    split at h
    next u hu =>
      split at h
      next hl =>
        obtain ⟨v, s, rfl, h1, h2⟩ := aSk_1 hs
        obtain ⟨vs, s2, rfl, h3, h4⟩ := aArg_ok hR h h2
        exact ⟨v :: vs, s2, rfl, ⟨aLe_ok hl (aTy_ok hR hu h1), h3⟩, h4⟩
      next => cases h
    next => cases h
  | _ :: _, [], _, _, h, _ => by cases h
theorem aFr_tr {md md' : List (Nat × Nat)} {σ0 σ σ' : Nat → jcell} (h1 : aFr K n md σ0 σ) (h2 : aFr K n md' σ σ') (hm : ∀ q ∈ md', q ∈ md) : aFr K n md σ0 σ' := by
  intro a ha c fs h0
  obtain ⟨fs1, e1, e2⟩ := h1 a ha c fs h0
  obtain ⟨fs2, e3, e4⟩ := h2 a ha c fs1 e1
  exact ⟨fs2, e3, fun f v hv hn => e4 f v (e2 f v hv hn) (fun q => hn (hm _ q))⟩
theorem aFr_rf {md : List (Nat × Nat)} {σ : Nat → jcell} : aFr K n md σ σ := fun _ _ _ fs h => ⟨fs, h, fun _ _ hv _ => hv⟩
def aKp (env : List aE) (md : List (Nat × Nat)) (q : Nat × Nat × Nat) : Bool := match aKi env q.1 with
  | some k => decide (¬ (k, q.2.1) ∈ md)
  | none => false
theorem aKp_ok {env : List aE} {ρ : List jv} (hR : aR K n env ρ) {md : List (Nat × Nat)} {σ σ' : Nat → jcell} {cc : List (Nat × Nat × Nat)} (h : aCa ρ σ cc) (hf : aFr K n md σ σ') : aCa ρ σ' (cc.filter (aKp env md)) := by
  intro q hq
  obtain ⟨q1, q2⟩ := List.mem_filter.mp hq
  obtain ⟨a, c, fs, v, m1, m2, m3, m4⟩ := h q q1
  unfold aKp at q2
  split at q2
  next k hk =>
    rw [decide_eq_true_eq] at q2
    obtain ⟨b, e1, e2, e3⟩ := aKi_ok hR hk m1
    cases e1
    obtain ⟨fs', f1, f2⟩ := hf a e2 c fs m2
    exact ⟨a, c, fs', v, m1, f1, f2 _ _ m3 (by rw [e3]; exact q2), m4⟩
  next => cases q2
def aCs (cl : List vw_C) (T : List aKd) (G : aCon) : Bool := match G.2.2.1 with
  | .inr (some (.inl (false, k))) :: _ => (match T[k]? with
    | some (.inr q) => (match cl[q.1]? with
      | some w => decide (w.1 = G.1.1.cls)
      | none => false)
    | _ => false)
  | _ => false
/-- the state behind a call -/
def aAf (S : aS) (r : List Nat) (G : aCon) (p : Nat) : List (Nat × aS) := match G.2.2.2.1 with
  | some t => [(p, (S.1, S.2.2.1.length :: r, S.2.2.1 ++ [(t, none)], S.2.2.2.filter (aKp S.2.2.1 G.2.2.2.2.1)))]
  | none => [(p, (S.1, r, S.2.2.1, S.2.2.2.filter (aKp S.2.2.1 G.2.2.2.2.1)))]
def aSubM (md' md : List (Nat × Nat)) : Bool := md'.all (fun q => decide (q ∈ md))
theorem aSubM_ok {md' md : List (Nat × Nat)} (h : aSubM md' md = true) : ∀ q ∈ md', q ∈ md := fun q hq => of_decide_eq_true (List.all_eq_true.mp h q hq)
def aRoom (rm rc : Room) (nL : Nat) : Bool := decide (rc.frames + 1 ≤ rm.frames) && decide (8 + (nL + 11) + rc.locals ≤ rm.locals)
def aCl (own : String) (Ts : List Jvm.Cond) (cl : List vw_C) (T : List aKd) (Gs : List aCon) (rm : Room) (md : List (Nat × Nat)) (I : Instr) (py : jP) (pc : Nat) (S : aS) : Option (List (Nat × aS)) := match I with
  | .invokestatic i => (match Gs[py.1]? with
    | some G => (match aArg S.2.2.1 G.2.2.1.reverse S.2.1 with
      | some r => if G.2.1 = true ∧ jlm Ts py.2.2.1 own i G.1.1 = true ∧ aSubM G.2.2.2.2.1 md = true ∧ aRoom rm G.2.2.2.2.2 G.1.2.2.1 = true ∧ r.length ≤ 4 then some (aAf S r G (pc + 3)) else none
      | none => none)
    | none => none)
  | .invokevirtual i => (match Gs[py.1]? with
    | some G => (match aArg S.2.2.1 G.2.2.1.reverse S.2.1 with
      | some r => if G.2.1 = false ∧ jlm Ts py.2.2.1 own i G.1.1 = true ∧ aSubM G.2.2.2.2.1 md = true ∧ aRoom rm G.2.2.2.2.2 G.1.2.2.1 = true ∧ r.length ≤ 4 ∧ aCs cl T G = true then some (aAf S r G (pc + 3)) else none
      | none => none)
    | none => none)
  | _ => none
theorem jcat_le : ∀ (r : List jv), (r.map jcat).sum ≤ 2 * r.length
  | [] => by simp
  | v :: r => by
    have h := jcat_le r
    have h2 : jcat v ≤ 2 := by rcases v with x | x | x <;> simp [jcat]
    simp only [List.map_cons, List.sum_cons, List.length_cons]
    omega
theorem aSk_len {ρ : List jv} : ∀ {al : List Nat} {st : List jv}, aSk ρ al st → st.length = al.length
  | [], [], _ => rfl
  | _ :: _, _ :: _, h => by simp [aSk_len h.2]
  | [], _ :: _, h => h.elim
  | _ :: _, [], h => h.elim
variable {l : Launch} {E : jE} {own : String} {Ts : List Jvm.Cond} {cl : List vw_C} {tb : jTb} {nL : Nat} {ini : Bool} {cc : ByteArray} {M : jM} {Q : State → Prop} {T : List aKd} {JX : (Nat → jcell) → Prop} {md : List (Nat × Nat)} {σ0 : Nat → jcell} {Gs : List aCon}
theorem aAf_ok {S : aS} {r : List Nat} {G : aCon} {p : Nat} {J : jN} {ρ : List jv} {lv : List (Option jv)} {st s : List jv} {σ σ' : Nat → jcell} (hc : aCx (aHp T K n JX md σ0) K n S ρ lv st σ) (hr : aSk ρ r s) (hm : aSubM G.2.2.2.2.1 md = true) (h1 : aH T K n σ') (h2 : JX σ') (h3 : aFr K n G.2.2.2.2.1 σ σ') {v : Option jv} (h4 : aRt K n G.2.2.2.1 v) (h : aNx (aHp T K n JX md σ0) K n J ρ (aAf S r G p)) : J p lv (v.toList ++ s) σ' := by
  obtain ⟨c1, c2, c3, c4, c5, c6, c7⟩ := hc
  have hp : aHp T K n JX md σ0 σ' := ⟨h1, h2, aFr_tr c7 h3 (aSubM_ok hm)⟩
  have hk := aKp_ok c1 c4 h3
  unfold aAf at h
  split at h
  next t ht =>
    rw [ht] at h4
    cases v with
    | none => exact h4.elim
    | some v => exact aNx_in h List.mem_cons_self aX_app ⟨aR_push (r := none) c1 h4 trivial, c2.mo aX_app, ⟨aR_new c1, hr.mo aX_app⟩, hk.mo aX_app, hp⟩
  next ht =>
    rw [ht] at h4
    cases v with
    | none => exact aNx_in h List.mem_cons_self aX_rf ⟨c1, c2, hr, hk, hp⟩
    | some v => exact h4.elim
theorem aCl_ok (X : jX E own Ts cl tb nL ini cc M) (hl : M.2.1 = l) {rm : Room} (hR : M.2.2.2.1 = rm) (hG : ∀ G ∈ Gs, aGd Ts G ∧ aMe l E cl tb Ts T K n JX G) {I : Instr} {ln : Nat} {py : jP} {pc : Nat} (hd : decode cc pc = .ok (I, ln)) (hln : ln = 3) {S : aS} {L : List (Nat × aS)} (hb : aCl own Ts cl T Gs rm md I py pc S = some L) {ρ : List jv} {lv : List (Option jv)} {st : List jv} {σ : Nat → jcell} (hc : aCx (aHp T K n JX md σ0) K n S ρ lv st σ) (h : aNx (aHp T K n JX md σ0) K n (jJ E cl nL M Q n 0 0) ρ L) : jJ E cl nL M Q n 0 0 pc lv st σ := by
  subst hln
  subst hl
  unfold aCl at hb
  split at hb
  next i =>
    split at hb
    next G hg =>
      split at hb
      next r hr =>
        split at hb
        next hz =>
          cases hb
          obtain ⟨z1, z2, z3, z4, z5⟩ := hz
          obtain ⟨⟨g1, g2, g3⟩, g4⟩ := hG G (List.mem_of_getElem? hg)
          rw [if_pos z1] at g3
          obtain ⟨vs, s, rfl, a1, a2⟩ := aArg_ok hc.1 hr hc.2.2.1
          have a3 := aAG_rev a1
          rw [List.reverse_reverse] at a3
          simp only [aRoom, Bool.and_eq_true, decide_eq_true_eq] at z4
          refine jk_callS (vals := vs.reverse) X hR hd z2 g3.1 g3.2 (g4 σ vs.reverse hc.2.2.2.2.1 hc.2.2.2.2.2.1 a3) (by rw [List.reverse_reverse]) (aAG_len a3) z4 (by rw [g1, g2]; exact ⟨Nat.zero_le _, Nat.zero_le _⟩) (by have q1 := jcat_le s; have q2 := aSk_len a2; omega) (fun v σ' n' hp => ?_)
          obtain ⟨rfl, p1, p2, p3, p4⟩ := hp
          rw [g1, g2]
          exact aAf_ok hc a2 z3 p1 p2 p3 p4 h
        next => cases hb
      next => cases hb
    next => cases hb
  next i =>
    split at hb
    next G hg =>
      split at hb
      next r hr =>
        split at hb
        next hz =>
          cases hb
          obtain ⟨z1, z2, z3, z4, z5, z6⟩ := hz
          obtain ⟨⟨g1, g2, g3⟩, g4⟩ := hG G (List.mem_of_getElem? hg)
          rw [if_neg (by rw [z1]; decide)] at g3
          obtain ⟨vs, s, rfl, a1, a2⟩ := aArg_ok hc.1 hr hc.2.2.1
          have a3 := aAG_rev a1
          rw [List.reverse_reverse] at a3
          simp only [aRoom, Bool.and_eq_true, decide_eq_true_eq] at z4
          unfold aCs at z6
          split at z6
          next k ts hts =>
            split at z6
            next q hq =>
              split at z6
              next w hw =>
                rw [decide_eq_true_eq] at z6
                have hM := g4 σ vs.reverse hc.2.2.2.2.1 hc.2.2.2.2.2.1 a3
                have a4 := a3
                rw [hts] at a4
                have hln := aAG_len a3
                cases hv : vs.reverse with
                | nil => rw [hv] at a4; exact a4.elim
                | cons v0 vr =>
                  rw [hv] at a4 hM hln
                  obtain ⟨a, rfl, b1, b2⟩ := aG_obj a4.1
                  obtain ⟨fs, e1, -⟩ := aCe_obj (hc.2.2.2.2.1 a b1 _ (by rw [b2]; exact hq))
                  refine jk_callV (vals := vr) (k := G.2.2.1.length - 1) X hR hd z2 g3.1 g3.2.1 g3.2.2 hw z6 b1 e1 hM ?_ (by simp at hln; omega) z4 (by rw [g1, g2]; exact ⟨Nat.zero_le _, Nat.zero_le _⟩) (r := s) (by have q1 := jcat_le s; have q2 := aSk_len a2; omega) (fun v σ' n' hp => ?_)
                  · have e9 : vs = (.inr (.inr (some (.inl a))) :: vr).reverse := by rw [← hv, List.reverse_reverse]
                    rw [e9, List.reverse_cons, List.append_assoc]
                    rfl
                  · obtain ⟨rfl, p1, p2, p3, p4⟩ := hp
                    rw [g1, g2]
                    exact aAf_ok hc a2 z3 p1 p2 p3 p4 h
              next => cases z6
            next => cases z6
          next => cases z6
        next => cases hb
      next => cases hb
    next => cases hb
  next => cases hb
end ASY
