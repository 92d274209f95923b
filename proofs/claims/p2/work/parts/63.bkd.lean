/-! locals, branches, and the operations that leave the picture as it is -/
section ASU
variable {K : Nat → Nat} {n : Nat} {P : Type} {F : aFt P} {Hp : (Nat → jcell) → Prop} {J : jN}
theorem jkill_keep {lv : List (Option jv)} {i j : Nat} {w : jv} (h : lv[j]? = some (some w)) (hn : ¬ (j + 1 = i ∧ jcat w = 2)) : (jkill lv i)[j]? = some (some w) := by
  cases i with
  | zero => exact h
  | succ k =>
    dsimp only [jkill]
    split
    next x hx =>
      have hjk : j ≠ k := by
        intro q
        subst q
        rw [h] at hx
        cases hx
        exact hn ⟨rfl, rfl⟩
      rw [List.getElem?_set_ne (fun q => hjk q.symm)]
      exact h
    next => exact h
theorem jkill_len (lv : List (Option jv)) (i : Nat) : (jkill lv i).length = lv.length := by
  cases i with
  | zero => rfl
  | succ k =>
    dsimp only [jkill]
    split
    · rw [List.length_set]
    · rfl
def aKl (env : List aE) (al : List (Option Nat)) (i : Nat) : List (Option Nat) := match i with
  | 0 => al
  | j + 1 => match al[j]? with
    | some (some k) => (match aTy env k with
      | some (.inl _) => al
      | some (.inr (some _)) => al
      | _ => al.set j none)
    | _ => al
theorem aKl_len (env : List aE) (al : List (Option Nat)) (i : Nat) : (aKl env al i).length = al.length := by
  cases i with
  | zero => rfl
  | succ j =>
    dsimp only [aKl]
    split
    · split
      · rfl
      · rfl
      · rw [List.length_set]
    · rfl
theorem aKl_at {env : List aE} {ρ : List jv} (hR : aR K n env ρ) {al : List (Option Nat)} {i j k : Nat} (h : (aKl env al i)[j]? = some (some k)) {w : jv} (hw : ρ[k]? = some w) : al[j]? = some (some k) ∧ ¬ (j + 1 = i ∧ jcat w = 2) := by
  cases i with
  | zero => exact ⟨h, fun q => by omega⟩
  | succ m =>
    dsimp only [aKl] at h
    split at h
    next k1 hk =>
      split at h
      next q hq =>
        refine ⟨h, fun e => ?_⟩
        obtain rfl : j = m := by omega
        rw [hk] at h
        cases h
        obtain ⟨x, rfl, -⟩ := aG_int (aTy_ok hR hq hw)
        cases e.2
      next q hq =>
        refine ⟨h, fun e => ?_⟩
        obtain rfl : j = m := by omega
        rw [hk] at h
        cases h
        have h9 := aTy_ok hR hq hw
        rcases w with x | x | _ | a | b
        · cases e.2
        · rcases q with q | q <;> exact h9.elim
        · cases e.2
        · cases e.2
        · cases e.2
      next =>
        by_cases hjm : j = m
        · subst hjm
          rw [List.getElem?_set_self (by exact (List.getElem?_eq_some_iff.mp hk).1)] at h
          cases h
        · rw [List.getElem?_set_ne (fun q => hjm q.symm)] at h
          exact ⟨h, fun e => hjm (by omega)⟩
    next hk =>
      refine ⟨h, fun e => ?_⟩
      obtain rfl : j = m := by omega
      exact hk k h
theorem aLv_s1 {env : List aE} {ρ : List jv} (hR : aR K n env ρ) {al : List (Option Nat)} {lv : List (Option jv)} (h : aLv ρ al lv) {i k : Nat} {v : jv} (hv : ρ[k]? = some v) : aLv ρ ((aKl env al i).set i (some k)) (jset1 lv i v) := by
  refine ⟨by rw [List.length_set, aKl_len]; unfold jset1; rw [List.length_set, jkill_len]; exact h.1, fun j m hm => ?_⟩
  by_cases hji : j = i
  · subst hji
    have hl : j < (aKl env al j).length := by
      have := (List.getElem?_eq_some_iff.mp hm).1
      simpa using this
    rw [List.getElem?_set_self hl] at hm
    cases hm
    refine ⟨v, hv, ?_⟩
    unfold jset1
    rw [List.getElem?_set_self (by rw [jkill_len, ← h.1, ← aKl_len env al j]; exact hl)]
  · rw [List.getElem?_set_ne (fun q => hji q.symm)] at hm
    have hm2 : al[j]? = some (some m) := by
      by_cases hx : ∃ w, ρ[m]? = some w
      · exact (aKl_at hR hm hx.choose_spec).1
      · exfalso
        cases i with
        | zero =>
          obtain ⟨w, h1, -⟩ := h.2 j m hm
          exact hx ⟨w, h1⟩
        | succ q =>
          dsimp only [aKl] at hm
          split at hm
          · split at hm
            · obtain ⟨w, h1, -⟩ := h.2 j m hm; exact hx ⟨w, h1⟩
            · obtain ⟨w, h1, -⟩ := h.2 j m hm; exact hx ⟨w, h1⟩
            · by_cases hjq : j = q
              · subst hjq
                rw [List.getElem?_set] at hm
                simp at hm
              · rw [List.getElem?_set_ne (fun e => hjq e.symm)] at hm
                obtain ⟨w, h1, -⟩ := h.2 j m hm; exact hx ⟨w, h1⟩
          · obtain ⟨w, h1, -⟩ := h.2 j m hm; exact hx ⟨w, h1⟩
    obtain ⟨w, h1, h2⟩ := h.2 j m hm2
    refine ⟨w, h1, ?_⟩
    unfold jset1
    rw [List.getElem?_set_ne (fun q => hji q.symm)]
    exact jkill_keep h2 (aKl_at hR hm h1).2
theorem aLv_none {ρ : List jv} {al : List (Option Nat)} {lv : List (Option jv)} (h : aLv ρ al lv) (i : Nat) : aLv ρ (al.set i none) (lv.set i none) := by
  refine ⟨by rw [List.length_set, List.length_set]; exact h.1, fun j m hm => ?_⟩
  by_cases hji : j = i
  · subst hji
    rw [List.getElem?_set] at hm
    simp at hm
  · rw [List.getElem?_set_ne (fun q => hji q.symm)] at hm
    rw [List.getElem?_set_ne (fun q => hji q.symm)]
    exact h.2 j m hm
/-! loads and stores of locals -/
def aLd (S : aS) (i w p : Nat) : Option (List (Nat × aS)) := match S.1[i]? with
  | some (some k) => (match aTy S.2.2.1 k with
    | some (.inl _) => if w = 0 then some [(p, (S.1, k :: S.2.1, S.2.2.1, S.2.2.2))] else none
    | some (.inr none) => if w = 1 then some [(p, (S.1, k :: S.2.1, S.2.2.1, S.2.2.2))] else none
    | some (.inr (some _)) => if w = 2 then some [(p, (S.1, k :: S.2.1, S.2.2.1, S.2.2.2))] else none
    | none => none)
  | _ => none
theorem aLd_ok {S : aS} {i w p : Nat} {L : List (Nat × aS)} (hb : aLd S i w p = some L) {ρ : List jv} {lv : List (Option jv)} {st : List jv} {σ : Nat → jcell} (hc : aCx F Hp K n S ρ lv st σ) (h : aNx F Hp K n J ρ L) : ∃ v, lv[i]? = some (some v) ∧ J p lv (v :: st) σ ∧ (w = 0 → ∃ x, v = .inl x) ∧ (w = 1 → ∃ x, v = .inr (.inl x)) ∧ (w = 2 → ∃ x, v = .inr (.inr x)) := by
  unfold aLd at hb
  split at hb
  next k hk =>
    obtain ⟨v, h1, h2⟩ := hc.2.1.2 i k hk
    have hg : ∀ {q : List (Nat × aS)}, [(p, (S.1, k :: S.2.1, S.2.2.1, S.2.2.2))] = q → aNx F Hp K n J ρ q → J p lv (v :: st) σ := fun e hq => by
      subst e
      exact aNx_in hq List.mem_cons_self aX_rf ⟨hc.1, hc.2.1, ⟨h1, hc.2.2.1⟩, hc.2.2.2.1, hc.2.2.2.2⟩
    refine ⟨v, h2, ?_⟩
    split at hb
    next hq =>
      split at hb
      next hw =>
        obtain ⟨x, rfl, -⟩ := aG_int (aTy_ok hc.1 hq h1)
        exact ⟨hg (Option.some.inj hb) h, fun _ => ⟨x, rfl⟩, fun e => by omega, fun e => by omega⟩
      next => cases hb
    next hq =>
      split at hb
      next hw =>
        obtain ⟨x, rfl⟩ := aG_lng (aTy_ok hc.1 hq h1)
        exact ⟨hg (Option.some.inj hb) h, fun e => by omega, fun _ => ⟨x, rfl⟩, fun e => by omega⟩
      next => cases hb
    next q hq =>
      split at hb
      next hw =>
        have h9 := aTy_ok hc.1 hq h1
        refine ⟨hg (Option.some.inj hb) h, fun e => by omega, fun e => by omega, fun _ => ?_⟩
        rcases v with x | x | x
        · rcases q with q | q <;> exact h9.elim
        · rcases q with q | q <;> exact h9.elim
        · exact ⟨x, rfl⟩
      next => cases hb
    next => cases hb
  next => cases hb
theorem aLdi_ok {S : aS} {i p : Nat} {L : List (Nat × aS)} (hb : aLd S i 0 p = some L) {ρ : List jv} {lv : List (Option jv)} {st : List jv} {σ : Nat → jcell} (hc : aCx F Hp K n S ρ lv st σ) (h : aNx F Hp K n J ρ L) : jldi lv i fun x => J p lv (.inl x :: st) σ := by
  obtain ⟨v, h1, h2, h3, -⟩ := aLd_ok hb hc h
  obtain ⟨x, rfl⟩ := h3 rfl
  simp only [jldi, h1]
  exact h2
theorem aLdl_ok {S : aS} {i p : Nat} {L : List (Nat × aS)} (hb : aLd S i 1 p = some L) {ρ : List jv} {lv : List (Option jv)} {st : List jv} {σ : Nat → jcell} (hc : aCx F Hp K n S ρ lv st σ) (h : aNx F Hp K n J ρ L) : jldl lv i fun x => J p lv (.inr (.inl x) :: st) σ := by
  obtain ⟨v, h1, h2, -, h3, -⟩ := aLd_ok hb hc h
  obtain ⟨x, rfl⟩ := h3 rfl
  simp only [jldl, h1]
  exact h2
theorem aLda_ok {S : aS} {i p : Nat} {L : List (Nat × aS)} (hb : aLd S i 2 p = some L) {ρ : List jv} {lv : List (Option jv)} {st : List jv} {σ : Nat → jcell} (hc : aCx F Hp K n S ρ lv st σ) (h : aNx F Hp K n J ρ L) : jlda lv i fun x => J p lv (.inr (.inr x) :: st) σ := by
  obtain ⟨v, h1, h2, -, -, h3⟩ := aLd_ok hb hc h
  obtain ⟨x, rfl⟩ := h3 rfl
  simp only [jlda, h1]
  exact h2
def aSo (S : aS) (i w p : Nat) : Option (List (Nat × aS)) := match S.2.1 with
  | k :: r => (match aTy S.2.2.1 k with
    | some (.inl _) => if w = 0 then some [(p, ((aKl S.2.2.1 S.1 i).set i (some k), r, S.2.2.1, S.2.2.2))] else none
    | some (.inr none) => if w = 1 then some [(p, (((aKl S.2.2.1 S.1 i).set i (some k)).set (i + 1) none, r, S.2.2.1, S.2.2.2))] else none
    | some (.inr (some _)) => if w = 2 then some [(p, ((aKl S.2.2.1 S.1 i).set i (some k), r, S.2.2.1, S.2.2.2))] else none
    | none => none)
  | _ => none
theorem aSoi_ok {S : aS} {i p : Nat} {L : List (Nat × aS)} (hb : aSo S i 0 p = some L) {ρ : List jv} {lv : List (Option jv)} {st : List jv} {σ : Nat → jcell} (hc : aCx F Hp K n S ρ lv st σ) (h : aNx F Hp K n J ρ L) : j1 st fun x r => J p (jset1 lv i (.inl x)) r σ := by
  unfold aSo at hb
  split at hb
  next k r hs =>
    obtain ⟨v, s, rfl, h1, h2⟩ := aSk_1 (hs ▸ hc.2.2.1)
    split at hb
    next hq =>
      obtain ⟨x, rfl, -⟩ := aG_int (aTy_ok hc.1 hq h1)
      rw [if_pos rfl] at hb
      cases hb
      exact aNx_in h List.mem_cons_self aX_rf ⟨hc.1, aLv_s1 hc.1 hc.2.1 h1, h2, hc.2.2.2.1, hc.2.2.2.2⟩
    next => cases hb
    next => cases hb
    next => cases hb
  next => cases hb
theorem aSol_ok {S : aS} {i p : Nat} {L : List (Nat × aS)} (hb : aSo S i 1 p = some L) {ρ : List jv} {lv : List (Option jv)} {st : List jv} {σ : Nat → jcell} (hc : aCx F Hp K n S ρ lv st σ) (h : aNx F Hp K n J ρ L) : jl1 st fun x r => J p (jset2 lv i (.inr (.inl x))) r σ := by
  unfold aSo at hb
  split at hb
  next k r hs =>
    obtain ⟨v, s, rfl, h1, h2⟩ := aSk_1 (hs ▸ hc.2.2.1)
    split at hb
    next => cases hb
    next hq =>
      obtain ⟨x, rfl⟩ := aG_lng (aTy_ok hc.1 hq h1)
      rw [if_pos rfl] at hb
      cases hb
      exact aNx_in h List.mem_cons_self aX_rf ⟨hc.1, aLv_none (aLv_s1 hc.1 hc.2.1 h1) (i + 1), h2, hc.2.2.2.1, hc.2.2.2.2⟩
    next => cases hb
    next => cases hb
  next => cases hb
theorem aSoa_ok {S : aS} {i p : Nat} {L : List (Nat × aS)} (hb : aSo S i 2 p = some L) {ρ : List jv} {lv : List (Option jv)} {st : List jv} {σ : Nat → jcell} (hc : aCx F Hp K n S ρ lv st σ) (h : aNx F Hp K n J ρ L) : ja1 st fun x r => J p (jset1 lv i (.inr (.inr x))) r σ := by
  unfold aSo at hb
  split at hb
  next k r hs =>
    obtain ⟨v, s, rfl, h1, h2⟩ := aSk_1 (hs ▸ hc.2.2.1)
    split at hb
    next => cases hb
    next => cases hb
    next q hq =>
      have h9 := aTy_ok hc.1 hq h1
      rw [if_pos rfl] at hb
      cases hb
      rcases v with x | x | x
      · rcases q with q | q <;> exact h9.elim
      · rcases q with q | q <;> exact h9.elim
      · exact aNx_in h List.mem_cons_self aX_rf ⟨hc.1, aLv_s1 hc.1 hc.2.1 h1, h2, hc.2.2.2.1, hc.2.2.2.2⟩
    next => cases hb
  next => cases hb
def aInc (S : aS) (i : Nat) (c : Int32) (p : Nat) : Option (List (Nat × aS)) := match S.1[i]? with
  | some (some k) => (match aIv S.2.2.1 k with
    | some A => some [(p, ((aKl S.2.2.1 S.1 i).set i (some S.2.2.1.length), S.2.1, S.2.2.1 ++ [(.inl (aAdd A (c.toInt, c.toInt)), if aFit3 (A.1 + c.toInt) (A.2 + c.toInt) = true then some (aFp (aLi S.2.2.1 k) ([], c.toInt)) else none)], S.2.2.2))]
    | _ => none)
  | _ => none
theorem aKl_mo {env : List aE} {al : List (Option Nat)} {i : Nat} {x : aE} (h : ∀ (j k : Nat), al[j]? = some (some k) → k < env.length) : aKl (env ++ [x]) al i = aKl env al i := by
  cases i with
  | zero => rfl
  | succ j =>
    dsimp only [aKl]
    split
    next k hk =>
      have e : aTy (env ++ [x]) k = aTy env k := by
        unfold aTy
        rw [List.getElem?_append_left (h j k hk)]
      rw [e]
    next => rfl
theorem aInc_ok {S : aS} {i p : Nat} {c : Int32} {L : List (Nat × aS)} (hb : aInc S i c p = some L) {ρ : List jv} {lv : List (Option jv)} {st : List jv} {σ : Nat → jcell} (hc : aCx F Hp K n S ρ lv st σ) (h : aNx F Hp K n J ρ L) : jldi lv i fun x => J p (jset1 lv i (.inl (x + c))) st σ := by
  unfold aInc at hb
  split at hb
  next k hk =>
    split at hb
    next A hA =>
      cases hb
      obtain ⟨v, h1, h2⟩ := hc.2.1.2 i k hk
      obtain ⟨x, rfl, hx⟩ := aIv_ok hc.1 hA h1
      simp only [jldi, h2]
      have hC : aIn (c.toInt, c.toInt) c := ⟨Int.le_refl _, Int.le_refl _⟩
      have hr : aRl ρ (if aFit3 (A.1 + c.toInt) (A.2 + c.toInt) = true then some (aFp (aLi S.2.2.1 k) ([], c.toInt)) else none) (.inl (x + c)) := by
        split
        next hf =>
          simp only [aFit3, Bool.and_eq_true, decide_eq_true_eq] at hf
          obtain ⟨a1, a2⟩ := hx
          have e1 : (x + c).toInt = x.toInt + c.toInt := by
            rw [Int32.toInt_add]
            exact Int.bmod_eq_of_le (by omega) (by omega)
          show aVa ρ _ (x + c).toInt
          rw [e1]
          exact aVa_p (aLi_ok hc.1 h1) (aVa_k _)
        next => trivial
      have hR2 := aR_push (t := .inl (aAdd A (c.toInt, c.toInt))) (v := .inl (x + c)) hc.1 (aAdd_ok hx hC) hr
      have hl := aLv_s1 (i := i) (k := S.2.2.1.length) (v := .inl (x + c)) hR2 (hc.2.1.mo aX_app) (aR_new hc.1)
      rw [aKl_mo (fun j k q => by
        obtain ⟨v, h8, -⟩ := hc.2.1.2 j k q
        have := (List.getElem?_eq_some_iff.mp h8).1
        rw [hc.1.1] at this
        exact this)] at hl
      obtain ⟨p9, c4⟩ := hc.2.2.2.1
      exact aNx_in h List.mem_cons_self aX_app ⟨hR2, hl, hc.2.2.1.mo aX_app, ⟨p9, c4.mo aX_app⟩, hc.2.2.2.2⟩
    next => cases hb
  next => cases hb
end ASU
