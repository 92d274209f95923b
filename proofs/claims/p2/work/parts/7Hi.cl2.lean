/-! rooms: a check looks at them only where a call asks for room -/
def zRs (r : Room) (G : aCon) : aCon := (G.1, G.2.1, G.2.2.1, G.2.2.2.1, G.2.2.2.2.1, G.2.2.2.2.2.1, r)
def zRm (r : Room) (Gs : List aCon) (m : aMi) : aMi := (m.1, m.2.1, Gs, zRs r m.2.2.2.1, m.2.2.2.2)
def zRw (r : Room) : List aCon → List aCon → Prop
  | [], [] => True
  | G :: a, G' :: b => (∃ r', G' = zRs r' G ∧ aRoom r r' G.1.2.2.1 = true) ∧ zRw r a b
  | _, _ => False
theorem zRw_at {r : Room} : ∀ {a b : List aCon}, zRw r a b → ∀ k : Nat, (a[k]? = none ∧ b[k]? = none) ∨ ∃ G r', a[k]? = some G ∧ b[k]? = some (zRs r' G) ∧ aRoom r r' G.1.2.2.1 = true
  | [], [], _, k => Or.inl ⟨rfl, rfl⟩
  | G :: a, G' :: b, h, 0 => by
    obtain ⟨⟨r', e, h1⟩, -⟩ := h
    exact Or.inr ⟨G, r', rfl, by rw [e]; rfl, h1⟩
  | G :: a, G' :: b, h, k + 1 => zRw_at (a := a) (b := b) h.2 k
  | [], _ :: _, h, _ => h.elim
  | _ :: _, [], h, _ => h.elim
section RM
variable {m : aMi} {r : Room} {Gs : List aCon}
theorem zCall_rs {C : aCf} {S : aS} {G : aCon} {r : Room} {p : Nat} : aCall C S (zRs r G) p = aCall C S G p := rfl
theorem zNe_rm (h0 : ∀ G ∈ m.2.2.1, aRoom m.2.2.2.1.2.2.2.2.2.2 G.2.2.2.2.2.2 G.1.2.2.1 = true) (h : zRw r m.2.2.1 Gs) (x : jI) (pc : Nat) (S : aS) : aNe (zRm r Gs m) x pc S = aNe m x pc S := by
  obtain ⟨I, ln, py⟩ := x
  cases I
  case invokestatic i =>
    show (match Gs[py.1]? with
      | some G => if ln = 3 ∧ G.2.1 = true ∧ jin3 i py.2.2.1 py.1 m.1.2.2.2.2.1 = true ∧ aRoom r G.2.2.2.2.2.2 G.1.2.2.1 = true ∧ (S.2.1.drop G.2.2.1).length ≤ 4 then aCall m.2.1 S G (pc + 3) else none
      | none => none) = (match m.2.2.1[py.1]? with
      | some G => if ln = 3 ∧ G.2.1 = true ∧ jin3 i py.2.2.1 py.1 m.1.2.2.2.2.1 = true ∧ aRoom m.2.2.2.1.2.2.2.2.2.2 G.2.2.2.2.2.2 G.1.2.2.1 = true ∧ (S.2.1.drop G.2.2.1).length ≤ 4 then aCall m.2.1 S G (pc + 3) else none
      | none => none)
    rcases zRw_at h py.1 with ⟨e1, e2⟩ | ⟨G, r', e1, e2, e3⟩
    · rw [e1, e2]
    · rw [e1, e2]
      have h9 := h0 G (List.mem_of_getElem? e1)
      show (if ln = 3 ∧ G.2.1 = true ∧ jin3 i py.2.2.1 py.1 m.1.2.2.2.2.1 = true ∧ aRoom r r' G.1.2.2.1 = true ∧ (S.2.1.drop G.2.2.1).length ≤ 4 then aCall m.2.1 S G (pc + 3) else none) = (if ln = 3 ∧ G.2.1 = true ∧ jin3 i py.2.2.1 py.1 m.1.2.2.2.2.1 = true ∧ aRoom m.2.2.2.1.2.2.2.2.2.2 G.2.2.2.2.2.2 G.1.2.2.1 = true ∧ (S.2.1.drop G.2.2.1).length ≤ 4 then aCall m.2.1 S G (pc + 3) else none)
      simp only [e3, h9]
  case invokevirtual i =>
    show (match Gs[py.1]? with
      | some G => if ln = 3 ∧ G.2.1 = false ∧ jin3 i py.2.2.1 py.1 m.1.2.2.2.2.1 = true ∧ aRoom r G.2.2.2.2.2.2 G.1.2.2.1 = true ∧ (S.2.1.drop G.2.2.1).length ≤ 4 ∧ aCs m.1.2.2.1 m.2.1.1 G = true ∧ 1 ≤ G.2.2.1 then aCall m.2.1 S G (pc + 3) else none
      | none => none) = (match m.2.2.1[py.1]? with
      | some G => if ln = 3 ∧ G.2.1 = false ∧ jin3 i py.2.2.1 py.1 m.1.2.2.2.2.1 = true ∧ aRoom m.2.2.2.1.2.2.2.2.2.2 G.2.2.2.2.2.2 G.1.2.2.1 = true ∧ (S.2.1.drop G.2.2.1).length ≤ 4 ∧ aCs m.1.2.2.1 m.2.1.1 G = true ∧ 1 ≤ G.2.2.1 then aCall m.2.1 S G (pc + 3) else none
      | none => none)
    rcases zRw_at h py.1 with ⟨e1, e2⟩ | ⟨G, r', e1, e2, e3⟩
    · rw [e1, e2]
    · rw [e1, e2]
      have h9 := h0 G (List.mem_of_getElem? e1)
      show (if ln = 3 ∧ G.2.1 = false ∧ jin3 i py.2.2.1 py.1 m.1.2.2.2.2.1 = true ∧ aRoom r r' G.1.2.2.1 = true ∧ (S.2.1.drop G.2.2.1).length ≤ 4 ∧ aCs m.1.2.2.1 m.2.1.1 G = true ∧ 1 ≤ G.2.2.1 then aCall m.2.1 S G (pc + 3) else none) = (if ln = 3 ∧ G.2.1 = false ∧ jin3 i py.2.2.1 py.1 m.1.2.2.2.2.1 = true ∧ aRoom m.2.2.2.1.2.2.2.2.2.2 G.2.2.2.2.2.2 G.1.2.2.1 = true ∧ (S.2.1.drop G.2.2.1).length ≤ 4 ∧ aCs m.1.2.2.1 m.2.1.1 G = true ∧ 1 ≤ G.2.2.1 then aCall m.2.1 S G (pc + 3) else none)
      simp only [e3, h9]
  all_goals rfl
/-- a check without static things and without cases -/
theorem zNe3_rm (h0 : ∀ G ∈ m.2.2.1, aRoom m.2.2.2.1.2.2.2.2.2.2 G.2.2.2.2.2.2 G.1.2.2.1 = true) (h : zRw r m.2.2.1 Gs) (h1 : m.1.2.2.2.2.2.2.1 = []) (x : jI) (hx : ¬ x.2.2.1 = 999) (pc : Nat) (S : aS) : aNe3 (zRm r Gs m) x pc S = aNe3 m x pc S := by
  have e : Nat.beq x.2.2.1 999 = false := Bool.eq_false_iff.mpr (fun h9 => hx (Nat.eq_of_beq_eq_true h9))
  unfold aNe3
  show (match aFsp m.1.2.2.2.2.2.2.1 pc with
    | none => aNe2 (zRm r Gs m) x pc S
    | some w => _) = _
  rw [h1]
  show aNe2 (zRm r Gs m) x pc S = aNe2 m x pc S
  unfold aNe2
  rw [e]
  exact zNe_rm h0 h x pc S
theorem zSuf_in {is : List jI} {a p : Nat} {js : List jI} (hs : aSuf is a p = some js) : ∀ x ∈ js, x ∈ is := by
  induction is generalizing a with
  | nil => cases hs
  | cons y is ih =>
    unfold aSuf at hs
    split at hs
    · cases hs; exact fun _ hx => hx
    · exact fun x hx => List.mem_cons_of_mem _ (ih hs x hx)
theorem zRun_rm (h0 : ∀ G ∈ m.2.2.1, aRoom m.2.2.2.1.2.2.2.2.2.2 G.2.2.2.2.2.2 G.1.2.2.1 = true) (h : zRw r m.2.2.1 Gs) (h1 : m.1.2.2.2.2.2.2.1 = []) (h2 : ∀ x ∈ m.2.2.2.2.1, ¬ x.2.2.1 = 999) (rk : List aF) : ∀ (f : Nat) (is : List jI) (pc : Nat) (S : aS), (∀ x ∈ is, x ∈ m.2.2.2.2.1) → aRun (zRm r Gs m) rk f is pc S = aRun m rk f is pc S
  | 0, _, _, _, _ => rfl
  | _ + 1, [], _, _, _ => rfl
  | f + 1, x :: t, pc, S, hi => by
    have ih := zRun_rm h0 h h1 h2 rk f
    unfold aRun
    show aGk m pc S _ = aGk m pc S _
    congr 1
    funext S9
    rw [zNe3_rm h0 h h1 x (h2 x (hi x List.mem_cons_self)) pc S9]
    show ((!Nat.beq x.2.2.1 999 && aRet m.2.1 m.2.2.2.1 m.1.2.2.2.1 x.1 S9) || _) = ((!Nat.beq x.2.2.1 999 && aRet m.2.1 m.2.2.2.1 m.1.2.2.2.1 x.1 S9) || _)
    congr 1
    split
    next L hL =>
      congr 1
      funext q
      congr 1
      funext p
      congr 1
      funext S8
      show (if m.2.2.2.2.2.any (fun c => Nat.beq c.1 p) = true then m.2.2.2.2.2.any (fun c => Nat.beq c.1 p && aTo m.2.1 rk c S8) else _) = _
      split
      next => rfl
      next =>
        split
        next => exact ih t p S8 (fun y hy => hi y (List.mem_cons_of_mem _ hy))
        next =>
          show (match aSuf m.2.2.2.2.1 0 p with
            | some is => aRun (zRm r Gs m) rk f is p S8
            | none => false) = (match aSuf m.2.2.2.2.1 0 p with
            | some is => aRun m rk f is p S8
            | none => false)
          cases hs2 : aSuf m.2.2.2.2.1 0 p with
          | some is2 => exact ih is2 p S8 (zSuf_in hs2)
          | none => rfl
    next => rfl
theorem zChk_rm (h0 : ∀ G ∈ m.2.2.1, aRoom m.2.2.2.1.2.2.2.2.2.2 G.2.2.2.2.2.2 G.1.2.2.1 = true) (h : zRw r m.2.2.1 Gs) (h1 : m.1.2.2.2.2.2.2.1 = []) (h2 : ∀ x ∈ m.2.2.2.2.1, ¬ x.2.2.1 = 999) {f : Nat} (hc : aChk m f = true) : aChk (zRm r Gs m) f = true := by
  rw [← hc]
  unfold aChk
  show (aOkc m.2.1 m.2.2.2.1 && m.2.2.2.2.2.all (fun c => aRo c.2.1.2.2.1.length c.2.2.2 && (match aSuf m.2.2.2.2.1 0 c.1 with
    | some is => aRun (zRm r Gs m) c.2.2.2 f is c.1 c.2.1
    | none => false))) = _
  congr 1
  congr 1
  funext c
  congr 1
  cases hs : aSuf m.2.2.2.2.1 0 c.1 with
  | some is => exact zRun_rm h0 h h1 h2 _ f is _ _ (zSuf_in hs)
  | none => rfl
end RM
