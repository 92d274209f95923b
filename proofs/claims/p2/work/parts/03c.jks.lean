/-! rules for static things: a text's constant, what a static holds, a field of a static object, a static row of references or bytes, a wide constant, a call on a static object -/
def jSw (v : jSv) : jv := match v with
  | .inl x => .inl x
  | .inr j => .inr (.inr (some (.inr j)))
theorem jSw_c {E : jE} (v : jSv) : jc E (jSw v) = jSvv E.2.2.1 v := by cases v <;> rfl
section JKS
variable {E : jE} {own : String} {Ts : List Jvm.Cond} {cl : List vw_C} {tb : jTb} {nL : Nat} {ini : Bool} {cc : ByteArray} {M : jM} {Q : State → Prop} {n cells slots : Nat}
theorem jk_lds (X : jX E own Ts cl tb nL ini cc M) {pc i j : Nat} {tx : String} (hd : decode cc pc = .ok (.ldc i, 2)) (hm : (own, i, tx, j) ∈ js0.2.2.2.2) {lv : List (Option jv)} {r : List jv} {σ : Nat → jcell} (k : jJ E cl nL M Q n cells slots (pc + 2) lv (.inr (.inr (some (.inr j))) :: r) σ) : jJ E cl nL M Q n cells slots pc lv r σ := by
  obtain ⟨hx, hb, hml, ho, hts, ⟨hK, hSt, -⟩, -⟩ := X
  intro H locs ls hW hS hL
  exact va_ldcS hx hb ho (hSt.2.2.2.2.2.1 _ hm) hd (k H locs ls hW hS hL)
theorem jk_gsv (X : jX E own Ts cl tb nL ini cc M) {pc i : Nat} {q : String × String × String × jSv} (hd : decode cc pc = .ok (.getstatic i, 3)) (hm : q ∈ js0.2.1) (hw : Jvm.Cond.fieldLink own i q.1 q.2.1 q.2.2.1 ∈ jTA Ts) {lv : List (Option jv)} {r : List jv} {σ : Nat → jcell} (k : jJ E cl nL M Q n cells slots (pc + 3) lv (jSw q.2.2.2 :: r) σ) : jJ E cl nL M Q n cells slots pc lv r σ := by
  obtain ⟨hx, hb, hml, ho, hts, ⟨hK, hSt, -⟩, -⟩ := X
  intro H locs ls hW hS hL
  refine va_gets hx hb (hSt.2.2.1 _ hm) hS ho (hts _ hw) (fun _ h9 => h9) hd ?_
  have h := k H locs ls hW hS hL
  rw [List.map_cons, jSw_c] at h
  exact h
theorem jk_gfo (X : jX E own Ts cl tb nL ini cc M) {pc i : Nat} {o : Nat × String × List (String × String × String × jSv)} {f : String × String × String × jSv} (hd : decode cc pc = .ok (.getfield i, 3)) (ho1 : o ∈ js0.1) (hf : f ∈ o.2.2) (hw : Jvm.Cond.fieldLink own i f.1 f.2.1 f.2.2.1 ∈ jTA Ts) {lv : List (Option jv)} {r : List jv} {σ : Nat → jcell} (k : jJ E cl nL M Q n cells slots (pc + 3) lv (jSw f.2.2.2 :: r) σ) : jJ E cl nL M Q n cells slots pc lv (.inr (.inr (some (.inr o.1))) :: r) σ := by
  obtain ⟨hx, hb, hml, ho, hts, ⟨hK, hSt, -⟩, -⟩ := X
  intro H locs ls hW hS hL
  refine vk_getf hx hb ((hSt.2.1 _ ho1).2 f hf) hS ho (hts _ hw) (fun _ h9 => h9) hd ?_
  have h := k H locs ls hW hS hL
  rw [List.map_cons, jSw_c] at h
  exact h
theorem jk_aal (X : jX E own Ts cl tb nL ini cc M) {pc : Nat} {q : Nat × String × Nat × (Nat → Nat)} (hd : decode cc pc = .ok (.aaload, 1)) (hm : q ∈ js0.2.2.2.1) {i : Int32} (hin : vp_in i q.2.2.1) {lv : List (Option jv)} {r : List jv} {σ : Nat → jcell} (k : jJ E cl nL M Q n cells slots (pc + 1) lv (.inr (.inr (some (.inr (q.2.2.2 i.toNatClampNeg)))) :: r) σ) : jJ E cl nL M Q n cells slots pc lv (.inl i :: .inr (.inr (some (.inr q.1))) :: r) σ := by
  obtain ⟨hx, hb, hml, ho, hts, ⟨hK, hSt, -⟩, -⟩ := X
  intro H locs ls hW hS hL
  exact vb_tq hx hb (hSt.2.2.2.2.1 _ hm) hS hin rfl hd (k H locs ls hW hS hL)
theorem jk_bal (X : jX E own Ts cl tb nL ini cc M) {pc : Nat} {q : Nat × FieldType × Nat × (Nat → Int32)} (hd : decode cc pc = .ok (.baload, 1)) (hm : q ∈ js0.2.2.1) (hty : q.2.1 = .byte) {i : Int32} (hin : vp_in i q.2.2.1) {lv : List (Option jv)} {r : List jv} {σ : Nat → jcell} (k : jJ E cl nL M Q n cells slots (pc + 1) lv (.inl (q.2.2.2 i.toNatClampNeg) :: r) σ) : jJ E cl nL M Q n cells slots pc lv (.inl i :: .inr (.inr (some (.inr q.1))) :: r) σ := by
  obtain ⟨hx, hb, hml, ho, hts, ⟨hK, hSt, -⟩, -⟩ := X
  intro H locs ls hW hS hL
  have h := hSt.2.2.2.1 _ hm
  rw [hty] at h
  exact va_tb hx hb h hS hin rfl hd (k H locs ls hW hS hL)
theorem jk_aln (X : jX E own Ts cl tb nL ini cc M) {pc : Nat} {q : Nat × FieldType × Nat × (Nat → Int32)} (hd : decode cc pc = .ok (.arraylength, 1)) (hm : q ∈ js0.2.2.1) {lv : List (Option jv)} {r : List jv} {σ : Nat → jcell} (k : jJ E cl nL M Q n cells slots (pc + 1) lv (.inl (Int32.ofNat q.2.2.1) :: r) σ) : jJ E cl nL M Q n cells slots pc lv (.inr (.inr (some (.inr q.1))) :: r) σ := by
  obtain ⟨hx, hb, hml, ho, hts, ⟨hK, hSt, -⟩, -⟩ := X
  intro H locs ls hW hS hL
  exact va_tlen hx hb (hSt.2.2.2.1 _ hm) hS rfl hd (k H locs ls hW hS hL)
theorem jk_alr (X : jX E own Ts cl tb nL ini cc M) {pc : Nat} {q : Nat × String × Nat × (Nat → Nat)} (hd : decode cc pc = .ok (.arraylength, 1)) (hm : q ∈ js0.2.2.2.1) {lv : List (Option jv)} {r : List jv} {σ : Nat → jcell} (k : jJ E cl nL M Q n cells slots (pc + 1) lv (.inl (Int32.ofNat q.2.2.1) :: r) σ) : jJ E cl nL M Q n cells slots pc lv (.inr (.inr (some (.inr q.1))) :: r) σ := by
  obtain ⟨hx, hb, hml, ho, hts, ⟨hK, hSt, -⟩, -⟩ := X
  intro H locs ls hW hS hL
  exact va_tlen hx hb (hSt.2.2.2.2.1 _ hm) hS rfl hd (k H locs ls hW hS hL)
theorem jk_ldw (X : jX E own Ts cl tb nL ini cc M) {pc i : Nat} {v : Int32} (hd : decode cc pc = .ok (.ldc_w i, 3)) (hw : Jvm.Cond.constant own i v ∈ jTA Ts) {lv : List (Option jv)} {r : List jv} {σ : Nat → jcell} (k : jJ E cl nL M Q n cells slots (pc + 3) lv (.inl v :: r) σ) : jJ E cl nL M Q n cells slots pc lv r σ := by
  obtain ⟨hx, hb, hml, ho, hts, ⟨hK, hSt, -⟩, -⟩ := X
  intro H locs ls hW hS hL
  exact lv_ldcw hx hb ho (hts _ hw) hd (k H locs ls hW hS hL)
/-- a method of a static object is called -/
theorem jk_callVs (X : jX E own Ts cl tb nL ini cc M) {rm rc : Room} (hR : M.2.2.2.1 = rm) {pc i wi k : Nat} {Y : jY} (hd : decode cc pc = .ok (.invokevirtual i, 3)) (hw : jlm Ts wi own i Y.1 = true) (hm : jmth Ts Y k) (hin : Jvm.Cond.instanceMethod Y.1 ∈ jTA Ts) {C : String} (hse : Jvm.Cond.selects C Y.1 Y.1 ∈ jTA Ts) {o : Nat × String × List (String × String × String × jSv)} (ho1 : o ∈ js0.1) (hoc : o.2.1 = C) {lv : List (Option jv)} {r vals : List jv} {σ : Nat → jcell} {post : jPo} (hM : jMet M.2.1 E cl tb Ts Y rc (.inr (.inr (some (.inr o.1))) :: vals) σ n post) {st : List jv} (hs : st = vals.reverse ++ .inr (.inr (some (.inr o.1))) :: r) (hk : vals.length = k)
    (hf : rc.frames + 1 ≤ rm.frames ∧ 8 + (Y.2.2.1 + 11) + rc.locals ≤ rm.locals) (hc : cells + rc.cells ≤ rm.cells ∧ slots + rc.slots ≤ rm.slots) (hz : (r.map jcat).sum ≤ 8)
    (kk : ∀ (v : Option jv) (σ' : Nat → jcell) (n' : Nat), post v σ' n' → jJ E cl nL M Q n' (cells + rc.cells) (slots + rc.slots) (pc + 3) lv (v.toList ++ r) σ') : jJ E cl nL M Q n cells slots pc lv st σ := by
  subst hs
  obtain ⟨p, l, e, R, s, m, args, below, meth, c⟩ := M
  dsimp only at hR
  subst hR
  obtain ⟨hx, hb, hml, ho, hts, hK, -, -⟩ := X
  obtain ⟨h1, h2, h3, h4, h5⟩ := hm
  intro H locs ls hW hS hL
  obtain ⟨cellB, hcB, hoB, hclB, -⟩ := (hK.2.1.2.1 _ ho1).1.kept hS.2.1
  rw [hoc] at hclB
  have hpre : PreV s H C (E.2.2.1 o.1) (jPc E cl tb Ts (.inr (.inr (some (.inr o.1))) :: vals) σ n) (vals.map (jc E)) := ⟨jPc_blind, ⟨cellB, hcB, hoB, hclB⟩, fun U hU hWm => ⟨rfl, by rw [hU]; exact hW, jK_go hK hS hU hWm⟩⟩
  have hstk : ((vals.reverse ++ .inr (.inr (some (.inr o.1))) :: r).map (jc E)) = (vals.map (jc E)).reverse ++ .ref (E.2.2.1 o.1) :: r.map (jc E) := by rw [List.map_append, List.map_reverse]; rfl
  have hgo : ∀ (v : Option jv) (σ' : Nat → jcell) (n' : Nat), post v σ' n' → ∀ (H1 : Heap) (locs1 : List Loc), jW E cl σ' n' H1 → va_S (jA E) s.heap H1 locs1 → W p l e R s m args below meth c H1 locs1 (cells + rc.cells) (slots + rc.slots) Q (F0 m (pc + 3) ls ((v.map (jc E)).toList ++ r.map (jc E))) := by
    intro v σ' n' hp H1 locs1 hW1 hS1
    have h := kk v σ' n' hp H1 locs1 ls hW1 hS1 hL
    have e1 : (v.toList ++ r).map (jc E) = (v.map (jc E)).toList ++ r.map (jc E) := by cases v <;> simp
    rw [e1] at h
    exact h
  rcases jlm_or hw with h8 | ⟨host, h8⟩
  · refine jk_after (va_runV (C := C) (b := E.2.2.1 o.1) (As := vals.map (jc E)) (rest := r.map (jc E)) (Ts := jTA Ts) ⟨hx, hb, hml, ho, hts⟩ hM ⟨callB_of k hts (jws_in h1) rfl rfl rfl (hts _ h2) (hts _ h8) ⟨h3, h4, h5⟩ hf, hts _ hin, hts _ hse⟩ hpre rfl (by rw [List.length_map]; exact hk) hL.1 hstk (lv_room (by rw [jcat_sum]; exact hz)) hd hc) hS hgo
  · refine jk_after (va_runVN (C := C) (b := E.2.2.1 o.1) (As := vals.map (jc E)) (rest := r.map (jc E)) (host := host) (Ts := jTA Ts) ⟨hx, hb, hml, ho, hts⟩ hM ⟨va_cnB k hts (jws_in h1) rfl rfl rfl (hK.2.2.2 _ h8) (hts _ h2) ⟨h3, h4, h5⟩ hf, hts _ hin, hts _ hse⟩ hpre rfl (by rw [List.length_map]; exact hk) hL.1 hstk (lv_room (by rw [jcat_sum]; exact hz)) hd hc) hS hgo
end JKS
/-- the formatter is read: null, or the thing 5000 -/
theorem jk_gsf {E : jE} {own : String} {Ts : List Jvm.Cond} {cl : List vw_C} {tb : jTb} {nL : Nat} {ini : Bool} {cc : ByteArray} {M : jM} {Q : State → Prop} {n cells slots : Nat} (X : jX E own Ts cl tb nL ini cc M) {pc i : Nat} (hd : decode cc pc = .ok (.getstatic i, 3)) (hw : Jvm.Cond.fieldLink own i "jdk/internal/util/Preconditions" "SIOOBE_FORMATTER" "Ljava/util/function/BiFunction;" ∈ jTA Ts) {lv : List (Option jv)} {r : List jv} {σ : Nat → jcell} (k : ∀ v : jv, v = .inr (.inr none) ∨ v = .inr (.inr (some (.inr 5000))) → jJ E cl nL M Q n cells slots (pc + 3) lv (v :: r) σ) : jJ E cl nL M Q n cells slots pc lv r σ := by
  obtain ⟨hx, hb, hml, ho, hts, ⟨hK, hSt, -⟩, -⟩ := X
  intro H locs ls hW hS hL
  rcases hSt.2.2.2.2.2.2 with hz | hz
  · exact va_gets hx hb hz hS ho (hts _ hw) (fun _ h9 => h9) hd (k _ (Or.inl rfl) H locs ls hW hS hL)
  · exact va_gets hx hb hz hS ho (hts _ hw) (fun _ h9 => h9) hd (k _ (Or.inr rfl) H locs ls hW hS hL)
