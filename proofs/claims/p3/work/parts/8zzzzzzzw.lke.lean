section
/-! methods with exits -/
noncomputable def lwpE (tb : jTb) (n : Nat) (m : lM) (ex : Nat → Bool) (Xe : Nat → List (Option jv) → List jv → (Nat → jcell) → Prop) (post : jPo) : Nat → List jI → Nat → List (Option jv) → List jv → (Nat → jcell) → Prop
  | 0, _, _, _, _, _ => False
  | _ + 1, [], _, _, _, _ => False
  | k + 1, x :: r, pc, lv, st, σ => match ex pc with
   | true => Xe pc lv st σ
   | false => match Nat.beq x.2.2.1 999 with
    | false => (match x.1 with
      | .return_ => x.2.1 = 1 ∧ m.1 = none ∧ (match st with
        | [] => post none σ n
        | _ => False)
      | .ireturn => x.2.1 = 1 ∧ (match st with
        | [.inl v] => lNa m.1 v ∧ post (some (.inl v)) σ n
        | _ => False)
      | .lreturn => x.2.1 = 1 ∧ m.1 = some .long ∧ (match st with
        | [.inr (.inl v)] => post (some (.inr (.inl v))) σ n
        | _ => False)
      | .areturn => x.2.1 = 1 ∧ lOb m.1 ∧ (match st with
        | [.inr (.inr v)] => post (some (.inr (.inr v))) σ n
        | _ => False)
      | .tableswitch dflt lo hi offs => (match st with
        | .inl v :: s => hi - lo + 1 = (offs.toList.length : Int) ∧ offs.toList.all (fun o => decide (0 ≤ (pc : Int) + o)) = true ∧ 0 ≤ (pc : Int) + dflt ∧ lSw (fun t => lwpE tb n m ex Xe post k (lGo m.2.2.2.2 t) t lv s σ) v.toInt pc ((pc : Int) + dflt).toNat (lTs lo offs.toList)
        | _ => False)
      | .lookupswitch dflt ps => (match st with
        | .inl v :: s => (ps.toList.zip (ps.toList.drop 1)).all (fun (a, next) => a.1 < next.1) = true ∧ ps.toList.all (fun o => decide (0 ≤ (pc : Int) + o.2)) = true ∧ 0 ≤ (pc : Int) + dflt ∧ ((∀ q ∈ ps.toList, ¬ v.toInt = q.1) → lwpE tb n m ex Xe post k (lGo m.2.2.2.2 ((pc : Int) + dflt).toNat) ((pc : Int) + dflt).toNat lv s σ) ∧ lLk (fun t => lwpE tb n m ex Xe post k (lGo m.2.2.2.2 t) t lv s σ) v.toInt pc ps.toList
        | _ => False)
      | .invokestatic i => x.2.1 = 3 ∧ (match m.2.2.2.1[x.2.2.1]? with
        | some G => G.2.1 = true ∧ jin3 i x.2.2.2.2.1 x.2.2.1 m.2.2.1.1 = true ∧ lRm m.2.1 G.2.2.2.2.1 G.1.2.2.1 = true ∧ Nat.ble G.2.2.1 st.length = true ∧ Nat.ble ((st.drop G.2.2.1).map jcat).sum 8 = true ∧ G.2.2.2.2.2 (st.take G.2.2.1).reverse σ (fun v σ' n' => n' = n ∧ lwpE tb n m ex Xe post k r (pc + 3) lv (v.toList ++ st.drop G.2.2.1) σ')
        | none => False)
      | .invokevirtual i => x.2.1 = 3 ∧ (match m.2.2.2.1[x.2.2.1]? with
        | some G => G.2.1 = false ∧ jin3 i x.2.2.2.2.1 x.2.2.1 m.2.2.1.1 = true ∧ lRm m.2.1 G.2.2.2.2.1 G.1.2.2.1 = true ∧ Nat.ble G.2.2.1 st.length = true ∧ Nat.ble ((st.drop G.2.2.1).map jcat).sum 8 = true ∧ (match (st.take G.2.2.1).reverse with
          | .inr (.inr (some (.inl a))) :: vals => a < n ∧ (match σ a with
            | .inr (c, _) => c = G.2.2.2.1
            | _ => False) ∧ Nat.ble 1000 G.2.2.2.1 = false ∧ G.2.2.2.2.2 (.inr (.inr (some (.inl a))) :: vals) σ (fun v σ' n' => n' = n ∧ lwpE tb n m ex Xe post k r (pc + 3) lv (v.toList ++ st.drop G.2.2.1) σ')
          | .inr (.inr (some (.inr j))) :: vals => (∃ o, o ∈ js0.1 ∧ o.1 = j ∧ o.2.1 = G.1.1.cls) ∧ G.2.2.2.2.2 (.inr (.inr (some (.inr j))) :: vals) σ (fun v σ' n' => n' = n ∧ lwpE tb n m ex Xe post k r (pc + 3) lv (v.toList ++ st.drop G.2.2.1) σ')
          | _ => False)
        | none => False)
      | _ => jstep tb n x.1 x.2.1 x.2.2 pc lv st σ (fun a b c d => lwpE tb n m ex Xe post k r a b c d) (fun a b c d => lwpE tb n m ex Xe post k (lGo m.2.2.2.2 a) a b c d))
    | true => (match x.1 with
      | .ldc i => x.2.1 = 2 ∧ (match aSpf 1 i 0 m.2.2.1.2 with
        | some v => lwpE tb n m ex Xe post k r (pc + 2) lv (jSw v :: st) σ
        | none => False)
      | .ldc_w i => x.2.1 = 3 ∧ (match aSpf 2 i 0 m.2.2.1.2 with
        | some v => lwpE tb n m ex Xe post k r (pc + 3) lv (jSw v :: st) σ
        | none => (match aSpf 3 i 0 m.2.2.1.2 with
          | some v => lwpE tb n m ex Xe post k r (pc + 3) lv (jSw v :: st) σ
          | none => False))
      | .aaload => x.2.1 = 1 ∧ (match st with
        | .inl i :: .inr (.inr (some (.inr j))) :: s => (match aSrf j with
          | some q => vp_in i q.2.2.1 ∧ lwpE tb n m ex Xe post k r (pc + 1) lv (.inr (.inr (some (.inr (q.2.2.2 i.toNatClampNeg)))) :: s) σ
          | none => False)
        | _ => False)
      | .getstatic i => x.2.1 = 3 ∧ (match aSpf 4 i 0 m.2.2.1.2 with
        | some v => lwpE tb n m ex Xe post k r (pc + 3) lv (jSw v :: st) σ
        | none => (match aSpf 7 i 0 m.2.2.1.2 with
          | some v => lwpE tb n m ex Xe post k r (pc + 3) lv (jSw v :: st) σ
          | none => False))
      | .getfield i => x.2.1 = 3 ∧ (match st with
        | .inr (.inr (some (.inr o))) :: s => (match aSpf 5 i o m.2.2.1.2 with
          | some v => lwpE tb n m ex Xe post k r (pc + 3) lv (jSw v :: s) σ
          | none => False)
        | _ => False)
      | .arraylength => x.2.1 = 1 ∧ (match st with
        | .inr (.inr (some (.inr j))) :: s => (match aSro j with
          | some q => lwpE tb n m ex Xe post k r (pc + 1) lv (.inl (Int32.ofNat q.2.2.1) :: s) σ
          | none => (match aSrf j with
            | some q => lwpE tb n m ex Xe post k r (pc + 1) lv (.inl (Int32.ofNat q.2.2.1) :: s) σ
            | none => False))
        | _ => False)
      | .baload => x.2.1 = 1 ∧ (match st with
        | .inl i :: .inr (.inr (some (.inr j))) :: s => (match aSro j with
          | some q => vp_in i q.2.2.1 ∧ lwpE tb n m ex Xe post k r (pc + 1) lv (.inl (q.2.2.2 i.toNatClampNeg) :: s) σ
          | none => False)
        | _ => False)
      | .invokevirtual i => x.2.1 = 3 ∧ (match m.2.2.2.1[x.2.2.2.1]? with
        | some G => G.2.1 = false ∧ jin3 i x.2.2.2.2.1 x.2.2.2.1 m.2.2.1.1 = true ∧ lRm m.2.1 G.2.2.2.2.1 G.1.2.2.1 = true ∧ Nat.ble G.2.2.1 st.length = true ∧ Nat.ble ((st.drop G.2.2.1).map jcat).sum 8 = true ∧ (match (st.take G.2.2.1).reverse with
          | .inr (.inr (some (.inl a))) :: vals => a < n ∧ (match σ a with
            | .inr (c, _) => c = G.2.2.2.1
            | _ => False) ∧ Nat.ble 1000 G.2.2.2.1 = false ∧ G.2.2.2.2.2 (.inr (.inr (some (.inl a))) :: vals) σ (fun v σ' n' => n' = n ∧ lwpE tb n m ex Xe post k r (pc + 3) lv (v.toList ++ st.drop G.2.2.1) σ')
          | .inr (.inr (some (.inr j))) :: vals => (∃ o, o ∈ js0.1 ∧ o.1 = j ∧ o.2.1 = G.1.1.cls) ∧ G.2.2.2.2.2 (.inr (.inr (some (.inr j))) :: vals) σ (fun v σ' n' => n' = n ∧ lwpE tb n m ex Xe post k r (pc + 3) lv (v.toList ++ st.drop G.2.2.1) σ')
          | _ => False)
        | none => False)
      | .invokestatic i => x.2.1 = 3 ∧ (match aSpf 6 i 0 m.2.2.1.2 with
        | some _ => (Nat.ble 1 m.2.1.frames = true ∧ Nat.ble (8 + (nativeFrameWords "java/lang/System" "arraycopy" 5 + 11)) m.2.1.locals = true) ∧ lAc tb n st σ (fun s σ' => lwpE tb n m ex Xe post k r (pc + 3) lv s σ')
        | none => (match st with
          | .inl y :: .inl x :: s => (match aSpf 8 i 0 m.2.2.1.2 with
            | some _ => (Nat.ble 1 m.2.1.frames = true ∧ Nat.ble 21 m.2.1.locals = true ∧ Nat.ble (s.map jcat).sum 8 = true) ∧ lwpE tb n m ex Xe post k r (pc + 3) lv (.inl (if x < y then y else x) :: s) σ
            | none => (match aSpf 9 i 0 m.2.2.1.2 with
              | some _ => (Nat.ble 1 m.2.1.frames = true ∧ Nat.ble 21 m.2.1.locals = true ∧ Nat.ble (s.map jcat).sum 8 = true) ∧ lwpE tb n m ex Xe post k r (pc + 3) lv (.inl (if y < x then y else x) :: s) σ
              | none => False))
          | _ => False))
      | _ => False)
section LKE
variable {l : Launch} {E : jE} {own : String} {Ts : List Jvm.Cond} {cl : List vw_C} {tb : jTb} {nL : Nat} {ini : Bool} {cc : ByteArray} {M : jM} {n : Nat}
theorem lwpE_run {m : lM} {ex : Nat → Bool} {Xe : Nat → List (Option jv) → List jv → (Nat → jcell) → Prop} {post : jPo} {ca sl : Nat} (hC : jCl Ts cl) (X : jX E own Ts cl tb nL ini cc M) (hl : M.2.1 = l) (hR : M.2.2.2.1 = m.2.1) (hr : M.2.2.2.2.2.2.2.2.1.sig.returnType = m.1) (hsp : ∀ q ∈ m.2.2.1.2, aSpQ own Ts q) (hlk : ∀ q ∈ m.2.2.1.1, ∀ G, m.2.2.2.1[q.2.2]? = some G → jlm Ts q.2.1 own q.1 G.1.1 = true) (hG : ∀ G ∈ m.2.2.2.1, lGd Ts cl G ∧ ∀ (vals : List jv) (σ : Nat → jcell) (po : jPo), G.2.2.2.2.2 vals σ po → jMet l E cl tb Ts G.1 G.2.2.2.2.1 vals σ n po) (hok : jokLQ own Ts cl tb nL ini cc 0 m.2.2.2.2 = true) (hX : ∀ (pc : Nat) (lv : List (Option jv)) (st : List jv) (σ : Nat → jcell), ex pc = true → Xe pc lv st σ → jJ E cl nL M (jQ E cl M post m.2.1.cells m.2.1.slots) n ca sl pc lv st σ) (hca : ca ≤ m.2.1.cells) (hsl : sl ≤ m.2.1.slots) : ∀ (k : Nat) (js : List jI) (pc : Nat) (lv : List (Option jv)) (st : List jv) (σ : Nat → jcell), jokLQ own Ts cl tb nL ini cc pc js = true → lwpE tb n m ex Xe post k js pc lv st σ → jJ E cl nL M (jQ E cl M post m.2.1.cells m.2.1.slots) n ca sl pc lv st σ
  | 0, _, _, _, _, _, _, h => by unfold lwpE at h; exact h.elim
  | _ + 1, [], _, _, _, _, _, h => by unfold lwpE at h; exact h.elim
  | k + 1, x :: r, pc, lv, st, σ, hk, h => by
    have hk2 : jokQ own Ts cl tb nL ini cc pc x = true ∧ jokLQ own Ts cl tb nL ini cc (pc + x.2.1) r = true := by
      have h9 := hk
      unfold jokLQ at h9
      rwa [Bool.and_eq_true] at h9
    have hd : decode cc pc = .ok (x.1, x.2.1) := by
      have h9 := hk2.1
      unfold jokQ at h9
      rw [Bool.and_eq_true, decide_eq_true_eq] at h9
      exact h9.1
    obtain ⟨I, ln, py⟩ := x
    dsimp only at hd hk2
    unfold lwpE at h
    dsimp only at h
    by_cases hex : ex pc = true
    · rw [hex] at h
      exact hX pc lv st σ hex h
    have hex : ex pc = false := by simpa using hex
    rw [hex] at h
    dsimp only at h
    split at h
    next h1 =>
     split at h
     next =>
       obtain ⟨rfl, h1, h2⟩ := h
       split at h2
       next => exact jk_vret X hd (hr.trans h1) hca hsl h2
       next => exact h2.elim
     next =>
       obtain ⟨rfl, h2⟩ := h
       split at h2
       next v =>
         obtain ⟨h3, h4⟩ := h2
         unfold lNa at h3
         split at h3
         next ty he => exact jk_iret X hd (hr.trans he) h3 hca hsl h4
         next => exact h3.elim
       next => exact h2.elim
     next =>
       obtain ⟨rfl, h1, h2⟩ := h
       split at h2
       next v => exact jk_lret X hd (hr.trans h1) hca hsl h2
       next => exact h2.elim
     next =>
       obtain ⟨rfl, h1, h2⟩ := h
       split at h2
       next v =>
         unfold lOb at h1
         split at h1
         next s he => exact jk_aret X hd (hr.trans he) (Or.inl ⟨_, rfl⟩) hca hsl h2
         next s he => exact jk_aret X hd (hr.trans he) (Or.inr ⟨_, rfl⟩) hca hsl h2
         next => exact h1.elim
       next => exact h2.elim
     next dflt lo hi offs =>
       split at h
       next v s =>
         obtain ⟨z1, z2, z3, z4⟩ := h
         have go : ∀ t : Nat, lwpE tb n m ex Xe post k (lGo m.2.2.2.2 t) t lv s σ → jJ E cl nL M (jQ E cl M post m.2.1.cells m.2.1.slots) n ca sl t lv s σ := by
           intro t h'
           unfold lGo at h'
           split at h'
           next js' hj => exact lwpE_run hC X hl hR hr hsp hlk hG hok hX hca hsl k js' t lv s σ (aSuf_ok hok hj) h'
           next => cases k <;> (unfold lwpE at h'; exact h'.elim)
         refine jk_tab X hd (offs.toList.map (fun o => ((pc : Int) + o).toNat)) (by rw [List.length_map]; exact z1) ?_ (td := ((pc : Int) + dflt).toNat) (by omega) (fun hx => go _ (lTs_o _ _ z4 (by omega))) (fun i t ht hx => ?_)
         · rw [List.map_map]
           refine List.map_congr_left (fun o ho => ?_)
           have := of_decide_eq_true (List.all_eq_true.mp z2 o ho)
           show (pc : Int) + o = (((pc : Int) + o).toNat : Int)
           omega
         · rw [List.getElem?_map] at ht
           obtain ⟨o, ho, rfl⟩ := Option.map_eq_some_iff.mp ht
           exact go _ (lTs_i _ _ i o z4 ho hx)
       next => exact h.elim
     next dflt ps =>
       split at h
       next v s =>
         obtain ⟨z1, z2, z3, z4, z5⟩ := h
         have go : ∀ t : Nat, lwpE tb n m ex Xe post k (lGo m.2.2.2.2 t) t lv s σ → jJ E cl nL M (jQ E cl M post m.2.1.cells m.2.1.slots) n ca sl t lv s σ := by
           intro t h'
           unfold lGo at h'
           split at h'
           next js' hj => exact lwpE_run hC X hl hR hr hsp hlk hG hok hX hca hsl k js' t lv s σ (aSuf_ok hok hj) h'
           next => cases k <;> (unfold lwpE at h'; exact h'.elim)
         refine jk_look X hd z1 (td := ((pc : Int) + dflt).toNat) (by omega) (fun hx => go _ (z4 hx)) (fun q hq hx => ⟨((pc : Int) + q.2).toNat, ?_, go _ (lLk_i _ q z5 hq hx)⟩)
         have := of_decide_eq_true (List.all_eq_true.mp z2 q hq)
         omega
       next => exact h.elim
     next i =>
       obtain ⟨rfl, h2⟩ := h
       split at h2
       next G hg =>
         obtain ⟨z1, z2, z3, z4, z5, z6⟩ := h2
         obtain ⟨⟨g1, g2, g3⟩, g4⟩ := hG G (List.mem_of_getElem? hg)
         rw [if_pos z1] at g3
         have hM := g4 _ _ _ z6
         rw [← hl] at hM
         refine jk_callS (vals := (st.take G.2.2.1).reverse) (r := st.drop G.2.2.1) X hR hd (hlk _ (jin3_ok z2) _ hg) g3.1 g3.2 hM (by rw [List.reverse_reverse, List.take_append_drop]) (by rw [List.length_reverse, List.length_take]; have := Nat.le_of_ble_eq_true z4; omega) (l_rm z3) (by rw [g1, g2]; exact ⟨hca, hsl⟩) (Nat.le_of_ble_eq_true z5) (fun v σ' n' hp => ?_)
         obtain ⟨hn', hp⟩ := hp
         rw [g1, g2, hn']
         exact lwpE_run hC X hl hR hr hsp hlk hG hok hX hca hsl k r (pc + 3) lv _ σ' hk2.2 hp
       next => exact h2.elim
     next i =>
       obtain ⟨rfl, h2⟩ := h
       split at h2
       next G hg =>
         obtain ⟨z1, z2, z3, z4, z5, z6⟩ := h2
         obtain ⟨⟨g1, g2, g3⟩, g4⟩ := hG G (List.mem_of_getElem? hg)
         rw [if_neg (by rw [z1]; decide)] at g3
         obtain ⟨g5, g6, g7, g8, gq⟩ := g3
         split at z6
         next a vals he =>
           obtain ⟨y1, y2, y0, y3⟩ := z6
           obtain ⟨q, g9, g10⟩ := gq y0
           split at y2
           next c fs hs =>
             subst y2
             have hM := g4 _ _ _ y3
             rw [← hl] at hM
             have hlen : vals.length = G.2.2.1 - 1 := by
               have h9 : (st.take G.2.2.1).reverse.length = vals.length + 1 := by rw [he]; rfl
               rw [List.length_reverse, List.length_take] at h9
               have := Nat.le_of_ble_eq_true z4
               omega
             have hst : st = vals.reverse ++ .inr (.inr (some (.inl a))) :: st.drop G.2.2.1 := by
               have h9 : st.take G.2.2.1 = (.inr (.inr (some (.inl a))) :: vals).reverse := by rw [← he, List.reverse_reverse]
               rw [List.reverse_cons] at h9
               have h8 : st.take G.2.2.1 ++ st.drop G.2.2.1 = st := List.take_append_drop _ _
               rw [h9, List.append_assoc] at h8
               exact h8.symm
             refine jk_callV (vals := vals) (r := st.drop G.2.2.1) X hR hd (hlk _ (jin3_ok z2) _ hg) g6 g7 g8 g9 g10 y1 hs hM hst hlen (l_rm z3) (by rw [g1, g2]; exact ⟨hca, hsl⟩) (Nat.le_of_ble_eq_true z5) (fun v σ' n' hp => ?_)
             obtain ⟨hn', hp⟩ := hp
             rw [g1, g2, hn']
             exact lwpE_run hC X hl hR hr hsp hlk hG hok hX hca hsl k r (pc + 3) lv _ σ' hk2.2 hp
           next => exact y2.elim
         next j vals he =>
           obtain ⟨⟨o, y1, rfl, y2⟩, y3⟩ := z6
           have hM := g4 _ _ _ y3
           rw [← hl] at hM
           have hlen : vals.length = G.2.2.1 - 1 := by
             have h9 : (st.take G.2.2.1).reverse.length = vals.length + 1 := by rw [he]; rfl
             rw [List.length_reverse, List.length_take] at h9
             have := Nat.le_of_ble_eq_true z4
             omega
           have hst : st = vals.reverse ++ .inr (.inr (some (.inr o.1))) :: st.drop G.2.2.1 := by
             have h9 : st.take G.2.2.1 = (.inr (.inr (some (.inr o.1))) :: vals).reverse := by rw [← he, List.reverse_reverse]
             rw [List.reverse_cons] at h9
             have h8 : st.take G.2.2.1 ++ st.drop G.2.2.1 = st := List.take_append_drop _ _
             rw [h9, List.append_assoc] at h8
             exact h8.symm
           refine jk_callVs (vals := vals) (r := st.drop G.2.2.1) X hR hd (hlk _ (jin3_ok z2) _ hg) g6 g7 g8 y1 y2 hM hst hlen (l_rm z3) (by rw [g1, g2]; exact ⟨hca, hsl⟩) (Nat.le_of_ble_eq_true z5) (fun v σ' n' hp => ?_)
           obtain ⟨hn', hp⟩ := hp
           rw [g1, g2, hn']
           exact lwpE_run hC X hl hR hr hsp hlk hG hok hX hca hsl k r (pc + 3) lv _ σ' hk2.2 hp
         next => exact z6.elim
       next => exact h2.elim
     next =>
       refine jstep_ok (I := I) (ln := ln) (py := py) hC X (jokQ_n hk2.1 h1) h (fun lv' st' σ' h' => lwpE_run hC X hl hR hr hsp hlk hG hok hX hca hsl k r (pc + ln) lv' st' σ' hk2.2 h') (fun pc' lv' st' σ' h' => ?_)
       unfold lGo at h'
       split at h'
       next js' hj => exact lwpE_run hC X hl hR hr hsp hlk hG hok hX hca hsl k js' pc' lv' st' σ' (aSuf_ok hok hj) h'
       next => cases k <;> (unfold lwpE at h'; exact h'.elim)
    next =>
     split at h
     next i =>
       obtain ⟨rfl, h2⟩ := h
       split at h2
       next v hv =>
         obtain ⟨tx, j, e1, e2⟩ := (hsp _ (aSpf_ok hv)).1.1 rfl
         dsimp only at e1
         subst e1
         exact jk_lds X hd e2 (lwpE_run hC X hl hR hr hsp hlk hG hok hX hca hsl k r (pc + 2) lv _ σ hk2.2 h2)
       next => exact h2.elim
     next i =>
       obtain ⟨rfl, h2⟩ := h
       split at h2
       next v hv =>
         obtain ⟨tx, j, e1, e2⟩ := (hsp _ (aSpf_ok hv)).1.2.1 rfl
         dsimp only at e1
         subst e1
         exact jk_ldx X hd e2 (lwpE_run hC X hl hR hr hsp hlk hG hok hX hca hsl k r (pc + 3) lv _ σ hk2.2 h2)
       next =>
         split at h2
         next v hv =>
           obtain ⟨v', e1, e2⟩ := (hsp _ (aSpf_ok hv)).1.2.2.1 rfl
           dsimp only at e1
           subst e1
           exact jk_ldw X hd e2 (lwpE_run hC X hl hR hr hsp hlk hG hok hX hca hsl k r (pc + 3) lv _ σ hk2.2 h2)
         next => exact h2.elim
     next =>
       obtain ⟨rfl, h2⟩ := h
       split at h2
       next i j s =>
         split at h2
         next q hq =>
           obtain ⟨q1, rfl⟩ := aSrf_ok hq
           exact jk_aal X hd q1 h2.1 (lwpE_run hC X hl hR hr hsp hlk hG hok hX hca hsl k r (pc + 1) lv _ σ hk2.2 h2.2)
         next => exact h2.elim
       next => exact h2.elim
     next i =>
       obtain ⟨rfl, h2⟩ := h
       split at h2
       next v hv =>
         obtain ⟨z, z1, z2, z3⟩ := (hsp _ (aSpf_ok hv)).1.2.2.2.1 rfl
         dsimp only at z2
         subst z2
         exact jk_gsv X hd z1 z3 (lwpE_run hC X hl hR hr hsp hlk hG hok hX hca hsl k r (pc + 3) lv _ σ hk2.2 h2)
       next =>
         split at h2
         next v hv =>
           obtain ⟨z, z1, host, z2, z3⟩ := (hsp _ (aSpf_ok hv)).2.1 rfl
           dsimp only at z2
           subst z2
           exact jk_gsq X hd z1 z3 (lwpE_run hC X hl hR hr hsp hlk hG hok hX hca hsl k r (pc + 3) lv _ σ hk2.2 h2)
         next => exact h2.elim
     next i =>
       obtain ⟨rfl, h2⟩ := h
       split at h2
       next o s =>
         split at h2
         next v hv =>
           obtain ⟨ob, o1, f, f1, f2, f3, f4⟩ := (hsp _ (aSpf_ok hv)).1.2.2.2.2.1 rfl
           dsimp only at f2 f3
           subst f2
           subst f3
           exact jk_gfo X hd o1 f1 f4 (lwpE_run hC X hl hR hr hsp hlk hG hok hX hca hsl k r (pc + 3) lv _ σ hk2.2 h2)
         next => exact h2.elim
       next => exact h2.elim
     next =>
       obtain ⟨rfl, h2⟩ := h
       split at h2
       next j s =>
         split at h2
         next q hq =>
           obtain ⟨q1, rfl⟩ := aSro_ok hq
           exact jk_aln X hd q1 (lwpE_run hC X hl hR hr hsp hlk hG hok hX hca hsl k r (pc + 1) lv _ σ hk2.2 h2)
         next =>
           split at h2
           next q hq =>
             obtain ⟨q1, rfl⟩ := aSrf_ok hq
             exact jk_alr X hd q1 (lwpE_run hC X hl hR hr hsp hlk hG hok hX hca hsl k r (pc + 1) lv _ σ hk2.2 h2)
           next => exact h2.elim
       next => exact h2.elim
     next =>
       obtain ⟨rfl, h2⟩ := h
       split at h2
       next i j s =>
         split at h2
         next q hq =>
           obtain ⟨q1, rfl⟩ := aSro_ok hq
           exact jk_bal X hd q1 (of_decide_eq_true (List.all_eq_true.mp js_by q q1)) h2.1 (lwpE_run hC X hl hR hr hsp hlk hG hok hX hca hsl k r (pc + 1) lv _ σ hk2.2 h2.2)
         next => exact h2.elim
       next => exact h2.elim
     next i =>
       obtain ⟨rfl, h2⟩ := h
       split at h2
       next G hg =>
         obtain ⟨z1, z2, z3, z4, z5, z6⟩ := h2
         obtain ⟨⟨g1, g2, g3⟩, g4⟩ := hG G (List.mem_of_getElem? hg)
         rw [if_neg (by rw [z1]; decide)] at g3
         obtain ⟨g5, g6, g7, g8, gq⟩ := g3
         split at z6
         next a vals he =>
           obtain ⟨y1, y2, y0, y3⟩ := z6
           obtain ⟨q, g9, g10⟩ := gq y0
           split at y2
           next c fs hs =>
             subst y2
             have hM := g4 _ _ _ y3
             rw [← hl] at hM
             have hlen : vals.length = G.2.2.1 - 1 := by
               have h9 : (st.take G.2.2.1).reverse.length = vals.length + 1 := by rw [he]; rfl
               rw [List.length_reverse, List.length_take] at h9
               have := Nat.le_of_ble_eq_true z4
               omega
             have hst : st = vals.reverse ++ .inr (.inr (some (.inl a))) :: st.drop G.2.2.1 := by
               have h9 : st.take G.2.2.1 = (.inr (.inr (some (.inl a))) :: vals).reverse := by rw [← he, List.reverse_reverse]
               rw [List.reverse_cons] at h9
               have h8 : st.take G.2.2.1 ++ st.drop G.2.2.1 = st := List.take_append_drop _ _
               rw [h9, List.append_assoc] at h8
               exact h8.symm
             refine jk_callV (vals := vals) (r := st.drop G.2.2.1) X hR hd (hlk _ (jin3_ok z2) _ hg) g6 g7 g8 g9 g10 y1 hs hM hst hlen (l_rm z3) (by rw [g1, g2]; exact ⟨hca, hsl⟩) (Nat.le_of_ble_eq_true z5) (fun v σ' n' hp => ?_)
             obtain ⟨hn', hp⟩ := hp
             rw [g1, g2, hn']
             exact lwpE_run hC X hl hR hr hsp hlk hG hok hX hca hsl k r (pc + 3) lv _ σ' hk2.2 hp
           next => exact y2.elim
         next j vals he =>
           obtain ⟨⟨o, y1, rfl, y2⟩, y3⟩ := z6
           have hM := g4 _ _ _ y3
           rw [← hl] at hM
           have hlen : vals.length = G.2.2.1 - 1 := by
             have h9 : (st.take G.2.2.1).reverse.length = vals.length + 1 := by rw [he]; rfl
             rw [List.length_reverse, List.length_take] at h9
             have := Nat.le_of_ble_eq_true z4
             omega
           have hst : st = vals.reverse ++ .inr (.inr (some (.inr o.1))) :: st.drop G.2.2.1 := by
             have h9 : st.take G.2.2.1 = (.inr (.inr (some (.inr o.1))) :: vals).reverse := by rw [← he, List.reverse_reverse]
             rw [List.reverse_cons] at h9
             have h8 : st.take G.2.2.1 ++ st.drop G.2.2.1 = st := List.take_append_drop _ _
             rw [h9, List.append_assoc] at h8
             exact h8.symm
           refine jk_callVs (vals := vals) (r := st.drop G.2.2.1) X hR hd (hlk _ (jin3_ok z2) _ hg) g6 g7 g8 y1 y2 hM hst hlen (l_rm z3) (by rw [g1, g2]; exact ⟨hca, hsl⟩) (Nat.le_of_ble_eq_true z5) (fun v σ' n' hp => ?_)
           obtain ⟨hn', hp⟩ := hp
           rw [g1, g2, hn']
           exact lwpE_run hC X hl hR hr hsp hlk hG hok hX hca hsl k r (pc + 3) lv _ σ' hk2.2 hp
         next => exact z6.elim
       next => exact h2.elim
     next i =>
       obtain ⟨rfl, h2⟩ := h
       split at h2
       next v hv =>
         obtain ⟨⟨r1, r2⟩, h3⟩ := h2
         obtain ⟨s1, s2, s3, s4⟩ := (hsp _ (aSpf_ok hv)).1.2.2.2.2.2 rfl
         unfold lAc at h3
         split at h3
         next c dp b1 sp b0 s =>
           obtain ⟨y1, y2, y3, ⟨y4, y5, y6⟩, y7⟩ := h3
           split at y7
           next n0 u e0 =>
             split at y7
             next n1 g e1 =>
               obtain ⟨w1, w2, w3⟩ := y7
               exact jk_acl X hR hd s1 s2 s3 s4 y1 e0 y2 e1 y4 y5 y6 w1 w2 (Nat.le_of_ble_eq_true r1) (Nat.le_of_ble_eq_true y3) (Nat.le_of_ble_eq_true r2) (lwpE_run hC X hl hR hr hsp hlk hG hok hX hca hsl k r (pc + 3) lv _ _ hk2.2 w3)
             next => exact y7.elim
           next n0 u e0 =>
             split at y7
             next n1 g e1 =>
               obtain ⟨w1, w2, w0, w3⟩ := y7
               exact jk_acb X hR hd s1 s2 s3 s4 y1 e0 y2 e1 y4 y5 y6 w1 w2 w0 (Nat.le_of_ble_eq_true r1) (Nat.le_of_ble_eq_true y3) (Nat.le_of_ble_eq_true r2) (lwpE_run hC X hl hR hr hsp hlk hG hok hX hca hsl k r (pc + 3) lv _ _ hk2.2 w3)
             next => exact y7.elim
           next => exact y7.elim
         next c dp b1 sp j0 s =>
           obtain ⟨y2, y3, ⟨y4, y5, y6⟩, y7⟩ := h3
           split at y7
           next n0 u e0 =>
             split at y7
             next n1 g e1 =>
               obtain ⟨w1, w2, w0, w3⟩ := y7
               exact jk_acs X hR hd s1 s2 s3 s4 e0 y2 e1 y4 y5 y6 w1 w2 w0 (Nat.le_of_ble_eq_true r1) (Nat.le_of_ble_eq_true y3) (Nat.le_of_ble_eq_true r2) (lwpE_run hC X hl hR hr hsp hlk hG hok hX hca hsl k r (pc + 3) lv _ _ hk2.2 w3)
             next => exact y7.elim
           next => exact y7.elim
         next => exact h3.elim
       next =>
         split at h2
         next y x s =>
           split at h2
           next v hv =>
             obtain ⟨⟨r1, r2, r3⟩, h3⟩ := h2
             obtain ⟨s1, s2, s3, s4⟩ := (hsp _ (aSpf_ok hv)).2.2.1 rfl
             exact jk_qmax X hR hd s1 s2 s3 s4 (Nat.le_of_ble_eq_true r1) (Nat.le_of_ble_eq_true r3) (Nat.le_of_ble_eq_true r2) ⟨hca, hsl⟩ (lwpE_run hC X hl hR hr hsp hlk hG hok hX hca hsl k r (pc + 3) lv _ _ hk2.2 h3)
           next =>
             split at h2
             next v hv =>
               obtain ⟨⟨r1, r2, r3⟩, h3⟩ := h2
               obtain ⟨s1, s2, s3, s4⟩ := (hsp _ (aSpf_ok hv)).2.2.2 rfl
               exact jk_qmin X hR hd s1 s2 s3 s4 (Nat.le_of_ble_eq_true r1) (Nat.le_of_ble_eq_true r3) (Nat.le_of_ble_eq_true r2) ⟨hca, hsl⟩ (lwpE_run hC X hl hR hr hsp hlk hG hok hX hca hsl k r (pc + 3) lv _ _ hk2.2 h3)
             next => exact h2.elim
         next => exact h2.elim
     next => exact h.elim
end LKE
noncomputable def zwpE (tb : jTb) (sh : Nat → zS) (n : Nat) (m : zM) (ex : Nat → Bool) (Xz : Nat → List (Option zv) → List zv → zW → Prop) (post : zPo) : Nat → List jI → Nat → List (Option zv) → List zv → zW → Prop
  | 0, _, _, _, _, _ => False
  | _ + 1, [], _, _, _, _ => False
  | k + 1, x :: r, pc, lv, st, W => match ex pc with
   | true => Xz pc lv st W
   | false => match Nat.beq x.2.2.1 999 with
    | false => (match x.1 with
      | .return_ => x.2.1 = 1 ∧ m.1 = none ∧ (match st with
        | [] => post none W
        | _ => False)
      | .ireturn => x.2.1 = 1 ∧ (match st with
        | [.inl v] => zNa m.1 v ∧ post (some (.inl v)) W
        | _ => False)
      | .lreturn => x.2.1 = 1 ∧ m.1 = some .long ∧ (match st with
        | [.inr (.inl v)] => post (some (.inr (.inl v))) W
        | _ => False)
      | .areturn => x.2.1 = 1 ∧ lOb m.1 ∧ (match st with
        | [.inr (.inr v)] => post (some (.inr (.inr v))) W
        | _ => False)
      | .tableswitch dflt lo hi offs => (match st with
        | .inl v :: s => hi - lo + 1 = (offs.toList.length : Int) ∧ offs.toList.all (fun o => decide (0 ≤ (pc : Int) + o)) = true ∧ 0 ≤ (pc : Int) + dflt ∧ lSw (fun t => zwpE tb sh n m ex Xz post k (lGo m.2.2.2.2 t) t lv s W) v pc ((pc : Int) + dflt).toNat (lTs lo offs.toList)
        | _ => False)
      | .lookupswitch dflt ps => (match st with
        | .inl v :: s => (ps.toList.zip (ps.toList.drop 1)).all (fun (a, next) => a.1 < next.1) = true ∧ ps.toList.all (fun o => decide (0 ≤ (pc : Int) + o.2)) = true ∧ 0 ≤ (pc : Int) + dflt ∧ ((∀ q ∈ ps.toList, ¬ v = q.1) → zwpE tb sh n m ex Xz post k (lGo m.2.2.2.2 ((pc : Int) + dflt).toNat) ((pc : Int) + dflt).toNat lv s W) ∧ lLk (fun t => zwpE tb sh n m ex Xz post k (lGo m.2.2.2.2 t) t lv s W) v pc ps.toList
        | _ => False)
      | .invokestatic i => x.2.1 = 3 ∧ (match m.2.2.2.1[x.2.2.1]? with
        | some G => G.2.1 = true ∧ jin3 i x.2.2.2.2.1 x.2.2.1 m.2.2.1.1 = true ∧ lRm m.2.1 G.2.2.2.2.1 G.1.2.2.1 = true ∧ Nat.ble G.2.2.1 st.length = true ∧ Nat.ble ((st.drop G.2.2.1).map zcat).sum 8 = true ∧ G.2.2.2.2.2 (st.take G.2.2.1).reverse W (fun v W' => zwpE tb sh n m ex Xz post k r (pc + 3) lv (v.toList ++ st.drop G.2.2.1) W')
        | none => False)
      | .invokevirtual i => x.2.1 = 3 ∧ (match m.2.2.2.1[x.2.2.1]? with
        | some G => G.2.1 = false ∧ jin3 i x.2.2.2.2.1 x.2.2.1 m.2.2.1.1 = true ∧ lRm m.2.1 G.2.2.2.2.1 G.1.2.2.1 = true ∧ Nat.ble G.2.2.1 st.length = true ∧ Nat.ble ((st.drop G.2.2.1).map zcat).sum 8 = true ∧ (match (st.take G.2.2.1).reverse with
          | .inr (.inr (some (.inl a))) :: vals => a < n ∧ (match sh a with
            | some (.inr (c, _)) => c = G.2.2.2.1
            | _ => False) ∧ Nat.ble 1000 G.2.2.2.1 = false ∧ G.2.2.2.2.2 (.inr (.inr (some (.inl a))) :: vals) W (fun v W' => zwpE tb sh n m ex Xz post k r (pc + 3) lv (v.toList ++ st.drop G.2.2.1) W')
          | .inr (.inr (some (.inr j))) :: vals => (∃ o, o ∈ js0.1 ∧ o.1 = j ∧ o.2.1 = G.1.1.cls) ∧ G.2.2.2.2.2 (.inr (.inr (some (.inr j))) :: vals) W (fun v W' => zwpE tb sh n m ex Xz post k r (pc + 3) lv (v.toList ++ st.drop G.2.2.1) W')
          | _ => False)
        | none => False)
      | _ => zstep tb sh n x.1 x.2.1 x.2.2 pc lv st W (fun a b c d => zwpE tb sh n m ex Xz post k r a b c d) (fun a b c d => zwpE tb sh n m ex Xz post k (lGo m.2.2.2.2 a) a b c d))
    | true => (match x.1 with
      | .ldc i => x.2.1 = 2 ∧ (match aSpf 1 i 0 m.2.2.1.2 with
        | some v => zwpE tb sh n m ex Xz post k r (pc + 2) lv (zSw v :: st) W
        | none => False)
      | .ldc_w i => x.2.1 = 3 ∧ (match aSpf 2 i 0 m.2.2.1.2 with
        | some v => zwpE tb sh n m ex Xz post k r (pc + 3) lv (zSw v :: st) W
        | none => (match aSpf 3 i 0 m.2.2.1.2 with
          | some v => zwpE tb sh n m ex Xz post k r (pc + 3) lv (zSw v :: st) W
          | none => False))
      | .aaload => x.2.1 = 1 ∧ (match st with
        | .inl i :: .inr (.inr (some (.inr j))) :: s => (match aSrf j with
          | some q => (0 ≤ i ∧ i < q.2.2.1) ∧ zwpE tb sh n m ex Xz post k r (pc + 1) lv (.inr (.inr (some (.inr (q.2.2.2 i.toNat)))) :: s) W
          | none => False)
        | _ => False)
      | .getstatic i => x.2.1 = 3 ∧ (match aSpf 4 i 0 m.2.2.1.2 with
        | some v => zwpE tb sh n m ex Xz post k r (pc + 3) lv (zSw v :: st) W
        | none => (match aSpf 7 i 0 m.2.2.1.2 with
          | some v => zwpE tb sh n m ex Xz post k r (pc + 3) lv (zSw v :: st) W
          | none => False))
      | .getfield i => x.2.1 = 3 ∧ (match st with
        | .inr (.inr (some (.inr o))) :: s => (match aSpf 5 i o m.2.2.1.2 with
          | some v => zwpE tb sh n m ex Xz post k r (pc + 3) lv (zSw v :: s) W
          | none => False)
        | _ => False)
      | .arraylength => x.2.1 = 1 ∧ (match st with
        | .inr (.inr (some (.inr j))) :: s => (match aSro j with
          | some q => q.2.2.1 ≤ 2147483647 ∧ zwpE tb sh n m ex Xz post k r (pc + 1) lv (.inl q.2.2.1 :: s) W
          | none => (match aSrf j with
            | some q => q.2.2.1 ≤ 2147483647 ∧ zwpE tb sh n m ex Xz post k r (pc + 1) lv (.inl q.2.2.1 :: s) W
            | none => False))
        | _ => False)
      | .baload => x.2.1 = 1 ∧ (match st with
        | .inl i :: .inr (.inr (some (.inr j))) :: s => (match aSro j with
          | some q => (0 ≤ i ∧ i < q.2.2.1) ∧ zwpE tb sh n m ex Xz post k r (pc + 1) lv (.inl (q.2.2.2 i.toNat).toInt :: s) W
          | none => False)
        | _ => False)
      | .invokevirtual i => x.2.1 = 3 ∧ (match m.2.2.2.1[x.2.2.2.1]? with
        | some G => G.2.1 = false ∧ jin3 i x.2.2.2.2.1 x.2.2.2.1 m.2.2.1.1 = true ∧ lRm m.2.1 G.2.2.2.2.1 G.1.2.2.1 = true ∧ Nat.ble G.2.2.1 st.length = true ∧ Nat.ble ((st.drop G.2.2.1).map zcat).sum 8 = true ∧ (match (st.take G.2.2.1).reverse with
          | .inr (.inr (some (.inl a))) :: vals => a < n ∧ (match sh a with
            | some (.inr (c, _)) => c = G.2.2.2.1
            | _ => False) ∧ Nat.ble 1000 G.2.2.2.1 = false ∧ G.2.2.2.2.2 (.inr (.inr (some (.inl a))) :: vals) W (fun v W' => zwpE tb sh n m ex Xz post k r (pc + 3) lv (v.toList ++ st.drop G.2.2.1) W')
          | .inr (.inr (some (.inr j))) :: vals => (∃ o, o ∈ js0.1 ∧ o.1 = j ∧ o.2.1 = G.1.1.cls) ∧ G.2.2.2.2.2 (.inr (.inr (some (.inr j))) :: vals) W (fun v W' => zwpE tb sh n m ex Xz post k r (pc + 3) lv (v.toList ++ st.drop G.2.2.1) W')
          | _ => False)
        | none => False)
      | .invokestatic i => x.2.1 = 3 ∧ (match aSpf 6 i 0 m.2.2.1.2 with
        | some _ => (Nat.ble 1 m.2.1.frames = true ∧ Nat.ble (8 + (nativeFrameWords "java/lang/System" "arraycopy" 5 + 11)) m.2.1.locals = true) ∧ zAc tb sh n st W (fun s W' => zwpE tb sh n m ex Xz post k r (pc + 3) lv s W')
        | none => (match st with
          | .inl y :: .inl x :: s => (match aSpf 8 i 0 m.2.2.1.2 with
            | some _ => (Nat.ble 1 m.2.1.frames = true ∧ Nat.ble 21 m.2.1.locals = true ∧ Nat.ble (s.map zcat).sum 8 = true) ∧ zwpE tb sh n m ex Xz post k r (pc + 3) lv (.inl (if x < y then y else x) :: s) W
            | none => (match aSpf 9 i 0 m.2.2.1.2 with
              | some _ => (Nat.ble 1 m.2.1.frames = true ∧ Nat.ble 21 m.2.1.locals = true ∧ Nat.ble (s.map zcat).sum 8 = true) ∧ zwpE tb sh n m ex Xz post k r (pc + 3) lv (.inl (if y < x then y else x) :: s) W
              | none => False))
          | _ => False))
      | _ => False)
theorem zwpE_lwpE {tb : jTb} {sh : Nat → zS} {n : Nat} {m : zM} {ex : Nat → Bool} {Xz : Nat → List (Option zv) → List zv → zW → Prop} {Xe : Nat → List (Option jv) → List jv → (Nat → jcell) → Prop} {post : zPo} {post' : jPo} (hX : ∀ pc lv st W, zOl lv → zOs st → zWok W → ex pc = true → Xz pc lv st W → Xe pc (zl lv) (zs st) (zlW sh W)) (hpo : ∀ v W, zOv v → zWok W → post v W → post' (Option.map zj v) (zlW sh W) n) : ∀ (k : Nat) (js : List jI) (pc : Nat) (lv : List (Option zv)) (st : List zv) (W : zW), zOl lv → zOs st → zWok W → zwpE tb sh n m ex Xz post k js pc lv st W → lwpE tb n (zlM sh n m) ex Xe post' k js pc (zl lv) (zs st) (zlW sh W)
  | 0, _, _, _, _, _, _, _, _, h => by unfold zwpE at h; exact h.elim
  | _ + 1, [], _, _, _, _, _, _, _, h => by unfold zwpE at h; exact h.elim
  | k + 1, (I, ln, py) :: r, pc, lv, st, W, hL, hO, hW, h => by
    have IH := zwpE_lwpE (tb := tb) (m := m) (ex := ex) hX hpo k
    unfold zwpE at h
    dsimp only at h
    unfold lwpE
    dsimp only
    by_cases hex : ex pc = true
    · rw [hex] at h ⊢
      exact hX pc lv st W hL hO hW hex h
    have hex : ex pc = false := by simpa using hex
    rw [hex] at h ⊢
    dsimp only at h ⊢
    split at h
    next hq9 =>
     (try rw [hq9])
     (try dsimp only)
     split at h
     next =>
       obtain ⟨rfl, h1, h2⟩ := h
       split at h2
       next => exact ⟨rfl, h1, hpo none W (fun x hx => by cases hx) hW h2⟩
       next => exact h2.elim
     next =>
       obtain ⟨rfl, h2⟩ := h
       split at h2
       next v => exact ⟨rfl, zNa_ok (zOs_c hO).1 h2.1, hpo (some (.inl v)) W (fun x hx => by obtain rfl := Option.some.inj hx; exact (zOs_c hO).1) hW h2.2⟩
       next => exact h2.elim
     next =>
       obtain ⟨rfl, h1, h2⟩ := h
       split at h2
       next v => exact ⟨rfl, h1, hpo (some (.inr (.inl v))) W (fun x hx => by obtain rfl := Option.some.inj hx; trivial) hW h2⟩
       next => exact h2.elim
     next =>
       obtain ⟨rfl, h1, h2⟩ := h
       split at h2
       next v => exact ⟨rfl, h1, hpo (some (.inr (.inr v))) W (fun x hx => by obtain rfl := Option.some.inj hx; trivial) hW h2⟩
       next => exact h2.elim
     next dflt lo hi offs =>
       split at h
       next v s =>
         obtain ⟨z1, z2, z3, z4⟩ := h
         refine ⟨z1, z2, z3, ?_⟩
         rw [lI_t (show lRg v from (zOs_c hO).1)]
         exact lSw_m (fun t ht => IH _ t lv s W hL (zOs_c hO).2 hW ht) _ z4
       next => exact h.elim
     next dflt ps =>
       split at h
       next v s =>
         obtain ⟨z1, z2, z3, z4, z5⟩ := h
         refine ⟨z1, z2, z3, ?_⟩
         rw [lI_t (show lRg v from (zOs_c hO).1)]
         exact ⟨fun q => IH _ _ lv s W hL (zOs_c hO).2 hW (z4 q), lLk_m (fun t ht => IH _ t lv s W hL (zOs_c hO).2 hW ht) _ z5⟩
       next => exact h.elim
     next i =>
       obtain ⟨rfl, h2⟩ := h
       refine ⟨rfl, ?_⟩
       split at h2
       next G hg =>
         obtain ⟨z1, z2, z3, z4, z5, z6⟩ := h2
         have e : (zlM sh n m).2.2.2.1[py.1]? = some (zlC sh n G) := by
           show (m.2.2.2.1.map (zlC sh n))[py.1]? = _
           rw [List.getElem?_map, hg]
           rfl
         rw [e]
         refine ⟨z1, z2, z3, by rw [zs_len]; exact z4, by rw [zs_drop, zs_cat]; exact z5, _, W, _, zs_take, zOs_take hO, rfl, hW, z6, fun v W' hv hW' hp => ⟨rfl, ?_⟩⟩
         have h9 := IH r (pc + 3) lv _ W' hL (zOs_app hv (zOs_drop hO)) hW' hp
         rw [← zs_app, ← zs_drop] at h9
         exact h9
       next => exact h2.elim
     next i =>
       obtain ⟨rfl, h2⟩ := h
       refine ⟨rfl, ?_⟩
       split at h2
       next G hg =>
         obtain ⟨z1, z2, z3, z4, z5, z6⟩ := h2
         have e : (zlM sh n m).2.2.2.1[py.1]? = some (zlC sh n G) := by
           show (m.2.2.2.1.map (zlC sh n))[py.1]? = _
           rw [List.getElem?_map, hg]
           rfl
         rw [e]
         refine ⟨z1, z2, z3, by rw [zs_len]; exact z4, by rw [zs_drop, zs_cat]; exact z5, ?_⟩
         have et : ((zs st).take (zlC sh n G).2.2.1).reverse = zs (st.take G.2.2.1).reverse := zs_take
         rw [et]
         have ho := zOs_take (k := G.2.2.1) hO
         split at z6
         next a vals he =>
           obtain ⟨y1, y2, y0, y3⟩ := z6
           rw [he] at ho ⊢
           split at y2
           next c fs hs =>
             refine ⟨y1, ?_, y0, _, W, _, rfl, ho, rfl, hW, y3, fun v W' hv hW' hp => ⟨rfl, ?_⟩⟩
             · show (match zlW sh W a with
                 | .inr (c, _) => c = G.2.2.2.1
                 | _ => False)
               rw [zc_obj hs]
               exact y2
             · have h9 := IH r (pc + 3) lv _ W' hL (zOs_app hv (zOs_drop hO)) hW' hp
               rw [← zs_app, ← zs_drop] at h9
               exact h9
           next => exact y2.elim
         next j vals he =>
           obtain ⟨y1, y3⟩ := z6
           rw [he] at ho ⊢
           refine ⟨y1, _, W, _, rfl, ho, rfl, hW, y3, fun v W' hv hW' hp => ⟨rfl, ?_⟩⟩
           have h9 := IH r (pc + 3) lv _ W' hL (zOs_app hv (zOs_drop hO)) hW' hp
           rw [← zs_app, ← zs_drop] at h9
           exact h9
         next => exact z6.elim
       next => exact h2.elim
     next n1 n2 n5 n6 n7 n8 n3 n4 =>
       have h2 := h
       have h3 : jstep tb n I ln py pc (zl lv) (zs st) (zlW sh W) (fun a b c d => lwpE tb n (zlM sh n m) ex Xe post' k r a b c d) (fun a b c d => lwpE tb n (zlM sh n m) ex Xe post' k (lGo (zlM sh n m).2.2.2.2 a) a b c d) := zstep_ok hL hO hW h2 (fun pc lv st W a b c d => IH r pc lv st W a b c d) (fun pc lv st W a b c d => IH _ pc lv st W a b c d)
       exact h3
    next hq9 =>
     (try rw [hq9])
     (try dsimp only)
     split at h
     next i =>
       obtain ⟨rfl, h2⟩ := h
       refine ⟨rfl, ?_⟩
       split at h2
       next v hv =>
         have h9 := IH r (pc + 2) lv _ W hL (zOs_m zSw_ok hO) hW h2
         rw [show (zlM sh n m).2.2.1.2 = m.2.2.1.2 from rfl, hv]
         show lwpE tb n (zlM sh n m) ex Xe post' k r (pc + 2) (zl lv) (jSw v :: zs st) (zlW sh W)
         rw [← zSw_j]
         exact h9
       next => exact h2.elim
     next i =>
       obtain ⟨rfl, h2⟩ := h
       refine ⟨rfl, ?_⟩
       split at h2
       next v hv =>
         have h9 := IH r (pc + 3) lv (zSw v :: st) W hL (zOs_m zSw_ok hO) hW h2
         rw [show (zlM sh n m).2.2.1.2 = m.2.2.1.2 from rfl, hv]
         show lwpE tb n (zlM sh n m) ex Xe post' k r (pc + 3) (zl lv) (jSw v :: zs st) (zlW sh W)
         rw [← zSw_j]
         exact h9
       next hv =>
         split at h2
         next v hv2 =>
           have h9 := IH r (pc + 3) lv (zSw v :: st) W hL (zOs_m zSw_ok hO) hW h2
           rw [show (zlM sh n m).2.2.1.2 = m.2.2.1.2 from rfl, hv, hv2]
           show lwpE tb n (zlM sh n m) ex Xe post' k r (pc + 3) (zl lv) (jSw v :: zs st) (zlW sh W)
           rw [← zSw_j]
           exact h9
         next => exact h2.elim
     next =>
       obtain ⟨rfl, h2⟩ := h
       refine ⟨rfl, ?_⟩
       split at h2
       next i j s =>
         have hi := (zOs_c hO).1
         show (match aSrf j with
           | some q => vp_in (lI i) q.2.2.1 ∧ lwpE tb n (zlM sh n m) ex Xe post' k r (pc + 1) (zl lv) (.inr (.inr (some (.inr (q.2.2.2 (lI i).toNatClampNeg)))) :: zs s) (zlW sh W)
           | none => False)
         split at h2
         next q hq =>
           have h9 := IH r (pc + 1) lv _ W hL (zOs_m (v := .inr (.inr _)) trivial (zOs_c (zOs_c hO).2).2) hW h2.2
           refine ⟨l_vp (by rw [lI_t hi]; exact h2.1.1) (by rw [lI_t hi]; exact h2.1.2), ?_⟩
           rw [lI_cl hi]
           exact h9
         next => exact h2.elim
       next => exact h2.elim
     next i =>
       obtain ⟨rfl, h2⟩ := h
       refine ⟨rfl, ?_⟩
       split at h2
       next v hv =>
         have h9 := IH r (pc + 3) lv _ W hL (zOs_m zSw_ok hO) hW h2
         rw [show (zlM sh n m).2.2.1.2 = m.2.2.1.2 from rfl, hv]
         show lwpE tb n (zlM sh n m) ex Xe post' k r (pc + 3) (zl lv) (jSw v :: zs st) (zlW sh W)
         rw [← zSw_j]
         exact h9
       next hv =>
         split at h2
         next v hv2 =>
           have h9 := IH r (pc + 3) lv _ W hL (zOs_m zSw_ok hO) hW h2
           rw [show (zlM sh n m).2.2.1.2 = m.2.2.1.2 from rfl, hv, hv2]
           show lwpE tb n (zlM sh n m) ex Xe post' k r (pc + 3) (zl lv) (jSw v :: zs st) (zlW sh W)
           rw [← zSw_j]
           exact h9
         next => exact h2.elim
     next i =>
       obtain ⟨rfl, h2⟩ := h
       refine ⟨rfl, ?_⟩
       split at h2
       next o s =>
         show (match aSpf 5 i o (zlM sh n m).2.2.1.2 with
           | some v => lwpE tb n (zlM sh n m) ex Xe post' k r (pc + 3) (zl lv) (jSw v :: zs s) (zlW sh W)
           | none => False)
         split at h2
         next v hv =>
           have h9 := IH r (pc + 3) lv _ W hL (zOs_m zSw_ok (zOs_c hO).2) hW h2
           rw [show (zlM sh n m).2.2.1.2 = m.2.2.1.2 from rfl, hv]
           show lwpE tb n (zlM sh n m) ex Xe post' k r (pc + 3) (zl lv) (jSw v :: zs s) (zlW sh W)
           rw [← zSw_j]
           exact h9
         next => exact h2.elim
       next => exact h2.elim
     next =>
       obtain ⟨rfl, h2⟩ := h
       refine ⟨rfl, ?_⟩
       split at h2
       next j s =>
         show (match aSro j with
           | some q => lwpE tb n (zlM sh n m) ex Xe post' k r (pc + 1) (zl lv) (.inl (Int32.ofNat q.2.2.1) :: zs s) (zlW sh W)
           | none => (match aSrf j with
             | some q => lwpE tb n (zlM sh n m) ex Xe post' k r (pc + 1) (zl lv) (.inl (Int32.ofNat q.2.2.1) :: zs s) (zlW sh W)
             | none => False))
         split at h2
         next q hq =>
           have h9 := IH r (pc + 1) lv _ W hL (zOs_m (v := .inl q.2.2.1) (show lRg q.2.2.1 by unfold lRg; omega) (zOs_c hO).2) hW h2.2
           exact h9
         next hq =>
           split at h2
           next q hq2 =>
             have h9 := IH r (pc + 1) lv _ W hL (zOs_m (v := .inl q.2.2.1) (show lRg q.2.2.1 by unfold lRg; omega) (zOs_c hO).2) hW h2.2
             exact h9
           next => exact h2.elim
       next => exact h2.elim
     next =>
       obtain ⟨rfl, h2⟩ := h
       refine ⟨rfl, ?_⟩
       split at h2
       next i j s =>
         have hi := (zOs_c hO).1
         show (match aSro j with
           | some q => vp_in (lI i) q.2.2.1 ∧ lwpE tb n (zlM sh n m) ex Xe post' k r (pc + 1) (zl lv) (.inl (q.2.2.2 (lI i).toNatClampNeg) :: zs s) (zlW sh W)
           | none => False)
         split at h2
         next q hq =>
           have h9 := IH r (pc + 1) lv _ W hL (zOs_m (v := .inl (q.2.2.2 i.toNat).toInt) (lI_r _) (zOs_c (zOs_c hO).2).2) hW h2.2
           rw [zs_i] at h9
           refine ⟨l_vp (by rw [lI_t hi]; exact h2.1.1) (by rw [lI_t hi]; exact h2.1.2), ?_⟩
           rw [lI_cl hi]
           exact h9
         next => exact h2.elim
       next => exact h2.elim
     next i =>
       obtain ⟨rfl, h2⟩ := h
       refine ⟨rfl, ?_⟩
       split at h2
       next G hg =>
         obtain ⟨z1, z2, z3, z4, z5, z6⟩ := h2
         have e : (zlM sh n m).2.2.2.1[py.2.1]? = some (zlC sh n G) := by
           show (m.2.2.2.1.map (zlC sh n))[py.2.1]? = _
           rw [List.getElem?_map, hg]
           rfl
         rw [e]
         refine ⟨z1, z2, z3, by rw [zs_len]; exact z4, by rw [zs_drop, zs_cat]; exact z5, ?_⟩
         have et : ((zs st).take (zlC sh n G).2.2.1).reverse = zs (st.take G.2.2.1).reverse := zs_take
         rw [et]
         have ho := zOs_take (k := G.2.2.1) hO
         split at z6
         next a vals he =>
           obtain ⟨y1, y2, y0, y3⟩ := z6
           rw [he] at ho ⊢
           split at y2
           next c fs hs =>
             refine ⟨y1, ?_, y0, _, W, _, rfl, ho, rfl, hW, y3, fun v W' hv hW' hp => ⟨rfl, ?_⟩⟩
             · show (match zlW sh W a with
                 | .inr (c, _) => c = G.2.2.2.1
                 | _ => False)
               rw [zc_obj hs]
               exact y2
             · have h9 := IH r (pc + 3) lv _ W' hL (zOs_app hv (zOs_drop hO)) hW' hp
               rw [← zs_app, ← zs_drop] at h9
               exact h9
           next => exact y2.elim
         next j vals he =>
           obtain ⟨y1, y3⟩ := z6
           rw [he] at ho ⊢
           refine ⟨y1, _, W, _, rfl, ho, rfl, hW, y3, fun v W' hv hW' hp => ⟨rfl, ?_⟩⟩
           have h9 := IH r (pc + 3) lv _ W' hL (zOs_app hv (zOs_drop hO)) hW' hp
           rw [← zs_app, ← zs_drop] at h9
           exact h9
         next => exact z6.elim
       next => exact h2.elim
     next i =>
       obtain ⟨rfl, h2⟩ := h
       refine ⟨rfl, ?_⟩
       split at h2
       next v hv =>
         rw [show (zlM sh n m).2.2.1.2 = m.2.2.1.2 from rfl, hv]
         obtain ⟨hr, h3⟩ := h2
         refine ⟨hr, ?_⟩
         unfold zAc at h3
         split at h3
         next c dp b1 sp b0 s =>
           have hc := (zOs_c hO).1
           have hdp := (zOs_c (zOs_c hO).2).1
           have hsp := (zOs_c (zOs_c (zOs_c (zOs_c hO).2).2).2).1
           have hs := (zOs_c (zOs_c (zOs_c (zOs_c (zOs_c hO).2).2).2).2).2
           obtain ⟨y1, y2, y3, y7⟩ := h3
           have hneg : ∀ {z : Int}, lRg z → 0 ≤ z → ¬ lI z < 0 := fun {z} q q0 q1 => by
             have := Int32.lt_iff_toInt_lt.mp q1
             rw [lI_t q] at this
             have e0 : (0 : Int32).toInt = 0 := by decide
             omega
           show b0 < n ∧ b1 < n ∧ Nat.ble ((zs s).map jcat).sum 8 = true ∧ (¬ lI sp < 0 ∧ ¬ lI dp < 0 ∧ ¬ lI c < 0) ∧ _
           split at y7
           next n0 e0 =>
             split at y7
             next n1 e1 =>
               obtain ⟨⟨w1, w2, w3, w4, w5⟩, w6⟩ := y7
               refine ⟨y1, y2, by rw [zs_cat]; exact y3, ⟨hneg hsp w1, hneg hdp w2, hneg hc w3⟩, ?_⟩
               have eR : zlW sh W b0 = .inl (.long, n0, .inr (.inl (W.2.2.1 b0))) := by unfold zlW; rw [e0]; rfl
               have eR1 : zlW sh W b1 = .inl (.long, n1, .inr (.inl (W.2.2.1 b1))) := by unfold zlW; rw [e1]; rfl
               rw [eR, eR1]
               refine ⟨by rw [lI_cl hsp, lI_cl hc]; omega, by rw [lI_cl hdp, lI_cl hc]; omega, ?_⟩
               have h9 := IH r (pc + 3) lv _ _ hL hs (show zWok (zcL W b0 b1 sp.toNat dp.toNat c.toNat) from hW) w6
               rw [lI_cl hsp, lI_cl hdp, lI_cl hc, ← zcL_ok e1]
               exact h9
             next => exact y7.elim
           next n0 e0 =>
            split at y7
            next => exact y7.elim
            next hz1 =>
             split at y7
             next n1 e1 =>
               obtain ⟨⟨w1, w2, w3, w4, w5⟩, w7, w6⟩ := y7
               refine ⟨y1, y2, by rw [zs_cat]; exact y3, ⟨hneg hsp w1, hneg hdp w2, hneg hc w3⟩, ?_⟩
               have eR : zlW sh W b0 = .inl (.byte, n0, .inl (fun j => lI (W.2.1 b0 j))) := by unfold zlW; rw [e0]; rfl
               have eR1 : zlW sh W b1 = .inl (.byte, n1, .inl (fun j => lI (W.2.1 b1 j))) := by unfold zlW; rw [e1]; rfl
               rw [eR, eR1]
               refine ⟨by rw [lI_cl hsp, lI_cl hc]; omega, by rw [lI_cl hdp, lI_cl hc]; omega, ?_, ?_⟩
               · intro j hj
                 rw [lI_cl hc] at hj
                 rw [lI_cl hsp]
                 have := w7 j (by omega) (by omega)
                 rw [show sp + (j : Int) = ((sp.toNat + j : Nat) : Int) by omega] at this
                 rw [lI_t (hW.2 b0 _).1]
                 exact this
               · have h9 := IH r (pc + 3) lv _ _ hL hs (show zWok (zcB W b0 b1 sp dp c) from ⟨hW.1, fun a i => by
                   show lRg (va_up W.2.1 b1 _ a i) ∧ zRx a (va_up W.2.1 b1 _ a i)
                   by_cases q : a = b1
                   · subst q
                     rw [va_up_self]
                     split
                     · exact ⟨(hW.2 _ _).1, zRx_n hz1⟩
                     · exact ⟨(hW.2 _ _).1, zRx_n hz1⟩
                   · rw [va_up_ne _ _ q]; exact hW.2 _ _⟩) w6
                 rw [lI_cl hsp, lI_cl hdp, lI_cl hc, ← zcB_ok ⟨w1, w2, w3⟩ e1]
                 exact h9
             next => exact y7.elim
           next => exact y7.elim
         next c dp b1 sp j0 s =>
           have hc := (zOs_c hO).1
           have hdp := (zOs_c (zOs_c hO).2).1
           have hsp := (zOs_c (zOs_c (zOs_c (zOs_c hO).2).2).2).1
           have hs := (zOs_c (zOs_c (zOs_c (zOs_c (zOs_c hO).2).2).2).2).2
           obtain ⟨y2, y3, y7⟩ := h3
           have hneg : ∀ {z : Int}, lRg z → 0 ≤ z → ¬ lI z < 0 := fun {z} q q0 q1 => by
             have := Int32.lt_iff_toInt_lt.mp q1
             rw [lI_t q] at this
             have e0 : (0 : Int32).toInt = 0 := by decide
             omega
           show b1 < n ∧ Nat.ble ((zs s).map jcat).sum 8 = true ∧ (¬ lI sp < 0 ∧ ¬ lI dp < 0 ∧ ¬ lI c < 0) ∧ _
           split at y7
           next n0 u e0 =>
            split at y7
            next => exact y7.elim
            next hz1 =>
             split at y7
             next n1 e1 =>
               obtain ⟨⟨w1, w2, w3, w4, w5⟩, w7, w6⟩ := y7
               refine ⟨y2, by rw [zs_cat]; exact y3, ⟨hneg hsp w1, hneg hdp w2, hneg hc w3⟩, ?_⟩
               have eR1 : zlW sh W b1 = .inl (.byte, n1, .inl (fun j => lI (W.2.1 b1 j))) := by unfold zlW; rw [e1]; rfl
               (try rw [e0])
               rw [eR1]
               refine ⟨by rw [lI_cl hsp, lI_cl hc]; omega, by rw [lI_cl hdp, lI_cl hc]; omega, ?_, ?_⟩
               · intro j hj
                 rw [lI_cl hc] at hj
                 rw [lI_cl hsp]
                 exact w7 j hj
               · have h9 := IH r (pc + 3) lv _ _ hL hs (show zWok (zcT W u b1 sp dp c) from ⟨hW.1, fun a i => by
                   show lRg (va_up W.2.1 b1 _ a i) ∧ zRx a (va_up W.2.1 b1 _ a i)
                   by_cases q : a = b1
                   · subst q
                     rw [va_up_self]
                     split
                     · exact ⟨lI_r _, zRx_n hz1⟩
                     · exact ⟨(hW.2 _ _).1, zRx_n hz1⟩
                   · rw [va_up_ne _ _ q]; exact hW.2 _ _⟩) w6
                 rw [lI_cl hsp, lI_cl hdp, lI_cl hc, ← zcT_ok ⟨w1, w2, w3⟩ e1]
                 exact h9
             next => exact y7.elim
           next => exact y7.elim
         next => exact h3.elim
       next hv6 =>
         split at h2
         next y x s =>
           have hy := (zOs_c hO).1
           have hx := (zOs_c (zOs_c hO).2).1
           have hs := (zOs_c (zOs_c hO).2).2
           split at h2
           next v hv =>
             obtain ⟨⟨r1, r2, r3⟩, h3⟩ := h2
             have h9 := IH r (pc + 3) lv _ W hL (zOs_m (v := .inl _) (by show lRg _; split; exact hy; exact hx) hs) hW h3
             rw [show (zlM sh n m).2.2.1.2 = m.2.2.1.2 from rfl, hv6]
             show (match aSpf 8 i 0 m.2.2.1.2 with
               | some _ => (Nat.ble 1 m.2.1.frames = true ∧ Nat.ble 21 m.2.1.locals = true ∧ Nat.ble ((zs s).map jcat).sum 8 = true) ∧ lwpE tb n (zlM sh n m) ex Xe post' k r (pc + 3) (zl lv) (.inl (if lI x < lI y then lI y else lI x) :: zs s) (zlW sh W)
               | none => (match aSpf 9 i 0 m.2.2.1.2 with
                 | some _ => (Nat.ble 1 m.2.1.frames = true ∧ Nat.ble 21 m.2.1.locals = true ∧ Nat.ble ((zs s).map jcat).sum 8 = true) ∧ lwpE tb n (zlM sh n m) ex Xe post' k r (pc + 3) (zl lv) (.inl (if lI y < lI x then lI y else lI x) :: zs s) (zlW sh W)
                 | none => False))
             rw [hv]
             refine ⟨⟨r1, r2, by rw [zs_cat]; exact r3⟩, ?_⟩
             have e9 : (if lI x < lI y then lI y else lI x) = lI (if x < y then y else x) := by
               by_cases c : x < y
               · rw [if_pos c, if_pos (Int32.lt_iff_toInt_lt.mpr (by rw [lI_t hx, lI_t hy]; exact c))]
               · rw [if_neg c, if_neg (fun z => c (by have := Int32.lt_iff_toInt_lt.mp z; rw [lI_t hx, lI_t hy] at this; exact this))]
             rw [e9]
             exact h9
           next hv8 =>
             split at h2
             next v hv =>
               obtain ⟨⟨r1, r2, r3⟩, h3⟩ := h2
               have h9 := IH r (pc + 3) lv _ W hL (zOs_m (v := .inl _) (by show lRg _; split; exact hy; exact hx) hs) hW h3
               rw [show (zlM sh n m).2.2.1.2 = m.2.2.1.2 from rfl, hv6]
               show (match aSpf 8 i 0 m.2.2.1.2 with
                 | some _ => (Nat.ble 1 m.2.1.frames = true ∧ Nat.ble 21 m.2.1.locals = true ∧ Nat.ble ((zs s).map jcat).sum 8 = true) ∧ lwpE tb n (zlM sh n m) ex Xe post' k r (pc + 3) (zl lv) (.inl (if lI x < lI y then lI y else lI x) :: zs s) (zlW sh W)
                 | none => (match aSpf 9 i 0 m.2.2.1.2 with
                   | some _ => (Nat.ble 1 m.2.1.frames = true ∧ Nat.ble 21 m.2.1.locals = true ∧ Nat.ble ((zs s).map jcat).sum 8 = true) ∧ lwpE tb n (zlM sh n m) ex Xe post' k r (pc + 3) (zl lv) (.inl (if lI y < lI x then lI y else lI x) :: zs s) (zlW sh W)
                   | none => False))
               rw [hv8, hv]
               refine ⟨⟨r1, r2, by rw [zs_cat]; exact r3⟩, ?_⟩
               have e9 : (if lI y < lI x then lI y else lI x) = lI (if y < x then y else x) := by
                 by_cases c : y < x
                 · rw [if_pos c, if_pos (Int32.lt_iff_toInt_lt.mpr (by rw [lI_t hx, lI_t hy]; exact c))]
                 · rw [if_neg c, if_neg (fun z => c (by have := Int32.lt_iff_toInt_lt.mp z; rw [lI_t hx, lI_t hy] at this; exact this))]
               rw [e9]
               exact h9
             next => exact h2.elim
         next => exact h2.elim
     next => exact h.elim
section ZMTE
variable {l : Launch} {E : jE} {own : String} {Ts : List Jvm.Cond} {cl : List vw_C} {tb : jTb} {nL : Nat} {ini : Bool} {cc : ByteArray} {M : jM} {n : Nat} {sh : Nat → zS}
/-- a stretch of a method, between its exits -/
theorem zwpE_run {m : zM} {ex : Nat → Bool} {Xz : Nat → List (Option zv) → List zv → zW → Prop} {post : zPo} {post' : jPo} {ca sl : Nat} (hC : jCl Ts cl) (X : jX E own Ts cl tb nL ini cc M) (hl : M.2.1 = l) (hR : M.2.2.2.1 = m.2.1) (hr : M.2.2.2.2.2.2.2.2.1.sig.returnType = m.1) (hsp : ∀ q ∈ m.2.2.1.2, aSpQ own Ts q) (hlk : ∀ q ∈ m.2.2.1.1, ∀ G, m.2.2.2.1[q.2.2]? = some G → jlm Ts q.2.1 own q.1 G.1.1 = true) (hG : ∀ G ∈ m.2.2.2.1, zHas l E cl tb Ts sh n G) (hok : jokLQ own Ts cl tb nL ini cc 0 m.2.2.2.2 = true) (hpo : ∀ v W, zOv v → zWok W → post v W → post' (Option.map zj v) (zlW sh W) n) (hX : ∀ pc lv st W, zOl lv → zOs st → zWok W → ex pc = true → Xz pc lv st W → jJ E cl nL M (jQ E cl M post' m.2.1.cells m.2.1.slots) n ca sl pc (zl lv) (zs st) (zlW sh W)) (hca : ca ≤ m.2.1.cells) (hsl : sl ≤ m.2.1.slots) (k : Nat) (js : List jI) (pc : Nat) (lv : List (Option zv)) (st : List zv) (W : zW) (hj : jokLQ own Ts cl tb nL ini cc pc js = true) (hL : zOl lv) (hO : zOs st) (hW : zWok W) (h : zwpE tb sh n m ex Xz post k js pc lv st W) : jJ E cl nL M (jQ E cl M post' m.2.1.cells m.2.1.slots) n ca sl pc (zl lv) (zs st) (zlW sh W) := by
  refine lwpE_run (m := zlM sh n m) (ex := ex) (Xe := fun pc lv st σ => ∃ lz sz W, lv = zl lz ∧ st = zs sz ∧ σ = zlW sh W ∧ zOl lz ∧ zOs sz ∧ zWok W ∧ Xz pc lz sz W) (post := post') hC X hl hR hr hsp (fun q hq G hg => ?_) (fun G hg => ?_) hok ?_ hca hsl k js pc _ _ _ hj ?_
  · have e : (zlM sh n m).2.2.2.1[q.2.2]? = (m.2.2.2.1[q.2.2]?).map (zlC sh n) := List.getElem?_map
    rw [e] at hg
    cases e2 : m.2.2.2.1[q.2.2]? with
    | none => rw [e2] at hg; cases hg
    | some G' =>
      rw [e2] at hg
      obtain rfl := Option.some.inj hg
      exact hlk q hq G' e2
  · obtain ⟨G', h1, rfl⟩ := List.mem_map.mp hg
    refine ⟨(hG G' h1).1, ?_⟩
    rintro vals σ po ⟨vz, W, po', rfl, h2, rfl, h3, h4, h5⟩
    refine jMet_post ((hG G' h1).2 vz W po' h2 h3 h4) ?_
    rintro r σ' n' ⟨rfl, v', W', rfl, h6, h7, rfl, h8⟩
    exact h5 v' W' h6 h7 h8
  · rintro pc lv st σ hx ⟨lz, sz, W, rfl, rfl, rfl, h1, h2, h3, h4⟩
    exact hX pc lz sz W h1 h2 h3 hx h4
  · exact zwpE_lwpE (fun pc lv st W h1 h2 h3 h4 h5 => ⟨lv, st, W, rfl, rfl, rfl, h1, h2, h3, h5⟩) hpo k js pc lv st W hL hO hW h
end ZMTE
end
section
/-! the switch of perform -/
section SWZ
variable {E : jE} {own : String} {Ts : List Jvm.Cond} {cl : List vw_C} {tb : jTb} {nL n : Nat} {ini : Bool} {cc : ByteArray} {M : jM} {Q : State → Prop} {cells slots : Nat}
theorem jk_callUz (X : jX E own Ts cl tb nL ini cc M) {rm rc : Room} (hR : M.2.2.2.1 = rm) {pc i k : Nat} {C owner : String} {x : MethodName} {Y : jY} (hd : decode cc pc = .ok (.invokevirtual i, 3)) (hT : GoodIn (jTA Ts) (va_wsU own i C owner x Y.1 (jws Ts Y))) (hyx : Y.1 = ⟨owner, x.name, x.desc⟩) (hdd : owner ≠ "java/lang/invoke/MethodHandle" ∧ owner ≠ "java/lang/invoke/VarHandle" ∧ (parseMethodDescriptor x.desc).map (fun d => d.parameters.length) = some k) {o : Nat × String × List (String × String × String × jSv)} (ho1 : o ∈ js0.1) (hoc : o.2.1 = C) {lv : List (Option jv)} {r vals : List jv} {σ : Nat → jcell} {post : jPo} (hM : jMet M.2.1 E cl tb Ts Y rc (.inr (.inr (some (.inr o.1))) :: vals) σ n post) {st : List jv} (hs : st = vals.reverse ++ .inr (.inr (some (.inr o.1))) :: r) (hk : vals.length = k)
    (hf : rc.frames + 1 ≤ rm.frames ∧ 8 + (Y.2.2.1 + 11) + rc.locals ≤ rm.locals) (hc : cells + rc.cells ≤ rm.cells ∧ slots + rc.slots ≤ rm.slots) (hz : (r.map jcat).sum ≤ 8)
    (kk : ∀ (v : Option jv) (σ' : Nat → jcell) (n' : Nat), post v σ' n' → jJ E cl nL M Q n' (cells + rc.cells) (slots + rc.slots) (pc + 3) lv (v.toList ++ r) σ') : jJ E cl nL M Q n cells slots pc lv st σ := by
  subst hs
  obtain ⟨p, l, e, R, s, m, args, below, meth, c⟩ := M
  dsimp only at hR
  subst hR
  obtain ⟨hx, hb, hml, ho, hts, hK, -, -⟩ := X
  intro H locs ls hW hS hL
  obtain ⟨cellB, hcB, hoB, hclB, -⟩ := (hK.2.1.2.1 _ ho1).1.kept hS.2.1
  rw [hoc] at hclB
  have hpre : PreV s H C (E.2.2.1 o.1) (jPc E cl tb Ts (.inr (.inr (some (.inr o.1))) :: vals) σ n) (vals.map (jc E)) := ⟨jPc_blind, ⟨cellB, hcB, hoB, hclB⟩, fun U hU hWm => ⟨rfl, by rw [hU]; exact hW, jK_go hK hS hU hWm⟩⟩
  have hstk : ((vals.reverse ++ .inr (.inr (some (.inr o.1))) :: r).map (jc E)) = (vals.map (jc E)).reverse ++ .ref (E.2.2.1 o.1) :: r.map (jc E) := by rw [List.map_append, List.map_reverse]; rfl
  have hgo : ∀ (v : Option jv) (σ' : Nat → jcell) (n' : Nat), post v σ' n' → ∀ (H1 : Heap) (locs1 : List Loc), jW E cl σ' n' H1 → va_S (jA E) s.heap H1 locs1 → W p l e R s m args below meth c H1 locs1 (cells + rc.cells) (slots + rc.slots) Q (F0 m (pc + 3) ls ((v.map (jc E)).toList ++ r.map (jc E))) := by
    intro v σ' n' hp H1 locs1 hW1 hS1
    have h := kk v σ' n' hp H1 locs1 ls hW1 hS1 hL
    have e1 : (v.toList ++ r).map (jc E) = (v.map (jc E)).toList ++ r.map (jc E) := by cases v <;> simp
    rw [e1] at h
    exact h
  exact jk_after (va_runU (C := C) (owner := owner) (x := x) (b := E.2.2.1 o.1) (As := vals.map (jc E)) (rest := r.map (jc E)) (Ts := jTA Ts) ⟨hx, hb, hml, ho, hts⟩ hM (va_cwU k hts hT rfl rfl rfl hyx hdd hf) hpre rfl (by rw [List.length_map]; exact hk) hL.1 hstk (lv_room (by rw [jcat_sum]; exact hz)) hd hc) hS hgo
end SWZ
noncomputable def y_EU_ordinal : jY := (⟨"java/lang/Enum", "ordinal", "()I"⟩, prog_20_method_2_code, 1, some .int)
noncomputable def lk_EU : jLk := ([], [], [])
theorem lo_EU : jLkOk "java/lang/Enum" lw_tbl jcl jtb lk_EU := ⟨fun q h => (by cases h), fun q h => (by cases h), fun q h => (by cases h)⟩
noncomputable def ke_0 : List jI := [(.aload_n 0, 1, (0, 0, 0, 0, 0))]
theorem oe_0 : jokL "java/lang/Enum" lw_tbl jcl jtb 1 false prog_20_method_2_code 0 ke_0 = true := jokLF_ok (fun _ _ => jtF_ok) lo_EU (by decide +kernel)
theorem de_1 : decode prog_20_method_2_code 1 = .ok (.getfield 7, 3) := by decide +kernel
theorem de_4 : decode prog_20_method_2_code 4 = .ok (.ireturn, 1) := by decide +kernel
theorem c_EU_ordinal {l : Launch} {E : jE} {σ : Nat → jcell} {n : Nat} {o : Nat × String × List (String × String × String × jSv)} (ho : o ∈ js0.1) {v : Int32} (hf : ("java/lang/Enum", "ordinal", "I", Sum.inl v) ∈ o.2.2) : jMet l E jcl jtb lw_tbl y_EU_ordinal { frames := 0, cells := 0, slots := 0, locals := 0 } [.inr (.inr (some (.inr o.1)))] σ n (fun r σ' n' => r = some (.inl v) ∧ σ' = σ ∧ n' = n) := by
  refine jMet_of (hY := rfl) false (fun h => by cases h) (by decide) (Nat.le_of_ble_eq_true rfl) [some (.inr (.inr (some (.inr o.1))))] rfl ?_
  intro M hl hR X hr
  refine jrun_ok jC X ke_0 0 _ _ _ oe_0 ?_
  simp only [ke_0, jrun, jstep, jldi, jldl, jlda, j1, j2, jl1, jl2, jli, ja1, jbr, jald, jast, jlald, jlast, jalen, jget, jput, jfit, jdup, jdupx, jdupx2, jdup2, jcat, jset1, jset2, jkill, List.getElem?_cons_zero, List.getElem?_cons_succ, List.set_cons_zero, List.set_cons_succ, List.length_cons, List.length_nil, Nat.reduceAdd, Nat.reduceLT, Int32.reduceToNatClampNeg, true_and, and_true, and_self, reduceCtorEq, not_false_eq_true, false_and, and_false, or_false, false_or, true_or, or_true]
  refine jk_gfo X de_1 ho hf (jTA_in (wi := 3304) (jtF_ok rfl) rfl) ?_
  exact jk_iret X de_4 hr rfl (Nat.le_refl _) (Nat.le_refl _) ⟨rfl, rfl, rfl⟩
theorem gi_ordinal : GoodIn (jTA lw_tbl) (va_wsU "ChessHouse" 137 "ChessHouse$Command" "java/lang/Enum" ⟨"ChessHouse$Command", "ordinal", "()I"⟩ y_EU_ordinal.1 (jws lw_tbl y_EU_ordinal)) := by
  intro w hw
  unfold va_wsU at hw
  rcases List.mem_append.mp hw with h | h
  · rcases List.mem_cons.mp h with rfl | h
    · exact ⟨jTA_in (wi := 1043) (jtF_ok rfl) rfl, Or.inl rfl⟩
    rcases List.mem_cons.mp h with rfl | h
    · exact ⟨jTA_in (wi := 1044) (jtF_ok rfl) rfl, Or.inl rfl⟩
    rcases List.mem_cons.mp h with rfl | h
    · exact ⟨jTA_in (wi := 1046) (jtF_ok rfl) rfl, Or.inl rfl⟩
    rcases List.mem_cons.mp h with rfl | h
    · exact ⟨jTA_in (wi := 1047) (jtF_ok rfl) rfl, Or.inl rfl⟩
    rcases List.mem_cons.mp h with rfl | h
    · exact ⟨jTA_in (wi := 322) (jtF_ok rfl) rfl, Or.inl rfl⟩
    cases h
  · exact jws_in (jTA_in (wi := 1048) (jtF_ok rfl) rfl) w h
theorem zsw_ob : (List.range 28).all (fun k => js0.1.any (fun o => decide (o.1 = 3000 + k) && decide (o.2.1 = "ChessHouse$Command") && o.2.2.any (fun f => decide (f.1 = "java/lang/Enum") && decide (f.2.1 = "ordinal") && decide (f.2.2.1 = "I") && (match f.2.2.2 with
  | .inl v => decide (v.toInt = (k : Int))
  | .inr _ => false)))) = true := by decide +kernel
theorem zsw_tv : (List.range 28).all (fun i => decide ((tv_2.getD i 0).toInt = (i : Int))) = true := by decide +kernel
theorem zsw_one {k : Nat} (hk : k ≤ 27) : ∃ o ∈ js0.1, o.1 = 3000 + k ∧ o.2.1 = "ChessHouse$Command" ∧ ∃ v : Int32, ("java/lang/Enum", "ordinal", "I", Sum.inl v) ∈ o.2.2 ∧ v.toInt = (k : Int) := by
  have h := List.all_eq_true.mp zsw_ob k (List.mem_range.mpr (by omega))
  obtain ⟨o, ho, h3⟩ := List.any_eq_true.mp h
  rw [Bool.and_eq_true, Bool.and_eq_true, decide_eq_true_eq, decide_eq_true_eq] at h3
  obtain ⟨⟨e1, e2⟩, h4⟩ := h3
  obtain ⟨⟨f1, f2, f3, f4⟩, hf, h5⟩ := List.any_eq_true.mp h4
  rw [Bool.and_eq_true, Bool.and_eq_true, Bool.and_eq_true, decide_eq_true_eq, decide_eq_true_eq, decide_eq_true_eq] at h5
  obtain ⟨⟨⟨g1, g2⟩, g3⟩, g4⟩ := h5
  dsimp only at g1 g2 g3 g4
  subst g1 g2 g3
  refine ⟨o, ho, e1, e2, ?_⟩
  cases f4 with
  | inl v =>
    rw [decide_eq_true_eq] at g4
    exact ⟨v, hf, g4⟩
  | inr j => cases g4
noncomputable def kw_0 : List jI := [(.getstatic 132, 3, (2, 0, 1041, 0, 0)), (.aload_n 1, 1, (1, 0, 0, 0, 0))]
theorem ow_0 : jokL "ChessHouse" lw_tbl jcl jtb 5 false prog_1_method_8_code 0 kw_0 = true := jokLF_ok (fun _ _ => jtF_ok) lo_CH (by decide +kernel)
theorem dw_4 : decode prog_1_method_8_code 4 = .ok (.invokevirtual 137, 3) := by decide +kernel
theorem dw_7 : decode prog_1_method_8_code 7 = .ok (.iaload, 1) := by decide +kernel
theorem zsw_perform {E : jE} {M : jM} {Q : State → Prop} {n ca sl : Nat} {rm : Room} (X : jX E "ChessHouse" lw_tbl jcl jtb 5 false prog_1_method_8_code M) (hR : M.2.2.2.1 = rm) (hf1 : 1 ≤ rm.frames) (hf2 : 20 ≤ rm.locals) (hc : ca ≤ rm.cells ∧ sl ≤ rm.slots) {lv : List (Option jv)} {σ : Nat → jcell} {k : Nat} (hk : k ≤ 27) (hl : lv[1]? = some (some (.inr (.inr (some (.inr (3000 + k))))))) (kk : ∀ x : Int32, x.toInt = (k : Int) → jJ E jcl 5 M Q n ca sl 8 lv [.inl x] σ) : jJ E jcl 5 M Q n ca sl 0 lv [] σ := by
  obtain ⟨o, ho, ho2, hoc, v, hv, v1⟩ := zsw_one hk
  rw [← ho2] at hl
  refine jrun_ok jC X kw_0 0 _ _ _ ow_0 ?_
  simp only [kw_0, jrun, jstep, jldi, jldl, jlda, j1, j2, jl1, jl2, jli, ja1, jbr, jald, jast, jlald, jlast, jalen, jget, jput, jfit, jdup, jdupx, jdupx2, jdup2, jcat, jset1, jset2, jkill, List.getElem?_cons_zero, List.getElem?_cons_succ, List.set_cons_zero, List.set_cons_succ, List.length_cons, List.length_nil, Nat.reduceAdd, Nat.reduceLT, Int32.reduceToNatClampNeg, true_and, and_true, and_self, reduceCtorEq, not_false_eq_true, false_and, and_false, or_false, false_or, true_or, or_true, hl]
  refine jk_callUz X hR dw_4 gi_ordinal rfl ⟨by decide, by decide, by decide⟩ ho hoc (vals := []) (r := [.inr (.inr (some (.inr 2)))]) (c_EU_ordinal ho hv) rfl rfl ⟨hf1, hf2⟩ hc (by decide) ?_
  rintro _ _ _ ⟨rfl, rfl, rfl⟩
  have hvn : v.toNatClampNeg = k := by
    show v.toInt.toNat = k
    omega
  have hin : v.toNatClampNeg < 28 := by omega
  have ht := List.all_eq_true.mp zsw_tv v.toNatClampNeg (List.mem_range.mpr hin)
  rw [decide_eq_true_eq] at ht
  refine jk_ialdT X dw_7 (j := 2) rfl (fun h => ?_) (kk _ (by rw [← hvn]; exact ht))
  rcases h with h | h
  · have h9 := Int32.lt_iff_toInt_lt.mp h
    rw [show (0 : Int32).toInt = 0 from rfl] at h9
    omega
  · exact absurd hin (Nat.not_lt.mpr h)
section ZMS
variable {l : Launch} {E : jE} {own : String} {Ts : List Jvm.Cond} {cl : List vw_C} {tb : jTb} {nL : Nat} {cc : ByteArray} {n : Nat} {sh : Nat → zS}
theorem zwpE_x {tb : jTb} {sh : Nat → zS} {n : Nat} {m : zM} {ex : Nat → Bool} {Xz : Nat → List (Option zv) → List zv → zW → Prop} {post : zPo} {k : Nat} {x : jI} {r : List jI} {pc : Nat} {lv : List (Option zv)} {st : List zv} {W : zW} (he : ex pc = true) (h : Xz pc lv st W) : zwpE tb sh n m ex Xz post (k + 1) (x :: r) pc lv st W := by
  unfold zwpE
  rw [he]
  exact h
/-- a method of which a first stretch is walked by hand -/
theorem zmetS {m : zM} {ex : Nat → Bool} {Xz : Nat → List (Option zv) → List zv → zW → Prop} {post : zPo} {Y : jY} {nm ds : String} {g : Nat → Option Jvm.Cond} {L : jLk} {vz : List zv} {W : zW} {tg : Nat} {st : List zv} (hY : Y = (⟨own, nm, ds⟩, cc, nL, m.1)) (hy : plainName own = true) (hgg : ∀ i w, g i = some w → Ts[i]? = some w) (hL : jLkOk own Ts cl tb L) (hok : jokLG g L own cl tb nL cc 0 m.2.2.2.2 = true) (hC : jCl Ts cl) (hsp : ∀ q ∈ m.2.2.1.2, aSpQ own Ts q) (hlk : ∀ q ∈ m.2.2.1.1, ∀ G, m.2.2.2.1[q.2.2]? = some G → jlm Ts q.2.1 own q.1 G.1.1 = true) (hG : ∀ G ∈ m.2.2.2.1, zHas l E cl tb Ts sh n G) (hlen : (lg_sl ((zs vz).map (jc E))).length ≤ nL) (hO : zOs vz) (hst : zOs st) (hW : zWok W) (post' : jPo) (hpo : ∀ v W, zOv v → zWok W → post v W → post' (Option.map zj v) (zlW sh W) n) (hsw : ∀ M : jM, M.2.2.2.1 = m.2.1 → jX E own Ts cl tb nL false cc M → jJ E cl nL M (jQ E cl M post' m.2.1.cells m.2.1.slots) n 0 0 tg (zl (zent vz nL)) (zs st) (zlW sh W) → jJ E cl nL M (jQ E cl M post' m.2.1.cells m.2.1.slots) n 0 0 0 (zl (zent vz nL)) [] (zlW sh W)) (hX : ∀ M : jM, M.2.1 = l → M.2.2.2.1 = m.2.1 → jX E own Ts cl tb nL false cc M → M.2.2.2.2.2.2.2.2.1.sig.returnType = m.1 → ∀ pc lv st W, zOl lv → zOs st → zWok W → ex pc = true → Xz pc lv st W → jJ E cl nL M (jQ E cl M post' m.2.1.cells m.2.1.slots) n 0 0 pc (zl lv) (zs st) (zlW sh W)) (k : Nat) (h : zwpE tb sh n m ex Xz post k (lGo m.2.2.2.2 tg) tg (zent vz nL) st W) : jMet l E cl tb Ts Y m.2.1 (zs vz) (zlW sh W) n post' := by
  have hok2 := jokLG_ok hgg hL hok
  refine jMet_of hY false (fun h => by cases h) hy hlen _ rfl (fun M hl hR X hr => ?_)
  rw [← zl_ent]
  refine hsw M hR X ?_
  unfold lGo at h
  split at h
  next js' hj => exact zwpE_run hC X hl hR hr hsp hlk hG hok2 hpo (hX M hl hR X hr) (Nat.zero_le _) (Nat.zero_le _) k js' tg _ _ W (aSuf_ok hok2 hj) (zOl_ent hO) hst hW h
  next =>
    cases k with
    | zero => unfold zwpE at h; exact h.elim
    | succ k => unfold zwpE at h; exact h.elim
end ZMS
end
section
/-! one command performed: what it does to the game, and whether it is a fault -/
noncomputable def yCn (W : zW) (g : Nat) (T : xT) (R : Int → Int) (h : Int) (G : xG) : Prop := yCq g W ∧ yWg W g T R h ∧ yTg W g G ∧ T.2.2.2.2.2 0 = 0 ∧ yBn 65536 2 W ∧ ySp W (93 - g)
theorem yCn_m {W : zW} {g : Nat} {T : xT} {R : Int → Int} {h : Int} {G : xG} (c : yCm W g T R h G) : yCn W g T R h G := ⟨c.1, c.2.2.1, c.2.2.2.1, c.2.2.2.2.1, c.2.2.2.2.2.1, c.2.2.2.2.2.2.2⟩
theorem yCn_l {W : zW} {g : Nat} {T : xT} {R : Int → Int} {h : Int} {G : xG} (c : yCn W g T R h G) (l : yLn W) : yCm W g T R h G := ⟨c.1, l, c.2.1, c.2.2.1, c.2.2.2.1, c.2.2.2.2.1, trivial, c.2.2.2.2.2⟩
/-- what no command touches: the tape, what was fed, what is not the class's -/
noncomputable def yFo (W V : zW) : Prop := V.2.1 1 = W.2.1 1 ∧ V.1 0 12 = W.1 0 12 ∧ (∀ a, 87 ≤ a → V.1 a = W.1 a ∧ V.2.1 a = W.2.1 a ∧ V.2.2.1 a = W.2.2.1 a ∧ V.2.2.2.1 a = W.2.2.2.1 a) ∧ V.2.2.2.2 = W.2.2.2.2 ∧ V.2.2.2.1 29 = W.2.2.2.1 29
theorem yFo_q {W V : zW} {Fs : List (Nat × Nat)} {Rs Ls : List Nat} {Qs : List (Nat × Nat)} (h : yFq Fs Rs Ls Qs W V) (q1 : (Fs.all (fun p => decide (p.1 < 87 ∧ ¬ p = (0, 12)))) = true := by decide) (q2 : (Rs.all (fun a => decide (a < 87 ∧ ¬ a = 1))) = true := by decide) (q3 : (Ls.all (fun a => decide (a < 87))) = true := by decide) (q4 : (Qs.all (fun p => decide (p.1 < 87 ∧ ¬ p.1 = 29))) = true := by decide) : yFo W V := by
  refine ⟨h.2.1 1 (fun z => (of_decide_eq_true (List.all_eq_true.mp q2 _ z)).2 rfl), h.1 0 12 (fun z => (of_decide_eq_true (List.all_eq_true.mp q1 _ z)).2 rfl), fun a ha => ⟨?_, ?_, ?_, ?_⟩, h.2.2.2.2, ?_⟩
  · funext i
    exact h.1 a i (fun z => by have := (of_decide_eq_true (List.all_eq_true.mp q1 _ z)).1; omega)
  · exact h.2.1 a (fun z => by have := (of_decide_eq_true (List.all_eq_true.mp q2 _ z)).1; omega)
  · exact h.2.2.1 a (fun z => by have := of_decide_eq_true (List.all_eq_true.mp q3 _ z); omega)
  · funext i
    exact h.2.2.2.1 a i (fun z => by have := (of_decide_eq_true (List.all_eq_true.mp q4 _ z)).1; omega)
  · funext i
    exact h.2.2.2.1 29 i (fun z => (of_decide_eq_true (List.all_eq_true.mp q4 _ z)).2 rfl)
theorem yFo_y {W V : zW} {Fs : List (Nat × Nat)} {Rs Ls : List Nat} (h : zFy Fs Rs Ls W V) (q1 : (Fs.all (fun p => decide (p.1 < 87 ∧ ¬ p = (0, 12)))) = true := by decide) (q2 : (Rs.all (fun a => decide (a < 87 ∧ ¬ a = 1))) = true := by decide) (q3 : (Ls.all (fun a => decide (a < 87))) = true := by decide) : yFo W V := yFo_q (Qs := []) (yFq_y h) q1 q2 q3 (by decide)
theorem yFo_t {W V U : zW} (h : yFo W V) (h2 : yFo V U) : yFo W U := ⟨h2.1.trans h.1, h2.2.1.trans h.2.1, fun a ha => ⟨((h2.2.2.1 a ha).1).trans (h.2.2.1 a ha).1, ((h2.2.2.1 a ha).2.1).trans (h.2.2.1 a ha).2.1, ((h2.2.2.1 a ha).2.2.1).trans (h.2.2.1 a ha).2.2.1, ((h2.2.2.1 a ha).2.2.2).trans (h.2.2.1 a ha).2.2.2⟩, h2.2.2.2.1.trans h.2.2.2.1, h2.2.2.2.2.trans h.2.2.2.2⟩
/-- same game -/
noncomputable def yEq (T : xT) (h : Int) (G : xG) (T' : xT) (h' : Int) (G' : xG) : Prop := T' = T ∧ h' = h ∧ G' = G
noncomputable def yGx (W : zW) (a e : Int) : Prop := ∀ i, a ≤ i → i < e → W.2.1 1 i = 10 ∨ (32 ≤ W.2.1 1 i ∧ W.2.1 1 i ≤ 126)
noncomputable def ySt0 (W : zW) (nn : Int) (k : Nat) (T : xT) (h : Int) (G : xG) (T' : xT) (h' : Int) (G' : xG) (e nx : Int) : Prop := match k with
  | 0 => yEq T h G T' h' G' ∧ e = 1
  | 1 => T' = xNw ((uM, 0, 15, -1), 1) ∧ h' = 0 ∧ G' = yG0 ∧ e = 0
  | 2 => ∃ x : Int, xBh (W.2.1 1) (W.1 4 2) (W.1 4 4) 1 x ∧ (((x < 0 ∨ ∀ q k m, pTx (xLk (W.2.1 1) (W.1 4 2)) x (W.1 4 2) q k m → ¬ pSd q) ∧ yEq T h G T' h' G' ∧ e = 1) ∨ (0 ≤ x ∧ e = 0 ∧ ∃ q k m, pTx (xLk (W.2.1 1) (W.1 4 2)) x (W.1 4 2) q k m ∧ pSd q ∧ T' = xNw (q, m) ∧ h' = 0 ∧ G' = gGf (fun j => W.2.1 1 (x + j)) (W.1 4 2 - x)))
  | 3 => ∃ b : Int, gTe (W.2.1 1) nn (W.1 0 13) b nx ∧ ((yGx W (W.1 0 13) b ∧ gRd (fun i => W.2.1 1 (W.1 0 13 + i)) (b - W.1 0 13) (some (T', G')) ∧ h' = 0 ∧ e = 0) ∨ ((¬ yGx W (W.1 0 13) b ∨ gRd (fun i => W.2.1 1 (W.1 0 13 + i)) (b - W.1 0 13) none) ∧ yEq T h G T' h' G' ∧ e = 1))
  | 8 => xPy (yWw W) (W.1 4 1 - 1).toNat 1 T h T' h' e ∧ G' = G
  | 9 => ∃ x : Int, yNu W 1 0 300 x ∧ (((x < 0 ∨ xBk T.2.2.1 x.toNat h = none) ∧ yEq T h G T' h' G' ∧ e = 1) ∨ (0 ≤ x ∧ xBk T.2.2.1 x.toNat h = some h' ∧ T' = T ∧ G' = G ∧ e = 0))
  | 10 => ∃ x : Int, yNu W 1 0 300 x ∧ ((¬ (0 ≤ x ∧ x ≤ T.2.1) ∧ yEq T h G T' h' G' ∧ e = 1) ∨ ((0 ≤ x ∧ x ≤ T.2.1) ∧ T' = T ∧ h' = x ∧ G' = G ∧ e = 0))
  | 11 => ∃ x : Int, yNu W 1 0 255 x ∧ ((xMf T h x ∧ yEq T h G T' h' G' ∧ e = 1) ∨ (¬ xMf T h x ∧ T' = xMa T h ∧ h' = h ∧ G' = G ∧ e = 0))
  | 12 => yEq T h G T' h' G' ∧ ∃ t : Int, yTb W t ∧ ((yRq W t ∧ e = 1) ∨ (¬ yRq W t ∧ e = 0))
  | 13 => (xLb T h ∧ yEq T h G T' h' G' ∧ e = 1) ∨ (¬ xLb T h ∧ T' = xLe T h ∧ h' = h ∧ G' = G ∧ e = 0)
  | 14 => yEq T h G T' h' G' ∧ ((yIr W 1 ∧ e = 0) ∨ (¬ yIr W 1 ∧ e = 1))
  | 15 => ∃ n t : Int, xBh (W.2.1 1) (W.1 4 2) (W.1 4 4) 1 n ∧ xBh (W.2.1 1) (W.1 4 2) (W.1 4 4) 2 t ∧ ((yTq W G n t ∧ yEq T h G T' h' G' ∧ e = 1) ∨ (¬ yTq W G n t ∧ T' = T ∧ h' = h ∧ e = 0 ∧ yTw G G' (fun j => W.2.1 1 (n + j)) (t - 1 - n) (fun j => W.2.1 1 (t + j)) (W.1 4 2 - t)))
  | 17 => yEq T h G T' h' G' ∧ ∃ x : Int, yNu W 1 0 3 x ∧ (((x < 0 ∨ yTm (yP T h).1 30000000 x) ∧ e = 1) ∨ (¬ (x < 0 ∨ yTm (yP T h).1 30000000 x) ∧ e = 0))
  | 19 => yEq T h G T' h' G' ∧ ∃ x : Int, yNu W 1 1 4 x ∧ ((yTkb W (yP T h).1 x ∧ e = 1) ∨ (¬ yTkb W (yP T h).1 x ∧ e = 0))
  | 20 => yEq T h G T' h' G' ∧ ∃ x y : Int, yNu W 2 1 4 x ∧ yNu W 3 (-999999999) 999999999 y ∧ (((x = -1000000000 ∨ y = -1000000000 ∨ xMe (yP T h).1 (yWw W 1) (-1) ∨ yTm (yP T h).1 30000000 x) ∧ e = 1) ∨ ((¬ x = -1000000000 ∧ ¬ y = -1000000000 ∧ (∃ mv, 0 ≤ mv ∧ xMe (yP T h).1 (yWw W 1) mv) ∧ ¬ yTm (yP T h).1 30000000 x) ∧ e = 0))
  | 21 => yEq T h G T' h' G' ∧ ∃ x : Int, yNu W 1 0 128 x ∧ ((x < 0 ∧ e = 1) ∨ (0 ≤ x ∧ e = 0))
  | 22 => yEq T h G T' h' G' ∧ ∃ x : Int, yNu W 3 1 3 x ∧ ((yPg W (yP T h).1 x ∧ e = 1) ∨ (¬ yPg W (yP T h).1 x ∧ e = 0))
  | 23 => yEq T h G T' h' G' ∧ ∃ x : Int, yNu W 3 1 3 x ∧ ((yPg W (yP T h).1 x ∧ e = 1) ∨ (¬ yPg W (yP T h).1 x ∧ e = 0))
  | 24 => yEq T h G T' h' G' ∧ ∃ x : Int, yNu W 3 1 3 x ∧ (((yPg W (yP T h).1 x ∨ xMe (yP T h).1 (yWw W 4) (-1)) ∧ e = 1) ∨ ((¬ yPg W (yP T h).1 x ∧ ∃ mv, 0 ≤ mv ∧ xMe (yP T h).1 (yWw W 4) mv) ∧ e = 0))
  | 25 => yEq T h G T' h' G' ∧ ∃ x : Int, yNu W 2 1 2 x ∧ (((yHb W x ∨ yTm (yP T h).1 30000000 (2 * x)) ∧ e = 1) ∨ (¬ (yHb W x ∨ yTm (yP T h).1 30000000 (2 * x)) ∧ e = 0))
  | 26 => yEq T h G T' h' G' ∧ ∃ w : Int, yNu W 3 0 999999999 w ∧ ((w = -1000000000 ∧ e = 1) ∨ (¬ w = -1000000000 ∧ ∃ x mt : Int, yNu W 2 1 2 x ∧ xBl mt (yIs W 1 js_b2018) ∧ (((yHb W x ∨ yTm (yP T h).1 30000000 (2 * x) ∨ yHl mt (2 * x).toNat (yP T h).1 ≤ w) ∧ e = 1) ∨ (¬ (yHb W x ∨ yTm (yP T h).1 30000000 (2 * x) ∨ yHl mt (2 * x).toNat (yP T h).1 ≤ w) ∧ e = 0))))
  | 27 => yEq T h G T' h' G' ∧ ((¬ cAll (yP T h).1.1 64 = 3 ∧ e = 1) ∨ (cAll (yP T h).1.1 64 = 3 ∧ e = 0))
  | _ => yEq T h G T' h' G' ∧ e = 0
noncomputable def yStp (W : zW) (nn : Int) (k : Nat) (T : xT) (h : Int) (G : xG) (T' : xT) (h' : Int) (G' : xG) (e nx : Int) : Prop := (¬ k = 3 → nx = W.1 0 13) ∧ ySt0 W nn k T h G T' h' G' e nx
/-- behind a command -/
noncomputable def yPrf (W V : zW) (nn : Int) (k : Nat) (T : xT) (h : Int) (G : xG) : Prop := ∃ (g' : Nat) (T' : xT) (R' : Int → Int) (h' : Int) (G' : xG) (e nx : Int), (g' = 33 ∨ g' = 60) ∧ yStp W nn k T h G T' h' G' e nx ∧ V.1 0 14 = W.1 0 14 + e ∧ V.1 0 13 = nx ∧ yCn V g' T' R' h' G' ∧ yFo W V
theorem yPrf_i {W V : zW} {nn : Int} {k g : Nat} {T T' : xT} {R' : Int → Int} {h h' e : Int} {G G' : xG} (hg : g = 33 ∨ g = 60) (h3 : ¬ k = 3) (s : ySt0 W nn k T h G T' h' G' e (W.1 0 13)) (e14 : V.1 0 14 = W.1 0 14 + e) (e13 : V.1 0 13 = W.1 0 13) (c : yCn V g T' R' h' G') (f : yFo W V) : yPrf W V nn k T h G := ⟨g, T', R', h', G', e, W.1 0 13, hg, ⟨fun _ => rfl, s⟩, e14, e13, c, f⟩
end
