/-! the check once more, in forms that the kernel runs quickly: words -/
noncomputable def qIf {α : Type} (b : Bool) (x y : α) : α := Bool.rec (motive := fun _ => α) y x b
theorem qIf_e {α : Type} (b : Bool) (x y : α) : qIf b x y = if b = true then x else y := by cases b <;> rfl
noncomputable def qAn (a b : Bool) : Bool := Bool.rec (motive := fun _ => Bool) false b a
theorem qAn_e (a b : Bool) : qAn a b = (a && b) := by cases a <;> rfl
noncomputable def qOr (a b : Bool) : Bool := Bool.rec (motive := fun _ => Bool) b true a
theorem qOr_e (a b : Bool) : qOr a b = (a || b) := by cases a <;> rfl
noncomputable def qNo (a : Bool) : Bool := Bool.rec (motive := fun _ => Bool) true false a
theorem qNo_e (a : Bool) : qNo a = !a := by cases a <;> rfl
theorem qNb_e (a b : Nat) : Nat.beq a b = decide (a = b) := by
  rw [Bool.eq_iff_iff, decide_eq_true_iff, Nat.beq_eq]
theorem qNl_e (a b : Nat) : Nat.ble a b = decide (a ≤ b) := by
  rw [Bool.eq_iff_iff, decide_eq_true_iff, Nat.ble_eq]
noncomputable def qNth {α : Type} (l : List α) : Nat → Option α := List.rec (motive := fun _ => Nat → Option α) (fun _ => none) (fun a _ ih i => Nat.rec (motive := fun _ => Option α) (some a) (fun j _ => ih j) i) l
theorem qNth_e {α : Type} : ∀ (l : List α) (i : Nat), qNth l i = l[i]?
  | [], _ => rfl
  | _ :: _, 0 => rfl
  | _ :: t, j + 1 => qNth_e t j
noncomputable def qAny {α : Type} (l : List α) (p : α → Bool) : Bool := List.rec (motive := fun _ => Bool) false (fun a _ ih => Bool.rec (motive := fun _ => Bool) ih true (p a)) l
theorem qAny_e {α : Type} : ∀ (l : List α) (p : α → Bool), qAny l p = l.any p
  | [], _ => rfl
  | a :: t, p => by
    rw [List.any_cons, ← qAny_e t p]
    show Bool.rec (motive := fun _ => Bool) (qAny t p) true (p a) = _
    cases p a <;> rfl
noncomputable def qAll {α : Type} (l : List α) (p : α → Bool) : Bool := List.rec (motive := fun _ => Bool) true (fun a _ ih => Bool.rec (motive := fun _ => Bool) false ih (p a)) l
theorem qAll_e {α : Type} : ∀ (l : List α) (p : α → Bool), qAll l p = l.all p
  | [], _ => rfl
  | a :: t, p => by
    rw [List.all_cons, ← qAll_e t p]
    show Bool.rec (motive := fun _ => Bool) false (qAll t p) (p a) = _
    cases p a <;> rfl
noncomputable def qMap {α β : Type} (f : α → β) (l : List α) : List β := List.rec (motive := fun _ => List β) [] (fun a _ ih => f a :: ih) l
theorem qMap_e {α β : Type} (f : α → β) : ∀ l : List α, qMap f l = l.map f
  | [] => rfl
  | a :: t => by rw [List.map_cons, ← qMap_e f t]; rfl
noncomputable def qApp {α : Type} (l m : List α) : List α := List.rec (motive := fun _ => List α) m (fun a _ ih => a :: ih) l
theorem qApp_e {α : Type} : ∀ l m : List α, qApp l m = l ++ m
  | [], _ => rfl
  | a :: t, m => by rw [List.cons_append, ← qApp_e t m]; rfl
noncomputable def qLen {α : Type} (l : List α) : Nat := List.rec (motive := fun _ => Nat) 0 (fun _ _ ih => Nat.succ ih) l
theorem qLen_e {α : Type} : ∀ l : List α, qLen l = l.length
  | [] => rfl
  | _ :: t => by rw [List.length_cons, ← qLen_e t]; rfl
noncomputable def qFil {α : Type} (p : α → Bool) (l : List α) : List α := List.rec (motive := fun _ => List α) [] (fun a _ ih => Bool.rec (motive := fun _ => List α) ih (a :: ih) (p a)) l
theorem qFil_e {α : Type} (p : α → Bool) : ∀ l : List α, qFil p l = l.filter p
  | [] => rfl
  | a :: t => by
    rw [List.filter_cons, ← qFil_e p t]
    show Bool.rec (motive := fun _ => List α) (qFil p t) (a :: qFil p t) (p a) = _
    cases p a <;> rfl
noncomputable def qFm {α β : Type} (f : α → Option β) (l : List α) : List β := List.rec (motive := fun _ => List β) [] (fun a _ ih => Option.rec (motive := fun _ => List β) ih (fun b => b :: ih) (f a)) l
theorem qFm_e {α β : Type} (f : α → Option β) : ∀ l : List α, qFm f l = l.filterMap f
  | [] => rfl
  | a :: t => by
    rw [List.filterMap_cons, ← qFm_e f t]
    show Option.rec (motive := fun _ => List β) (qFm f t) (fun b => b :: qFm f t) (f a) = _
    cases f a <;> rfl
noncomputable def qFnd {α : Type} (p : α → Bool) (l : List α) : Option α := List.rec (motive := fun _ => Option α) none (fun a _ ih => Bool.rec (motive := fun _ => Option α) ih (some a) (p a)) l
theorem qFnd_e {α : Type} (p : α → Bool) : ∀ l : List α, qFnd p l = l.find? p
  | [] => rfl
  | a :: t => by
    rw [List.find?_cons, ← qFnd_e p t]
    show Bool.rec (motive := fun _ => Option α) (qFnd p t) (some a) (p a) = _
    cases p a <;> rfl
/-! whole numbers -/
noncomputable def qZn (n : Nat) : Int := Nat.rec (motive := fun _ => Int) (Int.ofNat 0) (fun k _ => Int.negSucc k) n
theorem qZn_e (n : Nat) : qZn n = Int.negOfNat n := by cases n <;> rfl
noncomputable def qSn (m n : Nat) : Int := Nat.rec (motive := fun _ => Int) (Int.ofNat (Nat.sub m n)) (fun k _ => Int.negSucc k) (Nat.sub n m)
theorem qSn_e (m n : Nat) : qSn m n = Int.subNatNat m n := by
  unfold qSn Int.subNatNat
  show Nat.rec (motive := fun _ => Int) (Int.ofNat (m - n)) (fun k _ => Int.negSucc k) (n - m) = _
  cases n - m <;> rfl
noncomputable def qAd (a b : Int) : Int := Int.rec (motive := fun _ => Int) (fun m => Int.rec (motive := fun _ => Int) (fun n => Int.ofNat (Nat.add m n)) (fun n => qSn m (Nat.succ n)) b) (fun m => Int.rec (motive := fun _ => Int) (fun n => qSn n (Nat.succ m)) (fun n => Int.negSucc (Nat.succ (Nat.add m n))) b) a
theorem qAd_e (a b : Int) : qAd a b = a + b := by
  cases a <;> cases b
  · rfl
  · exact qSn_e _ _
  · exact qSn_e _ _
  · rfl
noncomputable def qNg (a : Int) : Int := Int.rec (motive := fun _ => Int) (fun m => qZn m) (fun m => Int.ofNat (Nat.succ m)) a
theorem qNg_e (a : Int) : qNg a = -a := by
  cases a
  · exact qZn_e _
  · rfl
noncomputable def qSu (a b : Int) : Int := qAd a (qNg b)
theorem qSu_e (a b : Int) : qSu a b = a - b := by unfold qSu; rw [qAd_e, qNg_e]; rfl
noncomputable def qMl (a b : Int) : Int := Int.rec (motive := fun _ => Int) (fun m => Int.rec (motive := fun _ => Int) (fun n => Int.ofNat (Nat.mul m n)) (fun n => qZn (Nat.mul m (Nat.succ n))) b) (fun m => Int.rec (motive := fun _ => Int) (fun n => qZn (Nat.mul (Nat.succ m) n)) (fun n => Int.ofNat (Nat.mul (Nat.succ m) (Nat.succ n))) b) a
theorem qMl_e (a b : Int) : qMl a b = a * b := by
  cases a <;> cases b
  · rfl
  · exact qZn_e _
  · exact qZn_e _
  · rfl
noncomputable def qLe (a b : Int) : Bool := Int.rec (motive := fun _ => Bool) (fun m => Int.rec (motive := fun _ => Bool) (fun n => Nat.ble m n) (fun _ => false) b) (fun m => Int.rec (motive := fun _ => Bool) (fun _ => true) (fun n => Nat.ble n m) b) a
theorem qLe_e (a b : Int) : qLe a b = decide (a ≤ b) := by
  rw [Bool.eq_iff_iff, decide_eq_true_iff]
  cases a with
  | ofNat m => cases b with
    | ofNat n => show Nat.ble m n = true ↔ _; rw [Nat.ble_eq]; simp only [Int.ofNat_eq_natCast]; omega
    | negSucc n => show false = true ↔ _; simp only [Int.ofNat_eq_natCast, Bool.false_eq_true, false_iff]; omega
  | negSucc m => cases b with
    | ofNat n => show true = true ↔ _; simp only [Int.ofNat_eq_natCast, true_iff]; omega
    | negSucc n => show Nat.ble n m = true ↔ _; rw [Nat.ble_eq]; omega
noncomputable def qEq (a b : Int) : Bool := Int.rec (motive := fun _ => Bool) (fun m => Int.rec (motive := fun _ => Bool) (fun n => Nat.beq m n) (fun _ => false) b) (fun m => Int.rec (motive := fun _ => Bool) (fun _ => false) (fun n => Nat.beq m n) b) a
theorem qEq_e (a b : Int) : qEq a b = decide (a = b) := by
  rw [Bool.eq_iff_iff, decide_eq_true_iff]
  cases a with
  | ofNat m => cases b with
    | ofNat n => show Nat.beq m n = true ↔ _; rw [Nat.beq_eq]; simp only [Int.ofNat_eq_natCast]; omega
    | negSucc n => show false = true ↔ _; simp only [Int.ofNat_eq_natCast, Bool.false_eq_true, false_iff]; omega
  | negSucc m => cases b with
    | ofNat n => show false = true ↔ _; simp only [Int.ofNat_eq_natCast, Bool.false_eq_true, false_iff]; omega
    | negSucc n => show Nat.beq m n = true ↔ _; rw [Nat.beq_eq]; omega
noncomputable def qLt (a b : Int) : Bool := qNo (qLe b a)
theorem qLt_e (a b : Int) : qLt a b = decide (a < b) := by
  unfold qLt
  rw [qNo_e, qLe_e, Bool.eq_iff_iff, decide_eq_true_iff, Bool.not_eq_true', decide_eq_false_iff_not]
  omega
noncomputable def qMx (a b : Int) : Int := qIf (qLe a b) b a
theorem qMx_e (a b : Int) : qMx a b = max a b := by unfold qMx; rw [qIf_e, qLe_e, Int.max_def]; simp only [decide_eq_true_eq]
noncomputable def qMi (a b : Int) : Int := qIf (qLe a b) a b
theorem qMi_e (a b : Int) : qMi a b = min a b := by unfold qMi; rw [qIf_e, qLe_e, Int.min_def]; simp only [decide_eq_true_eq]
/-! forms and bounds -/
noncomputable def aFiF (q : Nat × Int) (l : List (Nat × Int)) : List (Nat × Int) := List.rec (motive := fun _ => List (Nat × Int)) [q] (fun p r ih => qIf (Nat.beq p.1 q.1) (qIf (qEq (qAd p.2 q.2) 0) r ((p.1, qAd p.2 q.2) :: r)) (p :: ih)) l
theorem aFiF_e (q : Nat × Int) : ∀ l, aFiF q l = aFi q l
  | [] => rfl
  | p :: r => by
    show qIf (Nat.beq p.1 q.1) (qIf (qEq (qAd p.2 q.2) 0) r ((p.1, qAd p.2 q.2) :: r)) (p :: aFiF q r) = _
    rw [aFiF_e q r]
    simp only [aFi, qIf_e, qEq_e, qAd_e, qNb_e, decide_eq_true_eq]
noncomputable def aFa1F (A B : List (Nat × Int)) : List (Nat × Int) := List.rec (motive := fun _ => List (Nat × Int)) B (fun q _ ih => aFiF q ih) A
theorem aFa1F_e : ∀ A B, aFa1F A B = aFa1 A B
  | [], _ => rfl
  | q :: r, B => by
    show aFiF q (aFa1F r B) = _
    rw [aFa1F_e r B, aFiF_e]
    rfl
noncomputable def aSqF (c : Int) (A : List (Nat × Int)) : List (Nat × Int) := qIf (qEq c 0) [] (qMap (fun q => (q.1, qMl c q.2)) A)
theorem aSqF_e (c : Int) (A : List (Nat × Int)) : aSqF c A = aSq c A := by
  unfold aSqF aSq
  simp only [qIf_e, qEq_e, qMap_e, qMl_e, decide_eq_true_eq]
noncomputable def aFpF (A B : aF) : aF := (aFa1F A.1 B.1, qAd A.2 B.2)
theorem aFpF_e (A B : aF) : aFpF A B = aFp A B := by unfold aFpF aFp; rw [aFa1F_e, qAd_e]
noncomputable def aFmF (c : Int) (A : aF) : aF := (aSqF c A.1, qMl c A.2)
theorem aFmF_e (c : Int) (A : aF) : aFmF c A = aFm c A := by unfold aFmF aFm; rw [aSqF_e, qMl_e]
noncomputable def aTyF (env : List aE) (i : Nat) : Option aT := Option.rec (motive := fun _ => Option aT) none (fun e => some e.1) (qNth env i)
theorem aTyF_e (env : List aE) (i : Nat) : aTyF env i = aTy env i := by
  unfold aTyF aTy
  rw [qNth_e]
  cases env[i]? <;> rfl
noncomputable def aLiF (env : List aE) (i : Nat) : aF := Option.rec (motive := fun _ => aF) ([(i, 1)], 0) (fun e => Option.rec (motive := fun _ => aF) ([(i, 1)], 0) (fun r => r) e.2) (qNth env i)
theorem aLiF_e (env : List aE) (i : Nat) : aLiF env i = aLi env i := by
  unfold aLiF aLi
  rw [qNth_e]
  rcases env[i]? with _ | ⟨t, _ | r⟩ <;> rfl
noncomputable def aLoF (env : List aE) (i : Nat) : Option Int := Option.rec (motive := fun _ => Option Int) none (fun e => Sum.rec (motive := fun _ => Option Int) (fun A => some A.1) (fun _ => none) e.1) (qNth env i)
theorem aLoF_e (env : List aE) (i : Nat) : aLoF env i = aLo env i := by
  unfold aLoF aLo
  rw [qNth_e]
  rcases env[i]? with _ | ⟨A | o, r⟩ <;> rfl
noncomputable def aHiF (env : List aE) (i : Nat) : Option Int := Option.rec (motive := fun _ => Option Int) none (fun e => Sum.rec (motive := fun _ => Option Int) (fun A => some A.2) (fun _ => none) e.1) (qNth env i)
theorem aHiF_e (env : List aE) (i : Nat) : aHiF env i = aHi env i := by
  unfold aHiF aHi
  rw [qNth_e]
  rcases env[i]? with _ | ⟨A | o, r⟩ <;> rfl
noncomputable def aLbF (env : List aE) (l : List (Nat × Int)) : Option Int := List.rec (motive := fun _ => Option Int) (some 0) (fun q _ ih => Option.rec (motive := fun _ => Option Int) none (fun s => qIf (qLe 0 q.2) (Option.rec (motive := fun _ => Option Int) none (fun z => some (qAd (qMl q.2 z) s)) (aLoF env q.1)) (Option.rec (motive := fun _ => Option Int) none (fun z => some (qAd (qMl q.2 z) s)) (aHiF env q.1))) ih) l
theorem aLbF_e (env : List aE) : ∀ l, aLbF env l = aLb env l
  | [] => rfl
  | q :: r => by
    show Option.rec (motive := fun _ => Option Int) none (fun s => qIf (qLe 0 q.2) (Option.rec (motive := fun _ => Option Int) none (fun z => some (qAd (qMl q.2 z) s)) (aLoF env q.1)) (Option.rec (motive := fun _ => Option Int) none (fun z => some (qAd (qMl q.2 z) s)) (aHiF env q.1))) (aLbF env r) = _
    rw [aLbF_e env r, aLoF_e, aHiF_e]
    simp only [aLb]
    cases aLb env r with
    | none => rfl
    | some s =>
      simp only [qIf_e, qLe_e, qAd_e, qMl_e, decide_eq_true_eq]
      split
      · cases aLo env q.1 <;> rfl
      · cases aHi env q.1 <;> rfl
noncomputable def qNa (a : Int) : Nat := Int.rec (motive := fun _ => Nat) (fun m => m) (fun m => Nat.succ m) a
theorem qNa_e (a : Int) : qNa a = a.natAbs := by cases a <;> rfl
noncomputable def aMu1F (q : Nat × Int) (l : List (Nat × Int)) : Nat := List.rec (motive := fun _ => Nat) 0 (fun p _ ih => qIf (Nat.beq p.1 q.1) (qIf (qLt 0 (qMl p.2 q.2)) (qIf (Nat.beq (Nat.div (qNa q.2) (qNa p.2)) 0) 1 (Nat.div (qNa q.2) (qNa p.2))) 0) ih) l
theorem aMu1F_e (q : Nat × Int) : ∀ l, aMu1F q l = aMu1 q l
  | [] => rfl
  | p :: r => by
    show qIf (Nat.beq p.1 q.1) (qIf (qLt 0 (qMl p.2 q.2)) (qIf (Nat.beq (Nat.div (qNa q.2) (qNa p.2)) 0) 1 (Nat.div (qNa q.2) (qNa p.2))) 0) (aMu1F q r) = _
    rw [aMu1F_e q r]
    simp only [aMu1, qIf_e, qLt_e, qMl_e, qNb_e, qNa_e, decide_eq_true_eq]
    rfl
noncomputable def aMuF (f l : List (Nat × Int)) : Nat := List.rec (motive := fun _ => Nat) 0 (fun q _ ih => Nat.rec (motive := fun _ => Nat) ih (fun k _ => Nat.succ k) (aMu1F q f)) l
theorem aMuF_e (f : List (Nat × Int)) : ∀ l, aMuF f l = aMu f l
  | [] => rfl
  | q :: r => by
    show Nat.rec (motive := fun _ => Nat) (aMuF f r) (fun k _ => Nat.succ k) (aMu1F q f) = _
    rw [aMuF_e f r, aMu1F_e]
    simp only [aMu]
    cases aMu1 q f <;> rfl
noncomputable def aPbF (env : List aE) (f : aF) : Bool := Option.rec (motive := fun _ => Bool) false (fun s => qLe 0 (qAd s f.2)) (aLbF env f.1)
theorem aPbF_e (env : List aE) (f : aF) : aPbF env f = (match aLb env f.1 with
    | some s => decide (0 ≤ s + f.2)
    | none => false) := by
  unfold aPbF
  rw [aLbF_e]
  cases aLb env f.1 with
  | none => rfl
  | some s => simp only [qLe_e, qAd_e]
noncomputable def aPrF (env : List aE) (cs : List aF) (d : Nat) : aF → Bool := Nat.rec (motive := fun _ => aF → Bool) (fun f => aPbF env f) (fun _ ih f => Bool.rec (motive := fun _ => Bool) (qAny cs (fun c => Nat.rec (motive := fun _ => Bool) false (fun k _ => ih (aFpF f (aFmF (Int.negSucc k) c))) (aMuF c.1 f.1))) true (aPbF env f)) d
theorem aPrF_e (env : List aE) (cs : List aF) : ∀ d f, aPrF env cs d f = aPr env cs d f
  | 0, f => by
    show aPbF env f = _
    rw [aPbF_e]
    simp only [aPr]
    rfl
  | d + 1, f => by
    show Bool.rec (motive := fun _ => Bool) (qAny cs (fun c => Nat.rec (motive := fun _ => Bool) false (fun k _ => aPrF env cs d (aFpF f (aFmF (Int.negSucc k) c))) (aMuF c.1 f.1))) true (aPbF env f) = _
    have h : (fun c : aF => Nat.rec (motive := fun _ => Bool) false (fun k _ => aPrF env cs d (aFpF f (aFmF (Int.negSucc k) c))) (aMuF c.1 f.1)) = (fun c : aF => match aMu c.1 f.1 with
      | 0 => false
      | m => aPr env cs d (aFp f (aFm (-(m : Int)) c))) := by
      funext c
      rw [aMuF_e]
      cases aMu c.1 f.1 with
      | zero => rfl
      | succ k =>
        show aPrF env cs d (aFpF f (aFmF (Int.negSucc k) c)) = _
        rw [aPrF_e env cs d, aFpF_e, aFmF_e]
        rfl
    rw [h, qAny_e]
    simp only [aPr]
    unfold aPbF
    rw [aLbF_e]
    cases aLb env f.1 with
    | none => rfl
    | some s =>
      dsimp only
      rw [qLe_e, qAd_e]
      cases decide (0 ≤ s + f.2) <;> rfl
noncomputable def aIvF (env : List aE) (i : Nat) : Option (Int × Int) := Option.rec (motive := fun _ => Option (Int × Int)) none (fun e => Sum.rec (motive := fun _ => Option (Int × Int)) (fun A => Option.rec (motive := fun _ => Option (Int × Int)) (some A) (fun f => some (Option.rec (motive := fun _ => Int) A.1 (fun s => qMx A.1 (qAd s f.2)) (aLbF env f.1), Option.rec (motive := fun _ => Int) A.2 (fun s => qMi A.2 (qSu f.2 s)) (aLbF env (aSqF (-1) f.1)))) e.2) (fun _ => none) e.1) (qNth env i)
theorem aIvF_e (env : List aE) (i : Nat) : aIvF env i = aIv env i := by
  unfold aIvF aIv
  rw [qNth_e]
  rcases env[i]? with _ | ⟨A | o, _ | f⟩
  · rfl
  · rfl
  · simp only [aLbF_e, aSqF_e, qMx_e, qMi_e, qAd_e, qSu_e]
    cases aLb env f.1 <;> cases aLb env (aSq (-1) f.1) <;> rfl
  · rfl
  · rfl
/-! towards the quick forms: what simp rewrites -/
theorem fs_nth {α : Type} (l : List α) (i : Nat) : l[i]? = qNth l i := (qNth_e l i).symm
theorem fs_ite {α : Type} (c : Prop) [Decidable c] (x y : α) : (if c then x else y) = qIf (decide c) x y := by
  rw [qIf_e]
  simp only [decide_eq_true_eq]
theorem fs_and (p q : Prop) [Decidable p] [Decidable q] : decide (p ∧ q) = qAn (decide p) (decide q) := by rw [qAn_e, Bool.decide_and]
theorem fs_or (p q : Prop) [Decidable p] [Decidable q] : decide (p ∨ q) = qOr (decide p) (decide q) := by rw [qOr_e, Bool.decide_or]
theorem fs_not (p : Prop) [Decidable p] : decide (¬ p) = qNo (decide p) := by rw [qNo_e, decide_not]
theorem fs_bt (b : Bool) : decide (b = true) = b := by cases b <;> rfl
theorem fs_bf (b : Bool) : decide (b = false) = qNo b := by cases b <;> rfl
theorem fs_neq (a b : Nat) : decide (a = b) = Nat.beq a b := (qNb_e a b).symm
theorem fs_nle (a b : Nat) : decide (a ≤ b) = Nat.ble a b := (qNl_e a b).symm
theorem fs_nlt (a b : Nat) : decide (a < b) = Nat.ble (Nat.succ a) b := (qNl_e (a + 1) b).symm
theorem fs_ieq (a b : Int) : decide (a = b) = qEq a b := (qEq_e a b).symm
theorem fs_ile (a b : Int) : decide (a ≤ b) = qLe a b := (qLe_e a b).symm
theorem fs_ilt (a b : Int) : decide (a < b) = qLt a b := (qLt_e a b).symm
theorem fs_add (a b : Int) : a + b = qAd a b := (qAd_e a b).symm
theorem fs_sub (a b : Int) : a - b = qSu a b := (qSu_e a b).symm
theorem fs_mul (a b : Int) : a * b = qMl a b := (qMl_e a b).symm
theorem fs_neg (a : Int) : -a = qNg a := (qNg_e a).symm
theorem fs_max (a b : Int) : max a b = qMx a b := (qMx_e a b).symm
theorem fs_min (a b : Int) : min a b = qMi a b := (qMi_e a b).symm
theorem fs_cast (n : Nat) : (n : Int) = Int.ofNat n := rfl
theorem fs_band (a b : Bool) : (a && b) = qAn a b := (qAn_e a b).symm
theorem fs_bor (a b : Bool) : (a || b) = qOr a b := (qOr_e a b).symm
theorem fs_bnot (a : Bool) : (!a) = qNo a := (qNo_e a).symm
theorem fs_all {α : Type} (l : List α) (p : α → Bool) : l.all p = qAll l p := (qAll_e l p).symm
theorem fs_any {α : Type} (l : List α) (p : α → Bool) : l.any p = qAny l p := (qAny_e l p).symm
theorem fs_map {α β : Type} (f : α → β) (l : List α) : l.map f = qMap f l := (qMap_e f l).symm
theorem fs_app {α : Type} (l m : List α) : l ++ m = qApp l m := (qApp_e l m).symm
theorem fs_len {α : Type} (l : List α) : l.length = qLen l := (qLen_e l).symm
theorem fs_fil {α : Type} (p : α → Bool) (l : List α) : l.filter p = qFil p l := (qFil_e p l).symm
theorem fs_fm {α β : Type} (f : α → Option β) (l : List α) : l.filterMap f = qFm f l := (qFm_e f l).symm
theorem fs_fnd {α : Type} (p : α → Bool) (l : List α) : l.find? p = qFnd p l := (qFnd_e p l).symm
theorem fs_Ty (env : List aE) (i : Nat) : aTy env i = aTyF env i := (aTyF_e env i).symm
theorem fs_Li (env : List aE) (i : Nat) : aLi env i = aLiF env i := (aLiF_e env i).symm
theorem fs_Lo (env : List aE) (i : Nat) : aLo env i = aLoF env i := (aLoF_e env i).symm
theorem fs_Hi (env : List aE) (i : Nat) : aHi env i = aHiF env i := (aHiF_e env i).symm
theorem fs_Lb (env : List aE) (l : List (Nat × Int)) : aLb env l = aLbF env l := (aLbF_e env l).symm
theorem fs_Pr (env : List aE) (cs : List aF) (d : Nat) (f : aF) : aPr env cs d f = aPrF env cs d f := (aPrF_e env cs d f).symm
theorem fs_Iv (env : List aE) (i : Nat) : aIv env i = aIvF env i := (aIvF_e env i).symm
theorem fs_Fi (q : Nat × Int) (l : List (Nat × Int)) : aFi q l = aFiF q l := (aFiF_e q l).symm
theorem fs_Sq (c : Int) (l : List (Nat × Int)) : aSq c l = aSqF c l := (aSqF_e c l).symm
theorem fs_Fp (A B : aF) : aFp A B = aFpF A B := (aFpF_e A B).symm
theorem fs_Fm (c : Int) (A : aF) : aFm c A = aFmF c A := (aFmF_e c A).symm
/-! normal forms -/
noncomputable def nNt (x : Nat) (k : Nat → Bool) : Bool := Nat.rec (motive := fun _ => Bool) (k 0) (fun y _ => k (Nat.succ y)) x
theorem nNt_e (x : Nat) (k : Nat → Bool) : nNt x k = k x := by cases x <;> rfl
noncomputable def nIn (x : Int) (k : Int → Bool) : Bool := Int.rec (motive := fun _ => Bool) (fun y => nNt y (fun y => k (Int.ofNat y))) (fun y => nNt y (fun y => k (Int.negSucc y))) x
theorem nIn_e (x : Int) (k : Int → Bool) : nIn x k = k x := by
  cases x with
  | ofNat y => exact nNt_e y (fun y => k (Int.ofNat y))
  | negSucc y => exact nNt_e y (fun y => k (Int.negSucc y))
noncomputable def nBo (b : Bool) (k : Bool → Bool) : Bool := Bool.rec (motive := fun _ => Bool) (k false) (k true) b
theorem nBo_e (x : Bool) (k : Bool → Bool) : nBo x k = k x := by cases x <;> rfl
noncomputable def nLi {α : Type} (f : α → (α → Bool) → Bool) (l : List α) : (List α → Bool) → Bool := List.rec (motive := fun _ => (List α → Bool) → Bool) (fun k => k []) (fun x _ ih k => f x (fun x => ih (fun r => k (x :: r)))) l
theorem nLi_e {α : Type} {f : α → (α → Bool) → Bool} (hf : ∀ x k, f x k = k x) : ∀ (l : List α) (k : List α → Bool), nLi f l k = k l
  | [], _ => rfl
  | x :: r, k => by
    show f x (fun x => nLi f r (fun r => k (x :: r))) = _
    rw [hf, nLi_e hf r]
noncomputable def nOp {α : Type} (f : α → (α → Bool) → Bool) (x : Option α) (k : Option α → Bool) : Bool := Option.rec (motive := fun _ => Bool) (k none) (fun y => f y (fun y => k (some y))) x
theorem nOp_e {α : Type} {f : α → (α → Bool) → Bool} (hf : ∀ x k, f x k = k x) (x : Option α) (k : Option α → Bool) : nOp f x k = k x := by
  cases x
  · rfl
  · exact hf _ _
noncomputable def nPr {α β : Type} (f : α → (α → Bool) → Bool) (g : β → (β → Bool) → Bool) (x : α × β) (k : α × β → Bool) : Bool := Prod.rec (motive := fun _ => Bool) (fun a b => f a (fun a => g b (fun b => k (a, b)))) x
theorem nPr_e {α β : Type} {f : α → (α → Bool) → Bool} {g : β → (β → Bool) → Bool} (hf : ∀ x k, f x k = k x) (hg : ∀ x k, g x k = k x) (x : α × β) (k : α × β → Bool) : nPr f g x k = k x := by
  obtain ⟨a, b⟩ := x
  show f a (fun a => g b (fun b => k (a, b))) = _
  rw [hf, hg]
noncomputable def nFo : aF → (aF → Bool) → Bool := nPr (nLi (nPr nNt nIn)) nIn
theorem nFo_e (x : aF) (k : aF → Bool) : nFo x k = k x := nPr_e (nLi_e (nPr_e nNt_e nIn_e)) nIn_e x k
noncomputable def nTy (x : aT) (k : aT → Bool) : Bool := Sum.rec (motive := fun _ => Bool) (fun A => nPr nIn nIn A (fun A => k (.inl A))) (fun o => Option.rec (motive := fun _ => Bool) (k (.inr none)) (fun s => Sum.rec (motive := fun _ => Bool) (fun p => nPr nBo nNt p (fun p => k (.inr (some (.inl p))))) (fun n => nNt n (fun n => k (.inr (some (.inr n))))) s) o) x
theorem nTy_e (x : aT) (k : aT → Bool) : nTy x k = k x := by
  rcases x with A | _ | p | n
  · exact nPr_e nIn_e nIn_e A (fun A => k (.inl A))
  · rfl
  · exact nPr_e nBo_e nNt_e p (fun p => k (.inr (some (.inl p))))
  · exact nNt_e n (fun n => k (.inr (some (.inr n))))
noncomputable def aNSF : aS → (aS → Bool) → Bool := nPr (nLi (nOp nNt)) (nPr (nLi nNt) (nPr (nLi (nPr nTy (nOp nFo))) (nPr (nLi (nPr nNt (nPr nNt nNt))) (nPr (nLi (nPr nNt (nPr nFo nNt))) (nPr (nLi nFo) (nLi (nPr nNt (nLi nNt))))))))
theorem aNSF_e (x : aS) (k : aS → Bool) : aNSF x k = k x := nPr_e (nLi_e (nOp_e nNt_e)) (nPr_e (nLi_e nNt_e) (nPr_e (nLi_e (nPr_e nTy_e (nOp_e nFo_e))) (nPr_e (nLi_e (nPr_e nNt_e (nPr_e nNt_e nNt_e))) (nPr_e (nLi_e (nPr_e nNt_e (nPr_e nFo_e nNt_e))) (nPr_e (nLi_e nFo_e) (nLi_e (nPr_e nNt_e (nLi_e nNt_e)))))))) x k
theorem fs_NS : aNS = aNSF := by
  funext x k
  rw [aNS_e, aNSF_e]
theorem fs_Nn : aNn = nNt := by
  funext x k
  rw [aNn_e, nNt_e]
noncomputable def aFitP : { g : Int × Int → Int × Int // aFit = g } := ⟨fun q => _, by
  funext q
  conv => lhs; simp only [aFit, fs_nth, fs_ite, fs_and, fs_or, fs_not, fs_bt, fs_bf, fs_neq, fs_nle, fs_nlt, fs_ieq, fs_ile, fs_ilt, fs_add, fs_sub, fs_mul, fs_neg, fs_max, fs_min, fs_cast, fs_band, fs_bor, fs_bnot, fs_all, fs_any, fs_map, fs_app, fs_len, fs_fil, fs_fm, fs_fnd]⟩
noncomputable def aFitF : Int × Int → Int × Int := aFitP.1
theorem fs_Fit : aFit = aFitF := aFitP.2
noncomputable def aAddP : { g : Int × Int → Int × Int → Int × Int // aAdd = g } := ⟨fun A B => _, by
  funext A B
  conv => lhs; simp only [aAdd, fs_nth, fs_ite, fs_and, fs_or, fs_not, fs_bt, fs_bf, fs_neq, fs_nle, fs_nlt, fs_ieq, fs_ile, fs_ilt, fs_add, fs_sub, fs_mul, fs_neg, fs_max, fs_min, fs_cast, fs_band, fs_bor, fs_bnot, fs_all, fs_any, fs_map, fs_app, fs_len, fs_fil, fs_fm, fs_fnd, fs_Fit]⟩
noncomputable def aAddF : Int × Int → Int × Int → Int × Int := aAddP.1
theorem fs_Add : aAdd = aAddF := aAddP.2
noncomputable def aSubP : { g : Int × Int → Int × Int → Int × Int // aSub = g } := ⟨fun A B => _, by
  funext A B
  conv => lhs; simp only [aSub, fs_nth, fs_ite, fs_and, fs_or, fs_not, fs_bt, fs_bf, fs_neq, fs_nle, fs_nlt, fs_ieq, fs_ile, fs_ilt, fs_add, fs_sub, fs_mul, fs_neg, fs_max, fs_min, fs_cast, fs_band, fs_bor, fs_bnot, fs_all, fs_any, fs_map, fs_app, fs_len, fs_fil, fs_fm, fs_fnd, fs_Fit]⟩
noncomputable def aSubF : Int × Int → Int × Int → Int × Int := aSubP.1
theorem fs_Sub : aSub = aSubF := aSubP.2
noncomputable def aNegP : { g : Int × Int → Int × Int // aNeg = g } := ⟨fun A => _, by
  funext A
  conv => lhs; simp only [aNeg, fs_nth, fs_ite, fs_and, fs_or, fs_not, fs_bt, fs_bf, fs_neq, fs_nle, fs_nlt, fs_ieq, fs_ile, fs_ilt, fs_add, fs_sub, fs_mul, fs_neg, fs_max, fs_min, fs_cast, fs_band, fs_bor, fs_bnot, fs_all, fs_any, fs_map, fs_app, fs_len, fs_fil, fs_fm, fs_fnd, fs_Fit]⟩
noncomputable def aNegF : Int × Int → Int × Int := aNegP.1
theorem fs_Neg : aNeg = aNegF := aNegP.2
noncomputable def aMulP : { g : Int × Int → Int × Int → Int × Int // aMul = g } := ⟨fun A B => _, by
  funext A B
  conv => lhs; simp only [aMul, fs_nth, fs_ite, fs_and, fs_or, fs_not, fs_bt, fs_bf, fs_neq, fs_nle, fs_nlt, fs_ieq, fs_ile, fs_ilt, fs_add, fs_sub, fs_mul, fs_neg, fs_max, fs_min, fs_cast, fs_band, fs_bor, fs_bnot, fs_all, fs_any, fs_map, fs_app, fs_len, fs_fil, fs_fm, fs_fnd, fs_Fit]⟩
noncomputable def aMulF : Int × Int → Int × Int → Int × Int := aMulP.1
theorem fs_Mul : aMul = aMulF := aMulP.2
noncomputable def aAndP : { g : Int × Int → Int × Int → Int × Int // aAnd = g } := ⟨fun A B => _, by
  funext A B
  conv => lhs; simp only [aAnd, fs_nth, fs_ite, fs_and, fs_or, fs_not, fs_bt, fs_bf, fs_neq, fs_nle, fs_nlt, fs_ieq, fs_ile, fs_ilt, fs_add, fs_sub, fs_mul, fs_neg, fs_max, fs_min, fs_cast, fs_band, fs_bor, fs_bnot, fs_all, fs_any, fs_map, fs_app, fs_len, fs_fil, fs_fm, fs_fnd]⟩
noncomputable def aAndF : Int × Int → Int × Int → Int × Int := aAndP.1
theorem fs_And : aAnd = aAndF := aAndP.2
noncomputable def aTopP : { g : Int × Int → Int × Int → Int // aTop = g } := ⟨fun A B => _, by
  funext A B
  conv => lhs; simp only [aTop, fs_nth, fs_ite, fs_and, fs_or, fs_not, fs_bt, fs_bf, fs_neq, fs_nle, fs_nlt, fs_ieq, fs_ile, fs_ilt, fs_add, fs_sub, fs_mul, fs_neg, fs_max, fs_min, fs_cast, fs_band, fs_bor, fs_bnot, fs_all, fs_any, fs_map, fs_app, fs_len, fs_fil, fs_fm, fs_fnd]⟩
noncomputable def aTopF : Int × Int → Int × Int → Int := aTopP.1
theorem fs_Top : aTop = aTopF := aTopP.2
noncomputable def aOrP : { g : Int × Int → Int × Int → Int × Int // aOr = g } := ⟨fun A B => _, by
  funext A B
  conv => lhs; simp only [aOr, fs_nth, fs_ite, fs_and, fs_or, fs_not, fs_bt, fs_bf, fs_neq, fs_nle, fs_nlt, fs_ieq, fs_ile, fs_ilt, fs_add, fs_sub, fs_mul, fs_neg, fs_max, fs_min, fs_cast, fs_band, fs_bor, fs_bnot, fs_all, fs_any, fs_map, fs_app, fs_len, fs_fil, fs_fm, fs_fnd, fs_Fit, fs_Top]⟩
noncomputable def aOrF : Int × Int → Int × Int → Int × Int := aOrP.1
theorem fs_Or : aOr = aOrF := aOrP.2
noncomputable def aK1P : { g : Int × Int → Bool // aK1 = g } := ⟨fun B => _, by
  funext B
  conv => lhs; simp only [aK1, fs_nth, fs_ite, fs_and, fs_or, fs_not, fs_bt, fs_bf, fs_neq, fs_nle, fs_nlt, fs_ieq, fs_ile, fs_ilt, fs_add, fs_sub, fs_mul, fs_neg, fs_max, fs_min, fs_cast, fs_band, fs_bor, fs_bnot, fs_all, fs_any, fs_map, fs_app, fs_len, fs_fil, fs_fm, fs_fnd]⟩
noncomputable def aK1F : Int × Int → Bool := aK1P.1
theorem fs_K1 : aK1 = aK1F := aK1P.2
noncomputable def aShlP : { g : Int × Int → Int × Int → Int × Int // aShl = g } := ⟨fun A B => _, by
  funext A B
  conv => lhs; simp only [aShl, fs_nth, fs_ite, fs_and, fs_or, fs_not, fs_bt, fs_bf, fs_neq, fs_nle, fs_nlt, fs_ieq, fs_ile, fs_ilt, fs_add, fs_sub, fs_mul, fs_neg, fs_max, fs_min, fs_cast, fs_band, fs_bor, fs_bnot, fs_all, fs_any, fs_map, fs_app, fs_len, fs_fil, fs_fm, fs_fnd, fs_K1]⟩
noncomputable def aShlF : Int × Int → Int × Int → Int × Int := aShlP.1
theorem fs_Shl : aShl = aShlF := aShlP.2
noncomputable def aShrP : { g : Int × Int → Int × Int → Int × Int // aShr = g } := ⟨fun A B => _, by
  funext A B
  conv => lhs; simp only [aShr, fs_nth, fs_ite, fs_and, fs_or, fs_not, fs_bt, fs_bf, fs_neq, fs_nle, fs_nlt, fs_ieq, fs_ile, fs_ilt, fs_add, fs_sub, fs_mul, fs_neg, fs_max, fs_min, fs_cast, fs_band, fs_bor, fs_bnot, fs_all, fs_any, fs_map, fs_app, fs_len, fs_fil, fs_fm, fs_fnd, fs_K1]⟩
noncomputable def aShrF : Int × Int → Int × Int → Int × Int := aShrP.1
theorem fs_Shr : aShr = aShrF := aShrP.2
noncomputable def aUshP : { g : Int × Int → Int × Int → Int × Int // aUsh = g } := ⟨fun A B => _, by
  funext A B
  conv => lhs; simp only [aUsh, fs_nth, fs_ite, fs_and, fs_or, fs_not, fs_bt, fs_bf, fs_neq, fs_nle, fs_nlt, fs_ieq, fs_ile, fs_ilt, fs_add, fs_sub, fs_mul, fs_neg, fs_max, fs_min, fs_cast, fs_band, fs_bor, fs_bnot, fs_all, fs_any, fs_map, fs_app, fs_len, fs_fil, fs_fm, fs_fnd, fs_K1]⟩
noncomputable def aUshF : Int × Int → Int × Int → Int × Int := aUshP.1
theorem fs_Ush : aUsh = aUshF := aUshP.2
noncomputable def aDivP : { g : Int × Int → Int × Int → Int × Int // aDiv = g } := ⟨fun A B => _, by
  funext A B
  conv => lhs; simp only [aDiv, fs_nth, fs_ite, fs_and, fs_or, fs_not, fs_bt, fs_bf, fs_neq, fs_nle, fs_nlt, fs_ieq, fs_ile, fs_ilt, fs_add, fs_sub, fs_mul, fs_neg, fs_max, fs_min, fs_cast, fs_band, fs_bor, fs_bnot, fs_all, fs_any, fs_map, fs_app, fs_len, fs_fil, fs_fm, fs_fnd]⟩
noncomputable def aDivF : Int × Int → Int × Int → Int × Int := aDivP.1
theorem fs_Div : aDiv = aDivF := aDivP.2
noncomputable def aRemP : { g : Int × Int → Int × Int → Int × Int // aRem = g } := ⟨fun A B => _, by
  funext A B
  conv => lhs; simp only [aRem, fs_nth, fs_ite, fs_and, fs_or, fs_not, fs_bt, fs_bf, fs_neq, fs_nle, fs_nlt, fs_ieq, fs_ile, fs_ilt, fs_add, fs_sub, fs_mul, fs_neg, fs_max, fs_min, fs_cast, fs_band, fs_bor, fs_bnot, fs_all, fs_any, fs_map, fs_app, fs_len, fs_fil, fs_fm, fs_fnd]⟩
noncomputable def aRemF : Int × Int → Int × Int → Int × Int := aRemP.1
theorem fs_Rem : aRem = aRemF := aRemP.2
noncomputable def aRjP : { g : Nat → Nat × Nat // aRj = g } := ⟨fun j => _, by
  funext j
  conv => lhs; simp only [aRj, fs_nth, fs_ite, fs_and, fs_or, fs_not, fs_bt, fs_bf, fs_neq, fs_nle, fs_nlt, fs_ieq, fs_ile, fs_ilt, fs_add, fs_sub, fs_mul, fs_neg, fs_max, fs_min, fs_cast, fs_band, fs_bor, fs_bnot, fs_all, fs_any, fs_map, fs_app, fs_len, fs_fil, fs_fm, fs_fnd]⟩
noncomputable def aRjF : Nat → Nat × Nat := aRjP.1
theorem fs_Rj : aRj = aRjF := aRjP.2
noncomputable def aPvP : { g : aS → List Nat → aT → Option aF → List aF → aS // aPv = g } := ⟨fun S sk t r cs => _, by
  funext S sk t r cs
  conv => lhs; simp only [aPv, fs_nth, fs_ite, fs_and, fs_or, fs_not, fs_bt, fs_bf, fs_neq, fs_nle, fs_nlt, fs_ieq, fs_ile, fs_ilt, fs_add, fs_sub, fs_mul, fs_neg, fs_max, fs_min, fs_cast, fs_band, fs_bor, fs_bnot, fs_all, fs_any, fs_map, fs_app, fs_len, fs_fil, fs_fm, fs_fnd]⟩
noncomputable def aPvF : aS → List Nat → aT → Option aF → List aF → aS := aPvP.1
theorem fs_Pv : aPv = aPvF := aPvP.2
noncomputable def aPuP : { g : aS → List Nat → aT → Option aF → aS // aPu = g } := ⟨fun S sk t r => _, by
  funext S sk t r
  conv => lhs; simp only [aPu, fs_nth, fs_ite, fs_and, fs_or, fs_not, fs_bt, fs_bf, fs_neq, fs_nle, fs_nlt, fs_ieq, fs_ile, fs_ilt, fs_add, fs_sub, fs_mul, fs_neg, fs_max, fs_min, fs_cast, fs_band, fs_bor, fs_bnot, fs_all, fs_any, fs_map, fs_app, fs_len, fs_fil, fs_fm, fs_fnd]⟩
noncomputable def aPuF : aS → List Nat → aT → Option aF → aS := aPuP.1
theorem fs_Pu : aPu = aPuF := aPuP.2
noncomputable def aFit3P : { g : Int → Int → Bool // aFit3 = g } := ⟨fun lo hi => _, by
  funext lo hi
  conv => lhs; simp only [aFit3, fs_nth, fs_ite, fs_and, fs_or, fs_not, fs_bt, fs_bf, fs_neq, fs_nle, fs_nlt, fs_ieq, fs_ile, fs_ilt, fs_add, fs_sub, fs_mul, fs_neg, fs_max, fs_min, fs_cast, fs_band, fs_bor, fs_bnot, fs_all, fs_any, fs_map, fs_app, fs_len, fs_fil, fs_fm, fs_fnd]⟩
noncomputable def aFit3F : Int → Int → Bool := aFit3P.1
theorem fs_Fit3 : aFit3 = aFit3F := aFit3P.2
noncomputable def aAlgP : { g : Nat → aF → Bool // aAlg = g } := ⟨fun c f => _, by
  funext c f
  conv => lhs; simp only [aAlg, fs_nth, fs_ite, fs_and, fs_or, fs_not, fs_bt, fs_bf, fs_neq, fs_nle, fs_nlt, fs_ieq, fs_ile, fs_ilt, fs_add, fs_sub, fs_mul, fs_neg, fs_max, fs_min, fs_cast, fs_band, fs_bor, fs_bnot, fs_all, fs_any, fs_map, fs_app, fs_len, fs_fil, fs_fm, fs_fnd]⟩
noncomputable def aAlgF : Nat → aF → Bool := aAlgP.1
theorem fs_Alg : aAlg = aAlgF := aAlgP.2
noncomputable def aRelP : { g : Nat → List aE → Nat → Nat → Int × Int → Int × Int → Option aF // aRel = g } := ⟨fun k env x y A B => _, by
  funext k env x y A B
  conv => lhs; simp only [aRel, fs_nth, fs_ite, fs_and, fs_or, fs_not, fs_bt, fs_bf, fs_neq, fs_nle, fs_nlt, fs_ieq, fs_ile, fs_ilt, fs_add, fs_sub, fs_mul, fs_neg, fs_max, fs_min, fs_cast, fs_band, fs_bor, fs_bnot, fs_all, fs_any, fs_map, fs_app, fs_len, fs_fil, fs_fm, fs_fnd, fs_Alg, fs_Fit3, fs_Fm, fs_Fp, fs_K1, fs_Li]⟩
noncomputable def aRelF : Nat → List aE → Nat → Nat → Int × Int → Int × Int → Option aF := aRelP.1
theorem fs_Rel : aRel = aRelF := aRelP.2
noncomputable def aBinP : { g : (Int × Int → Int × Int → Int × Int) → Nat → aS → Nat → Option (List (Nat × aS)) // aBin = g } := ⟨fun op k S p => _, by
  funext op k S p
  conv => lhs; simp only [aBin, fs_nth, fs_ite, fs_and, fs_or, fs_not, fs_bt, fs_bf, fs_neq, fs_nle, fs_nlt, fs_ieq, fs_ile, fs_ilt, fs_add, fs_sub, fs_mul, fs_neg, fs_max, fs_min, fs_cast, fs_band, fs_bor, fs_bnot, fs_all, fs_any, fs_map, fs_app, fs_len, fs_fil, fs_fm, fs_fnd, fs_Iv, fs_Pu, fs_Rel]⟩
noncomputable def aBinF : (Int × Int → Int × Int → Int × Int) → Nat → aS → Nat → Option (List (Nat × aS)) := aBinP.1
theorem fs_Bin : aBin = aBinF := aBinP.2
noncomputable def aQcsP : { g : List aE → Nat → Int → List aF // aQcs = g } := ⟨fun env x c => _, by
  funext env x c
  conv => lhs; simp only [aQcs, fs_nth, fs_ite, fs_and, fs_or, fs_not, fs_bt, fs_bf, fs_neq, fs_nle, fs_nlt, fs_ieq, fs_ile, fs_ilt, fs_add, fs_sub, fs_mul, fs_neg, fs_max, fs_min, fs_cast, fs_band, fs_bor, fs_bnot, fs_all, fs_any, fs_map, fs_app, fs_len, fs_fil, fs_fm, fs_fnd, fs_Fm, fs_Fp, fs_Li]⟩
noncomputable def aQcsF : List aE → Nat → Int → List aF := aQcsP.1
theorem fs_Qcs : aQcs = aQcsF := aQcsP.2
noncomputable def aQjP : { g : List aE → Nat → Nat → Int → List aF // aQj = g } := ⟨fun env x j c => _, by
  funext env x j c
  conv => lhs; simp only [aQj, fs_nth, fs_ite, fs_and, fs_or, fs_not, fs_bt, fs_bf, fs_neq, fs_nle, fs_nlt, fs_ieq, fs_ile, fs_ilt, fs_add, fs_sub, fs_mul, fs_neg, fs_max, fs_min, fs_cast, fs_band, fs_bor, fs_bnot, fs_all, fs_any, fs_map, fs_app, fs_len, fs_fil, fs_fm, fs_fnd, fs_Fm, fs_Fp, fs_Li]⟩
noncomputable def aQjF : List aE → Nat → Nat → Int → List aF := aQjP.1
theorem fs_Qj : aQj = aQjF := aQjP.2
noncomputable def aQfP : { g : aS → Nat → Int × Int → Int → Option Nat // aQf = g } := ⟨fun S x A c => _, by
  funext S x A c
  conv => lhs; simp only [aQf, fs_nth, fs_ite, fs_and, fs_or, fs_not, fs_bt, fs_bf, fs_neq, fs_nle, fs_nlt, fs_ieq, fs_ile, fs_ilt, fs_add, fs_sub, fs_mul, fs_neg, fs_max, fs_min, fs_cast, fs_band, fs_bor, fs_bnot, fs_all, fs_any, fs_map, fs_app, fs_len, fs_fil, fs_fm, fs_fnd, fs_Qj]⟩
noncomputable def aQfF : aS → Nat → Int × Int → Int → Option Nat := aQfP.1
theorem fs_Qf : aQf = aQfF := aQfP.2
noncomputable def aRmdP : { g : aS → Nat → List Nat → Int × Int → Int → Nat → List (Nat × aS) // aRmd = g } := ⟨fun S x r A c p => _, by
  funext S x r A c p
  conv => lhs; simp only [aRmd, fs_nth, fs_ite, fs_and, fs_or, fs_not, fs_bt, fs_bf, fs_neq, fs_nle, fs_nlt, fs_ieq, fs_ile, fs_ilt, fs_add, fs_sub, fs_mul, fs_neg, fs_max, fs_min, fs_cast, fs_band, fs_bor, fs_bnot, fs_all, fs_any, fs_map, fs_app, fs_len, fs_fil, fs_fm, fs_fnd, fs_Fp, fs_Li, fs_Pu, fs_Qcs, fs_Qf]⟩
noncomputable def aRmdF : aS → Nat → List Nat → Int × Int → Int → Nat → List (Nat × aS) := aRmdP.1
theorem fs_Rmd : aRmd = aRmdF := aRmdP.2
noncomputable def aDvP : { g : aS → Nat → Option (List (Nat × aS)) // aDv = g } := ⟨fun S p => _, by
  funext S p
  conv => lhs; simp only [aDv, fs_nth, fs_ite, fs_and, fs_or, fs_not, fs_bt, fs_bf, fs_neq, fs_nle, fs_nlt, fs_ieq, fs_ile, fs_ilt, fs_add, fs_sub, fs_mul, fs_neg, fs_max, fs_min, fs_cast, fs_band, fs_bor, fs_bnot, fs_all, fs_any, fs_map, fs_app, fs_len, fs_fil, fs_fm, fs_fnd, fs_Iv, fs_Pv, fs_Qcs, fs_Qf]⟩
noncomputable def aDvF : aS → Nat → Option (List (Nat × aS)) := aDvP.1
theorem fs_Dv : aDv = aDvF := aDvP.2
noncomputable def aRmP : { g : aS → Nat → Option (List (Nat × aS)) // aRm = g } := ⟨fun S p => _, by
  funext S p
  conv => lhs; simp only [aRm, fs_nth, fs_ite, fs_and, fs_or, fs_not, fs_bt, fs_bf, fs_neq, fs_nle, fs_nlt, fs_ieq, fs_ile, fs_ilt, fs_add, fs_sub, fs_mul, fs_neg, fs_max, fs_min, fs_cast, fs_band, fs_bor, fs_bnot, fs_all, fs_any, fs_map, fs_app, fs_len, fs_fil, fs_fm, fs_fnd, fs_Iv, fs_Rmd]⟩
noncomputable def aRmF : aS → Nat → Option (List (Nat × aS)) := aRmP.1
theorem fs_Rm : aRm = aRmF := aRmP.2
noncomputable def aSrP : { g : aS → Nat → Option (List (Nat × aS)) // aSr = g } := ⟨fun S p => _, by
  funext S p
  conv => lhs; simp only [aSr, fs_nth, fs_ite, fs_and, fs_or, fs_not, fs_bt, fs_bf, fs_neq, fs_nle, fs_nlt, fs_ieq, fs_ile, fs_ilt, fs_add, fs_sub, fs_mul, fs_neg, fs_max, fs_min, fs_cast, fs_band, fs_bor, fs_bnot, fs_all, fs_any, fs_map, fs_app, fs_len, fs_fil, fs_fm, fs_fnd, fs_Iv, fs_K1, fs_Pu, fs_Pv, fs_Qcs, fs_Qf, fs_Shr]⟩
noncomputable def aSrF : aS → Nat → Option (List (Nat × aS)) := aSrP.1
theorem fs_Sr : aSr = aSrF := aSrP.2
noncomputable def aPwP : { g : Int → Bool // aPw = g } := ⟨fun c => _, by
  funext c
  conv => lhs; simp only [aPw, fs_nth, fs_ite, fs_and, fs_or, fs_not, fs_bt, fs_bf, fs_neq, fs_nle, fs_nlt, fs_ieq, fs_ile, fs_ilt, fs_add, fs_sub, fs_mul, fs_neg, fs_max, fs_min, fs_cast, fs_band, fs_bor, fs_bnot, fs_all, fs_any, fs_map, fs_app, fs_len, fs_fil, fs_fm, fs_fnd]⟩
noncomputable def aPwF : Int → Bool := aPwP.1
theorem fs_Pw : aPw = aPwF := aPwP.2
noncomputable def aAdP : { g : aS → Nat → Option (List (Nat × aS)) // aAd = g } := ⟨fun S p => _, by
  funext S p
  conv => lhs; simp only [aAd, fs_nth, fs_ite, fs_and, fs_or, fs_not, fs_bt, fs_bf, fs_neq, fs_nle, fs_nlt, fs_ieq, fs_ile, fs_ilt, fs_add, fs_sub, fs_mul, fs_neg, fs_max, fs_min, fs_cast, fs_band, fs_bor, fs_bnot, fs_all, fs_any, fs_map, fs_app, fs_len, fs_fil, fs_fm, fs_fnd, fs_Iv, fs_Pw, fs_Rmd]⟩
noncomputable def aAdF : aS → Nat → Option (List (Nat × aS)) := aAdP.1
theorem fs_Ad : aAd = aAdF := aAdP.2
noncomputable def aAiP : { g : aS → Nat → Option (List (Nat × aS)) // aAi = g } := ⟨fun S p => _, by
  funext S p
  conv => lhs; simp only [aAi, fs_nth, fs_ite, fs_and, fs_or, fs_not, fs_bt, fs_bf, fs_neq, fs_nle, fs_nlt, fs_ieq, fs_ile, fs_ilt, fs_add, fs_sub, fs_mul, fs_neg, fs_max, fs_min, fs_cast, fs_band, fs_bor, fs_bnot, fs_all, fs_any, fs_map, fs_app, fs_len, fs_fil, fs_fm, fs_fnd, fs_Iv, fs_Pw]⟩
noncomputable def aAiF : aS → Nat → Option (List (Nat × aS)) := aAiP.1
theorem fs_Ai : aAi = aAiF := aAiP.2
noncomputable def aKlP : { g : List aE → List (Option Nat) → Nat → List (Option Nat) // aKl = g } := ⟨fun env al i => _, by
  funext env al i
  conv => lhs; simp only [aKl, fs_nth, fs_ite, fs_and, fs_or, fs_not, fs_bt, fs_bf, fs_neq, fs_nle, fs_nlt, fs_ieq, fs_ile, fs_ilt, fs_add, fs_sub, fs_mul, fs_neg, fs_max, fs_min, fs_cast, fs_band, fs_bor, fs_bnot, fs_all, fs_any, fs_map, fs_app, fs_len, fs_fil, fs_fm, fs_fnd, fs_Ty]⟩
noncomputable def aKlF : List aE → List (Option Nat) → Nat → List (Option Nat) := aKlP.1
theorem fs_Kl : aKl = aKlF := aKlP.2
noncomputable def aLdP : { g : aS → Nat → Nat → Nat → Option (List (Nat × aS)) // aLd = g } := ⟨fun S i w p => _, by
  funext S i w p
  conv => lhs; simp only [aLd, fs_nth, fs_ite, fs_and, fs_or, fs_not, fs_bt, fs_bf, fs_neq, fs_nle, fs_nlt, fs_ieq, fs_ile, fs_ilt, fs_add, fs_sub, fs_mul, fs_neg, fs_max, fs_min, fs_cast, fs_band, fs_bor, fs_bnot, fs_all, fs_any, fs_map, fs_app, fs_len, fs_fil, fs_fm, fs_fnd, fs_Ty]⟩
noncomputable def aLdF : aS → Nat → Nat → Nat → Option (List (Nat × aS)) := aLdP.1
theorem fs_Ld : aLd = aLdF := aLdP.2
noncomputable def aSoP : { g : aS → Nat → Nat → Nat → Option (List (Nat × aS)) // aSo = g } := ⟨fun S i w p => _, by
  funext S i w p
  conv => lhs; simp only [aSo, fs_nth, fs_ite, fs_and, fs_or, fs_not, fs_bt, fs_bf, fs_neq, fs_nle, fs_nlt, fs_ieq, fs_ile, fs_ilt, fs_add, fs_sub, fs_mul, fs_neg, fs_max, fs_min, fs_cast, fs_band, fs_bor, fs_bnot, fs_all, fs_any, fs_map, fs_app, fs_len, fs_fil, fs_fm, fs_fnd, fs_Kl, fs_Ty]⟩
noncomputable def aSoF : aS → Nat → Nat → Nat → Option (List (Nat × aS)) := aSoP.1
theorem fs_So : aSo = aSoF := aSoP.2
noncomputable def aIncP : { g : aS → Nat → Int32 → Nat → Option (List (Nat × aS)) // aInc = g } := ⟨fun S i c p => _, by
  funext S i c p
  conv => lhs; simp only [aInc, fs_nth, fs_ite, fs_and, fs_or, fs_not, fs_bt, fs_bf, fs_neq, fs_nle, fs_nlt, fs_ieq, fs_ile, fs_ilt, fs_add, fs_sub, fs_mul, fs_neg, fs_max, fs_min, fs_cast, fs_band, fs_bor, fs_bnot, fs_all, fs_any, fs_map, fs_app, fs_len, fs_fil, fs_fm, fs_fnd, fs_Add, fs_Fit3, fs_Fp, fs_Iv, fs_Kl, fs_Li]⟩
noncomputable def aIncF : aS → Nat → Int32 → Nat → Option (List (Nat × aS)) := aIncP.1
theorem fs_Inc : aInc = aIncF := aIncP.2
noncomputable def aNotP : { g : Jvm.ClassFile.Cond → Jvm.ClassFile.Cond // aNot = g } := ⟨fun c => _, by
  funext c
  conv => lhs; simp only [aNot, fs_nth, fs_ite, fs_and, fs_or, fs_not, fs_bt, fs_bf, fs_neq, fs_nle, fs_nlt, fs_ieq, fs_ile, fs_ilt, fs_add, fs_sub, fs_mul, fs_neg, fs_max, fs_min, fs_cast, fs_band, fs_bor, fs_bnot, fs_all, fs_any, fs_map, fs_app, fs_len, fs_fil, fs_fm, fs_fnd]⟩
noncomputable def aNotF : Jvm.ClassFile.Cond → Jvm.ClassFile.Cond := aNotP.1
theorem fs_Not : aNot = aNotF := aNotP.2
noncomputable def aNarP : { g : List aE → Nat → aT → List aE // aNar = g } := ⟨fun env i t => _, by
  funext env i t
  conv => lhs; simp only [aNar, fs_nth, fs_ite, fs_and, fs_or, fs_not, fs_bt, fs_bf, fs_neq, fs_nle, fs_nlt, fs_ieq, fs_ile, fs_ilt, fs_add, fs_sub, fs_mul, fs_neg, fs_max, fs_min, fs_cast, fs_band, fs_bor, fs_bnot, fs_all, fs_any, fs_map, fs_app, fs_len, fs_fil, fs_fm, fs_fnd]⟩
noncomputable def aNarF : List aE → Nat → aT → List aE := aNarP.1
theorem fs_Nar : aNar = aNarF := aNarP.2
noncomputable def aTg1P : { g : Int → Int → Int × Int → Int × Int // aTg1 = g } := ⟨fun c u A => _, by
  funext c u A
  conv => lhs; simp only [aTg1, fs_nth, fs_ite, fs_and, fs_or, fs_not, fs_bt, fs_bf, fs_neq, fs_nle, fs_nlt, fs_ieq, fs_ile, fs_ilt, fs_add, fs_sub, fs_mul, fs_neg, fs_max, fs_min, fs_cast, fs_band, fs_bor, fs_bnot, fs_all, fs_any, fs_map, fs_app, fs_len, fs_fil, fs_fm, fs_fnd]⟩
noncomputable def aTg1F : Int → Int → Int × Int → Int × Int := aTg1P.1
theorem fs_Tg1 : aTg1 = aTg1F := aTg1P.2
noncomputable def aTgS (f : aF) : { g : (Nat × Int) → List (Nat × Int) → (List aE → List aE) → List aE → List aE // ∀ (q : Nat × Int) (r : List (Nat × Int)) (ih : List aE → List aE), (∀ (env : List aE), aTg f r env = ih env) → ∀ (env : List aE), aTg f (q :: r) env = g q r ih env } := ⟨fun q r ih env => _, by
  intro q r ih h env
  conv => lhs; simp only [aTg, h, fs_nth, fs_ite, fs_and, fs_or, fs_not, fs_bt, fs_bf, fs_neq, fs_nle, fs_nlt, fs_ieq, fs_ile, fs_ilt, fs_add, fs_sub, fs_mul, fs_neg, fs_max, fs_min, fs_cast, fs_band, fs_bor, fs_bnot, fs_all, fs_any, fs_map, fs_app, fs_len, fs_fil, fs_fm, fs_fnd, fs_Fi, fs_Lb, fs_Nar, fs_Sq, fs_Tg1]⟩
theorem aTg_F (f : aF) : ∀ (l : List (Nat × Int)) (env : List aE), aTg f l env = (List.rec (motive := fun _ => List aE → List aE) (fun env => env) (fun q r ih => (aTgS f).1 q r ih) l : List aE → List aE) env
  | [], _ => by simp only [aTg]
  | q :: r, env => (aTgS f).2 q r _ (aTg_F f r) env
noncomputable def aTgF (f : aF) (L : List (Nat × Int)) (env : List aE) : List aE := List.rec (motive := fun _ => List aE → List aE) (fun env => env) (fun q r ih => (aTgS f).1 q r ih) L env
theorem fs_Tg : aTg = aTgF := by
  funext f L env
  exact aTg_F f L env
noncomputable def aNe1P : { g : List aE → Nat → Bool // aNe1 = g } := ⟨fun env i => _, by
  funext env i
  conv => lhs; simp only [aNe1, fs_nth, fs_ite, fs_and, fs_or, fs_not, fs_bt, fs_bf, fs_neq, fs_nle, fs_nlt, fs_ieq, fs_ile, fs_ilt, fs_add, fs_sub, fs_mul, fs_neg, fs_max, fs_min, fs_cast, fs_band, fs_bor, fs_bnot, fs_all, fs_any, fs_map, fs_app, fs_len, fs_fil, fs_fm, fs_fnd]⟩
noncomputable def aNe1F : List aE → Nat → Bool := aNe1P.1
theorem fs_Ne1 : aNe1 = aNe1F := aNe1P.2
noncomputable def aKeepCP : { g : List aE → aF → List aF → List aF // aKeepC = g } := ⟨fun env f cs => _, by
  funext env f cs
  conv => lhs; simp only [aKeepC, fs_nth, fs_ite, fs_and, fs_or, fs_not, fs_bt, fs_bf, fs_neq, fs_nle, fs_nlt, fs_ieq, fs_ile, fs_ilt, fs_add, fs_sub, fs_mul, fs_neg, fs_max, fs_min, fs_cast, fs_band, fs_bor, fs_bnot, fs_all, fs_any, fs_map, fs_app, fs_len, fs_fil, fs_fm, fs_fnd, fs_Lo]⟩
noncomputable def aKeepCF : List aE → aF → List aF → List aF := aKeepCP.1
theorem fs_KeepC : aKeepC = aKeepCF := aKeepCP.2
noncomputable def aAsmP : { g : List aE → List aF → aF → Option (List aE × List aF) // aAsm = g } := ⟨fun env cs f => _, by
  funext env cs f
  conv => lhs; simp only [aAsm, fs_nth, fs_ite, fs_and, fs_or, fs_not, fs_bt, fs_bf, fs_neq, fs_nle, fs_nlt, fs_ieq, fs_ile, fs_ilt, fs_add, fs_sub, fs_mul, fs_neg, fs_max, fs_min, fs_cast, fs_band, fs_bor, fs_bnot, fs_all, fs_any, fs_map, fs_app, fs_len, fs_fil, fs_fm, fs_fnd, fs_Fm, fs_Fp, fs_KeepC, fs_Ne1, fs_Pr, fs_Tg]⟩
noncomputable def aAsmF : List aE → List aF → aF → Option (List aE × List aF) := aAsmP.1
theorem fs_Asm : aAsm = aAsmF := aAsmP.2
noncomputable def aAsLS : { g : (aF) → List (aF) → (List aE → List aF → Option (List aE × List aF)) → List aE → List aF → Option (List aE × List aF) // ∀ (q : aF) (r : List (aF)) (ih : List aE → List aF → Option (List aE × List aF)), (∀ (env : List aE) (cs : List aF), aAsL env cs r = ih env cs) → ∀ (env : List aE) (cs : List aF), aAsL env cs (q :: r) = g q r ih env cs } := ⟨fun q r ih env cs => _, by
  intro q r ih h env cs
  conv => lhs; simp only [aAsL, h, fs_nth, fs_ite, fs_and, fs_or, fs_not, fs_bt, fs_bf, fs_neq, fs_nle, fs_nlt, fs_ieq, fs_ile, fs_ilt, fs_add, fs_sub, fs_mul, fs_neg, fs_max, fs_min, fs_cast, fs_band, fs_bor, fs_bnot, fs_all, fs_any, fs_map, fs_app, fs_len, fs_fil, fs_fm, fs_fnd, fs_Asm]⟩
theorem aAsL_F : ∀ (l : List (aF)) (env : List aE) (cs : List aF), aAsL env cs l = (List.rec (motive := fun _ => List aE → List aF → Option (List aE × List aF)) (fun env cs => some (env, cs)) (fun q r ih => aAsLS.1 q r ih) l : List aE → List aF → Option (List aE × List aF)) env cs
  | [], _, _ => by simp only [aAsL]
  | q :: r, env, cs => aAsLS.2 q r _ (aAsL_F  r) env cs
noncomputable def aAsLF (env : List aE) (cs : List aF) (L : List aF) : Option (List aE × List aF) := List.rec (motive := fun _ => List aE → List aF → Option (List aE × List aF)) (fun env cs => some (env, cs)) (fun q r ih => aAsLS.1 q r ih) L env cs
theorem fs_AsL : aAsL = aAsLF := by
  funext env cs L
  exact aAsL_F  L env cs
noncomputable def aBsP : { g : aS → List Nat → List aF → Nat → List (Nat × aS) // aBs = g } := ⟨fun S r fs p => _, by
  funext S r fs p
  conv => lhs; simp only [aBs, fs_nth, fs_ite, fs_and, fs_or, fs_not, fs_bt, fs_bf, fs_neq, fs_nle, fs_nlt, fs_ieq, fs_ile, fs_ilt, fs_add, fs_sub, fs_mul, fs_neg, fs_max, fs_min, fs_cast, fs_band, fs_bor, fs_bnot, fs_all, fs_any, fs_map, fs_app, fs_len, fs_fil, fs_fm, fs_fnd, fs_AsL]⟩
noncomputable def aBsF : aS → List Nat → List aF → Nat → List (Nat × aS) := aBsP.1
theorem fs_Bs : aBs = aBsF := aBsP.2
noncomputable def aCdP : { g : List aE → List aF → Jvm.ClassFile.Cond → aF → List aF // aCd = g } := ⟨fun env cs c D => _, by
  funext env cs c D
  conv => lhs; simp only [aCd, fs_nth, fs_ite, fs_and, fs_or, fs_not, fs_bt, fs_bf, fs_neq, fs_nle, fs_nlt, fs_ieq, fs_ile, fs_ilt, fs_add, fs_sub, fs_mul, fs_neg, fs_max, fs_min, fs_cast, fs_band, fs_bor, fs_bnot, fs_all, fs_any, fs_map, fs_app, fs_len, fs_fil, fs_fm, fs_fnd, fs_Fm, fs_Fp, fs_Pr]⟩
noncomputable def aCdF : List aE → List aF → Jvm.ClassFile.Cond → aF → List aF := aCdP.1
theorem fs_Cd : aCd = aCdF := aCdP.2
noncomputable def aIf2P : { g : aS → Jvm.ClassFile.Cond → Nat → Nat → Option (List (Nat × aS)) // aIf2 = g } := ⟨fun S c p1 p2 => _, by
  funext S c p1 p2
  conv => lhs; simp only [aIf2, fs_nth, fs_ite, fs_and, fs_or, fs_not, fs_bt, fs_bf, fs_neq, fs_nle, fs_nlt, fs_ieq, fs_ile, fs_ilt, fs_add, fs_sub, fs_mul, fs_neg, fs_max, fs_min, fs_cast, fs_band, fs_bor, fs_bnot, fs_all, fs_any, fs_map, fs_app, fs_len, fs_fil, fs_fm, fs_fnd, fs_Bs, fs_Cd, fs_Fm, fs_Fp, fs_Li, fs_Not, fs_Ty]⟩
noncomputable def aIf2F : aS → Jvm.ClassFile.Cond → Nat → Nat → Option (List (Nat × aS)) := aIf2P.1
theorem fs_If2 : aIf2 = aIf2F := aIf2P.2
noncomputable def aIf1P : { g : aS → Jvm.ClassFile.Cond → Nat → Nat → Option (List (Nat × aS)) // aIf1 = g } := ⟨fun S c p1 p2 => _, by
  funext S c p1 p2
  conv => lhs; simp only [aIf1, fs_nth, fs_ite, fs_and, fs_or, fs_not, fs_bt, fs_bf, fs_neq, fs_nle, fs_nlt, fs_ieq, fs_ile, fs_ilt, fs_add, fs_sub, fs_mul, fs_neg, fs_max, fs_min, fs_cast, fs_band, fs_bor, fs_bnot, fs_all, fs_any, fs_map, fs_app, fs_len, fs_fil, fs_fm, fs_fnd, fs_Bs, fs_Cd, fs_Li, fs_Not, fs_Ty]⟩
noncomputable def aIf1F : aS → Jvm.ClassFile.Cond → Nat → Nat → Option (List (Nat × aS)) := aIf1P.1
theorem fs_If1 : aIf1 = aIf1F := aIf1P.2
noncomputable def aIfnP : { g : aS → Nat → Nat → Option (List (Nat × aS)) // aIfn = g } := ⟨fun S p1 p2 => _, by
  funext S p1 p2
  conv => lhs; simp only [aIfn, fs_nth, fs_ite, fs_and, fs_or, fs_not, fs_bt, fs_bf, fs_neq, fs_nle, fs_nlt, fs_ieq, fs_ile, fs_ilt, fs_add, fs_sub, fs_mul, fs_neg, fs_max, fs_min, fs_cast, fs_band, fs_bor, fs_bnot, fs_all, fs_any, fs_map, fs_app, fs_len, fs_fil, fs_fm, fs_fnd, fs_Nar, fs_Ty]⟩
noncomputable def aIfnF : aS → Nat → Nat → Option (List (Nat × aS)) := aIfnP.1
theorem fs_Ifn : aIfn = aIfnF := aIfnP.2
noncomputable def aUnP : { g : (Int × Int → aT) → (Int × Int → Option Int) → aS → Nat → Option (List (Nat × aS)) // aUn = g } := ⟨fun tf rf S p => _, by
  funext tf rf S p
  conv => lhs; simp only [aUn, fs_nth, fs_ite, fs_and, fs_or, fs_not, fs_bt, fs_bf, fs_neq, fs_nle, fs_nlt, fs_ieq, fs_ile, fs_ilt, fs_add, fs_sub, fs_mul, fs_neg, fs_max, fs_min, fs_cast, fs_band, fs_bor, fs_bnot, fs_all, fs_any, fs_map, fs_app, fs_len, fs_fil, fs_fm, fs_fnd, fs_Fm, fs_Iv, fs_Li, fs_Pu]⟩
noncomputable def aUnF : (Int × Int → aT) → (Int × Int → Option Int) → aS → Nat → Option (List (Nat × aS)) := aUnP.1
theorem fs_Un : aUn = aUnF := aUnP.2
noncomputable def aF64P : { g : List aE → aF → Option (Int × Int) // aF64 = g } := ⟨fun env f => _, by
  funext env f
  conv => lhs; simp only [aF64, fs_nth, fs_ite, fs_and, fs_or, fs_not, fs_bt, fs_bf, fs_neq, fs_nle, fs_nlt, fs_ieq, fs_ile, fs_ilt, fs_add, fs_sub, fs_mul, fs_neg, fs_max, fs_min, fs_cast, fs_band, fs_bor, fs_bnot, fs_all, fs_any, fs_map, fs_app, fs_len, fs_fil, fs_fm, fs_fnd, fs_Lb, fs_Sq]⟩
noncomputable def aF64F : List aE → aF → Option (Int × Int) := aF64P.1
theorem fs_F64 : aF64 = aF64F := aF64P.2
noncomputable def aGlP : { g : List aE → aF → Option aF // aGl = g } := ⟨fun env f => _, by
  funext env f
  conv => lhs; simp only [aGl, fs_nth, fs_ite, fs_and, fs_or, fs_not, fs_bt, fs_bf, fs_neq, fs_nle, fs_nlt, fs_ieq, fs_ile, fs_ilt, fs_add, fs_sub, fs_mul, fs_neg, fs_max, fs_min, fs_cast, fs_band, fs_bor, fs_bnot, fs_all, fs_any, fs_map, fs_app, fs_len, fs_fil, fs_fm, fs_fnd, fs_F64]⟩
noncomputable def aGlF : List aE → aF → Option aF := aGlP.1
theorem fs_Gl : aGl = aGlF := aGlP.2
noncomputable def aLkP : { g : aF → Option Int // aLk = g } := ⟨fun f => _, by
  funext f
  conv => lhs; simp only [aLk, fs_nth, fs_ite, fs_and, fs_or, fs_not, fs_bt, fs_bf, fs_neq, fs_nle, fs_nlt, fs_ieq, fs_ile, fs_ilt, fs_add, fs_sub, fs_mul, fs_neg, fs_max, fs_min, fs_cast, fs_band, fs_bor, fs_bnot, fs_all, fs_any, fs_map, fs_app, fs_len, fs_fil, fs_fm, fs_fnd]⟩
noncomputable def aLkF : aF → Option Int := aLkP.1
theorem fs_Lk : aLk = aLkF := aLkP.2
noncomputable def aLrP : { g : Nat → List aE → aF → aF → Option aF // aLr = g } := ⟨fun k env X Y => _, by
  funext k env X Y
  conv => lhs; simp only [aLr, fs_nth, fs_ite, fs_and, fs_or, fs_not, fs_bt, fs_bf, fs_neq, fs_nle, fs_nlt, fs_ieq, fs_ile, fs_ilt, fs_add, fs_sub, fs_mul, fs_neg, fs_max, fs_min, fs_cast, fs_band, fs_bor, fs_bnot, fs_all, fs_any, fs_map, fs_app, fs_len, fs_fil, fs_fm, fs_fnd, fs_Fm, fs_Fp, fs_Gl, fs_Lk]⟩
noncomputable def aLrF : Nat → List aE → aF → aF → Option aF := aLrP.1
theorem fs_Lr : aLr = aLrF := aLrP.2
noncomputable def aBlP : { g : Nat → aS → Nat → Option (List (Nat × aS)) // aBl = g } := ⟨fun k S p => _, by
  funext k S p
  conv => lhs; simp only [aBl, fs_nth, fs_ite, fs_and, fs_or, fs_not, fs_bt, fs_bf, fs_neq, fs_nle, fs_nlt, fs_ieq, fs_ile, fs_ilt, fs_add, fs_sub, fs_mul, fs_neg, fs_max, fs_min, fs_cast, fs_band, fs_bor, fs_bnot, fs_all, fs_any, fs_map, fs_app, fs_len, fs_fil, fs_fm, fs_fnd, fs_Li, fs_Lr, fs_Pu, fs_Ty]⟩
noncomputable def aBlF : Nat → aS → Nat → Option (List (Nat × aS)) := aBlP.1
theorem fs_Bl : aBl = aBlF := aBlP.2
noncomputable def aNzlP : { g : aS → Bool // aNzl = g } := ⟨fun S => _, by
  funext S
  conv => lhs; simp only [aNzl, fs_nth, fs_ite, fs_and, fs_or, fs_not, fs_bt, fs_bf, fs_neq, fs_nle, fs_nlt, fs_ieq, fs_ile, fs_ilt, fs_add, fs_sub, fs_mul, fs_neg, fs_max, fs_min, fs_cast, fs_band, fs_bor, fs_bnot, fs_all, fs_any, fs_map, fs_app, fs_len, fs_fil, fs_fm, fs_fnd, fs_Fp, fs_Li, fs_Pr, fs_Ty]⟩
noncomputable def aNzlF : aS → Bool := aNzlP.1
theorem fs_Nzl : aNzl = aNzlF := aNzlP.2
noncomputable def aLnegP : { g : aS → Nat → Option (List (Nat × aS)) // aLneg = g } := ⟨fun S p => _, by
  funext S p
  conv => lhs; simp only [aLneg, fs_nth, fs_ite, fs_and, fs_or, fs_not, fs_bt, fs_bf, fs_neq, fs_nle, fs_nlt, fs_ieq, fs_ile, fs_ilt, fs_add, fs_sub, fs_mul, fs_neg, fs_max, fs_min, fs_cast, fs_band, fs_bor, fs_bnot, fs_all, fs_any, fs_map, fs_app, fs_len, fs_fil, fs_fm, fs_fnd, fs_Fm, fs_Gl, fs_Li, fs_Pu, fs_Ty]⟩
noncomputable def aLnegF : aS → Nat → Option (List (Nat × aS)) := aLnegP.1
theorem fs_Lneg : aLneg = aLnegF := aLnegP.2
noncomputable def aBiP : { g : aS → Nat → Option (List (Nat × aS)) // aBi = g } := ⟨fun S p => _, by
  funext S p
  conv => lhs; simp only [aBi, fs_nth, fs_ite, fs_and, fs_or, fs_not, fs_bt, fs_bf, fs_neq, fs_nle, fs_nlt, fs_ieq, fs_ile, fs_ilt, fs_add, fs_sub, fs_mul, fs_neg, fs_max, fs_min, fs_cast, fs_band, fs_bor, fs_bnot, fs_all, fs_any, fs_map, fs_app, fs_len, fs_fil, fs_fm, fs_fnd, fs_Pu, fs_Ty]⟩
noncomputable def aBiF : aS → Nat → Option (List (Nat × aS)) := aBiP.1
theorem fs_Bi : aBi = aBiF := aBiP.2
noncomputable def aLcP : { g : List aE → aF → Int × Int // aLc = g } := ⟨fun env D => _, by
  funext env D
  conv => lhs; simp only [aLc, fs_nth, fs_ite, fs_and, fs_or, fs_not, fs_bt, fs_bf, fs_neq, fs_nle, fs_nlt, fs_ieq, fs_ile, fs_ilt, fs_add, fs_sub, fs_mul, fs_neg, fs_max, fs_min, fs_cast, fs_band, fs_bor, fs_bnot, fs_all, fs_any, fs_map, fs_app, fs_len, fs_fil, fs_fm, fs_fnd, fs_Lb, fs_Sq]⟩
noncomputable def aLcF : List aE → aF → Int × Int := aLcP.1
theorem fs_Lc : aLc = aLcF := aLcP.2
noncomputable def aLcmP : { g : aS → Nat → Option (List (Nat × aS)) // aLcm = g } := ⟨fun S p => _, by
  funext S p
  conv => lhs; simp only [aLcm, fs_nth, fs_ite, fs_and, fs_or, fs_not, fs_bt, fs_bf, fs_neq, fs_nle, fs_nlt, fs_ieq, fs_ile, fs_ilt, fs_add, fs_sub, fs_mul, fs_neg, fs_max, fs_min, fs_cast, fs_band, fs_bor, fs_bnot, fs_all, fs_any, fs_map, fs_app, fs_len, fs_fil, fs_fm, fs_fnd, fs_Fm, fs_Fp, fs_Lc, fs_Li, fs_Pu, fs_Ty]⟩
noncomputable def aLcmF : aS → Nat → Option (List (Nat × aS)) := aLcmP.1
theorem fs_Lcm : aLcm = aLcmF := aLcmP.2
noncomputable def aL2iP : { g : aS → Nat → Option (List (Nat × aS)) // aL2i = g } := ⟨fun S p => _, by
  funext S p
  conv => lhs; simp only [aL2i, fs_nth, fs_ite, fs_and, fs_or, fs_not, fs_bt, fs_bf, fs_neq, fs_nle, fs_nlt, fs_ieq, fs_ile, fs_ilt, fs_add, fs_sub, fs_mul, fs_neg, fs_max, fs_min, fs_cast, fs_band, fs_bor, fs_bnot, fs_all, fs_any, fs_map, fs_app, fs_len, fs_fil, fs_fm, fs_fnd, fs_F64, fs_Fit3, fs_Li, fs_Pu, fs_Ty]⟩
noncomputable def aL2iF : aS → Nat → Option (List (Nat × aS)) := aL2iP.1
theorem fs_L2i : aL2i = aL2iF := aL2iP.2
noncomputable def aNzP : { g : aS → Bool // aNz = g } := ⟨fun S => _, by
  funext S
  conv => lhs; simp only [aNz, fs_nth, fs_ite, fs_and, fs_or, fs_not, fs_bt, fs_bf, fs_neq, fs_nle, fs_nlt, fs_ieq, fs_ile, fs_ilt, fs_add, fs_sub, fs_mul, fs_neg, fs_max, fs_min, fs_cast, fs_band, fs_bor, fs_bnot, fs_all, fs_any, fs_map, fs_app, fs_len, fs_fil, fs_fm, fs_fnd, fs_Iv]⟩
noncomputable def aNzF : aS → Bool := aNzP.1
theorem fs_Nz : aNz = aNzF := aNzP.2
noncomputable def aC1P : { g : List aE → Nat → Bool // aC1 = g } := ⟨fun env i => _, by
  funext env i
  conv => lhs; simp only [aC1, fs_nth, fs_ite, fs_and, fs_or, fs_not, fs_bt, fs_bf, fs_neq, fs_nle, fs_nlt, fs_ieq, fs_ile, fs_ilt, fs_add, fs_sub, fs_mul, fs_neg, fs_max, fs_min, fs_cast, fs_band, fs_bor, fs_bnot, fs_all, fs_any, fs_map, fs_app, fs_len, fs_fil, fs_fm, fs_fnd, fs_Ty]⟩
noncomputable def aC1F : List aE → Nat → Bool := aC1P.1
theorem fs_C1 : aC1 = aC1F := aC1P.2
noncomputable def aDupP : { g : aS → Nat → Nat → Option (List (Nat × aS)) // aDup = g } := ⟨fun S w p => _, by
  funext S w p
  conv => lhs; simp only [aDup, fs_nth, fs_ite, fs_and, fs_or, fs_not, fs_bt, fs_bf, fs_neq, fs_nle, fs_nlt, fs_ieq, fs_ile, fs_ilt, fs_add, fs_sub, fs_mul, fs_neg, fs_max, fs_min, fs_cast, fs_band, fs_bor, fs_bnot, fs_all, fs_any, fs_map, fs_app, fs_len, fs_fil, fs_fm, fs_fnd, fs_C1]⟩
noncomputable def aDupF : aS → Nat → Nat → Option (List (Nat × aS)) := aDupP.1
theorem fs_Dup : aDup = aDupF := aDupP.2
noncomputable def aNrP : { g : aT → Bool // aNr = g } := ⟨fun t => _, by
  funext t
  conv => lhs; simp only [aNr, fs_nth, fs_ite, fs_and, fs_or, fs_not, fs_bt, fs_bf, fs_neq, fs_nle, fs_nlt, fs_ieq, fs_ile, fs_ilt, fs_add, fs_sub, fs_mul, fs_neg, fs_max, fs_min, fs_cast, fs_band, fs_bor, fs_bnot, fs_all, fs_any, fs_map, fs_app, fs_len, fs_fil, fs_fm, fs_fnd]⟩
noncomputable def aNrF : aT → Bool := aNrP.1
theorem fs_Nr : aNr = aNrF := aNrP.2
noncomputable def aDgP : { g : List (List aDe) → Nat → List aDe // aDg = g } := ⟨fun dep r => _, by
  funext dep r
  conv => lhs; simp only [aDg, fs_nth, fs_ite, fs_and, fs_or, fs_not, fs_bt, fs_bf, fs_neq, fs_nle, fs_nlt, fs_ieq, fs_ile, fs_ilt, fs_add, fs_sub, fs_mul, fs_neg, fs_max, fs_min, fs_cast, fs_band, fs_bor, fs_bnot, fs_all, fs_any, fs_map, fs_app, fs_len, fs_fil, fs_fm, fs_fnd]⟩
noncomputable def aDgF : List (List aDe) → Nat → List aDe := aDgP.1
theorem fs_Dg : aDg = aDgF := aDgP.2
noncomputable def aDlP : { g : List (List aDe) → Nat → Bool // aDl = g } := ⟨fun dep r => _, by
  funext dep r
  conv => lhs; simp only [aDl, fs_nth, fs_ite, fs_and, fs_or, fs_not, fs_bt, fs_bf, fs_neq, fs_nle, fs_nlt, fs_ieq, fs_ile, fs_ilt, fs_add, fs_sub, fs_mul, fs_neg, fs_max, fs_min, fs_cast, fs_band, fs_bor, fs_bnot, fs_all, fs_any, fs_map, fs_app, fs_len, fs_fil, fs_fm, fs_fnd]⟩
noncomputable def aDlF : List (List aDe) → Nat → Bool := aDlP.1
theorem fs_Dl : aDl = aDlF := aDlP.2
noncomputable def aOmP : { g : List (List aDe) → Bool // aOm = g } := ⟨fun dep => _, by
  funext dep
  conv => lhs; simp only [aOm, fs_nth, fs_ite, fs_and, fs_or, fs_not, fs_bt, fs_bf, fs_neq, fs_nle, fs_nlt, fs_ieq, fs_ile, fs_ilt, fs_add, fs_sub, fs_mul, fs_neg, fs_max, fs_min, fs_cast, fs_band, fs_bor, fs_bnot, fs_all, fs_any, fs_map, fs_app, fs_len, fs_fil, fs_fm, fs_fnd]⟩
noncomputable def aOmF : List (List aDe) → Bool := aOmP.1
theorem fs_Om : aOm = aOmF := aOmP.2
noncomputable def aPndP : { g : Nat → Nat → Nat → Nat × List Nat → Option (Nat × List Nat) // aPnd = g } := ⟨fun a i x q => _, by
  funext a i x q
  conv => lhs; simp only [aPnd, fs_nth, fs_ite, fs_and, fs_or, fs_not, fs_bt, fs_bf, fs_neq, fs_nle, fs_nlt, fs_ieq, fs_ile, fs_ilt, fs_add, fs_sub, fs_mul, fs_neg, fs_max, fs_min, fs_cast, fs_band, fs_bor, fs_bnot, fs_all, fs_any, fs_map, fs_app, fs_len, fs_fil, fs_fm, fs_fnd]⟩
noncomputable def aPndF : Nat → Nat → Nat → Nat × List Nat → Option (Nat × List Nat) := aPndP.1
theorem fs_Pnd : aPnd = aPndF := aPndP.2
noncomputable def aPnfP : { g : Nat → Nat → Nat → Nat × List Nat → Option (Nat × List Nat) // aPnf = g } := ⟨fun o f v q => _, by
  funext o f v q
  conv => lhs; simp only [aPnf, fs_nth, fs_ite, fs_and, fs_or, fs_not, fs_bt, fs_bf, fs_neq, fs_nle, fs_nlt, fs_ieq, fs_ile, fs_ilt, fs_add, fs_sub, fs_mul, fs_neg, fs_max, fs_min, fs_cast, fs_band, fs_bor, fs_bnot, fs_all, fs_any, fs_map, fs_app, fs_len, fs_fil, fs_fm, fs_fnd]⟩
noncomputable def aPnfF : Nat → Nat → Nat → Nat × List Nat → Option (Nat × List Nat) := aPnfP.1
theorem fs_Pnf : aPnf = aPnfF := aPnfP.2
noncomputable def aRgP : { g : FieldType → Int × Int // aRg = g } := ⟨fun ty => _, by
  funext ty
  conv => lhs; simp only [aRg, fs_nth, fs_ite, fs_and, fs_or, fs_not, fs_bt, fs_bf, fs_neq, fs_nle, fs_nlt, fs_ieq, fs_ile, fs_ilt, fs_add, fs_sub, fs_mul, fs_neg, fs_max, fs_min, fs_cast, fs_band, fs_bor, fs_bnot, fs_all, fs_any, fs_map, fs_app, fs_len, fs_fil, fs_fm, fs_fnd]⟩
noncomputable def aRgF : FieldType → Int × Int := aRgP.1
theorem fs_Rg : aRg = aRgF := aRgP.2
noncomputable def aSbP : { g : Int × Int → Int × Int → Bool // aSb = g } := ⟨fun A B => _, by
  funext A B
  conv => lhs; simp only [aSb, fs_nth, fs_ite, fs_and, fs_or, fs_not, fs_bt, fs_bf, fs_neq, fs_nle, fs_nlt, fs_ieq, fs_ile, fs_ilt, fs_add, fs_sub, fs_mul, fs_neg, fs_max, fs_min, fs_cast, fs_band, fs_bor, fs_bnot, fs_all, fs_any, fs_map, fs_app, fs_len, fs_fil, fs_fm, fs_fnd]⟩
noncomputable def aSbF : Int × Int → Int × Int → Bool := aSbP.1
theorem fs_Sb : aSb = aSbF := aSbP.2
noncomputable def aLeP : { g : aT → aT → Bool // aLe = g } := ⟨fun t t' => _, by
  funext t t'
  conv => lhs; simp only [aLe, fs_nth, fs_ite, fs_and, fs_or, fs_not, fs_bt, fs_bf, fs_neq, fs_nle, fs_nlt, fs_ieq, fs_ile, fs_ilt, fs_add, fs_sub, fs_mul, fs_neg, fs_max, fs_min, fs_cast, fs_band, fs_bor, fs_bnot, fs_all, fs_any, fs_map, fs_app, fs_len, fs_fil, fs_fm, fs_fnd, fs_Rj, fs_Sb]⟩
noncomputable def aLeF : aT → aT → Bool := aLeP.1
theorem fs_Le : aLe = aLeF := aLeP.2
noncomputable def aSuS (env : List aE) (m : List Nat) : { g : (Nat × Int) → List (Nat × Int) → (Option aF) → Option aF // ∀ (q : Nat × Int) (r : List (Nat × Int)) (ih : Option aF), (aSu env m r = ih ) → aSu env m (q :: r) = g q r ih  } := ⟨fun q r ih => _, by
  intro q r ih h
  conv => lhs; simp only [aSu, h, fs_nth, fs_ite, fs_and, fs_or, fs_not, fs_bt, fs_bf, fs_neq, fs_nle, fs_nlt, fs_ieq, fs_ile, fs_ilt, fs_add, fs_sub, fs_mul, fs_neg, fs_max, fs_min, fs_cast, fs_band, fs_bor, fs_bnot, fs_all, fs_any, fs_map, fs_app, fs_len, fs_fil, fs_fm, fs_fnd, fs_Fm, fs_Fp, fs_Li]⟩
theorem aSu_F (env : List aE) (m : List Nat) : ∀ (l : List (Nat × Int)), aSu env m l = (List.rec (motive := fun _ => Option aF) (some ([], 0)) (fun q r ih => (aSuS env m).1 q r ih) l : Option aF) 
  | [] => by simp only [aSu]
  | q :: r => (aSuS env m).2 q r _ (aSu_F env m r) 
noncomputable def aSuF (env : List aE) (m : List Nat) (L : List (Nat × Int)) : Option aF := List.rec (motive := fun _ => Option aF) (some ([], 0)) (fun q r ih => (aSuS env m).1 q r ih) L 
theorem fs_Su : aSu = aSuF := by
  funext env m L
  exact aSu_F env m L
noncomputable def aSb2P : { g : List aE → List Nat → aF → Option aF // aSb2 = g } := ⟨fun env m f => _, by
  funext env m f
  conv => lhs; simp only [aSb2, fs_nth, fs_ite, fs_and, fs_or, fs_not, fs_bt, fs_bf, fs_neq, fs_nle, fs_nlt, fs_ieq, fs_ile, fs_ilt, fs_add, fs_sub, fs_mul, fs_neg, fs_max, fs_min, fs_cast, fs_band, fs_bor, fs_bnot, fs_all, fs_any, fs_map, fs_app, fs_len, fs_fil, fs_fm, fs_fnd, fs_Su]⟩
noncomputable def aSb2F : List aE → List Nat → aF → Option aF := aSb2P.1
theorem fs_Sb2 : aSb2 = aSb2F := aSb2P.2
noncomputable def aTxP : { g : List aE → Nat → Option aT // aTx = g } := ⟨fun env i => _, by
  funext env i
  conv => lhs; simp only [aTx, fs_nth, fs_ite, fs_and, fs_or, fs_not, fs_bt, fs_bf, fs_neq, fs_nle, fs_nlt, fs_ieq, fs_ile, fs_ilt, fs_add, fs_sub, fs_mul, fs_neg, fs_max, fs_min, fs_cast, fs_band, fs_bor, fs_bnot, fs_all, fs_any, fs_map, fs_app, fs_len, fs_fil, fs_fm, fs_fnd, fs_Iv, fs_Ty]⟩
noncomputable def aTxF : List aE → Nat → Option aT := aTxP.1
theorem fs_Tx : aTx = aTxF := aTxP.2
noncomputable def aLxP : { g : List aE → List aF → Nat → aT → Bool // aLx = g } := ⟨fun env cs i t => _, by
  funext env cs i t
  conv => lhs; simp only [aLx, fs_nth, fs_ite, fs_and, fs_or, fs_not, fs_bt, fs_bf, fs_neq, fs_nle, fs_nlt, fs_ieq, fs_ile, fs_ilt, fs_add, fs_sub, fs_mul, fs_neg, fs_max, fs_min, fs_cast, fs_band, fs_bor, fs_bnot, fs_all, fs_any, fs_map, fs_app, fs_len, fs_fil, fs_fm, fs_fnd, fs_Fm, fs_Fp, fs_Le, fs_Li, fs_Pr, fs_Tx, fs_Ty]⟩
noncomputable def aLxF : List aE → List aF → Nat → aT → Bool := aLxP.1
theorem fs_Lx : aLx = aLxF := aLxP.2
noncomputable def aKiP : { g : List aE → Nat → Option Nat // aKi = g } := ⟨fun env o => _, by
  funext env o
  conv => lhs; simp only [aKi, fs_nth, fs_ite, fs_and, fs_or, fs_not, fs_bt, fs_bf, fs_neq, fs_nle, fs_nlt, fs_ieq, fs_ile, fs_ilt, fs_add, fs_sub, fs_mul, fs_neg, fs_max, fs_min, fs_cast, fs_band, fs_bor, fs_bnot, fs_all, fs_any, fs_map, fs_app, fs_len, fs_fil, fs_fm, fs_fnd, fs_Ty]⟩
noncomputable def aKiF : List aE → Nat → Option Nat := aKiP.1
theorem fs_Ki : aKi = aKiF := aKiP.2
noncomputable def aArP : { g : List aKd → List aE → Nat → Option (Nat × FieldType × Nat × (Int × Int) × List (Nat × Nat × Int × Int × Int)) // aAr = g } := ⟨fun T env a => _, by
  funext T env a
  conv => lhs; simp only [aAr, fs_nth, fs_ite, fs_and, fs_or, fs_not, fs_bt, fs_bf, fs_neq, fs_nle, fs_nlt, fs_ieq, fs_ile, fs_ilt, fs_add, fs_sub, fs_mul, fs_neg, fs_max, fs_min, fs_cast, fs_band, fs_bor, fs_bnot, fs_all, fs_any, fs_map, fs_app, fs_len, fs_fil, fs_fm, fs_fnd, fs_Ki]⟩
noncomputable def aArF : List aKd → List aE → Nat → Option (Nat × FieldType × Nat × (Int × Int) × List (Nat × Nat × Int × Int × Int)) := aArP.1
theorem fs_Ar : aAr = aArF := aArP.2
noncomputable def aTjP : { g : List (FieldType × Nat × (Int × Int) × List Int) → List aE → Nat → Option (FieldType × Nat × (Int × Int) × List Int) // aTj = g } := ⟨fun TB env a => _, by
  funext TB env a
  conv => lhs; simp only [aTj, fs_nth, fs_ite, fs_and, fs_or, fs_not, fs_bt, fs_bf, fs_neq, fs_nle, fs_nlt, fs_ieq, fs_ile, fs_ilt, fs_add, fs_sub, fs_mul, fs_neg, fs_max, fs_min, fs_cast, fs_band, fs_bor, fs_bnot, fs_all, fs_any, fs_map, fs_app, fs_len, fs_fil, fs_fm, fs_fnd, fs_Ty]⟩
noncomputable def aTjF : List (FieldType × Nat × (Int × Int) × List Int) → List aE → Nat → Option (FieldType × Nat × (Int × Int) × List Int) := aTjP.1
theorem fs_Tj : aTj = aTjF := aTjP.2
noncomputable def aFc2S (a : Nat) (f : aF) : { g : (Nat × aF × Nat) → List (Nat × aF × Nat) → (Option Nat) → Option Nat // ∀ (q : Nat × aF × Nat) (r : List (Nat × aF × Nat)) (ih : Option Nat), (aFc2 r a f = ih ) → aFc2 (q :: r) a f = g q r ih  } := ⟨fun q r ih => _, by
  intro q r ih h
  conv => lhs; simp only [aFc2, h, fs_nth, fs_ite, fs_and, fs_or, fs_not, fs_bt, fs_bf, fs_neq, fs_nle, fs_nlt, fs_ieq, fs_ile, fs_ilt, fs_add, fs_sub, fs_mul, fs_neg, fs_max, fs_min, fs_cast, fs_band, fs_bor, fs_bnot, fs_all, fs_any, fs_map, fs_app, fs_len, fs_fil, fs_fm, fs_fnd]⟩
theorem aFc2_F (a : Nat) (f : aF) : ∀ (l : List (Nat × aF × Nat)), aFc2 l a f = (List.rec (motive := fun _ => Option Nat) (none) (fun q r ih => (aFc2S a f).1 q r ih) l : Option Nat) 
  | [] => by simp only [aFc2]
  | q :: r => (aFc2S a f).2 q r _ (aFc2_F a f r) 
noncomputable def aFc2F (L : List (Nat × aF × Nat)) (a : Nat) (f : aF) : Option Nat := List.rec (motive := fun _ => Option Nat) (none) (fun q r ih => (aFc2S a f).1 q r ih) L 
theorem fs_Fc2 : aFc2 = aFc2F := by
  funext L a f
  exact aFc2_F a f L
noncomputable def aBdP : { g : List aE → List aF → aF → Nat → Bool // aBd = g } := ⟨fun env cs f len => _, by
  funext env cs f len
  conv => lhs; simp only [aBd, fs_nth, fs_ite, fs_and, fs_or, fs_not, fs_bt, fs_bf, fs_neq, fs_nle, fs_nlt, fs_ieq, fs_ile, fs_ilt, fs_add, fs_sub, fs_mul, fs_neg, fs_max, fs_min, fs_cast, fs_band, fs_bor, fs_bnot, fs_all, fs_any, fs_map, fs_app, fs_len, fs_fil, fs_fm, fs_fnd, fs_Fm, fs_Fp, fs_Pr]⟩
noncomputable def aBdF : List aE → List aF → aF → Nat → Bool := aBdP.1
theorem fs_Bd : aBd = aBdF := aBdP.2
noncomputable def aRcsP : { g : List aE → List aF → List (Nat × Nat × Int × Int × Int) → aF → Nat → List aF // aRcs = g } := ⟨fun env cs R f k => _, by
  funext env cs R f k
  conv => lhs; simp only [aRcs, fs_nth, fs_ite, fs_and, fs_or, fs_not, fs_bt, fs_bf, fs_neq, fs_nle, fs_nlt, fs_ieq, fs_ile, fs_ilt, fs_add, fs_sub, fs_mul, fs_neg, fs_max, fs_min, fs_cast, fs_band, fs_bor, fs_bnot, fs_all, fs_any, fs_map, fs_app, fs_len, fs_fil, fs_fm, fs_fnd, fs_Fm, fs_Fp, fs_Pr]⟩
noncomputable def aRcsF : List aE → List aF → List (Nat × Nat × Int × Int × Int) → aF → Nat → List aF := aRcsP.1
theorem fs_Rcs : aRcs = aRcsF := aRcsP.2
noncomputable def aTqP : { g : FieldType × Nat × (Int × Int) × List Int → Option (Int × Int) → Int × Int // aTq = g } := ⟨fun q A => _, by
  funext q A
  conv => lhs; simp only [aTq, fs_nth, fs_ite, fs_and, fs_or, fs_not, fs_bt, fs_bf, fs_neq, fs_nle, fs_nlt, fs_ieq, fs_ile, fs_ilt, fs_add, fs_sub, fs_mul, fs_neg, fs_max, fs_min, fs_cast, fs_band, fs_bor, fs_bnot, fs_all, fs_any, fs_map, fs_app, fs_len, fs_fil, fs_fm, fs_fnd]⟩
noncomputable def aTqF : FieldType × Nat × (Int × Int) × List Int → Option (Int × Int) → Int × Int := aTqP.1
theorem fs_Tq : aTq = aTqF := aTqP.2
noncomputable def aAlP : { g : aCf → FieldType → aS → Nat → Option (List (Nat × aS)) // aAl = g } := ⟨fun C ty S p => _, by
  funext C ty S p
  conv => lhs; simp only [aAl, fs_nth, fs_ite, fs_and, fs_or, fs_not, fs_bt, fs_bf, fs_neq, fs_nle, fs_nlt, fs_ieq, fs_ile, fs_ilt, fs_add, fs_sub, fs_mul, fs_neg, fs_max, fs_min, fs_cast, fs_band, fs_bor, fs_bnot, fs_all, fs_any, fs_map, fs_app, fs_len, fs_fil, fs_fm, fs_fnd, fs_Ar, fs_Bd, fs_Fc2, fs_Iv, fs_Li, fs_Pu, fs_Rcs, fs_Tj, fs_Tq, fs_Ty]⟩
noncomputable def aAlF : aCf → FieldType → aS → Nat → Option (List (Nat × aS)) := aAlP.1
theorem fs_Al : aAl = aAlF := aAlP.2
noncomputable def aFkP : { g : List (List aDe) → Nat → Nat → Nat × List Nat → Bool // aFk = g } := ⟨fun dep k f q => _, by
  funext dep k f q
  conv => lhs; simp only [aFk, fs_nth, fs_ite, fs_and, fs_or, fs_not, fs_bt, fs_bf, fs_neq, fs_nle, fs_nlt, fs_ieq, fs_ile, fs_ilt, fs_add, fs_sub, fs_mul, fs_neg, fs_max, fs_min, fs_cast, fs_band, fs_bor, fs_bnot, fs_all, fs_any, fs_map, fs_app, fs_len, fs_fil, fs_fm, fs_fnd, fs_Dg, fs_Dl]⟩
noncomputable def aFkF : List (List aDe) → Nat → Nat → Nat × List Nat → Bool := aFkP.1
theorem fs_Fk : aFk = aFkF := aFkP.2
noncomputable def aFkrP : { g : List (List aDe) → List aE → List aF → Nat → aF → Nat × List Nat → Bool // aFkr = g } := ⟨fun dep env cs k ix q => _, by
  funext dep env cs k ix q
  conv => lhs; simp only [aFkr, fs_nth, fs_ite, fs_and, fs_or, fs_not, fs_bt, fs_bf, fs_neq, fs_nle, fs_nlt, fs_ieq, fs_ile, fs_ilt, fs_add, fs_sub, fs_mul, fs_neg, fs_max, fs_min, fs_cast, fs_band, fs_bor, fs_bnot, fs_all, fs_any, fs_map, fs_app, fs_len, fs_fil, fs_fm, fs_fnd, fs_Dg, fs_Dl, fs_Fm, fs_Fp, fs_Pr, fs_Sb2]⟩
noncomputable def aFkrF : List (List aDe) → List aE → List aF → Nat → aF → Nat × List Nat → Bool := aFkrP.1
theorem fs_Fkr : aFkr = aFkrF := aFkrP.2
noncomputable def aFklP : { g : List (List aDe) → Nat → Nat × List Nat → Bool // aFkl = g } := ⟨fun dep k q => _, by
  funext dep k q
  conv => lhs; simp only [aFkl, fs_nth, fs_ite, fs_and, fs_or, fs_not, fs_bt, fs_bf, fs_neq, fs_nle, fs_nlt, fs_ieq, fs_ile, fs_ilt, fs_add, fs_sub, fs_mul, fs_neg, fs_max, fs_min, fs_cast, fs_band, fs_bor, fs_bnot, fs_all, fs_any, fs_map, fs_app, fs_len, fs_fil, fs_fm, fs_fnd, fs_Dg, fs_Dl]⟩
noncomputable def aFklF : List (List aDe) → Nat → Nat × List Nat → Bool := aFklP.1
theorem fs_Fkl : aFkl = aFklF := aFklP.2
noncomputable def aCkP : { g : List aE → Nat → Nat × aF × Nat → Bool // aCk = g } := ⟨fun env k q => _, by
  funext env k q
  conv => lhs; simp only [aCk, fs_nth, fs_ite, fs_and, fs_or, fs_not, fs_bt, fs_bf, fs_neq, fs_nle, fs_nlt, fs_ieq, fs_ile, fs_ilt, fs_add, fs_sub, fs_mul, fs_neg, fs_max, fs_min, fs_cast, fs_band, fs_bor, fs_bnot, fs_all, fs_any, fs_map, fs_app, fs_len, fs_fil, fs_fm, fs_fnd, fs_Ki]⟩
noncomputable def aCkF : List aE → Nat → Nat × aF × Nat → Bool := aCkP.1
theorem fs_Ck : aCk = aCkF := aCkP.2
noncomputable def aMkS (k : Nat) : { g : (Nat × aF) → List (Nat × aF) → (Option aF) → Option aF // ∀ (q : Nat × aF) (r : List (Nat × aF)) (ih : Option aF), (aMk r k = ih ) → aMk (q :: r) k = g q r ih  } := ⟨fun q r ih => _, by
  intro q r ih h
  conv => lhs; simp only [aMk, h, fs_nth, fs_ite, fs_and, fs_or, fs_not, fs_bt, fs_bf, fs_neq, fs_nle, fs_nlt, fs_ieq, fs_ile, fs_ilt, fs_add, fs_sub, fs_mul, fs_neg, fs_max, fs_min, fs_cast, fs_band, fs_bor, fs_bnot, fs_all, fs_any, fs_map, fs_app, fs_len, fs_fil, fs_fm, fs_fnd]⟩
theorem aMk_F (k : Nat) : ∀ (l : List (Nat × aF)), aMk l k = (List.rec (motive := fun _ => Option aF) (none) (fun q r ih => (aMkS k).1 q r ih) l : Option aF) 
  | [] => by simp only [aMk]
  | q :: r => (aMkS k).2 q r _ (aMk_F k r) 
noncomputable def aMkF (L : List (Nat × aF)) (k : Nat) : Option aF := List.rec (motive := fun _ => Option aF) (none) (fun q r ih => (aMkS k).1 q r ih) L 
theorem fs_Mk : aMk = aMkF := by
  funext L k
  exact aMk_F k L
noncomputable def aWrP : { g : aCf → List aE → List aF → Nat → aF → Bool // aWr = g } := ⟨fun C env cs k f => _, by
  funext C env cs k f
  conv => lhs; simp only [aWr, fs_nth, fs_ite, fs_and, fs_or, fs_not, fs_bt, fs_bf, fs_neq, fs_nle, fs_nlt, fs_ieq, fs_ile, fs_ilt, fs_add, fs_sub, fs_mul, fs_neg, fs_max, fs_min, fs_cast, fs_band, fs_bor, fs_bnot, fs_all, fs_any, fs_map, fs_app, fs_len, fs_fil, fs_fm, fs_fnd, fs_Fm, fs_Fp, fs_Mk, fs_Pr, fs_Sb2]⟩
noncomputable def aWrF : aCf → List aE → List aF → Nat → aF → Bool := aWrP.1
theorem fs_Wr : aWr = aWrF := aWrP.2
noncomputable def aAsP : { g : aCf → FieldType → aS → Nat → Option (List (Nat × aS)) // aAs = g } := ⟨fun C ty S p => _, by
  funext C ty S p
  conv => lhs; simp only [aAs, fs_nth, fs_ite, fs_and, fs_or, fs_not, fs_bt, fs_bf, fs_neq, fs_nle, fs_nlt, fs_ieq, fs_ile, fs_ilt, fs_add, fs_sub, fs_mul, fs_neg, fs_max, fs_min, fs_cast, fs_band, fs_bor, fs_bnot, fs_all, fs_any, fs_map, fs_app, fs_len, fs_fil, fs_fm, fs_fnd, fs_Ar, fs_Bd, fs_Ck, fs_Fkr, fs_Fm, fs_Fp, fs_Li, fs_Lx, fs_Pnd, fs_Pr, fs_Rg, fs_Ty, fs_Wr]⟩
noncomputable def aAsF : aCf → FieldType → aS → Nat → Option (List (Nat × aS)) := aAsP.1
theorem fs_As : aAs = aAsF := aAsP.2
noncomputable def aFindS (o f : Nat) : { g : (Nat × Nat × Nat) → List (Nat × Nat × Nat) → (Option Nat) → Option Nat // ∀ (q : Nat × Nat × Nat) (r : List (Nat × Nat × Nat)) (ih : Option Nat), (aFind r o f = ih ) → aFind (q :: r) o f = g q r ih  } := ⟨fun q r ih => _, by
  intro q r ih h
  conv => lhs; simp only [aFind, h, fs_nth, fs_ite, fs_and, fs_or, fs_not, fs_bt, fs_bf, fs_neq, fs_nle, fs_nlt, fs_ieq, fs_ile, fs_ilt, fs_add, fs_sub, fs_mul, fs_neg, fs_max, fs_min, fs_cast, fs_band, fs_bor, fs_bnot, fs_all, fs_any, fs_map, fs_app, fs_len, fs_fil, fs_fm, fs_fnd]⟩
theorem aFind_F (o f : Nat) : ∀ (l : List (Nat × Nat × Nat)), aFind l o f = (List.rec (motive := fun _ => Option Nat) (none) (fun q r ih => (aFindS o f).1 q r ih) l : Option Nat) 
  | [] => by simp only [aFind]
  | q :: r => (aFindS o f).2 q r _ (aFind_F o f r) 
noncomputable def aFindF (L : List (Nat × Nat × Nat)) (o : Nat) (f : Nat) : Option Nat := List.rec (motive := fun _ => Option Nat) (none) (fun q r ih => (aFindS o f).1 q r ih) L 
theorem fs_Find : aFind = aFindF := by
  funext L o f
  exact aFind_F o f L
noncomputable def aObP : { g : List aKd → List aE → Nat → Nat → Nat → Option (Nat × aT) // aOb = g } := ⟨fun T env o ci f => _, by
  funext T env o ci f
  conv => lhs; simp only [aOb, fs_nth, fs_ite, fs_and, fs_or, fs_not, fs_bt, fs_bf, fs_neq, fs_nle, fs_nlt, fs_ieq, fs_ile, fs_ilt, fs_add, fs_sub, fs_mul, fs_neg, fs_max, fs_min, fs_cast, fs_band, fs_bor, fs_bnot, fs_all, fs_any, fs_map, fs_app, fs_len, fs_fil, fs_fm, fs_fnd, fs_Ki]⟩
noncomputable def aObF : List aKd → List aE → Nat → Nat → Nat → Option (Nat × aT) := aObP.1
theorem fs_Ob : aOb = aObF := aObP.2
noncomputable def aGetP : { g : aCf → Nat → Nat → aS → Nat → Option (List (Nat × aS)) // aGet = g } := ⟨fun C ci f S p => _, by
  funext C ci f S p
  conv => lhs; simp only [aGet, fs_nth, fs_ite, fs_and, fs_or, fs_not, fs_bt, fs_bf, fs_neq, fs_nle, fs_nlt, fs_ieq, fs_ile, fs_ilt, fs_add, fs_sub, fs_mul, fs_neg, fs_max, fs_min, fs_cast, fs_band, fs_bor, fs_bnot, fs_all, fs_any, fs_map, fs_app, fs_len, fs_fil, fs_fm, fs_fnd, fs_Find, fs_Ob]⟩
noncomputable def aGetF : aCf → Nat → Nat → aS → Nat → Option (List (Nat × aS)) := aGetP.1
theorem fs_Get : aGet = aGetF := aGetP.2
noncomputable def aFit2P : { g : Nat → aT → Bool // aFit2 = g } := ⟨fun kd t => _, by
  funext kd t
  conv => lhs; simp only [aFit2, fs_nth, fs_ite, fs_and, fs_or, fs_not, fs_bt, fs_bf, fs_neq, fs_nle, fs_nlt, fs_ieq, fs_ile, fs_ilt, fs_add, fs_sub, fs_mul, fs_neg, fs_max, fs_min, fs_cast, fs_band, fs_bor, fs_bnot, fs_all, fs_any, fs_map, fs_app, fs_len, fs_fil, fs_fm, fs_fnd, fs_Sb]⟩
noncomputable def aFit2F : Nat → aT → Bool := aFit2P.1
theorem fs_Fit2 : aFit2 = aFit2F := aFit2P.2
noncomputable def aDropP : { g : List aE → Nat → Nat → Nat × Nat × Nat → Bool // aDrop = g } := ⟨fun env k f q => _, by
  funext env k f q
  conv => lhs; simp only [aDrop, fs_nth, fs_ite, fs_and, fs_or, fs_not, fs_bt, fs_bf, fs_neq, fs_nle, fs_nlt, fs_ieq, fs_ile, fs_ilt, fs_add, fs_sub, fs_mul, fs_neg, fs_max, fs_min, fs_cast, fs_band, fs_bor, fs_bnot, fs_all, fs_any, fs_map, fs_app, fs_len, fs_fil, fs_fm, fs_fnd, fs_Ki]⟩
noncomputable def aDropF : List aE → Nat → Nat → Nat × Nat × Nat → Bool := aDropP.1
theorem fs_Drop : aDrop = aDropF := aDropP.2
noncomputable def aFixP : { g : List aE → List aF → Nat → aT → Nat → Bool // aFix = g } := ⟨fun env cs v tv kd => _, by
  funext env cs v tv kd
  conv => lhs; simp only [aFix, fs_nth, fs_ite, fs_and, fs_or, fs_not, fs_bt, fs_bf, fs_neq, fs_nle, fs_nlt, fs_ieq, fs_ile, fs_ilt, fs_add, fs_sub, fs_mul, fs_neg, fs_max, fs_min, fs_cast, fs_band, fs_bor, fs_bnot, fs_all, fs_any, fs_map, fs_app, fs_len, fs_fil, fs_fm, fs_fnd, fs_Fit2, fs_Lx]⟩
noncomputable def aFixF : List aE → List aF → Nat → aT → Nat → Bool := aFixP.1
theorem fs_Fix : aFix = aFixF := aFixP.2
noncomputable def aPutP : { g : aCf → Nat → Nat → Nat → aS → Nat → Option (List (Nat × aS)) // aPut = g } := ⟨fun C ci f kd S p => _, by
  funext C ci f kd S p
  conv => lhs; simp only [aPut, fs_nth, fs_ite, fs_and, fs_or, fs_not, fs_bt, fs_bf, fs_neq, fs_nle, fs_nlt, fs_ieq, fs_ile, fs_ilt, fs_add, fs_sub, fs_mul, fs_neg, fs_max, fs_min, fs_cast, fs_band, fs_bor, fs_bnot, fs_all, fs_any, fs_map, fs_app, fs_len, fs_fil, fs_fm, fs_fnd, fs_Drop, fs_Fix, fs_Fk, fs_Lx, fs_Nr, fs_Ob, fs_Pnf, fs_Ty]⟩
noncomputable def aPutF : aCf → Nat → Nat → Nat → aS → Nat → Option (List (Nat × aS)) := aPutP.1
theorem fs_Put : aPut = aPutF := aPutP.2
noncomputable def aLlP : { g : aCf → aS → Nat → Option (List (Nat × aS)) // aLl = g } := ⟨fun C S p => _, by
  funext C S p
  conv => lhs; simp only [aLl, fs_nth, fs_ite, fs_and, fs_or, fs_not, fs_bt, fs_bf, fs_neq, fs_nle, fs_nlt, fs_ieq, fs_ile, fs_ilt, fs_add, fs_sub, fs_mul, fs_neg, fs_max, fs_min, fs_cast, fs_band, fs_bor, fs_bnot, fs_all, fs_any, fs_map, fs_app, fs_len, fs_fil, fs_fm, fs_fnd, fs_Ar, fs_Bd, fs_Fc2, fs_Li, fs_Ty]⟩
noncomputable def aLlF : aCf → aS → Nat → Option (List (Nat × aS)) := aLlP.1
theorem fs_Ll : aLl = aLlF := aLlP.2
noncomputable def aLsP : { g : aCf → aS → Nat → Option (List (Nat × aS)) // aLs = g } := ⟨fun C S p => _, by
  funext C S p
  conv => lhs; simp only [aLs, fs_nth, fs_ite, fs_and, fs_or, fs_not, fs_bt, fs_bf, fs_neq, fs_nle, fs_nlt, fs_ieq, fs_ile, fs_ilt, fs_add, fs_sub, fs_mul, fs_neg, fs_max, fs_min, fs_cast, fs_band, fs_bor, fs_bnot, fs_all, fs_any, fs_map, fs_app, fs_len, fs_fil, fs_fm, fs_fnd, fs_Ar, fs_Bd, fs_Ck, fs_Fkl, fs_Li, fs_Pnd, fs_Ty, fs_Wr]⟩
noncomputable def aLsF : aCf → aS → Nat → Option (List (Nat × aS)) := aLsP.1
theorem fs_Ls : aLs = aLsF := aLsP.2
noncomputable def aLenP : { g : aCf → aS → Nat → Option (List (Nat × aS)) // aLen = g } := ⟨fun C S p => _, by
  funext C S p
  conv => lhs; simp only [aLen, fs_nth, fs_ite, fs_and, fs_or, fs_not, fs_bt, fs_bf, fs_neq, fs_nle, fs_nlt, fs_ieq, fs_ile, fs_ilt, fs_add, fs_sub, fs_mul, fs_neg, fs_max, fs_min, fs_cast, fs_band, fs_bor, fs_bnot, fs_all, fs_any, fs_map, fs_app, fs_len, fs_fil, fs_fm, fs_fnd, fs_Ar, fs_Pu, fs_Tj]⟩
noncomputable def aLenF : aCf → aS → Nat → Option (List (Nat × aS)) := aLenP.1
theorem fs_Len : aLen = aLenF := aLenP.2
noncomputable def aBtP : { g : jP → FieldType // aBt = g } := ⟨fun py => _, by
  funext py
  conv => lhs; simp only [aBt, fs_nth, fs_ite, fs_and, fs_or, fs_not, fs_bt, fs_bf, fs_neq, fs_nle, fs_nlt, fs_ieq, fs_ile, fs_ilt, fs_add, fs_sub, fs_mul, fs_neg, fs_max, fs_min, fs_cast, fs_band, fs_bor, fs_bnot, fs_all, fs_any, fs_map, fs_app, fs_len, fs_fil, fs_fm, fs_fnd]⟩
noncomputable def aBtF : jP → FieldType := aBtP.1
theorem fs_Bt : aBt = aBtF := aBtP.2
noncomputable def aI2bP : { g : Int × Int → Int × Int // aI2b = g } := ⟨fun A => _, by
  funext A
  conv => lhs; simp only [aI2b, fs_nth, fs_ite, fs_and, fs_or, fs_not, fs_bt, fs_bf, fs_neq, fs_nle, fs_nlt, fs_ieq, fs_ile, fs_ilt, fs_add, fs_sub, fs_mul, fs_neg, fs_max, fs_min, fs_cast, fs_band, fs_bor, fs_bnot, fs_all, fs_any, fs_map, fs_app, fs_len, fs_fil, fs_fm, fs_fnd, fs_Sb]⟩
noncomputable def aI2bF : Int × Int → Int × Int := aI2bP.1
theorem fs_I2b : aI2b = aI2bF := aI2bP.2
noncomputable def aI2cP : { g : Int × Int → Int × Int // aI2c = g } := ⟨fun A => _, by
  funext A
  conv => lhs; simp only [aI2c, fs_nth, fs_ite, fs_and, fs_or, fs_not, fs_bt, fs_bf, fs_neq, fs_nle, fs_nlt, fs_ieq, fs_ile, fs_ilt, fs_add, fs_sub, fs_mul, fs_neg, fs_max, fs_min, fs_cast, fs_band, fs_bor, fs_bnot, fs_all, fs_any, fs_map, fs_app, fs_len, fs_fil, fs_fm, fs_fnd, fs_Sb]⟩
noncomputable def aI2cF : Int × Int → Int × Int := aI2cP.1
theorem fs_I2c : aI2c = aI2cF := aI2cP.2
noncomputable def aAnd2P : { g : Int × Int → Int × Int → Int × Int // aAnd2 = g } := ⟨fun A B => _, by
  funext A B
  conv => lhs; simp only [aAnd2, fs_nth, fs_ite, fs_and, fs_or, fs_not, fs_bt, fs_bf, fs_neq, fs_nle, fs_nlt, fs_ieq, fs_ile, fs_ilt, fs_add, fs_sub, fs_mul, fs_neg, fs_max, fs_min, fs_cast, fs_band, fs_bor, fs_bnot, fs_all, fs_any, fs_map, fs_app, fs_len, fs_fil, fs_fm, fs_fnd, fs_And]⟩
noncomputable def aAnd2F : Int × Int → Int × Int → Int × Int := aAnd2P.1
theorem fs_And2 : aAnd2 = aAnd2F := aAnd2P.2
noncomputable def aOr2P : { g : Int × Int → Int × Int → Int × Int // aOr2 = g } := ⟨fun A B => _, by
  funext A B
  conv => lhs; simp only [aOr2, fs_nth, fs_ite, fs_and, fs_or, fs_not, fs_bt, fs_bf, fs_neq, fs_nle, fs_nlt, fs_ieq, fs_ile, fs_ilt, fs_add, fs_sub, fs_mul, fs_neg, fs_max, fs_min, fs_cast, fs_band, fs_bor, fs_bnot, fs_all, fs_any, fs_map, fs_app, fs_len, fs_fil, fs_fm, fs_fnd, fs_Or]⟩
noncomputable def aOr2F : Int × Int → Int × Int → Int × Int := aOr2P.1
theorem fs_Or2 : aOr2 = aOr2F := aOr2P.2
noncomputable def aXor2P : { g : Int × Int → Int × Int → Int × Int // aXor2 = g } := ⟨fun A B => _, by
  funext A B
  conv => lhs; simp only [aXor2, fs_nth, fs_ite, fs_and, fs_or, fs_not, fs_bt, fs_bf, fs_neq, fs_nle, fs_nlt, fs_ieq, fs_ile, fs_ilt, fs_add, fs_sub, fs_mul, fs_neg, fs_max, fs_min, fs_cast, fs_band, fs_bor, fs_bnot, fs_all, fs_any, fs_map, fs_app, fs_len, fs_fil, fs_fm, fs_fnd, fs_Or]⟩
noncomputable def aXor2F : Int × Int → Int × Int → Int × Int := aXor2P.1
theorem fs_Xor2 : aXor2 = aXor2F := aXor2P.2
noncomputable def aQnP : { g : aS → Nat → Int × Int → Int → aS × Nat // aQn = g } := ⟨fun S x A c => _, by
  funext S x A c
  conv => lhs; simp only [aQn, fs_nth, fs_ite, fs_and, fs_or, fs_not, fs_bt, fs_bf, fs_neq, fs_nle, fs_nlt, fs_ieq, fs_ile, fs_ilt, fs_add, fs_sub, fs_mul, fs_neg, fs_max, fs_min, fs_cast, fs_band, fs_bor, fs_bnot, fs_all, fs_any, fs_map, fs_app, fs_len, fs_fil, fs_fm, fs_fnd, fs_Qcs, fs_Qf]⟩
noncomputable def aQnF : aS → Nat → Int × Int → Int → aS × Nat := aQnP.1
theorem fs_Qn : aQn = aQnF := aQnP.2
noncomputable def aXrP : { g : aS → Nat → Option (List (Nat × aS)) // aXr = g } := ⟨fun S p => _, by
  funext S p
  conv => lhs; simp only [aXr, fs_nth, fs_ite, fs_and, fs_or, fs_not, fs_bt, fs_bf, fs_neq, fs_nle, fs_nlt, fs_ieq, fs_ile, fs_ilt, fs_add, fs_sub, fs_mul, fs_neg, fs_max, fs_min, fs_cast, fs_band, fs_bor, fs_bnot, fs_all, fs_any, fs_map, fs_app, fs_len, fs_fil, fs_fm, fs_fnd, fs_Fp, fs_Iv, fs_Li, fs_Pu, fs_Qn]⟩
noncomputable def aXrF : aS → Nat → Option (List (Nat × aS)) := aXrP.1
theorem fs_Xr : aXr = aXrF := aXrP.2
noncomputable def aStpP : { g : aCf → Instr → Nat → jP → Nat → aS → Option (List (Nat × aS)) // aStp = g } := ⟨fun C I ln py pc S => _, by
  funext C I ln py pc S
  conv => lhs; simp only [aStp, fs_nth, fs_ite, fs_and, fs_or, fs_not, fs_bt, fs_bf, fs_neq, fs_nle, fs_nlt, fs_ieq, fs_ile, fs_ilt, fs_add, fs_sub, fs_mul, fs_neg, fs_max, fs_min, fs_cast, fs_band, fs_bor, fs_bnot, fs_all, fs_any, fs_map, fs_app, fs_len, fs_fil, fs_fm, fs_fnd, fs_Ad, fs_Add, fs_Ai, fs_Al, fs_And2, fs_As, fs_Bi, fs_Bin, fs_Bl, fs_Bt, fs_Div, fs_Dup, fs_Dv, fs_Fit3, fs_Get, fs_I2b, fs_I2c, fs_If1, fs_If2, fs_Ifn, fs_Inc, fs_L2i, fs_Lcm, fs_Ld, fs_Len, fs_Ll, fs_Lneg, fs_Ls, fs_Mul, fs_Neg, fs_Nz, fs_Nzl, fs_Or2, fs_Pu, fs_Put, fs_Rem, fs_Rm, fs_Sb, fs_Shl, fs_So, fs_Sr, fs_Sub, fs_Un, fs_Ush, fs_Xor2, fs_Xr]⟩
noncomputable def aStpF : aCf → Instr → Nat → jP → Nat → aS → Option (List (Nat × aS)) := aStpP.1
theorem fs_Stp : aStp = aStpF := aStpP.2
noncomputable def aOfP : { g : List aKd → List aE → Nat → Nat → Option aT // aOf = g } := ⟨fun T env o f => _, by
  funext T env o f
  conv => lhs; simp only [aOf, fs_nth, fs_ite, fs_and, fs_or, fs_not, fs_bt, fs_bf, fs_neq, fs_nle, fs_nlt, fs_ieq, fs_ile, fs_ilt, fs_add, fs_sub, fs_mul, fs_neg, fs_max, fs_min, fs_cast, fs_band, fs_bor, fs_bnot, fs_all, fs_any, fs_map, fs_app, fs_len, fs_fil, fs_fm, fs_fnd, fs_Ki]⟩
noncomputable def aOfF : List aKd → List aE → Nat → Nat → Option aT := aOfP.1
theorem fs_Of : aOf = aOfF := aOfP.2
noncomputable def aRdP : { g : aCf → aS → Nat → Nat → Option (aS × Nat) // aRd = g } := ⟨fun C S o f => _, by
  funext C S o f
  conv => lhs; simp only [aRd, fs_nth, fs_ite, fs_and, fs_or, fs_not, fs_bt, fs_bf, fs_neq, fs_nle, fs_nlt, fs_ieq, fs_ile, fs_ilt, fs_add, fs_sub, fs_mul, fs_neg, fs_max, fs_min, fs_cast, fs_band, fs_bor, fs_bnot, fs_all, fs_any, fs_map, fs_app, fs_len, fs_fil, fs_fm, fs_fnd, fs_Find, fs_Of]⟩
noncomputable def aRdF : aCf → aS → Nat → Nat → Option (aS × Nat) := aRdP.1
theorem fs_Rd : aRd = aRdF := aRdP.2
noncomputable def aRcP : { g : aCf → aS → Nat → Nat → Option (aS × Nat) // aRc = g } := ⟨fun C S a c => _, by
  funext C S a c
  conv => lhs; simp only [aRc, fs_nth, fs_ite, fs_and, fs_or, fs_not, fs_bt, fs_bf, fs_neq, fs_nle, fs_nlt, fs_ieq, fs_ile, fs_ilt, fs_add, fs_sub, fs_mul, fs_neg, fs_max, fs_min, fs_cast, fs_band, fs_bor, fs_bnot, fs_all, fs_any, fs_map, fs_app, fs_len, fs_fil, fs_fm, fs_fnd, fs_Ar, fs_Fc2]⟩
noncomputable def aRcF : aCf → aS → Nat → Nat → Option (aS × Nat) := aRcP.1
theorem fs_Rc : aRc = aRcF := aRcP.2
noncomputable def aFndP : { g : List (Nat × List Nat) → Nat → Nat → Option Nat // aFnd = g } := ⟨fun fx r j => _, by
  funext fx r j
  conv => lhs; simp only [aFnd, fs_nth, fs_ite, fs_and, fs_or, fs_not, fs_bt, fs_bf, fs_neq, fs_nle, fs_nlt, fs_ieq, fs_ile, fs_ilt, fs_add, fs_sub, fs_mul, fs_neg, fs_max, fs_min, fs_cast, fs_band, fs_bor, fs_bnot, fs_all, fs_any, fs_map, fs_app, fs_len, fs_fil, fs_fm, fs_fnd]⟩
noncomputable def aFndF : List (Nat × List Nat) → Nat → Nat → Option Nat := aFndP.1
theorem fs_Fnd : aFnd = aFndF := aFndP.2
noncomputable def aFinP : { g : aS → List Nat → Nat → Option Nat // aFin = g } := ⟨fun S m i => _, by
  funext S m i
  conv => lhs; simp only [aFin, fs_nth, fs_ite, fs_and, fs_or, fs_not, fs_bt, fs_bf, fs_neq, fs_nle, fs_nlt, fs_ieq, fs_ile, fs_ilt, fs_add, fs_sub, fs_mul, fs_neg, fs_max, fs_min, fs_cast, fs_band, fs_bor, fs_bnot, fs_all, fs_any, fs_map, fs_app, fs_len, fs_fil, fs_fm, fs_fnd]⟩
noncomputable def aFinF : aS → List Nat → Nat → Option Nat := aFinP.1
theorem fs_Fin : aFin = aFinF := aFinP.2
noncomputable def aMpS1 (C : aCf) : { g : Nat → List aSc2 → (aS → List Nat → Option (aS × List Nat)) → aS → List Nat → Option (aS × List Nat) // ∀ (i : Nat) (r : List aSc2) (ih : aS → List Nat → Option (aS × List Nat)), (∀ (S : aS) (m : List Nat), aMp C S m r = ih S m) → ∀ (S : aS) (m : List Nat), aMp C S m (Sum.inl i :: r) = g i r ih S m } := ⟨fun i r ih S m => _, by
  intro i r ih h S m
  conv => lhs; simp only [aMp, h, fs_nth, fs_ite, fs_and, fs_or, fs_not, fs_bt, fs_bf, fs_neq, fs_nle, fs_nlt, fs_ieq, fs_ile, fs_ilt, fs_add, fs_sub, fs_mul, fs_neg, fs_max, fs_min, fs_cast, fs_band, fs_bor, fs_bnot, fs_all, fs_any, fs_map, fs_app, fs_len, fs_fil, fs_fm, fs_fnd, fs_Fin, fs_Fnd, fs_Rc, fs_Rd]⟩
noncomputable def aMpS2 (C : aCf) : { g : Nat → List aSc2 → (aS → List Nat → Option (aS × List Nat)) → aS → List Nat → Option (aS × List Nat) // ∀ (i : Nat) (r : List aSc2) (ih : aS → List Nat → Option (aS × List Nat)), (∀ (S : aS) (m : List Nat), aMp C S m r = ih S m) → ∀ (S : aS) (m : List Nat), aMp C S m (Sum.inr (Sum.inl i) :: r) = g i r ih S m } := ⟨fun i r ih S m => _, by
  intro i r ih h S m
  conv => lhs; simp only [aMp, h, fs_nth, fs_ite, fs_and, fs_or, fs_not, fs_bt, fs_bf, fs_neq, fs_nle, fs_nlt, fs_ieq, fs_ile, fs_ilt, fs_add, fs_sub, fs_mul, fs_neg, fs_max, fs_min, fs_cast, fs_band, fs_bor, fs_bnot, fs_all, fs_any, fs_map, fs_app, fs_len, fs_fil, fs_fm, fs_fnd, fs_Fin, fs_Fnd, fs_Rc, fs_Rd]⟩
noncomputable def aMpS3 (C : aCf) : { g : (Nat × Nat) → List aSc2 → (aS → List Nat → Option (aS × List Nat)) → aS → List Nat → Option (aS × List Nat) // ∀ (q : (Nat × Nat)) (r : List aSc2) (ih : aS → List Nat → Option (aS × List Nat)), (∀ (S : aS) (m : List Nat), aMp C S m r = ih S m) → ∀ (S : aS) (m : List Nat), aMp C S m (Sum.inr (Sum.inr q) :: r) = g q r ih S m } := ⟨fun q r ih S m => _, by
  intro q r ih h S m
  conv => lhs; simp only [aMp, h, fs_nth, fs_ite, fs_and, fs_or, fs_not, fs_bt, fs_bf, fs_neq, fs_nle, fs_nlt, fs_ieq, fs_ile, fs_ilt, fs_add, fs_sub, fs_mul, fs_neg, fs_max, fs_min, fs_cast, fs_band, fs_bor, fs_bnot, fs_all, fs_any, fs_map, fs_app, fs_len, fs_fil, fs_fm, fs_fnd, fs_Fin, fs_Fnd, fs_Rc, fs_Rd]⟩
theorem aMp_F (C : aCf) : ∀ (l : List aSc2) (S : aS) (m : List Nat), aMp C S m l = (List.rec (motive := fun _ => aS → List Nat → Option (aS × List Nat)) (fun S m => some (S, m)) (fun w r ih => Sum.rec (motive := fun _ => aS → List Nat → Option (aS × List Nat)) (fun i => (aMpS1 C).1 i r ih) (fun w => Sum.rec (motive := fun _ => aS → List Nat → Option (aS × List Nat)) (fun i => (aMpS2 C).1 i r ih) (fun q => (aMpS3 C).1 q r ih) w) w) l : aS → List Nat → Option (aS × List Nat)) S m
  | [], _, _ => by simp only [aMp]
  | .inl i :: r, S, m => (aMpS1 C).2 i r _ (aMp_F C r) S m
  | .inr (.inl i) :: r, S, m => (aMpS2 C).2 i r _ (aMp_F C r) S m
  | .inr (.inr q) :: r, S, m => (aMpS3 C).2 q r _ (aMp_F C r) S m
noncomputable def aMpF (C : aCf) (S : aS) (m : List Nat) (L : List aSc2) : Option (aS × List Nat) := List.rec (motive := fun _ => aS → List Nat → Option (aS × List Nat)) (fun S m => some (S, m)) (fun w r ih => Sum.rec (motive := fun _ => aS → List Nat → Option (aS × List Nat)) (fun i => (aMpS1 C).1 i r ih) (fun w => Sum.rec (motive := fun _ => aS → List Nat → Option (aS × List Nat)) (fun i => (aMpS2 C).1 i r ih) (fun q => (aMpS3 C).1 q r ih) w) w) L S m
theorem fs_Mp : aMp = aMpF := by
  funext C S m L
  exact aMp_F C L S m
noncomputable def aAllES (env : List aE) (cs : List aF) : { g : (Nat) → List (Nat) → (List (aE) → Bool) → (aE) → List (aE) → Bool // ∀ (k : Nat) (u : List (Nat)) (ih : List (aE) → Bool), (∀ v, aAllE env cs u v = ih v) → ∀ e v, aAllE env cs (k :: u) (e :: v) = g k u ih e v } := ⟨fun k u ih e v => _, by
  intro k u ih h e v
  conv => lhs; simp only [aAllE, h, fs_nth, fs_ite, fs_and, fs_or, fs_not, fs_bt, fs_bf, fs_neq, fs_nle, fs_nlt, fs_ieq, fs_ile, fs_ilt, fs_add, fs_sub, fs_mul, fs_neg, fs_max, fs_min, fs_cast, fs_band, fs_bor, fs_bnot, fs_all, fs_any, fs_map, fs_app, fs_len, fs_fil, fs_fm, fs_fnd, fs_Lx]⟩
theorem aAllE_F (env : List aE) (cs : List aF) : ∀ (a : List (Nat)) (b : List (aE)), aAllE env cs a b = (List.rec (motive := fun _ => List (aE) → Bool) (fun b => List.rec (motive := fun _ => Bool) (true) (fun e v _ => false) b) (fun k u ih b => List.rec (motive := fun _ => Bool) (false) (fun e v _ => (aAllES env cs).1 k u ih e v) b) a : List (aE) → Bool) b
  | [], [] => by simp only [aAllE]
  | [], _ :: _ => by simp only [aAllE]
  | _ :: _, [] => by simp only [aAllE]
  | k :: u, e :: v => (aAllES env cs).2 k u _ (aAllE_F env cs u) e v
noncomputable def aAllEF (env : List aE) (cs : List aF) (a : List Nat) (b : List aE) : Bool := List.rec (motive := fun _ => List (aE) → Bool) (fun b => List.rec (motive := fun _ => Bool) (true) (fun e v _ => false) b) (fun k u ih b => List.rec (motive := fun _ => Bool) (false) (fun e v _ => (aAllES env cs).1 k u ih e v) b) a b
theorem fs_AllE : aAllE = aAllEF := by
  funext env cs a b
  exact aAllE_F env cs a b
noncomputable def aAllLS (m : List Nat) : { g : (Option Nat) → List (Option Nat) → (List (Option Nat) → Bool) → (Option Nat) → List (Option Nat) → Bool // ∀ (k : Option Nat) (u : List (Option Nat)) (ih : List (Option Nat) → Bool), (∀ v, aAllL m u v = ih v) → ∀ e v, aAllL m (k :: u) (e :: v) = g k u ih e v } := ⟨fun k u ih e v => _, by
  intro k u ih h e v
  conv => lhs; simp only [aAllL, h, fs_nth, fs_ite, fs_and, fs_or, fs_not, fs_bt, fs_bf, fs_neq, fs_nle, fs_nlt, fs_ieq, fs_ile, fs_ilt, fs_add, fs_sub, fs_mul, fs_neg, fs_max, fs_min, fs_cast, fs_band, fs_bor, fs_bnot, fs_all, fs_any, fs_map, fs_app, fs_len, fs_fil, fs_fm, fs_fnd]⟩
theorem aAllL_F (m : List Nat) : ∀ (a : List (Option Nat)) (b : List (Option Nat)), aAllL m a b = (List.rec (motive := fun _ => List (Option Nat) → Bool) (fun b => List.rec (motive := fun _ => Bool) (true) (fun e v _ => false) b) (fun k u ih b => List.rec (motive := fun _ => Bool) (false) (fun e v _ => (aAllLS m).1 k u ih e v) b) a : List (Option Nat) → Bool) b
  | [], [] => by simp only [aAllL]
  | [], _ :: _ => by simp only [aAllL]
  | _ :: _, [] => by simp only [aAllL]
  | k :: u, e :: v => (aAllLS m).2 k u _ (aAllL_F m u) e v
noncomputable def aAllLF (m : List Nat) (a : List (Option Nat)) (b : List (Option Nat)) : Bool := List.rec (motive := fun _ => List (Option Nat) → Bool) (fun b => List.rec (motive := fun _ => Bool) (true) (fun e v _ => false) b) (fun k u ih b => List.rec (motive := fun _ => Bool) (false) (fun e v _ => (aAllLS m).1 k u ih e v) b) a b
theorem fs_AllL : aAllL = aAllLF := by
  funext m a b
  exact aAllL_F m a b
noncomputable def aAllSS (m : List Nat) : { g : (Nat) → List (Nat) → (List (Nat) → Bool) → (Nat) → List (Nat) → Bool // ∀ (k : Nat) (u : List (Nat)) (ih : List (Nat) → Bool), (∀ v, aAllS m u v = ih v) → ∀ e v, aAllS m (k :: u) (e :: v) = g k u ih e v } := ⟨fun k u ih e v => _, by
  intro k u ih h e v
  conv => lhs; simp only [aAllS, h, fs_nth, fs_ite, fs_and, fs_or, fs_not, fs_bt, fs_bf, fs_neq, fs_nle, fs_nlt, fs_ieq, fs_ile, fs_ilt, fs_add, fs_sub, fs_mul, fs_neg, fs_max, fs_min, fs_cast, fs_band, fs_bor, fs_bnot, fs_all, fs_any, fs_map, fs_app, fs_len, fs_fil, fs_fm, fs_fnd]⟩
theorem aAllS_F (m : List Nat) : ∀ (a : List (Nat)) (b : List (Nat)), aAllS m a b = (List.rec (motive := fun _ => List (Nat) → Bool) (fun b => List.rec (motive := fun _ => Bool) (true) (fun e v _ => false) b) (fun k u ih b => List.rec (motive := fun _ => Bool) (false) (fun e v _ => (aAllSS m).1 k u ih e v) b) a : List (Nat) → Bool) b
  | [], [] => by simp only [aAllS]
  | [], _ :: _ => by simp only [aAllS]
  | _ :: _, [] => by simp only [aAllS]
  | k :: u, e :: v => (aAllSS m).2 k u _ (aAllS_F m u) e v
noncomputable def aAllSF (m : List Nat) (a : List Nat) (b : List Nat) : Bool := List.rec (motive := fun _ => List (Nat) → Bool) (fun b => List.rec (motive := fun _ => Bool) (true) (fun e v _ => false) b) (fun k u ih b => List.rec (motive := fun _ => Bool) (false) (fun e v _ => (aAllSS m).1 k u ih e v) b) a b
theorem fs_AllS : aAllS = aAllSF := by
  funext m a b
  exact aAllS_F m a b
noncomputable def aAllCS (m : List Nat) (cc : List (Nat × Nat × Nat)) : { g : (Nat × Nat × Nat) → List (Nat × Nat × Nat) → (Bool) → Bool // ∀ (q : Nat × Nat × Nat) (r : List (Nat × Nat × Nat)) (ih : Bool), (aAllC m cc r = ih ) → aAllC m cc (q :: r) = g q r ih  } := ⟨fun q r ih => _, by
  intro q r ih h
  conv => lhs; simp only [aAllC, h, fs_nth, fs_ite, fs_and, fs_or, fs_not, fs_bt, fs_bf, fs_neq, fs_nle, fs_nlt, fs_ieq, fs_ile, fs_ilt, fs_add, fs_sub, fs_mul, fs_neg, fs_max, fs_min, fs_cast, fs_band, fs_bor, fs_bnot, fs_all, fs_any, fs_map, fs_app, fs_len, fs_fil, fs_fm, fs_fnd, fs_Find]⟩
theorem aAllC_F (m : List Nat) (cc : List (Nat × Nat × Nat)) : ∀ (l : List (Nat × Nat × Nat)), aAllC m cc l = (List.rec (motive := fun _ => Bool) (true) (fun q r ih => (aAllCS m cc).1 q r ih) l : Bool) 
  | [] => by simp only [aAllC]
  | q :: r => (aAllCS m cc).2 q r _ (aAllC_F m cc r) 
noncomputable def aAllCF (m : List Nat) (cc : List (Nat × Nat × Nat)) (L : List (Nat × Nat × Nat)) : Bool := List.rec (motive := fun _ => Bool) (true) (fun q r ih => (aAllCS m cc).1 q r ih) L 
theorem fs_AllC : aAllC = aAllCF := by
  funext m cc L
  exact aAllC_F m cc L
noncomputable def aAllNP : { g : List aE → List aF → List Nat → List aF → Bool // aAllN = g } := ⟨fun env cs m as => _, by
  funext env cs m as
  conv => lhs; simp only [aAllN, fs_nth, fs_ite, fs_and, fs_or, fs_not, fs_bt, fs_bf, fs_neq, fs_nle, fs_nlt, fs_ieq, fs_ile, fs_ilt, fs_add, fs_sub, fs_mul, fs_neg, fs_max, fs_min, fs_cast, fs_band, fs_bor, fs_bnot, fs_all, fs_any, fs_map, fs_app, fs_len, fs_fil, fs_fm, fs_fnd, fs_Pr, fs_Sb2]⟩
noncomputable def aAllNF : List aE → List aF → List Nat → List aF → Bool := aAllNP.1
theorem fs_AllN : aAllN = aAllNF := aAllNP.2
noncomputable def aAllXP : { g : List Nat → List (Nat × List Nat) → List (Nat × List Nat) → Bool // aAllX = g } := ⟨fun m fx as => _, by
  funext m fx as
  conv => lhs; simp only [aAllX, fs_nth, fs_ite, fs_and, fs_or, fs_not, fs_bt, fs_bf, fs_neq, fs_nle, fs_nlt, fs_ieq, fs_ile, fs_ilt, fs_add, fs_sub, fs_mul, fs_neg, fs_max, fs_min, fs_cast, fs_band, fs_bor, fs_bnot, fs_all, fs_any, fs_map, fs_app, fs_len, fs_fil, fs_fm, fs_fnd]⟩
noncomputable def aAllXF : List Nat → List (Nat × List Nat) → List (Nat × List Nat) → Bool := aAllXP.1
theorem fs_AllX : aAllX = aAllXF := aAllXP.2
noncomputable def aNilP : { g : aM → Bool // aNil = g } := ⟨fun A => _, by
  funext A
  conv => lhs; simp only [aNil, fs_nth, fs_ite, fs_and, fs_or, fs_not, fs_bt, fs_bf, fs_neq, fs_nle, fs_nlt, fs_ieq, fs_ile, fs_ilt, fs_add, fs_sub, fs_mul, fs_neg, fs_max, fs_min, fs_cast, fs_band, fs_bor, fs_bnot, fs_all, fs_any, fs_map, fs_app, fs_len, fs_fil, fs_fm, fs_fnd]⟩
noncomputable def aNilF : aM → Bool := aNilP.1
theorem fs_Nil : aNil = aNilF := aNilP.2
noncomputable def aInBP : { g : aS → aS → List Nat → Bool // aInB = g } := ⟨fun S A m => _, by
  funext S A m
  conv => lhs; simp only [aInB, fs_nth, fs_ite, fs_and, fs_or, fs_not, fs_bt, fs_bf, fs_neq, fs_nle, fs_nlt, fs_ieq, fs_ile, fs_ilt, fs_add, fs_sub, fs_mul, fs_neg, fs_max, fs_min, fs_cast, fs_band, fs_bor, fs_bnot, fs_all, fs_any, fs_map, fs_app, fs_len, fs_fil, fs_fm, fs_fnd, fs_AllC, fs_AllE, fs_AllL, fs_AllN, fs_AllS, fs_AllX, fs_Nil]⟩
noncomputable def aInBF : aS → aS → List Nat → Bool := aInBP.1
theorem fs_InB : aInB = aInBF := aInBP.2
noncomputable def aRsS (env : List aE) (cs : List aF) (m : List Nat) : { g : (aF) → List (aF) → (List (aF) → Bool) → (aF) → List (aF) → Bool // ∀ (k : aF) (u : List (aF)) (ih : List (aF) → Bool), (∀ v, aRs env cs m u v = ih v) → ∀ e v, aRs env cs m (k :: u) (e :: v) = g k u ih e v } := ⟨fun k u ih e v => _, by
  intro k u ih h e v
  conv => lhs; simp only [aRs, h, fs_nth, fs_ite, fs_and, fs_or, fs_not, fs_bt, fs_bf, fs_neq, fs_nle, fs_nlt, fs_ieq, fs_ile, fs_ilt, fs_add, fs_sub, fs_mul, fs_neg, fs_max, fs_min, fs_cast, fs_band, fs_bor, fs_bnot, fs_all, fs_any, fs_map, fs_app, fs_len, fs_fil, fs_fm, fs_fnd, fs_Fm, fs_Fp, fs_Pr, fs_Sb2]⟩
theorem aRs_F (env : List aE) (cs : List aF) (m : List Nat) : ∀ (a : List (aF)) (b : List (aF)), aRs env cs m a b = (List.rec (motive := fun _ => List (aF) → Bool) (fun b => List.rec (motive := fun _ => Bool) (false) (fun e v _ => false) b) (fun k u ih b => List.rec (motive := fun _ => Bool) (false) (fun e v _ => (aRsS env cs m).1 k u ih e v) b) a : List (aF) → Bool) b
  | [], [] => by simp only [aRs]
  | [], _ :: _ => by simp only [aRs]
  | _ :: _, [] => by simp only [aRs]
  | k :: u, e :: v => (aRsS env cs m).2 k u _ (aRs_F env cs m u) e v
noncomputable def aRsF (env : List aE) (cs : List aF) (m : List Nat) (a : List aF) (b : List aF) : Bool := List.rec (motive := fun _ => List (aF) → Bool) (fun b => List.rec (motive := fun _ => Bool) (false) (fun e v _ => false) b) (fun k u ih b => List.rec (motive := fun _ => Bool) (false) (fun e v _ => (aRsS env cs m).1 k u ih e v) b) a b
theorem fs_Rs : aRs = aRsF := by
  funext env cs m a b
  exact aRs_F env cs m a b
noncomputable def aPeP : { g : aCon → List aE // aPe = g } := ⟨fun G => _, by
  funext G
  conv => lhs; simp only [aPe, fs_nth, fs_ite, fs_and, fs_or, fs_not, fs_bt, fs_bf, fs_neq, fs_nle, fs_nlt, fs_ieq, fs_ile, fs_ilt, fs_add, fs_sub, fs_mul, fs_neg, fs_max, fs_min, fs_cast, fs_band, fs_bor, fs_bnot, fs_all, fs_any, fs_map, fs_app, fs_len, fs_fil, fs_fm, fs_fnd]⟩
noncomputable def aPeF : aCon → List aE := aPeP.1
theorem fs_Pe : aPe = aPeF := aPeP.2
noncomputable def aFreP : { g : Nat → Bool // aFre = g } := ⟨fun r => _, by
  funext r
  conv => lhs; simp only [aFre, fs_nth, fs_ite, fs_and, fs_or, fs_not, fs_bt, fs_bf, fs_neq, fs_nle, fs_nlt, fs_ieq, fs_ile, fs_ilt, fs_add, fs_sub, fs_mul, fs_neg, fs_max, fs_min, fs_cast, fs_band, fs_bor, fs_bnot, fs_all, fs_any, fs_map, fs_app, fs_len, fs_fil, fs_fm, fs_fnd]⟩
noncomputable def aFreF : Nat → Bool := aFreP.1
theorem fs_Fre : aFre = aFreF := aFreP.2
noncomputable def aGrP : { g : Nat × List Nat → Bool // aGr = g } := ⟨fun q => _, by
  funext q
  conv => lhs; simp only [aGr, fs_nth, fs_ite, fs_and, fs_or, fs_not, fs_bt, fs_bf, fs_neq, fs_nle, fs_nlt, fs_ieq, fs_ile, fs_ilt, fs_add, fs_sub, fs_mul, fs_neg, fs_max, fs_min, fs_cast, fs_band, fs_bor, fs_bnot, fs_all, fs_any, fs_map, fs_app, fs_len, fs_fil, fs_fm, fs_fnd]⟩
noncomputable def aGrF : Nat × List Nat → Bool := aGrP.1
theorem fs_Gr : aGr = aGrF := aGrP.2
noncomputable def aNo0P : { g : List (Nat × List Nat) → Bool // aNo0 = g } := ⟨fun fx => _, by
  funext fx
  conv => lhs; simp only [aNo0, fs_nth, fs_ite, fs_and, fs_or, fs_not, fs_bt, fs_bf, fs_neq, fs_nle, fs_nlt, fs_ieq, fs_ile, fs_ilt, fs_add, fs_sub, fs_mul, fs_neg, fs_max, fs_min, fs_cast, fs_band, fs_bor, fs_bnot, fs_all, fs_any, fs_map, fs_app, fs_len, fs_fil, fs_fm, fs_fnd, fs_Gr]⟩
noncomputable def aNo0F : List (Nat × List Nat) → Bool := aNo0P.1
theorem fs_No0 : aNo0 = aNo0F := aNo0P.2
noncomputable def aMpfS (C : aCf) : { g : (Nat × Nat × Nat) → List (Nat × Nat × Nat) → (aS → List Nat → Option (aS × List Nat)) → aS → List Nat → Option (aS × List Nat) // ∀ (q : Nat × Nat × Nat) (r : List (Nat × Nat × Nat)) (ih : aS → List Nat → Option (aS × List Nat)), (∀ (S : aS) (m : List Nat), aMpf C S m r = ih S m) → ∀ (S : aS) (m : List Nat), aMpf C S m (q :: r) = g q r ih S m } := ⟨fun q r ih S m => _, by
  intro q r ih h S m
  conv => lhs; simp only [aMpf, h, fs_nth, fs_ite, fs_and, fs_or, fs_not, fs_bt, fs_bf, fs_neq, fs_nle, fs_nlt, fs_ieq, fs_ile, fs_ilt, fs_add, fs_sub, fs_mul, fs_neg, fs_max, fs_min, fs_cast, fs_band, fs_bor, fs_bnot, fs_all, fs_any, fs_map, fs_app, fs_len, fs_fil, fs_fm, fs_fnd, fs_Rd]⟩
theorem aMpf_F (C : aCf) : ∀ (l : List (Nat × Nat × Nat)) (S : aS) (m : List Nat), aMpf C S m l = (List.rec (motive := fun _ => aS → List Nat → Option (aS × List Nat)) (fun S m => some (S, m)) (fun q r ih => (aMpfS C).1 q r ih) l : aS → List Nat → Option (aS × List Nat)) S m
  | [], _, _ => by simp only [aMpf]
  | q :: r, S, m => (aMpfS C).2 q r _ (aMpf_F C r) S m
noncomputable def aMpfF (C : aCf) (S : aS) (m : List Nat) (L : List (Nat × Nat × Nat)) : Option (aS × List Nat) := List.rec (motive := fun _ => aS → List Nat → Option (aS × List Nat)) (fun S m => some (S, m)) (fun q r ih => (aMpfS C).1 q r ih) L S m
theorem fs_Mpf : aMpf = aMpfF := by
  funext C S m L
  exact aMpf_F C L S m
noncomputable def aAllBP : { g : List aE → List Nat → List (Nat × aF × Nat) → List (Nat × aF × Nat) → Bool // aAllB = g } := ⟨fun env m cb as => _, by
  funext env m cb as
  conv => lhs; simp only [aAllB, fs_nth, fs_ite, fs_and, fs_or, fs_not, fs_bt, fs_bf, fs_neq, fs_nle, fs_nlt, fs_ieq, fs_ile, fs_ilt, fs_add, fs_sub, fs_mul, fs_neg, fs_max, fs_min, fs_cast, fs_band, fs_bor, fs_bnot, fs_all, fs_any, fs_map, fs_app, fs_len, fs_fil, fs_fm, fs_fnd, fs_Fm, fs_Fp, fs_Sb2]⟩
noncomputable def aAllBF : List aE → List Nat → List (Nat × aF × Nat) → List (Nat × aF × Nat) → Bool := aAllBP.1
theorem fs_AllB : aAllB = aAllBF := aAllBP.2
noncomputable def aPfxS : { g : (Nat) → List (Nat) → (List (Nat) → Option (List Nat)) → (Nat) → List (Nat) → Option (List Nat) // ∀ (k : Nat) (u : List (Nat)) (ih : List (Nat) → Option (List Nat)), (∀ v, aPfx u v = ih v) → ∀ e v, aPfx (k :: u) (e :: v) = g k u ih e v } := ⟨fun k u ih e v => _, by
  intro k u ih h e v
  conv => lhs; simp only [aPfx, h, fs_nth, fs_ite, fs_and, fs_or, fs_not, fs_bt, fs_bf, fs_neq, fs_nle, fs_nlt, fs_ieq, fs_ile, fs_ilt, fs_add, fs_sub, fs_mul, fs_neg, fs_max, fs_min, fs_cast, fs_band, fs_bor, fs_bnot, fs_all, fs_any, fs_map, fs_app, fs_len, fs_fil, fs_fm, fs_fnd]⟩
theorem aPfx_F : ∀ (a : List (Nat)) (b : List (Nat)), aPfx a b = (List.rec (motive := fun _ => List (Nat) → Option (List Nat)) (fun b => List.rec (motive := fun _ => Option (List Nat)) (some []) (fun e v _ => some (e :: v)) b) (fun k u ih b => List.rec (motive := fun _ => Option (List Nat)) (none) (fun e v _ => aPfxS.1 k u ih e v) b) a : List (Nat) → Option (List Nat)) b
  | [], [] => by simp only [aPfx]
  | [], _ :: _ => by simp only [aPfx]
  | _ :: _, [] => by simp only [aPfx]
  | k :: u, e :: v => aPfxS.2 k u _ (aPfx_F  u) e v
noncomputable def aPfxF (a : List Nat) (b : List Nat) : Option (List Nat) := List.rec (motive := fun _ => List (Nat) → Option (List Nat)) (fun b => List.rec (motive := fun _ => Option (List Nat)) (some []) (fun e v _ => some (e :: v)) b) (fun k u ih b => List.rec (motive := fun _ => Option (List Nat)) (none) (fun e v _ => aPfxS.1 k u ih e v) b) a b
theorem fs_Pfx : aPfx = aPfxF := by
  funext a b
  exact aPfx_F  a b
noncomputable def aRstS (r0 : Nat) (is : List Nat) : { g : (Nat × List Nat) → List (Nat × List Nat) → (Option (List Nat)) → Option (List Nat) // ∀ (q : Nat × List Nat) (r : List (Nat × List Nat)) (ih : Option (List Nat)), (aRst r0 is r = ih ) → aRst r0 is (q :: r) = g q r ih  } := ⟨fun q r ih => _, by
  intro q r ih h
  conv => lhs; simp only [aRst, h, fs_nth, fs_ite, fs_and, fs_or, fs_not, fs_bt, fs_bf, fs_neq, fs_nle, fs_nlt, fs_ieq, fs_ile, fs_ilt, fs_add, fs_sub, fs_mul, fs_neg, fs_max, fs_min, fs_cast, fs_band, fs_bor, fs_bnot, fs_all, fs_any, fs_map, fs_app, fs_len, fs_fil, fs_fm, fs_fnd, fs_Pfx]⟩
theorem aRst_F (r0 : Nat) (is : List Nat) : ∀ (l : List (Nat × List Nat)), aRst r0 is l = (List.rec (motive := fun _ => Option (List Nat)) (none) (fun q r ih => (aRstS r0 is).1 q r ih) l : Option (List Nat)) 
  | [] => by simp only [aRst]
  | q :: r => (aRstS r0 is).2 q r _ (aRst_F r0 is r) 
noncomputable def aRstF (r0 : Nat) (is : List Nat) (L : List (Nat × List Nat)) : Option (List Nat) := List.rec (motive := fun _ => Option (List Nat)) (none) (fun q r ih => (aRstS r0 is).1 q r ih) L 
theorem fs_Rst : aRst = aRstF := by
  funext r0 is L
  exact aRst_F r0 is L
noncomputable def aMsF (m : List Nat) (fx L : List (Nat × List Nat)) : Option (List Nat) := List.rec (motive := fun _ => Option (List Nat)) (some []) (fun q _ _ => aRstF q.1 (qMap (fun i => m.getD i 0) q.2) fx) L
theorem fs_Ms : aMs = aMsF := by
  funext m fx L
  cases L with
  | nil => rfl
  | cons q r =>
    simp only [aMs, fs_map, fs_Rst]
    rfl
noncomputable def aAllYP : { g : List Nat → List Nat → List (Nat × List Nat) → List (Nat × List Nat) → Bool // aAllY = g } := ⟨fun m ms fx as => _, by
  funext m ms fx as
  conv => lhs; simp only [aAllY, fs_nth, fs_ite, fs_and, fs_or, fs_not, fs_bt, fs_bf, fs_neq, fs_nle, fs_nlt, fs_ieq, fs_ile, fs_ilt, fs_add, fs_sub, fs_mul, fs_neg, fs_max, fs_min, fs_cast, fs_band, fs_bor, fs_bnot, fs_all, fs_any, fs_map, fs_app, fs_len, fs_fil, fs_fm, fs_fnd, fs_Gr]⟩
noncomputable def aAllYF : List Nat → List Nat → List (Nat × List Nat) → List (Nat × List Nat) → Bool := aAllYP.1
theorem fs_AllY : aAllY = aAllYF := aAllYP.2
noncomputable def aKpP : { g : List aE → List (Nat × Nat) → Nat × Nat × Nat → Bool // aKp = g } := ⟨fun env md q => _, by
  funext env md q
  conv => lhs; simp only [aKp, fs_nth, fs_ite, fs_and, fs_or, fs_not, fs_bt, fs_bf, fs_neq, fs_nle, fs_nlt, fs_ieq, fs_ile, fs_ilt, fs_add, fs_sub, fs_mul, fs_neg, fs_max, fs_min, fs_cast, fs_band, fs_bor, fs_bnot, fs_all, fs_any, fs_map, fs_app, fs_len, fs_fil, fs_fm, fs_fnd, fs_Ki]⟩
noncomputable def aKpF : List aE → List (Nat × Nat) → Nat × Nat × Nat → Bool := aKpP.1
theorem fs_Kp : aKp = aKpF := aKpP.2
noncomputable def aKcP : { g : List aE → List aF → List Nat → List (Nat × aF) → Nat × aF × Nat → Bool // aKc = g } := ⟨fun env cs m mk q => _, by
  funext env cs m mk q
  conv => lhs; simp only [aKc, fs_nth, fs_ite, fs_and, fs_or, fs_not, fs_bt, fs_bf, fs_neq, fs_nle, fs_nlt, fs_ieq, fs_ile, fs_ilt, fs_add, fs_sub, fs_mul, fs_neg, fs_max, fs_min, fs_cast, fs_band, fs_bor, fs_bnot, fs_all, fs_any, fs_map, fs_app, fs_len, fs_fil, fs_fm, fs_fnd, fs_Fm, fs_Fp, fs_Ki, fs_Pr, fs_Sb2]⟩
noncomputable def aKcF : List aE → List aF → List Nat → List (Nat × aF) → Nat × aF × Nat → Bool := aKcP.1
theorem fs_Kc : aKc = aKcF := aKcP.2
noncomputable def aKxP : { g : List (List aDe) → List aE → List aF → List Nat → List (Nat × Nat) → List (Nat × aF) → Nat × List Nat → Bool // aKx = g } := ⟨fun dep env cs m md mk q => _, by
  funext dep env cs m md mk q
  conv => lhs; simp only [aKx, fs_nth, fs_ite, fs_and, fs_or, fs_not, fs_bt, fs_bf, fs_neq, fs_nle, fs_nlt, fs_ieq, fs_ile, fs_ilt, fs_add, fs_sub, fs_mul, fs_neg, fs_max, fs_min, fs_cast, fs_band, fs_bor, fs_bnot, fs_all, fs_any, fs_map, fs_app, fs_len, fs_fil, fs_fm, fs_fnd, fs_Dg, fs_Dl, fs_Fm, fs_Fp, fs_Pr, fs_Sb2]⟩
noncomputable def aKxF : List (List aDe) → List aE → List aF → List Nat → List (Nat × Nat) → List (Nat × aF) → Nat × List Nat → Bool := aKxP.1
theorem fs_Kx : aKx = aKxF := aKxP.2
noncomputable def aRwiP : { g : List aKd → Nat → Bool // aRwi = g } := ⟨fun T k => _, by
  funext T k
  conv => lhs; simp only [aRwi, fs_nth, fs_ite, fs_and, fs_or, fs_not, fs_bt, fs_bf, fs_neq, fs_nle, fs_nlt, fs_ieq, fs_ile, fs_ilt, fs_add, fs_sub, fs_mul, fs_neg, fs_max, fs_min, fs_cast, fs_band, fs_bor, fs_bnot, fs_all, fs_any, fs_map, fs_app, fs_len, fs_fil, fs_fm, fs_fnd]⟩
noncomputable def aRwiF : List aKd → Nat → Bool := aRwiP.1
theorem fs_Rwi : aRwi = aRwiF := aRwiP.2
noncomputable def aDTP : { g : List (List aDe) → List aKd → Bool // aDT = g } := ⟨fun dep T => _, by
  funext dep T
  conv => lhs; simp only [aDT, fs_nth, fs_ite, fs_and, fs_or, fs_not, fs_bt, fs_bf, fs_neq, fs_nle, fs_nlt, fs_ieq, fs_ile, fs_ilt, fs_add, fs_sub, fs_mul, fs_neg, fs_max, fs_min, fs_cast, fs_band, fs_bor, fs_bnot, fs_all, fs_any, fs_map, fs_app, fs_len, fs_fil, fs_fm, fs_fnd, fs_Rwi]⟩
noncomputable def aDTF : List (List aDe) → List aKd → Bool := aDTP.1
theorem fs_DT : aDT = aDTF := aDTP.2
noncomputable def aSubMP : { g : List (Nat × Nat) → List (Nat × Nat) → Bool // aSubM = g } := ⟨fun md' md => _, by
  funext md' md
  conv => lhs; simp only [aSubM, fs_nth, fs_ite, fs_and, fs_or, fs_not, fs_bt, fs_bf, fs_neq, fs_nle, fs_nlt, fs_ieq, fs_ile, fs_ilt, fs_add, fs_sub, fs_mul, fs_neg, fs_max, fs_min, fs_cast, fs_band, fs_bor, fs_bnot, fs_all, fs_any, fs_map, fs_app, fs_len, fs_fil, fs_fm, fs_fnd]⟩
noncomputable def aSubMF : List (Nat × Nat) → List (Nat × Nat) → Bool := aSubMP.1
theorem fs_SubM : aSubM = aSubMF := aSubMP.2
noncomputable def aSubKP : { g : aCf → List aE → List aF → List Nat → List (Nat × aF) → Bool // aSubK = g } := ⟨fun C env cs m mk => _, by
  funext C env cs m mk
  conv => lhs; simp only [aSubK, fs_nth, fs_ite, fs_and, fs_or, fs_not, fs_bt, fs_bf, fs_neq, fs_nle, fs_nlt, fs_ieq, fs_ile, fs_ilt, fs_add, fs_sub, fs_mul, fs_neg, fs_max, fs_min, fs_cast, fs_band, fs_bor, fs_bnot, fs_all, fs_any, fs_map, fs_app, fs_len, fs_fil, fs_fm, fs_fnd, fs_Fm, fs_Fp, fs_Mk, fs_Pr, fs_Sb2]⟩
noncomputable def aSubKF : aCf → List aE → List aF → List Nat → List (Nat × aF) → Bool := aSubKP.1
theorem fs_SubK : aSubK = aSubKF := aSubKP.2
noncomputable def aNewP : { g : Nat → Nat → List Nat // aNew = g } := ⟨fun b k => _, by
  funext b k
  conv => lhs; simp only [aNew, fs_nth, fs_ite, fs_and, fs_or, fs_not, fs_bt, fs_bf, fs_neq, fs_nle, fs_nlt, fs_ieq, fs_ile, fs_ilt, fs_add, fs_sub, fs_mul, fs_neg, fs_max, fs_min, fs_cast, fs_band, fs_bor, fs_bnot, fs_all, fs_any, fs_map, fs_app, fs_len, fs_fil, fs_fm, fs_fnd]⟩
noncomputable def aNewF : Nat → Nat → List Nat := aNewP.1
theorem fs_New : aNew = aNewF := aNewP.2
noncomputable def aRnmP : { g : List Nat → Nat → Nat // aRnm = g } := ⟨fun m i => _, by
  funext m i
  conv => lhs; simp only [aRnm, fs_nth, fs_ite, fs_and, fs_or, fs_not, fs_bt, fs_bf, fs_neq, fs_nle, fs_nlt, fs_ieq, fs_ile, fs_ilt, fs_add, fs_sub, fs_mul, fs_neg, fs_max, fs_min, fs_cast, fs_band, fs_bor, fs_bnot, fs_all, fs_any, fs_map, fs_app, fs_len, fs_fil, fs_fm, fs_fnd]⟩
noncomputable def aRnmF : List Nat → Nat → Nat := aRnmP.1
theorem fs_Rnm : aRnm = aRnmF := aRnmP.2
noncomputable def aAfP : { g : aCf → aS → aCon → List Nat → List Nat → aS // aAf = g } := ⟨fun C S G m ms => _, by
  funext C S G m ms
  conv => lhs; simp only [aAf, fs_nth, fs_ite, fs_and, fs_or, fs_not, fs_bt, fs_bf, fs_neq, fs_nle, fs_nlt, fs_ieq, fs_ile, fs_ilt, fs_add, fs_sub, fs_mul, fs_neg, fs_max, fs_min, fs_cast, fs_band, fs_bor, fs_bnot, fs_all, fs_any, fs_map, fs_app, fs_len, fs_fil, fs_fm, fs_fnd, fs_Kc, fs_Kp, fs_Kx, fs_New, fs_Rnm]⟩
noncomputable def aAfF : aCf → aS → aCon → List Nat → List Nat → aS := aAfP.1
theorem fs_Af : aAf = aAfF := aAfP.2
noncomputable def aAgP : { g : aCf → aS → aCon → List Nat → List Nat → Nat → List aF → List (Nat × aS) // aAg = g } := ⟨fun C S G m ms p A => _, by
  funext C S G m ms p A
  conv => lhs; simp only [aAg, fs_nth, fs_ite, fs_and, fs_or, fs_not, fs_bt, fs_bf, fs_neq, fs_nle, fs_nlt, fs_ieq, fs_ile, fs_ilt, fs_add, fs_sub, fs_mul, fs_neg, fs_max, fs_min, fs_cast, fs_band, fs_bor, fs_bnot, fs_all, fs_any, fs_map, fs_app, fs_len, fs_fil, fs_fm, fs_fnd, fs_Af, fs_Bs, fs_New, fs_Sb2]⟩
noncomputable def aAgF : aCf → aS → aCon → List Nat → List Nat → Nat → List aF → List (Nat × aS) := aAgP.1
theorem fs_Ag : aAg = aAgF := aAgP.2
noncomputable def aOkpP : { g : Nat → aM → Bool // aOkp = g } := ⟨fun k M => _, by
  funext k M
  conv => lhs; simp only [aOkp, fs_nth, fs_ite, fs_and, fs_or, fs_not, fs_bt, fs_bf, fs_neq, fs_nle, fs_nlt, fs_ieq, fs_ile, fs_ilt, fs_add, fs_sub, fs_mul, fs_neg, fs_max, fs_min, fs_cast, fs_band, fs_bor, fs_bnot, fs_all, fs_any, fs_map, fs_app, fs_len, fs_fil, fs_fm, fs_fnd, fs_Gr]⟩
noncomputable def aOkpF : Nat → aM → Bool := aOkpP.1
theorem fs_Okp : aOkp = aOkpF := aOkpP.2
noncomputable def aCallP : { g : aCf → aS → aCon → Nat → Option (List (Nat × aS)) // aCall = g } := ⟨fun C S G p => _, by
  funext C S G p
  conv => lhs; simp only [aCall, fs_nth, fs_ite, fs_and, fs_or, fs_not, fs_bt, fs_bf, fs_neq, fs_nle, fs_nlt, fs_ieq, fs_ile, fs_ilt, fs_add, fs_sub, fs_mul, fs_neg, fs_max, fs_min, fs_cast, fs_band, fs_bor, fs_bnot, fs_all, fs_any, fs_map, fs_app, fs_len, fs_fil, fs_fm, fs_fnd, fs_Ag, fs_AllB, fs_AllE, fs_AllN, fs_AllY, fs_Mpf, fs_Ms, fs_Nil, fs_Okp, fs_Pe, fs_SubK, fs_SubM]⟩
noncomputable def aCallF : aCf → aS → aCon → Nat → Option (List (Nat × aS)) := aCallP.1
theorem fs_Call : aCall = aCallF := aCallP.2
noncomputable def aSufS : { g : (jI) → List (jI) → (Nat → Nat → Option (List jI)) → Nat → Nat → Option (List jI) // ∀ (q : jI) (r : List (jI)) (ih : Nat → Nat → Option (List jI)), (∀ (p : Nat) (pc : Nat), aSuf r p pc = ih p pc) → ∀ (p : Nat) (pc : Nat), aSuf (q :: r) p pc = g q r ih p pc } := ⟨fun q r ih p pc => _, by
  intro q r ih h p pc
  conv => lhs; simp only [aSuf, h, fs_nth, fs_ite, fs_and, fs_or, fs_not, fs_bt, fs_bf, fs_neq, fs_nle, fs_nlt, fs_ieq, fs_ile, fs_ilt, fs_add, fs_sub, fs_mul, fs_neg, fs_max, fs_min, fs_cast, fs_band, fs_bor, fs_bnot, fs_all, fs_any, fs_map, fs_app, fs_len, fs_fil, fs_fm, fs_fnd]⟩
theorem aSuf_F : ∀ (l : List (jI)) (p : Nat) (pc : Nat), aSuf l p pc = (List.rec (motive := fun _ => Nat → Nat → Option (List jI)) (fun _ _ => none) (fun q r ih => aSufS.1 q r ih) l : Nat → Nat → Option (List jI)) p pc
  | [], _, _ => by simp only [aSuf]
  | q :: r, p, pc => aSufS.2 q r _ (aSuf_F  r) p pc
noncomputable def aSufF (L : List jI) (p : Nat) (pc : Nat) : Option (List jI) := List.rec (motive := fun _ => Nat → Nat → Option (List jI)) (fun _ _ => none) (fun q r ih => aSufS.1 q r ih) L p pc
theorem fs_Suf : aSuf = aSufF := by
  funext L p pc
  exact aSuf_F  L p pc
noncomputable def aRoP : { g : Nat → List aF → Bool // aRo = g } := ⟨fun k rk => _, by
  funext k rk
  conv => lhs; simp only [aRo, fs_nth, fs_ite, fs_and, fs_or, fs_not, fs_bt, fs_bf, fs_neq, fs_nle, fs_nlt, fs_ieq, fs_ile, fs_ilt, fs_add, fs_sub, fs_mul, fs_neg, fs_max, fs_min, fs_cast, fs_band, fs_bor, fs_bnot, fs_all, fs_any, fs_map, fs_app, fs_len, fs_fil, fs_fm, fs_fnd]⟩
noncomputable def aRoF : Nat → List aF → Bool := aRoP.1
theorem fs_Ro : aRo = aRoF := aRoP.2
noncomputable def aToP : { g : aCf → List aF → aCu → aS → Bool // aTo = g } := ⟨fun C rk0 c S => _, by
  funext C rk0 c S
  conv => lhs; simp only [aTo, fs_nth, fs_ite, fs_and, fs_or, fs_not, fs_bt, fs_bf, fs_neq, fs_nle, fs_nlt, fs_ieq, fs_ile, fs_ilt, fs_add, fs_sub, fs_mul, fs_neg, fs_max, fs_min, fs_cast, fs_band, fs_bor, fs_bnot, fs_all, fs_any, fs_map, fs_app, fs_len, fs_fil, fs_fm, fs_fnd, fs_InB, fs_Mp, fs_Rs]⟩
noncomputable def aToF : aCf → List aF → aCu → aS → Bool := aToP.1
theorem fs_To : aTo = aToF := aToP.2
noncomputable def aFnP : { g : aCf → aCon → aS → List Nat → Bool // aFn = g } := ⟨fun C G S m => _, by
  funext C G S m
  conv => lhs; simp only [aFn, fs_nth, fs_ite, fs_and, fs_or, fs_not, fs_bt, fs_bf, fs_neq, fs_nle, fs_nlt, fs_ieq, fs_ile, fs_ilt, fs_add, fs_sub, fs_mul, fs_neg, fs_max, fs_min, fs_cast, fs_band, fs_bor, fs_bnot, fs_all, fs_any, fs_map, fs_app, fs_len, fs_fil, fs_fm, fs_fnd, fs_AllE, fs_AllN, fs_AllX, fs_Fre, fs_Mpf, fs_Nil, fs_No0, fs_Pe]⟩
noncomputable def aFnF : aCf → aCon → aS → List Nat → Bool := aFnP.1
theorem fs_Fn : aFn = aFnF := aFnP.2
noncomputable def aObtP : { g : FieldType → Bool // aObt = g } := ⟨fun ty => _, by
  funext ty
  conv => lhs; simp only [aObt, fs_nth, fs_ite, fs_and, fs_or, fs_not, fs_bt, fs_bf, fs_neq, fs_nle, fs_nlt, fs_ieq, fs_ile, fs_ilt, fs_add, fs_sub, fs_mul, fs_neg, fs_max, fs_min, fs_cast, fs_band, fs_bor, fs_bnot, fs_all, fs_any, fs_map, fs_app, fs_len, fs_fil, fs_fm, fs_fnd]⟩
noncomputable def aObtF : FieldType → Bool := aObtP.1
theorem fs_Obt : aObt = aObtF := aObtP.2
noncomputable def aRetP : { g : aCf → aCon → Option FieldType → Instr → aS → Bool // aRet = g } := ⟨fun C G rt I S => _, by
  funext C G rt I S
  conv => lhs; simp only [aRet, fs_nth, fs_ite, fs_and, fs_or, fs_not, fs_bt, fs_bf, fs_neq, fs_nle, fs_nlt, fs_ieq, fs_ile, fs_ilt, fs_add, fs_sub, fs_mul, fs_neg, fs_max, fs_min, fs_cast, fs_band, fs_bor, fs_bnot, fs_all, fs_any, fs_map, fs_app, fs_len, fs_fil, fs_fm, fs_fnd, fs_Fn, fs_Lx, fs_Obt, fs_Rg, fs_Ty]⟩
noncomputable def aRetF : aCf → aCon → Option FieldType → Instr → aS → Bool := aRetP.1
theorem fs_Ret : aRet = aRetF := aRetP.2
noncomputable def aRoomP : { g : Room → Room → Nat → Bool // aRoom = g } := ⟨fun rm rc nL => _, by
  funext rm rc nL
  conv => lhs; simp only [aRoom, fs_nth, fs_ite, fs_and, fs_or, fs_not, fs_bt, fs_bf, fs_neq, fs_nle, fs_nlt, fs_ieq, fs_ile, fs_ilt, fs_add, fs_sub, fs_mul, fs_neg, fs_max, fs_min, fs_cast, fs_band, fs_bor, fs_bnot, fs_all, fs_any, fs_map, fs_app, fs_len, fs_fil, fs_fm, fs_fnd]⟩
noncomputable def aRoomF : Room → Room → Nat → Bool := aRoomP.1
theorem fs_Room : aRoom = aRoomF := aRoomP.2
noncomputable def aCsP : { g : List vw_C → List aKd → aCon → Bool // aCs = g } := ⟨fun cl T G => _, by
  funext cl T G
  conv => lhs; simp only [aCs, fs_nth, fs_ite, fs_and, fs_or, fs_not, fs_bt, fs_bf, fs_neq, fs_nle, fs_nlt, fs_ieq, fs_ile, fs_ilt, fs_add, fs_sub, fs_mul, fs_neg, fs_max, fs_min, fs_cast, fs_band, fs_bor, fs_bnot, fs_all, fs_any, fs_map, fs_app, fs_len, fs_fil, fs_fm, fs_fnd]⟩
noncomputable def aCsF : List vw_C → List aKd → aCon → Bool := aCsP.1
theorem fs_Cs : aCs = aCsF := aCsP.2
noncomputable def aKeP : { g : Int × Int → List (Int × Int) → Bool // aKe = g } := ⟨fun A ps => _, by
  funext A ps
  conv => lhs; simp only [aKe, fs_nth, fs_ite, fs_and, fs_or, fs_not, fs_bt, fs_bf, fs_neq, fs_nle, fs_nlt, fs_ieq, fs_ile, fs_ilt, fs_add, fs_sub, fs_mul, fs_neg, fs_max, fs_min, fs_cast, fs_band, fs_bor, fs_bnot, fs_all, fs_any, fs_map, fs_app, fs_len, fs_fil, fs_fm, fs_fnd]⟩
noncomputable def aKeF : Int × Int → List (Int × Int) → Bool := aKeP.1
theorem fs_Ke : aKe = aKeF := aKeP.2
noncomputable def aStqP : { g : aCf → Instr → Nat → jP → Nat → aS → Option (List (Nat × aS)) // aStq = g } := ⟨fun C I ln py pc S => _, by
  funext C I ln py pc S
  conv => lhs; simp only [aStq, fs_nth, fs_ite, fs_and, fs_or, fs_not, fs_bt, fs_bf, fs_neq, fs_nle, fs_nlt, fs_ieq, fs_ile, fs_ilt, fs_add, fs_sub, fs_mul, fs_neg, fs_max, fs_min, fs_cast, fs_band, fs_bor, fs_bnot, fs_all, fs_any, fs_map, fs_app, fs_len, fs_fil, fs_fm, fs_fnd, fs_Om, fs_Stp]⟩
noncomputable def aStqF : aCf → Instr → Nat → jP → Nat → aS → Option (List (Nat × aS)) := aStqP.1
theorem fs_Stq : aStq = aStqF := aStqP.2
noncomputable def aNeP : { g : aMi → jI → Nat → aS → Option (List (Nat × aS)) // aNe = g } := ⟨fun m x pc S => _, by
  funext m x pc S
  conv => lhs; simp only [aNe, fs_nth, fs_ite, fs_and, fs_or, fs_not, fs_bt, fs_bf, fs_neq, fs_nle, fs_nlt, fs_ieq, fs_ile, fs_ilt, fs_add, fs_sub, fs_mul, fs_neg, fs_max, fs_min, fs_cast, fs_band, fs_bor, fs_bnot, fs_all, fs_any, fs_map, fs_app, fs_len, fs_fil, fs_fm, fs_fnd, fs_Bs, fs_Call, fs_Cs, fs_Fm, fs_Fp, fs_Ke, fs_Li, fs_Room, fs_Stq, fs_Ty]⟩
noncomputable def aNeF : aMi → jI → Nat → aS → Option (List (Nat × aS)) := aNeP.1
theorem fs_Ne : aNe = aNeF := aNeP.2
noncomputable def aSpfS (k i o : Nat) : { g : (aSz) → List (aSz) → (Option jSv) → Option jSv // ∀ (q : aSz) (r : List (aSz)) (ih : Option jSv), (aSpf k i o r = ih ) → aSpf k i o (q :: r) = g q r ih  } := ⟨fun q r ih => _, by
  intro q r ih h
  conv => lhs; simp only [aSpf, h, fs_nth, fs_ite, fs_and, fs_or, fs_not, fs_bt, fs_bf, fs_neq, fs_nle, fs_nlt, fs_ieq, fs_ile, fs_ilt, fs_add, fs_sub, fs_mul, fs_neg, fs_max, fs_min, fs_cast, fs_band, fs_bor, fs_bnot, fs_all, fs_any, fs_map, fs_app, fs_len, fs_fil, fs_fm, fs_fnd]⟩
theorem aSpf_F (k i o : Nat) : ∀ (l : List (aSz)), aSpf k i o l = (List.rec (motive := fun _ => Option jSv) (none) (fun q r ih => (aSpfS k i o).1 q r ih) l : Option jSv) 
  | [] => by simp only [aSpf]
  | q :: r => (aSpfS k i o).2 q r _ (aSpf_F k i o r) 
noncomputable def aSpfF (k : Nat) (i : Nat) (o : Nat) (L : List aSz) : Option jSv := List.rec (motive := fun _ => Option jSv) (none) (fun q r ih => (aSpfS k i o).1 q r ih) L 
theorem fs_Spf : aSpf = aSpfF := by
  funext k i o L
  exact aSpf_F k i o L
noncomputable def aSvpP : { g : aS → List Nat → jSv → Nat → Option (List (Nat × aS)) // aSvp = g } := ⟨fun S r v p => _, by
  funext S r v p
  conv => lhs; simp only [aSvp, fs_nth, fs_ite, fs_and, fs_or, fs_not, fs_bt, fs_bf, fs_neq, fs_nle, fs_nlt, fs_ieq, fs_ile, fs_ilt, fs_add, fs_sub, fs_mul, fs_neg, fs_max, fs_min, fs_cast, fs_band, fs_bor, fs_bnot, fs_all, fs_any, fs_map, fs_app, fs_len, fs_fil, fs_fm, fs_fnd, fs_Pu]⟩
noncomputable def aSvpF : aS → List Nat → jSv → Nat → Option (List (Nat × aS)) := aSvpP.1
theorem fs_Svp : aSvp = aSvpF := aSvpP.2
noncomputable def aSrfP : { g : Nat → Option (Nat × String × Nat × (Nat → Nat)) // aSrf = g } := ⟨fun j => _, by
  funext j
  conv => lhs; simp only [aSrf, fs_nth, fs_ite, fs_and, fs_or, fs_not, fs_bt, fs_bf, fs_neq, fs_nle, fs_nlt, fs_ieq, fs_ile, fs_ilt, fs_add, fs_sub, fs_mul, fs_neg, fs_max, fs_min, fs_cast, fs_band, fs_bor, fs_bnot, fs_all, fs_any, fs_map, fs_app, fs_len, fs_fil, fs_fm, fs_fnd]⟩
noncomputable def aSrfF : Nat → Option (Nat × String × Nat × (Nat → Nat)) := aSrfP.1
theorem fs_Srf : aSrf = aSrfF := aSrfP.2
noncomputable def aSroP : { g : Nat → Option (Nat × FieldType × Nat × (Nat → Int32)) // aSro = g } := ⟨fun j => _, by
  funext j
  conv => lhs; simp only [aSro, fs_nth, fs_ite, fs_and, fs_or, fs_not, fs_bt, fs_bf, fs_neq, fs_nle, fs_nlt, fs_ieq, fs_ile, fs_ilt, fs_add, fs_sub, fs_mul, fs_neg, fs_max, fs_min, fs_cast, fs_band, fs_bor, fs_bnot, fs_all, fs_any, fs_map, fs_app, fs_len, fs_fil, fs_fm, fs_fnd]⟩
noncomputable def aSroF : Nat → Option (Nat × FieldType × Nat × (Nat → Int32)) := aSroP.1
theorem fs_Sro : aSro = aSroF := aSroP.2
noncomputable def aSrcP : { g : aCon → Bool // aSrc = g } := ⟨fun G => _, by
  funext G
  conv => lhs; simp only [aSrc, fs_nth, fs_ite, fs_and, fs_or, fs_not, fs_bt, fs_bf, fs_neq, fs_nle, fs_nlt, fs_ieq, fs_ile, fs_ilt, fs_add, fs_sub, fs_mul, fs_neg, fs_max, fs_min, fs_cast, fs_band, fs_bor, fs_bnot, fs_all, fs_any, fs_map, fs_app, fs_len, fs_fil, fs_fm, fs_fnd, fs_Rj]⟩
noncomputable def aSrcF : aCon → Bool := aSrcP.1
theorem fs_Src : aSrc = aSrcF := aSrcP.2
noncomputable def aSpvP : { g : aMi → jI → Nat → aS → Nat → Nat → Option (List (Nat × aS)) // aSpv = g } := ⟨fun m x pc S i k => _, by
  funext m x pc S i k
  conv => lhs; simp only [aSpv, fs_nth, fs_ite, fs_and, fs_or, fs_not, fs_bt, fs_bf, fs_neq, fs_nle, fs_nlt, fs_ieq, fs_ile, fs_ilt, fs_add, fs_sub, fs_mul, fs_neg, fs_max, fs_min, fs_cast, fs_band, fs_bor, fs_bnot, fs_all, fs_any, fs_map, fs_app, fs_len, fs_fil, fs_fm, fs_fnd, fs_Call, fs_Room, fs_Src]⟩
noncomputable def aSpvF : aMi → jI → Nat → aS → Nat → Nat → Option (List (Nat × aS)) := aSpvP.1
theorem fs_Spv : aSpv = aSpvF := aSpvP.2
noncomputable def aCpyP : { g : aCf → Room → aS → Nat → Option (List (Nat × aS)) // aCpy = g } := ⟨fun C rm S p => _, by
  funext C rm S p
  conv => lhs; simp only [aCpy, fs_nth, fs_ite, fs_and, fs_or, fs_not, fs_bt, fs_bf, fs_neq, fs_nle, fs_nlt, fs_ieq, fs_ile, fs_ilt, fs_add, fs_sub, fs_mul, fs_neg, fs_max, fs_min, fs_cast, fs_band, fs_bor, fs_bnot, fs_all, fs_any, fs_map, fs_app, fs_len, fs_fil, fs_fm, fs_fnd, fs_Ar, fs_Ck, fs_Fkl, fs_Fm, fs_Fp, fs_Iv, fs_Li, fs_Pr, fs_Wr]⟩
noncomputable def aCpyF : aCf → Room → aS → Nat → Option (List (Nat × aS)) := aCpyP.1
theorem fs_Cpy : aCpy = aCpyF := aCpyP.2
noncomputable def aCpbP : { g : aCf → Room → aS → Nat → Option (List (Nat × aS)) // aCpb = g } := ⟨fun C rm S p => _, by
  funext C rm S p
  conv => lhs; simp only [aCpb, fs_nth, fs_ite, fs_and, fs_or, fs_not, fs_bt, fs_bf, fs_neq, fs_nle, fs_nlt, fs_ieq, fs_ile, fs_ilt, fs_add, fs_sub, fs_mul, fs_neg, fs_max, fs_min, fs_cast, fs_band, fs_bor, fs_bnot, fs_all, fs_any, fs_map, fs_app, fs_len, fs_fil, fs_fm, fs_fnd, fs_Ar, fs_Ck, fs_Fkl, fs_Fm, fs_Fp, fs_Iv, fs_Li, fs_Pr, fs_Sb, fs_Wr]⟩
noncomputable def aCpbF : aCf → Room → aS → Nat → Option (List (Nat × aS)) := aCpbP.1
theorem fs_Cpb : aCpb = aCpbF := aCpbP.2
noncomputable def aSpeP : { g : aMi → jI → Nat → aS → Option (List (Nat × aS)) // aSpe = g } := ⟨fun m x pc S => _, by
  funext m x pc S
  conv => lhs; simp only [aSpe, fs_nth, fs_ite, fs_and, fs_or, fs_not, fs_bt, fs_bf, fs_neq, fs_nle, fs_nlt, fs_ieq, fs_ile, fs_ilt, fs_add, fs_sub, fs_mul, fs_neg, fs_max, fs_min, fs_cast, fs_band, fs_bor, fs_bnot, fs_all, fs_any, fs_map, fs_app, fs_len, fs_fil, fs_fm, fs_fnd, fs_Bd, fs_Cpb, fs_Cpy, fs_Li, fs_Ne, fs_Pu, fs_Rj, fs_Spf, fs_Spv, fs_Srf, fs_Sro, fs_Svp, fs_Ty]⟩
noncomputable def aSpeF : aMi → jI → Nat → aS → Option (List (Nat × aS)) := aSpeP.1
theorem fs_Spe : aSpe = aSpeF := aSpeP.2
noncomputable def aNe2P : { g : aMi → jI → Nat → aS → Option (List (Nat × aS)) // aNe2 = g } := ⟨fun m x pc S => _, by
  funext m x pc S
  conv => lhs; simp only [aNe2, fs_nth, fs_ite, fs_and, fs_or, fs_not, fs_bt, fs_bf, fs_neq, fs_nle, fs_nlt, fs_ieq, fs_ile, fs_ilt, fs_add, fs_sub, fs_mul, fs_neg, fs_max, fs_min, fs_cast, fs_band, fs_bor, fs_bnot, fs_all, fs_any, fs_map, fs_app, fs_len, fs_fil, fs_fm, fs_fnd, fs_Ne, fs_Spe]⟩
noncomputable def aNe2F : aMi → jI → Nat → aS → Option (List (Nat × aS)) := aNe2P.1
theorem fs_Ne2 : aNe2 = aNe2F := aNe2P.2
noncomputable def aLowP : { g : List aE → Nat → Option Int → List aF // aLow = g } := ⟨fun env x lo => _, by
  funext env x lo
  conv => lhs; simp only [aLow, fs_nth, fs_ite, fs_and, fs_or, fs_not, fs_bt, fs_bf, fs_neq, fs_nle, fs_nlt, fs_ieq, fs_ile, fs_ilt, fs_add, fs_sub, fs_mul, fs_neg, fs_max, fs_min, fs_cast, fs_band, fs_bor, fs_bnot, fs_all, fs_any, fs_map, fs_app, fs_len, fs_fil, fs_fm, fs_fnd, fs_Fp, fs_Li]⟩
noncomputable def aLowF : List aE → Nat → Option Int → List aF := aLowP.1
theorem fs_Low : aLow = aLowF := aLowP.2
noncomputable def aSidP : { g : aS → Nat → Option Nat // aSid = g } := ⟨fun S w => _, by
  funext S w
  conv => lhs; simp only [aSid, fs_nth, fs_ite, fs_and, fs_or, fs_not, fs_bt, fs_bf, fs_neq, fs_nle, fs_nlt, fs_ieq, fs_ile, fs_ilt, fs_add, fs_sub, fs_mul, fs_neg, fs_max, fs_min, fs_cast, fs_band, fs_bor, fs_bnot, fs_all, fs_any, fs_map, fs_app, fs_len, fs_fil, fs_fm, fs_fnd]⟩
noncomputable def aSidF : aS → Nat → Option Nat := aSidP.1
theorem fs_Sid : aSid = aSidF := aSidP.2
noncomputable def aFspS (pc : Nat) : { g : (Nat × Nat × List Int) → List (Nat × Nat × List Int) → (Option (Nat × List Int)) → Option (Nat × List Int) // ∀ (q : Nat × Nat × List Int) (r : List (Nat × Nat × List Int)) (ih : Option (Nat × List Int)), (aFsp r pc = ih ) → aFsp (q :: r) pc = g q r ih  } := ⟨fun q r ih => _, by
  intro q r ih h
  conv => lhs; simp only [aFsp, h, fs_nth, fs_ite, fs_and, fs_or, fs_not, fs_bt, fs_bf, fs_neq, fs_nle, fs_nlt, fs_ieq, fs_ile, fs_ilt, fs_add, fs_sub, fs_mul, fs_neg, fs_max, fs_min, fs_cast, fs_band, fs_bor, fs_bnot, fs_all, fs_any, fs_map, fs_app, fs_len, fs_fil, fs_fm, fs_fnd]⟩
theorem aFsp_F (pc : Nat) : ∀ (l : List (Nat × Nat × List Int)), aFsp l pc = (List.rec (motive := fun _ => Option (Nat × List Int)) (none) (fun q r ih => (aFspS pc).1 q r ih) l : Option (Nat × List Int)) 
  | [] => by simp only [aFsp]
  | q :: r => (aFspS pc).2 q r _ (aFsp_F pc r) 
noncomputable def aFspF (L : List (Nat × Nat × List Int)) (pc : Nat) : Option (Nat × List Int) := List.rec (motive := fun _ => Option (Nat × List Int)) (none) (fun q r ih => (aFspS pc).1 q r ih) L 
theorem fs_Fsp : aFsp = aFspF := by
  funext L pc
  exact aFsp_F pc L
noncomputable def aCatS (f : aS → Option (List (Nat × aS))) : { g : (Nat × aS) → List (Nat × aS) → (Option (List (Nat × aS))) → Option (List (Nat × aS)) // ∀ (q : Nat × aS) (r : List (Nat × aS)) (ih : Option (List (Nat × aS))), (aCat f r = ih ) → aCat f (q :: r) = g q r ih  } := ⟨fun q r ih => _, by
  intro q r ih h
  conv => lhs; simp only [aCat, h, fs_nth, fs_ite, fs_and, fs_or, fs_not, fs_bt, fs_bf, fs_neq, fs_nle, fs_nlt, fs_ieq, fs_ile, fs_ilt, fs_add, fs_sub, fs_mul, fs_neg, fs_max, fs_min, fs_cast, fs_band, fs_bor, fs_bnot, fs_all, fs_any, fs_map, fs_app, fs_len, fs_fil, fs_fm, fs_fnd]⟩
theorem aCat_F (f : aS → Option (List (Nat × aS))) : ∀ (l : List (Nat × aS)), aCat f l = (List.rec (motive := fun _ => Option (List (Nat × aS))) (some []) (fun q r ih => (aCatS f).1 q r ih) l : Option (List (Nat × aS))) 
  | [] => by simp only [aCat]
  | q :: r => (aCatS f).2 q r _ (aCat_F f r) 
noncomputable def aCatF (f : aS → Option (List (Nat × aS))) (L : List (Nat × aS)) : Option (List (Nat × aS)) := List.rec (motive := fun _ => Option (List (Nat × aS))) (some []) (fun q r ih => (aCatS f).1 q r ih) L 
theorem fs_Cat : aCat = aCatF := by
  funext f L
  exact aCat_F f L
noncomputable def aNe3P : { g : aMi → jI → Nat → aS → Option (List (Nat × aS)) // aNe3 = g } := ⟨fun m x pc S => _, by
  funext m x pc S
  conv => lhs; simp only [aNe3, fs_nth, fs_ite, fs_and, fs_or, fs_not, fs_bt, fs_bf, fs_neq, fs_nle, fs_nlt, fs_ieq, fs_ile, fs_ilt, fs_add, fs_sub, fs_mul, fs_neg, fs_max, fs_min, fs_cast, fs_band, fs_bor, fs_bnot, fs_all, fs_any, fs_map, fs_app, fs_len, fs_fil, fs_fm, fs_fnd, fs_Cat, fs_Fsp, fs_Ne2, fs_Sid, fs_Ty]⟩
noncomputable def aNe3F : aMi → jI → Nat → aS → Option (List (Nat × aS)) := aNe3P.1
theorem fs_Ne3 : aNe3 = aNe3F := aNe3P.2
noncomputable def aGh1P : { g : aCf → List aCon → Nat × Nat × List aSc2 × List Nat → Nat → aS → Option (List (Nat × aS)) // aGh1 = g } := ⟨fun C RU g pc S => _, by
  funext C RU g pc S
  conv => lhs; simp only [aGh1, fs_nth, fs_ite, fs_and, fs_or, fs_not, fs_bt, fs_bf, fs_neq, fs_nle, fs_nlt, fs_ieq, fs_ile, fs_ilt, fs_add, fs_sub, fs_mul, fs_neg, fs_max, fs_min, fs_cast, fs_band, fs_bor, fs_bnot, fs_all, fs_any, fs_map, fs_app, fs_len, fs_fil, fs_fm, fs_fnd, fs_Call, fs_Mp]⟩
noncomputable def aGh1F : aCf → List aCon → Nat × Nat × List aSc2 × List Nat → Nat → aS → Option (List (Nat × aS)) := aGh1P.1
theorem fs_Gh1 : aGh1 = aGh1F := aGh1P.2
noncomputable def aNqP : { g : aCon → aCon // aNq = g } := ⟨fun G => _, by
  funext G
  conv => lhs; simp only [aNq, fs_nth, fs_ite, fs_and, fs_or, fs_not, fs_bt, fs_bf, fs_neq, fs_nle, fs_nlt, fs_ieq, fs_ile, fs_ilt, fs_add, fs_sub, fs_mul, fs_neg, fs_max, fs_min, fs_cast, fs_band, fs_bor, fs_bnot, fs_all, fs_any, fs_map, fs_app, fs_len, fs_fil, fs_fm, fs_fnd]⟩
noncomputable def aNqF : aCon → aCon := aNqP.1
theorem fs_Nq : aNq = aNqF := aNqP.2
noncomputable def aGh4P : { g : aCf → List aCon → Nat × Nat × List aSc2 × List Nat → Nat → aS → Option (List (Nat × aS)) // aGh4 = g } := ⟨fun C RU g pc S => _, by
  funext C RU g pc S
  conv => lhs; simp only [aGh4, fs_nth, fs_ite, fs_and, fs_or, fs_not, fs_bt, fs_bf, fs_neq, fs_nle, fs_nlt, fs_ieq, fs_ile, fs_ilt, fs_add, fs_sub, fs_mul, fs_neg, fs_max, fs_min, fs_cast, fs_band, fs_bor, fs_bnot, fs_all, fs_any, fs_map, fs_app, fs_len, fs_fil, fs_fm, fs_fnd, fs_Call, fs_Fre, fs_Mp, fs_No0, fs_Nq]⟩
noncomputable def aGh4F : aCf → List aCon → Nat × Nat × List aSc2 × List Nat → Nat → aS → Option (List (Nat × aS)) := aGh4P.1
theorem fs_Gh4 : aGh4 = aGh4F := aGh4P.2
noncomputable def aGslP : { g : aCf → Nat × Nat × List aSc2 × List Nat → aS → Nat // aGsl = g } := ⟨fun C g S => _, by
  funext C g S
  conv => lhs; simp only [aGsl, fs_nth, fs_ite, fs_and, fs_or, fs_not, fs_bt, fs_bf, fs_neq, fs_nle, fs_nlt, fs_ieq, fs_ile, fs_ilt, fs_add, fs_sub, fs_mul, fs_neg, fs_max, fs_min, fs_cast, fs_band, fs_bor, fs_bnot, fs_all, fs_any, fs_map, fs_app, fs_len, fs_fil, fs_fm, fs_fnd, fs_Iv, fs_Mp]⟩
noncomputable def aGslF : aCf → Nat × Nat × List aSc2 × List Nat → aS → Nat := aGslP.1
theorem fs_Gsl : aGsl = aGslF := aGslP.2
noncomputable def aGtyS (env : List aE) : { g : (Nat) → List (Nat) → (List (aE) → Bool) → (aE) → List (aE) → Bool // ∀ (k : Nat) (u : List (Nat)) (ih : List (aE) → Bool), (∀ v, aGty env u v = ih v) → ∀ e v, aGty env (k :: u) (e :: v) = g k u ih e v } := ⟨fun k u ih e v => _, by
  intro k u ih h e v
  conv => lhs; simp only [aGty, h, fs_nth, fs_ite, fs_and, fs_or, fs_not, fs_bt, fs_bf, fs_neq, fs_nle, fs_nlt, fs_ieq, fs_ile, fs_ilt, fs_add, fs_sub, fs_mul, fs_neg, fs_max, fs_min, fs_cast, fs_band, fs_bor, fs_bnot, fs_all, fs_any, fs_map, fs_app, fs_len, fs_fil, fs_fm, fs_fnd, fs_Iv]⟩
theorem aGty_F (env : List aE) : ∀ (a : List (Nat)) (b : List (aE)), aGty env a b = (List.rec (motive := fun _ => List (aE) → Bool) (fun b => List.rec (motive := fun _ => Bool) (true) (fun e v _ => true) b) (fun k u ih b => List.rec (motive := fun _ => Bool) (true) (fun e v _ => (aGtyS env).1 k u ih e v) b) a : List (aE) → Bool) b
  | [], [] => by simp only [aGty]
  | [], _ :: _ => by simp only [aGty]
  | _ :: _, [] => by simp only [aGty]
  | k :: u, e :: v => (aGtyS env).2 k u _ (aGty_F env u) e v
noncomputable def aGtyF (env : List aE) (a : List Nat) (b : List aE) : Bool := List.rec (motive := fun _ => List (aE) → Bool) (fun b => List.rec (motive := fun _ => Bool) (true) (fun e v _ => true) b) (fun k u ih b => List.rec (motive := fun _ => Bool) (true) (fun e v _ => (aGtyS env).1 k u ih e v) b) a b
theorem fs_Gty : aGty = aGtyF := by
  funext env a b
  exact aGty_F env a b
noncomputable def aGgP : { g : aCf → List aCon → Nat × Nat × List aSc2 × List Nat → aS → Bool // aGg = g } := ⟨fun C RU g S => _, by
  funext C RU g S
  conv => lhs; simp only [aGg, fs_nth, fs_ite, fs_and, fs_or, fs_not, fs_bt, fs_bf, fs_neq, fs_nle, fs_nlt, fs_ieq, fs_ile, fs_ilt, fs_add, fs_sub, fs_mul, fs_neg, fs_max, fs_min, fs_cast, fs_band, fs_bor, fs_bnot, fs_all, fs_any, fs_map, fs_app, fs_len, fs_fil, fs_fm, fs_fnd, fs_Gty, fs_Mp]⟩
noncomputable def aGgF : aCf → List aCon → Nat × Nat × List aSc2 × List Nat → aS → Bool := aGgP.1
theorem fs_Gg : aGg = aGgF := aGgP.2
noncomputable def aGh2P : { g : aCf → List aCon → Nat × Nat × List aSc2 × List Nat → Nat → aS → Option (List (Nat × aS)) // aGh2 = g } := ⟨fun C RU g pc S => _, by
  funext C RU g pc S
  conv => lhs; simp only [aGh2, fs_nth, fs_ite, fs_and, fs_or, fs_not, fs_bt, fs_bf, fs_neq, fs_nle, fs_nlt, fs_ieq, fs_ile, fs_ilt, fs_add, fs_sub, fs_mul, fs_neg, fs_max, fs_min, fs_cast, fs_band, fs_bor, fs_bnot, fs_all, fs_any, fs_map, fs_app, fs_len, fs_fil, fs_fm, fs_fnd, fs_Gg, fs_Gh1, fs_Gh4, fs_Gsl]⟩
noncomputable def aGh2F : aCf → List aCon → Nat × Nat × List aSc2 × List Nat → Nat → aS → Option (List (Nat × aS)) := aGh2P.1
theorem fs_Gh2 : aGh2 = aGh2F := aGh2P.2
noncomputable def aGhsS (C : aCf) (RU : List aCon) (pc : Nat) : { g : (Nat × Nat × List aSc2 × List Nat) → List (Nat × Nat × List aSc2 × List Nat) → (List (Nat × aS) → Option (List (Nat × aS))) → List (Nat × aS) → Option (List (Nat × aS)) // ∀ (q : Nat × Nat × List aSc2 × List Nat) (r : List (Nat × Nat × List aSc2 × List Nat)) (ih : List (Nat × aS) → Option (List (Nat × aS))), (∀ (M : List (Nat × aS)), aGhs C RU pc r M = ih M) → ∀ (M : List (Nat × aS)), aGhs C RU pc (q :: r) M = g q r ih M } := ⟨fun q r ih M => _, by
  intro q r ih h M
  conv => lhs; simp only [aGhs, h, fs_nth, fs_ite, fs_and, fs_or, fs_not, fs_bt, fs_bf, fs_neq, fs_nle, fs_nlt, fs_ieq, fs_ile, fs_ilt, fs_add, fs_sub, fs_mul, fs_neg, fs_max, fs_min, fs_cast, fs_band, fs_bor, fs_bnot, fs_all, fs_any, fs_map, fs_app, fs_len, fs_fil, fs_fm, fs_fnd, fs_Cat, fs_Gh2]⟩
theorem aGhs_F (C : aCf) (RU : List aCon) (pc : Nat) : ∀ (l : List (Nat × Nat × List aSc2 × List Nat)) (M : List (Nat × aS)), aGhs C RU pc l M = (List.rec (motive := fun _ => List (Nat × aS) → Option (List (Nat × aS))) (fun M => some M) (fun q r ih => (aGhsS C RU pc).1 q r ih) l : List (Nat × aS) → Option (List (Nat × aS))) M
  | [], _ => by simp only [aGhs]
  | q :: r, M => (aGhsS C RU pc).2 q r _ (aGhs_F C RU pc r) M
noncomputable def aGhsF (C : aCf) (RU : List aCon) (pc : Nat) (L : List (Nat × Nat × List aSc2 × List Nat)) (M : List (Nat × aS)) : Option (List (Nat × aS)) := List.rec (motive := fun _ => List (Nat × aS) → Option (List (Nat × aS))) (fun M => some M) (fun q r ih => (aGhsS C RU pc).1 q r ih) L M
theorem fs_Ghs : aGhs = aGhsF := by
  funext C RU pc L M
  exact aGhs_F C RU pc L M
noncomputable def aNyP : { g : List (Nat × aS) → aS → (aS → Bool) → Bool // aNy = g } := ⟨fun L S k => _, by
  funext L S k
  conv => lhs; simp only [aNy, fs_nth, fs_ite, fs_and, fs_or, fs_not, fs_bt, fs_bf, fs_neq, fs_nle, fs_nlt, fs_ieq, fs_ile, fs_ilt, fs_add, fs_sub, fs_mul, fs_neg, fs_max, fs_min, fs_cast, fs_band, fs_bor, fs_bnot, fs_all, fs_any, fs_map, fs_app, fs_len, fs_fil, fs_fm, fs_fnd, fs_NS]⟩
noncomputable def aNyF : List (Nat × aS) → aS → (aS → Bool) → Bool := aNyP.1
theorem fs_Ny : aNy = aNyF := aNyP.2
noncomputable def aGkP : { g : aMi → Nat → aS → (aS → Bool) → Bool // aGk = g } := ⟨fun m pc S k => _, by
  funext m pc S k
  conv => lhs; simp only [aGk, fs_nth, fs_ite, fs_and, fs_or, fs_not, fs_bt, fs_bf, fs_neq, fs_nle, fs_nlt, fs_ieq, fs_ile, fs_ilt, fs_add, fs_sub, fs_mul, fs_neg, fs_max, fs_min, fs_cast, fs_band, fs_bor, fs_bnot, fs_all, fs_any, fs_map, fs_app, fs_len, fs_fil, fs_fm, fs_fnd, fs_Ghs, fs_NS]⟩
noncomputable def aGkF : aMi → Nat → aS → (aS → Bool) → Bool := aGkP.1
theorem fs_Gk : aGk = aGkF := aGkP.2
noncomputable def aRunS (m : aMi) (rk0 : List aF) : { g : (List jI → Nat → aS → Bool) → jI → List jI → Nat → aS → Bool // ∀ (f : Nat) (ih : List jI → Nat → aS → Bool), (∀ (l : List jI) (p : Nat) (S : aS), aRun m rk0 f l p S = ih l p S) → ∀ (x : jI) (r : List jI) (pc : Nat) (S : aS), aRun m rk0 (f + 1) (x :: r) pc S = g ih x r pc S } := ⟨fun ih x r pc S => _, by
  intro f ih h x r pc S
  conv => lhs; simp only [aRun, h, fs_nth, fs_ite, fs_and, fs_or, fs_not, fs_bt, fs_bf, fs_neq, fs_nle, fs_nlt, fs_ieq, fs_ile, fs_ilt, fs_add, fs_sub, fs_mul, fs_neg, fs_max, fs_min, fs_cast, fs_band, fs_bor, fs_bnot, fs_all, fs_any, fs_map, fs_app, fs_len, fs_fil, fs_fm, fs_fnd, fs_Gk, fs_Ne3, fs_Nn, fs_Ny, fs_Ret, fs_Suf, fs_To]⟩
theorem aRun_F (m : aMi) (rk0 : List aF) : ∀ (f : Nat) (l : List jI) (pc : Nat) (S : aS), aRun m rk0 f l pc S = (Nat.rec (motive := fun _ => List jI → Nat → aS → Bool) (fun _ _ _ => false) (fun _ ih l pc S => List.rec (motive := fun _ => Bool) false (fun x r _ => (aRunS m rk0).1 ih x r pc S) l) f : List jI → Nat → aS → Bool) l pc S
  | 0, _, _, _ => by
    rw [aRun]
    rfl
  | _ + 1, [], _, _ => by rw [aRun]
  | f + 1, x :: r, pc, S => (aRunS m rk0).2 f _ (aRun_F m rk0 f) x r pc S
noncomputable def aRunF (m : aMi) (rk0 : List aF) (f : Nat) (l : List jI) (pc : Nat) (S : aS) : Bool := (Nat.rec (motive := fun _ => List jI → Nat → aS → Bool) (fun _ _ _ => false) (fun _ ih l pc S => List.rec (motive := fun _ => Bool) false (fun x r _ => (aRunS m rk0).1 ih x r pc S) l) f : List jI → Nat → aS → Bool) l pc S
theorem fs_Run : aRun = aRunF := by
  funext m rk0 f l pc S
  exact aRun_F m rk0 f l pc S
noncomputable def aIsLP : { g : aT → Bool // aIsL = g } := ⟨fun t => _, by
  funext t
  conv => lhs; simp only [aIsL, fs_nth, fs_ite, fs_and, fs_or, fs_not, fs_bt, fs_bf, fs_neq, fs_nle, fs_nlt, fs_ieq, fs_ile, fs_ilt, fs_add, fs_sub, fs_mul, fs_neg, fs_max, fs_min, fs_cast, fs_band, fs_bor, fs_bnot, fs_all, fs_any, fs_map, fs_app, fs_len, fs_fil, fs_fm, fs_fnd]⟩
noncomputable def aIsLF : aT → Bool := aIsLP.1
theorem fs_IsL : aIsL = aIsLF := aIsLP.2
noncomputable def aOkcP : { g : aCf → aCon → Bool // aOkc = g } := ⟨fun C G => _, by
  funext C G
  conv => lhs; simp only [aOkc, fs_nth, fs_ite, fs_and, fs_or, fs_not, fs_bt, fs_bf, fs_neq, fs_nle, fs_nlt, fs_ieq, fs_ile, fs_ilt, fs_add, fs_sub, fs_mul, fs_neg, fs_max, fs_min, fs_cast, fs_band, fs_bor, fs_bnot, fs_all, fs_any, fs_map, fs_app, fs_len, fs_fil, fs_fm, fs_fnd, fs_DT, fs_Nil, fs_No0]⟩
noncomputable def aOkcF : aCf → aCon → Bool := aOkcP.1
theorem fs_Okc : aOkc = aOkcF := aOkcP.2
noncomputable def aChkP : { g : aMi → Nat → Bool // aChk = g } := ⟨fun m f => _, by
  funext m f
  conv => lhs; simp only [aChk, fs_nth, fs_ite, fs_and, fs_or, fs_not, fs_bt, fs_bf, fs_neq, fs_nle, fs_nlt, fs_ieq, fs_ile, fs_ilt, fs_add, fs_sub, fs_mul, fs_neg, fs_max, fs_min, fs_cast, fs_band, fs_bor, fs_bnot, fs_all, fs_any, fs_map, fs_app, fs_len, fs_fil, fs_fm, fs_fnd, fs_Okc, fs_Ro, fs_Run, fs_Suf]⟩
noncomputable def aChkF : aMi → Nat → Bool := aChkP.1
theorem fs_Chk : aChk = aChkF := aChkP.2
noncomputable def aCk1P : { g : aMi → Nat → aCu → Bool // aCk1 = g } := ⟨fun m f c => _, by
  funext m f c
  conv => lhs; simp only [aCk1, fs_nth, fs_ite, fs_and, fs_or, fs_not, fs_bt, fs_bf, fs_neq, fs_nle, fs_nlt, fs_ieq, fs_ile, fs_ilt, fs_add, fs_sub, fs_mul, fs_neg, fs_max, fs_min, fs_cast, fs_band, fs_bor, fs_bnot, fs_all, fs_any, fs_map, fs_app, fs_len, fs_fil, fs_fm, fs_fnd, fs_Ro, fs_Run, fs_Suf]⟩
noncomputable def aCk1F : aMi → Nat → aCu → Bool := aCk1P.1
theorem fs_Ck1 : aCk1 = aCk1F := aCk1P.2
