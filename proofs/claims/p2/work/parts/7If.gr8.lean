def kq_18 : List jI := [(.lload_n 1, 1, (1, 0, 0, 0, 0)), (.lneg, 1, (0, 0, 0, 0, 0)), (.goto 4, 3, (24, 0, 0, 0, 0))]
theorem oq_18 : jokL "ChessHouseModel" lw_tbl jcl jtb 7 false prog_15_method_10_code 18 kq_18 = true := jokLF_ok (fun _ _ => jtF_ok) lo_MM (by decide +kernel)
def zp_18 : aCu := (18, ([some 0, some 1, none, none, none, none, none], [], [(.inr (some (.inl (false, 55))), none), (.inr none, none)], ([], [], [([(1, 1)], 999999999999999999), ([(1, -1)], 999999999999999999)], [(0, [])])), [], [([], 3), ([], 0), ([], 0)])
def zp_24 : aCu := (24, ([some 0, none, none, none, none, none, none], [2], [(.inr (some (.inl (false, 55))), none), (.inr none, none), (.inr none, none)], ([], [], [([(1, 1)], 999999999999999999), ([(1, -1)], 999999999999999999), ([(2, -1)], 999999999999999999)], [(0, [])])), [.inr (.inl 0)], [([], 2), ([], 0), ([], 0)])
set_option maxRecDepth 100000 in
set_option maxHeartbeats 4000000 in
theorem az_MMputNumB {N : Int} {JX : (Nat → Nat) → Nat → (Nat → jcell) → Prop} {l : Launch} {E : jE} (hJ : ∀ (K : Nat → Nat) (n : Nat), aJx K n fa_Pk (JX K n)) (K : Nat → Nat) (n : Nat) : aMe (rH N K n) l E jcl jtb lw_tbl fa_T K n (JX K n) ag_MMputNumB := by
  intro p σ ρ hH hX hA hM
  have h := ae_MMputNumC (l := l) (E := E) (F := fun K n => rH N K n) (JX := JX) hJ (fun K n => rH_shf N K n) (fun K n => rH_dpa) (fun K n => rH_dpr) (fun K n => rH_dpm) (fun K n => rw_rqA) (fun K n => rw_rqB) (fun K n => rw_rqC) (fun K n => rw_rqD) (fun K n => rw_rqW0) rMn_nil
  refine h _ { frames := 1, cells := 0, slots := 0, locals := 21 } ⟨Nat.le_refl _, Nat.le_refl _⟩ K n p σ ρ hH hX hA hM (fun w => w = (K, n, σ, 0, 0)) rfl (fun G hG => by cases hG) ?_ ?_
  · intro K1 n1 σ0 ca sl hw
    cases hw
    exact ⟨⟨Nat.zero_le _, Nat.zero_le _⟩, fun r σ' hp => hp⟩
  · intro M hl hR hsz X hok c hc hx K1 n1 σ0 ca sl hw ρ' lv st σ1 hx0 hcx IH
    cases hw
    obtain rfl : c = zp_18 := by
      obtain ⟨i, hi⟩ := List.getElem?_of_mem hc
      rcases i with _ | _ | _ | _ | _ | i
      · exact (Option.some.inj hi).symm
      · obtain rfl := Option.some.inj hi
        exact absurd hx (by decide)
      · obtain rfl := Option.some.inj hi
        exact absurd hx (by decide)
      · obtain rfl := Option.some.inj hi
        exact absurd hx (by decide)
      · obtain rfl := Option.some.inj hi
        exact absurd hx (by decide)
      · cases hi
    obtain ⟨hA1, hL, hSk, ⟨p9, m1, m2, m3, m4⟩, hHp⟩ := hcx
    have hG := aAG_of hA1.1 (fun i e v he hv => (hA1.2 i e v he hv).1)
    obtain ⟨v0, v1, rfl, g0, g1⟩ := rA_2 hG
    obtain ⟨v, rfl⟩ := aG_lng g1
    have hlv : lv[1]? = some (some (rL v)) := by
      obtain ⟨u, e1, e2⟩ := hL.2 1 1 rfl
      obtain rfl : rL v = u := Option.some.inj e1
      exact e2
    have hst : st = [] := by
      cases st with
      | nil => rfl
      | cons => exact hSk.elim
    subst hst
    obtain ⟨z1, k1, k2⟩ := m3 ([(1, 1)], 999999999999999999) (List.mem_of_getElem? (i := 0) rfl)
    obtain ⟨z2, k3, k4⟩ := m3 ([(1, -1)], 999999999999999999) (List.mem_of_getElem? (i := 1) rfl)
    obtain rfl : (1 * v.toInt + 0) = z1 := Option.some.inj k1
    obtain rfl : (-1 * v.toInt + 0) = z2 := Option.some.inj k3
    dsimp only at k2 k4
    have en : (-v).toInt = - v.toInt := by
      rw [Int64.toInt_neg, Int.bmod_eq_of_le (by omega) (by omega)]
    refine jrun_ok jC X kq_18 18 _ _ _ oq_18 ?_
    simp only [kq_18, jrun, jstep, jldi, jldl, jlda, j1, j2, jl1, jl2, jli, ja1, jbr, jald, jast, jlald, jlast, jalen, jget, jput, jfit, jdup, jdupx, jdupx2, jdup2, jcat, jset1, jset2, jkill, List.getElem?_cons_zero, List.getElem?_cons_succ, List.set_cons_zero, List.set_cons_succ, List.length_cons, List.length_nil, Nat.reduceAdd, Nat.reduceLT, Int32.reduceToNatClampNeg, true_and, and_true, and_self, reduceCtorEq, not_false_eq_true, false_and, and_false, or_false, false_or, true_or, or_true, hlv]
    refine IH K n σ 0 0 rfl zp_24 (List.mem_of_getElem? (i := 1) rfl) [v0, rL v, rL (-v)] lv [rL (-v)] σ1 ⟨rfl, Or.inl (show (2 : Nat) < 3 by decide)⟩ (hx0.tr (aX_apps (ρ := [v0, rL v]) (ws := [rL (-v)]))) ?_
    refine ⟨⟨rfl, fun i e u he hu => ?_⟩, ⟨hL.1, fun i k hk => ?_⟩, ⟨rfl, trivial⟩, ⟨p9, fun q hq => (by cases hq), fun q hq => (by cases hq), aAllc ⟨1 * v.toInt + 0, rfl, by dsimp only; omega⟩ (aAllc ⟨-1 * v.toInt + 0, rfl, by dsimp only; omega⟩ (aAllc ⟨-1 * (-v).toInt + 0, rfl, by dsimp only; omega⟩ (fun f hf => by cases hf))), aAllc (m4 (0, []) (List.mem_of_getElem? (i := 0) rfl)) (fun f hf => by cases hf)⟩, hHp⟩
    · match i, he, hu with
      | 0, he, hu => cases he; cases hu; exact ⟨g0, trivial⟩
      | 1, he, hu => cases he; cases hu; exact ⟨trivial, trivial⟩
      | 2, he, hu => cases he; cases hu; exact ⟨trivial, trivial⟩
      | i + 3, he, _ => cases he
    · match i, hk with
      | 0, hk =>
        cases hk
        obtain ⟨u, e1, e2⟩ := hL.2 0 0 rfl
        exact ⟨u, e1, e2⟩
      | 1, hk => cases hk
      | 2, hk => cases hk
      | 3, hk => cases hk
      | 4, hk => cases hk
      | 5, hk => cases hk
      | 6, hk => cases hk
      | i + 7, hk => cases hk
