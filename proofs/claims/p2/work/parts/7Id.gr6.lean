def kz_118 : List jI := [(.aload_n 0, 1, (0, 0, 0, 0, 0)), (.getfield 468, 3, (11, 7, 2309, 0, 0)), (.ifnonnull 17, 3, (139, 0, 0, 0, 0))]
theorem oz_118 : jokL "ChessHouseModel" lw_tbl jcl jtb 9 false prog_15_method_53_code 118 kz_118 = true := jokLF_ok (fun _ _ => jtF_ok) lo_MM (by decide +kernel)
def kz_128 : List jI := [(.dup, 1, (0, 0, 0, 0, 0)), (.bipush 8, 2, (0, 0, 0, 8, 0)), (.bipush 8, 2, (0, 0, 0, 8, 0))]
theorem oz_128 : jokL "ChessHouseModel" lw_tbl jcl jtb 9 false prog_15_method_53_code 128 kz_128 = true := jokLF_ok (fun _ _ => jtF_ok) lo_MM (by decide +kernel)
def kz_136 : List jI := [(.goto 7, 3, (143, 0, 0, 0, 0))]
theorem oz_136 : jokL "ChessHouseModel" lw_tbl jcl jtb 9 false prog_15_method_53_code 136 kz_136 = true := jokLF_ok (fun _ _ => jtF_ok) lo_MM (by decide +kernel)
def kz_139 : List jI := [(.aload_n 0, 1, (0, 0, 0, 0, 0)), (.getfield 468, 3, (11, 7, 2309, 0, 0)), (.putfield 468, 3, (11, 7, 2309, 3, 0))]
theorem oz_139 : jokL "ChessHouseModel" lw_tbl jcl jtb 9 false prog_15_method_53_code 139 kz_139 = true := jokLF_ok (fun _ _ => jtF_ok) lo_MM (by decide +kernel)
def kz_143 : List jI := [(.putfield 468, 3, (11, 7, 2309, 3, 0))]
theorem oz_143 : jokL "ChessHouseModel" lw_tbl jcl jtb 9 false prog_15_method_53_code 143 kz_143 = true := jokLF_ok (fun _ _ => jtF_ok) lo_MM (by decide +kernel)
theorem dz_125 : decode prog_15_method_53_code 125 = .ok (.new 472, 3) := by decide +kernel
theorem dz_133 : decode prog_15_method_53_code 133 = .ok (.invokespecial 474, 3) := by decide +kernel
theorem qz_133 : jlm lw_tbl 3048 "ChessHouseModel" 474 ⟨"ChessHouseModel$Ends", "<init>", "(II)V"⟩ = true := jlm_of (Or.inl (jtF_ok rfl))
def ze_118 : aCu := (118, ([some 0, some 5, none, some 6, some 7, none, none, none, none], [0], [(.inr (some (.inl (false, 55))), none), (.inr (some (.inl (false, 62))), none), (.inl (0, 1), none), (.inl (0, 300), none), (.inr (some (.inl (true, 109))), none), (.inl (0, 63), none), (.inl (0, 63), none), (.inl (0, 63), none)], ([(0, 5, 1), (1, 5, 2), (1, 6, 3), (0, 7, 4)], [], [], [(5873, [1]), (6370, [1, 5]), (7665, [5]), (6401, [1]), (3521, [1]), (7395, [1, 2, 3]), (7409, [1]), (384, []), (3859, [1, 2, 3]), (6385, [0])])), [.inl 1, .inl 3, .inl 4], [([], 1), ([], 0), ([], 0)])
def ze_146 : aCu := (146, ([some 0, some 5, none, some 6, some 7, none, none, none, none], [], [(.inr (some (.inl (false, 55))), none), (.inr (some (.inl (false, 62))), none), (.inl (0, 1), none), (.inl (0, 300), none), (.inr (some (.inl (true, 109))), none), (.inl (0, 63), none), (.inl (0, 63), none), (.inl (0, 63), none), (.inr (some (.inl (false, 109))), none)], ([(0, 5, 1), (1, 5, 2), (1, 6, 3), (0, 7, 8)], [], [], [(5873, [1]), (6370, [1, 5]), (5649, [8])])), [.inl 1, .inl 3, .inl 4, .inr (.inr (0, 7))], [([], 0), ([], 0), ([], 0)])
def zK (K : Nat → Nat) (n : Nat) : Nat → Nat := fun a => if a < n then K a else 109 + (a - n)
theorem zK_gw {K : Nat → Nat} {n : Nat} : gW K n (zK K n) (n + 5) := ⟨by omega, fun a ha => if_pos ha⟩
theorem zK_ki {K : Nat → Nat} {n : Nat} : zKi n (zK K n) (n + 5) := fun a h1 h2 => by
  unfold zK
  rw [if_neg (by omega)]
  omega
theorem zK_at {K : Nat → Nat} {n : Nat} (k : Nat) : zK K n (n + k) = 109 + k := by
  unfold zK
  rw [if_neg (by omega)]
  omega
theorem aCe_gw {K K' : Nat → Nat} {n n' : Nat} (h : gW K n K' n') {d : aKd} {c : jcell} (hc : aCe K n d c) : aCe K' n' d c := by
  rcases d with q | q
  · rcases c with ⟨t, m, g | g | g⟩ | y
    · exact hc
    · exact hc
    · exact hc
    · exact hc.elim
  · obtain ⟨fs, rfl, h1, h2⟩ := aCe_obj hc
    exact ⟨rfl, h1, fun f t v ht hv => aG_gw h (h2 f t v ht hv)⟩
/-- a field of the reference's object is written -/
theorem zFr_put {K : Nat → Nat} {n : Nat} {md : List (Nat × Nat)} {σ0 σ : Nat → jcell} (h : aFr K n md σ0 σ) {a c f : Nat} {fs : List jv} {v : jv} (hs : σ a = .inr (c, fs)) (hm : (K a, f) ∈ md) : aFr K n md σ0 (jup σ a (.inr (c, fs.set f v))) := by
  intro b hb c1 gs he
  obtain ⟨gs', e1, e2, e3⟩ := h b hb c1 gs he
  by_cases e : b = a
  · subst e
    rw [hs] at e1
    cases e1
    refine ⟨fs.set f v, jup_s, by rw [List.length_set]; exact e2, fun g w hw hn => ?_⟩
    have hg : g ≠ f := fun e => hn (by rw [e]; exact hm)
    rw [List.getElem?_set_ne (Ne.symm hg)]
    exact e3 g w hw hn
  · exact ⟨gs', by rw [jup_n e]; exact e1, e2, e3⟩
def zOb (n : Nat) : jcell := .inr (14, [.inl 0, .inl 8, .inl 8, .inr (.inr (some (.inl (n + 1)))), .inr (.inr (some (.inl (n + 1 + 1)))), .inr (.inr (some (.inl (n + 1 + 2)))), .inl 0, .inl 0, .inl 0, .inl 0, .inl 0, .inl 0, .inr (.inr (some (.inl (n + 1 + 3)))), .inl 0])
def zCs : List jcell := [.inl (.long, 327680, .inr (.inl fun _ => 0)), .inl (.boolean, 6, .inl fun _ => 0), .inl (.int, 6, .inl fun _ => 0), .inl (.int, 64, .inl fun _ => 0)]
def zS3 (σ : Nat → jcell) (n : Nat) (o : jcell) : Nat → jcell := jmk (jup σ n o) n (n + 1) (zOb n) zCs
theorem zS3_lo {σ : Nat → jcell} {n a : Nat} {o : jcell} (h : a < n) : zS3 σ n o a = σ a := by
  unfold zS3
  rw [jmk_lo (by omega) (by omega), jup_n (by omega)]
theorem zS3_hi {σ : Nat → jcell} {n k : Nat} {o c : jcell} (h : zCs[k]? = some c) : zS3 σ n o (n + 1 + k) = c := jmk_at (by omega) h
theorem zS3_ob {σ : Nat → jcell} {n : Nat} {o : jcell} : zS3 σ n o n = zOb n := jmk_a
/-- the new cells are of their kinds -/
theorem zS3_new {K : Nat → Nat} {σ : Nat → jcell} {n : Nat} {o : jcell} : ∀ a, n ≤ a → a < n + 5 → ∀ d, fa_T[zK K n a]? = some d → aCe (zK K n) (n + 5) d (zS3 σ n o a) := by
  intro a h1 h2 d hd
  have hk : ∀ k, k < 5 → aG (zK K n) (n + 5) (.inr (some (.inl (false, 109 + k)))) (.inr (.inr (some (.inl (n + k))))) := fun k hk => ⟨by omega, Or.inl (zK_at k)⟩
  obtain ⟨k, rfl⟩ := Nat.exists_eq_add_of_le h1
  rw [zK_at] at hd
  have hz : ∀ i : Nat, (0 : Int32).toInt = 0 := fun _ => rfl
  match k, h2, hd with
  | 0, _, hd =>
    obtain rfl := Option.some.inj hd
    rw [show n + 0 = n from rfl, zS3_ob]
    refine ⟨rfl, rfl, fun f t v ht hv => ?_⟩
    match f, ht, hv with
    | 0, ht, hv => cases ht; cases hv; exact ⟨by decide, by decide⟩
    | 1, ht, hv => cases ht; cases hv; exact ⟨by decide, by decide⟩
    | 2, ht, hv => cases ht; cases hv; exact ⟨by decide, by decide⟩
    | 3, ht, hv => cases ht; cases hv; exact hk 1 (by decide)
    | 4, ht, hv => cases ht; cases hv; exact hk 2 (by decide)
    | 5, ht, hv => cases ht; cases hv; exact hk 3 (by decide)
    | 6, ht, hv => cases ht; cases hv; exact ⟨by decide, by decide⟩
    | 7, ht, hv => cases ht; cases hv; exact ⟨by decide, by decide⟩
    | 8, ht, hv => cases ht; cases hv; exact ⟨by decide, by decide⟩
    | 9, ht, hv => cases ht; cases hv; exact ⟨by decide, by decide⟩
    | 10, ht, hv => cases ht; cases hv; exact ⟨by decide, by decide⟩
    | 11, ht, hv => cases ht; cases hv; exact ⟨by decide, by decide⟩
    | 12, ht, hv => cases ht; cases hv; exact hk 4 (by decide)
    | 13, ht, hv => cases ht; cases hv; exact ⟨by decide, by decide⟩
    | f + 14, ht, hv => cases ht
  | 1, _, hd =>
    obtain rfl := Option.some.inj hd
    rw [show n + 1 = n + 1 + 0 from rfl, zS3_hi (k := 0) rfl]
    exact ⟨rfl, rfl, rfl⟩
  | 2, _, hd =>
    obtain rfl := Option.some.inj hd
    rw [show n + 2 = n + 1 + 1 from rfl, zS3_hi (k := 1) rfl]
    exact ⟨rfl, rfl, by decide, fun i _ => ⟨(show aIn _ 0 from ⟨by decide, by decide⟩), fun q hq => by cases hq⟩⟩
  | 3, _, hd =>
    obtain rfl := Option.some.inj hd
    rw [show n + 3 = n + 1 + 2 from rfl, zS3_hi (k := 2) rfl]
    exact ⟨rfl, rfl, by decide, fun i _ => ⟨(show aIn _ 0 from ⟨by decide, by decide⟩), fun q hq => by cases hq⟩⟩
  | 4, _, hd =>
    obtain rfl := Option.some.inj hd
    rw [show n + 4 = n + 1 + 3 from rfl, zS3_hi (k := 3) rfl]
    exact ⟨rfl, rfl, by decide, fun i _ => ⟨(show aIn _ 0 from ⟨by decide, by decide⟩), fun q hq => by cases hq⟩⟩
  | k + 5, h2, _ => omega
theorem zH_of {K : Nat → Nat} {σ : Nat → jcell} {n : Nat} {o : jcell} (h : aH fa_T K n σ) : aH fa_T (zK K n) (n + 5) (zS3 σ n o) := by
  intro a ha d hd
  by_cases hn : a < n
  · rw [zS3_lo hn]
    refine aCe_gw zK_gw (h a hn d ?_)
    rw [← hd]
    unfold zK
    rw [if_pos hn]
  · exact zS3_new a (by omega) ha d hd

set_option maxRecDepth 100000 in
set_option maxHeartbeats 4000000 in
theorem zEx_ends {N : Int} {JX : (Nat → Nat) → Nat → (Nat → jcell) → Prop} {l : Launch} {E : jE} (hJg : ∀ (K : Nat → Nat) (n : Nat) (σ σ' : Nat → jcell), JX K n σ → (∀ a, a < n → ¬ K a = 55 → σ' a = σ a) → JX (zK K n) (n + 5) σ') : zEx 5 327770 (fun K n => rH N K n) JX l E jtb am_MMendsG [118] 9 prog_15_method_53_code := by
  intro post rm hf1 hf2 K n p σ ρ r3 r4 M hl hR hsz X hok c hc hx K1 n1 σ0 ca sl hw ρ' lv st σ1 hx0 hcx IH
  obtain rfl : c = ze_118 := by
    obtain ⟨i, hi⟩ := List.getElem?_of_mem hc
    rcases i with _ | _ | _ | _ | i
    · obtain rfl := Option.some.inj hi
      exact absurd hx (by decide)
    · exact (Option.some.inj hi).symm
    · obtain rfl := Option.some.inj hi
      exact absurd hx (by decide)
    · obtain rfl := Option.some.inj hi
      exact absurd hx (by decide)
    · cases hi
  have X : jX E "ChessHouseModel" lw_tbl jcl jtb 9 false prog_15_method_53_code M := X
  obtain ⟨hA, hL, hSk, ⟨p9, m1, m2, m3, m4⟩, hH, hJX, hfr, hfa⟩ := hcx
  replace hH : aH fa_T K1 n1 σ1 := hH
  have hG := aAG_of hA.1 (fun i e v he hv => (hA.2 i e v he hv).1)
  obtain ⟨v0, v1, v2, v3, v4, v5, v6, v7, rfl, g0, g1, g2, g3, g4, g5, g6, g7⟩ := rA_8 hG
  clear hG
  obtain ⟨x0, rfl, b0, d0⟩ := rG_ref (by decide) g0
  obtain ⟨x1, rfl, b1, d1⟩ := rG_ref (by decide) g1
  obtain ⟨y5, rfl, -⟩ := aG_int g5
  have hlv : lv[0]? = some (some (rR x0)) := by
    obtain ⟨v, e1, e2⟩ := hL.2 0 0 rfl
    obtain rfl : rR x0 = v := Option.some.inj e1
    exact e2
  obtain ⟨w0, s0, rfl, k1, k2⟩ := aSk_1 hSk
  obtain rfl : rR x0 = w0 := Option.some.inj k1
  have hs0 : s0 = [] := by
    cases s0 with
    | nil => rfl
    | cons => exact k2.elim
  subst hs0
  have fE : rB3 N K1 n1 p9 399 [rR x0] σ1 := by
    obtain ⟨w, e6, e7⟩ := m4 (6385, [0]) (List.mem_of_getElem? (i := 9) rfl)
    obtain rfl : [rR x0] = w := Option.some.inj (show some [rR x0] = some w from e6)
    unfold aFq at e7
    rw [if_neg (by decide)] at e7
    exact (rF_b (r := 6385) (by decide) rfl).mp e7
  have fG : rB3 N K1 n1 p9 367 [rR x1] σ1 := by
    obtain ⟨w, e6, e7⟩ := m4 (5873, [1]) (List.mem_of_getElem? (i := 0) rfl)
    obtain rfl : [rR x1] = w := Option.some.inj (show some [rR x1] = some w from e6)
    unfold aFq at e7
    rw [if_neg (by decide)] at e7
    exact (rF_b (r := 5873) (by decide) rfl).mp e7
  have fM : rB3 N K1 n1 p9 398 [rR x1, rI y5] σ1 := by
    obtain ⟨w, e6, e7⟩ := m4 (6370, [1, 5]) (List.mem_of_getElem? (i := 1) rfl)
    obtain rfl : [rR x1, rI y5] = w := Option.some.inj (show some [rR x1, rI y5] = some w from e6)
    unfold aFq at e7
    rw [if_neg (by decide)] at e7
    exact (rF_b (r := 6370) (by decide) rfl).mp e7
  obtain ⟨fs, hs, hf0, hf⟩ := aCe_obj (hH x0 b0 _ (by rw [d0]; rfl))
  replace hs : σ1 x0 = .inr (11, fs) := hs
  have hlen : fs.length = 19 := hf0
  have hak : (x0 < n1) = True := eq_true b0
  have hne : x1 ≠ x0 := fun e => by
    rw [e, d0] at d1
    cases d1
  obtain ⟨a50, c50, fs50, w50, e501, s50, t50, e504⟩ := m1 (0, 5, 1) (List.mem_of_getElem? (i := 0) rfl)
  obtain rfl : x0 = a50 := Sum.inl.inj (Option.some.inj (Sum.inr.inj (Sum.inr.inj (Option.some.inj (show some (rR x0) = some _ from e501)))))
  rw [hs] at s50
  cases s50
  obtain ⟨a51, c51, fs51, w51, e511, s51, t51, e514⟩ := m1 (1, 5, 2) (List.mem_of_getElem? (i := 1) rfl)
  obtain rfl : x1 = a51 := Sum.inl.inj (Option.some.inj (Sum.inr.inj (Sum.inr.inj (Option.some.inj (show some (rR x1) = some _ from e511)))))
  obtain ⟨a52, c52, fs52, w52, e521, s52, t52, e524⟩ := m1 (1, 6, 3) (List.mem_of_getElem? (i := 2) rfl)
  obtain rfl : x1 = a52 := Sum.inl.inj (Option.some.inj (Sum.inr.inj (Sum.inr.inj (Option.some.inj (show some (rR x1) = some _ from e521)))))
  have hlt : ∀ v, aLt (ze_146.2.2.2.map (aRn [rR x0, rR x1, v2, v3, v4, rI y5, v6, v7, v])) (ze_118.2.2.2.map (aRn [rR x0, rR x1, v2, v3, v4, rI y5, v6, v7])) := fun v => ⟨rfl, Or.inl (show (0 : Nat) < 1 by decide)⟩
  have hxn : ∀ v, aX [rR x0, rR x1, v2, v3, v4, rI y5, v6, v7] [rR x0, rR x1, v2, v3, v4, rI y5, v6, v7, v] := fun v => aX_apps (ws := [v])
  have hLn : ∀ v, aLv [rR x0, rR x1, v2, v3, v4, rI y5, v6, v7, v] ze_146.2.1.1 lv := fun v => ⟨hL.1, fun i k hk => by
    obtain ⟨u, u1, u2⟩ := hL.2 i k hk
    exact ⟨u, hxn v _ _ u1, u2⟩⟩
  rcases ro3_399.mp fE with ⟨o, hz⟩ | ⟨q, o, hq⟩
  · -- the tables are made
    have hw : (K1, n1, σ0, ca, sl) = (K, n, σ, 0, 0) := hw.resolve_right (fun h9 => h9.2.2.2.1 hz)
    cases hw
    obtain ⟨c1, c2⟩ := r3 hz
    obtain ⟨-, -, c9, fs9, o3, o4⟩ := o
    rw [hs] at o3
    cases o3
    refine jrun_ok jC X kz_118 118 _ _ _ oz_118 ?_
    simp only [kz_118, jrun, jstep, jldi, jldl, jlda, j1, j2, jl1, jl2, jli, ja1, jbr, jget, jput, jfit, jdup, jcat, List.getElem?_cons_zero, List.getElem?_cons_succ, List.set_cons_zero, List.set_cons_succ, List.length_cons, List.length_nil, Nat.reduceAdd, Nat.reduceLT, Int32.reduceToNatClampNeg, true_and, and_true, and_self, reduceCtorEq, not_false_eq_true, not_true_eq_false, false_implies, true_implies, false_and, and_false, or_false, false_or, true_or, or_true, hlv, hs, o4, hak]
    refine jk_nw jC X hR (w1 := 3046) (w2 := 3047) (w3 := 332) (ci := 14) dz_125 (q := ("ChessHouseModel$Ends", F_ME, 14)) rfl (jtF_ok rfl) (jtF_ok rfl) (jtF_ok rfl) (by decide +kernel) (fs := [.inl 0, .inl 0, .inl 0, .inr (.inr none), .inr (.inr none), .inr (.inr none), .inl 0, .inl 0, .inl 0, .inl 0, .inl 0, .inl 0, .inr (.inr none), .inl 0]) rfl (n' := n + 1) rfl (c' := 1) rfl (s' := 14) rfl ⟨by rw [c1]; decide, by rw [c2]; decide⟩ (pc' := 128) rfl ?_
    refine jrun_ok jC X kz_128 128 _ _ _ oz_128 ?_
    simp only [kz_128, jrun, jstep, jldi, jldl, jlda, j1, j2, jl1, jl2, jli, ja1, jbr, jget, jput, jfit, jdup, jcat, List.getElem?_cons_zero, List.getElem?_cons_succ, List.set_cons_zero, List.set_cons_succ, List.length_cons, List.length_nil, Nat.reduceAdd, Nat.reduceLT, Int32.reduceToNatClampNeg, true_and, and_true, and_self, reduceCtorEq, not_false_eq_true, not_true_eq_false, false_implies, true_implies, false_and, and_false, or_false, false_or, true_or, or_true]
    refine jk_Ig X hR (Y := y_ME_init) dz_133 qz_133 m_ME_init i_ME_init rfl rfl (vals := [.inl 8, .inl 8]) (r := [rR n, rR x0]) (c_ME_init M.2.1 E (jup σ1 n (.inr (14, [.inl 0, .inl 0, .inl 0, .inr (.inr none), .inr (.inr none), .inr (.inr none), .inl 0, .inl 0, .inl 0, .inl 0, .inl 0, .inl 0, .inr (.inr none), .inl 0]))) (n + 1) n (by omega) jup_s) rfl rfl ⟨Nat.le_trans (by decide) hf1, Nat.le_trans (by decide) hf2⟩ (c' := 5) rfl (s' := 327770) rfl ⟨by rw [c1]; exact Nat.le_refl _, by rw [c2]; exact Nat.le_refl _⟩ (Nat.le_of_ble_eq_true rfl) (pc' := 136) rfl ?_
    rintro _ _ _ ⟨rfl, rfl, rfl⟩
    show jJ E jcl 9 M _ (n + 5) 5 327770 136 lv [rR n, rR x0] (zS3 σ1 n (.inr (14, [.inl 0, .inl 0, .inl 0, .inr (.inr none), .inr (.inr none), .inr (.inr none), .inl 0, .inl 0, .inl 0, .inl 0, .inl 0, .inl 0, .inr (.inr none), .inl 0])))
    refine jrun_ok jC X kz_136 136 _ _ _ oz_136 ?_
    simp only [kz_136, jrun, jstep, jldi, jldl, jlda, j1, j2, jl1, jl2, jli, ja1, jbr, jget, jput, jfit, jdup, jcat, List.getElem?_cons_zero, List.getElem?_cons_succ, List.set_cons_zero, List.set_cons_succ, List.length_cons, List.length_nil, Nat.reduceAdd, Nat.reduceLT, Int32.reduceToNatClampNeg, true_and, and_true, and_self, reduceCtorEq, not_false_eq_true, not_true_eq_false, false_implies, true_implies, false_and, and_false, or_false, false_or, true_or, or_true]
    have hs3 : zS3 σ1 n (.inr (14, [.inl 0, .inl 0, .inl 0, .inr (.inr none), .inr (.inr none), .inr (.inr none), .inl 0, .inl 0, .inl 0, .inl 0, .inl 0, .inl 0, .inr (.inr none), .inl 0])) x0 = .inr (11, fs) := (zS3_lo b0).trans hs
    have hak5 : (x0 < n + 5) = True := eq_true (by omega)
    have hl7 : (7 < fs.length) = True := eq_true (by omega)
    refine jrun_ok jC X kz_143 143 _ _ _ oz_143 ?_
    simp only [kz_143, jrun, jstep, jldi, jldl, jlda, j1, j2, jl1, jl2, jli, ja1, jbr, jget, jput, jfit, jdup, jcat, List.getElem?_cons_zero, List.getElem?_cons_succ, List.set_cons_zero, List.set_cons_succ, List.length_cons, List.length_nil, Nat.reduceAdd, Nat.reduceLT, Int32.reduceToNatClampNeg, true_and, and_true, and_self, reduceCtorEq, not_false_eq_true, not_true_eq_false, false_implies, true_implies, false_and, and_false, or_false, false_or, true_or, or_true, hs3, hak5, hl7]
    refine IH (zK K n) (n + 5) (gS n σ (jup (zS3 σ1 n (.inr (14, [.inl 0, .inl 0, .inl 0, .inr (.inr none), .inr (.inr none), .inr (.inr none), .inl 0, .inl 0, .inl 0, .inl 0, .inl 0, .inl 0, .inr (.inr none), .inl 0]))) x0 (.inr (11, fs.set 7 (rR n))))) 5 327770 (Or.inr ⟨hz, zK_gw, (show ¬ n + 5 = n by omega), fun h9 => h9 n (show n < n + 5 by omega) (zK_at 0), fun a ha => if_pos ha, rfl, zK_ki⟩) ze_146 (List.mem_of_getElem? (i := 2) rfl) [rR x0, rR x1, v2, v3, v4, rI y5, v6, v7, rR n] lv [] _ (hlt _) (hx0.tr (hxn _)) ?_
    have hgz : ∀ a, a < n → ¬ K a = 55 → jup (zS3 σ1 n (.inr (14, [.inl 0, .inl 0, .inl 0, .inr (.inr none), .inr (.inr none), .inr (.inr none), .inl 0, .inl 0, .inl 0, .inl 0, .inl 0, .inl 0, .inr (.inr none), .inl 0]))) x0 (.inr (11, fs.set 7 (rR n))) a = σ1 a := fun a ha hk => by
      rw [jup_n (fun e => hk (by rw [e]; exact d0))]
      exact zS3_lo ha
    have hgq : gY (fun k => ¬ k = 55) K n σ1 (zK K n) (n + 5) (jup (zS3 σ1 n (.inr (14, [.inl 0, .inl 0, .inl 0, .inr (.inr none), .inr (.inr none), .inr (.inr none), .inl 0, .inl 0, .inl 0, .inl 0, .inl 0, .inl 0, .inr (.inr none), .inl 0]))) x0 (.inr (11, fs.set 7 (rR n)))) := fun a ha hk => ⟨by omega, zK_gw.2 a ha, hgz a ha hk⟩
    have hO : ∀ k, 62 ≤ k → k ≤ 87 → ¬ k = 55 := fun k h1 h2 => by omega
    have hx1 : jup (zS3 σ1 n (.inr (14, [.inl 0, .inl 0, .inl 0, .inr (.inr none), .inr (.inr none), .inr (.inr none), .inl 0, .inl 0, .inl 0, .inl 0, .inl 0, .inl 0, .inr (.inr none), .inl 0]))) x0 (.inr (11, fs.set 7 (rR n))) x1 = σ1 x1 := hgz x1 b1 (by rw [d1]; decide)
    have hR2 : aR (zK K n) (n + 5) ze_146.2.1.2.2.1 [rR x0, rR x1, v2, v3, v4, rI y5, v6, v7, rR n] := by
      have hA2 := aR_gw (zK_gw (K := K) (n := n)) hA
      refine ⟨rfl, fun i e v he hv => ?_⟩
      by_cases hi : i < 8
      · have h1 : ze_118.2.1.2.2.1[i]? = some e := by
          rw [← he]
          match i, hi with
          | 0, _ | 1, _ | 2, _ | 3, _ | 4, _ | 5, _ | 6, _ | 7, _ => rfl
        have h2 : [rR x0, rR x1, v2, v3, v4, rI y5, v6, v7][i]? = some v := by
          rw [← hv]
          match i, hi with
          | 0, _ | 1, _ | 2, _ | 3, _ | 4, _ | 5, _ | 6, _ | 7, _ => rfl
        have h3 := hA2.2 i e v h1 h2
        refine ⟨h3.1, ?_⟩
        have h4 : e.2 = none := by
          match i, hi, h1 with
          | 0, _, h1 | 1, _, h1 | 2, _, h1 | 3, _, h1 | 4, _, h1 | 5, _, h1 | 6, _, h1 | 7, _, h1 => exact (congrArg Prod.snd (Option.some.inj h1)).symm
        rw [h4]
        trivial
      · have hi2 : i < 9 := (List.getElem?_eq_some_iff.mp hv).1
        obtain rfl : i = 8 := by omega
        cases he
        cases hv
        exact ⟨⟨by omega, Or.inl (zK_at 0)⟩, trivial⟩
    refine ⟨hR2, hLn _, trivial, ⟨p9, ?_, fun q hq => (by cases hq), fun f hf => (by cases hf), ?_⟩, ?_, ?_, ?_, ?_⟩
    · refine aAllc ⟨x0, 11, fs.set 7 (rR n), w50, rfl, jup_s, by rw [List.getElem?_set_ne (by decide)]; exact t50, e504⟩ (aAllc ⟨x1, c51, fs51, w51, rfl, hx1.trans s51, t51, e514⟩ (aAllc ⟨x1, c52, fs52, w52, rfl, hx1.trans s52, t52, e524⟩ (aAllc ⟨x0, 11, fs.set 7 (rR n), rR n, rfl, jup_s, by rw [List.getElem?_set_self (by omega)], rfl⟩ (fun f h => by cases h))))
    · have wr : ∀ {r : Nat} {vs : List jv} {σ9 : Nat → jcell}, ¬ r = 0 → rH N (zK K n) (n + 5) p9 r vs σ9 → aFq (rH N (zK K n) (n + 5)) p p9 r vs σ9 := fun h0 h9 => by
        unfold aFq
        rw [if_neg h0]
        exact h9
      refine aAllc ⟨_, rfl, wr (by decide) ((rF_b (r := 5873) (by decide) rfl).mpr (rGT_gy hgq hO fG))⟩ (aAllc ⟨_, rfl, wr (by decide) ((rF_b (r := 6370) (by decide) rfl).mpr (rMNV_gy hgq hO fM))⟩ (aAllc ⟨_, rfl, wr (by decide) ((rF_b (r := 5649) (by decide) rfl).mpr (ro3_353.mpr ⟨fun _ => 0, ⟨n + 1 + 2, ⟨by omega, zK_at 0, 14, [.inl 0, .inl 8, .inl 8, .inr (.inr (some (.inl (n + 1)))), .inr (.inr (some (.inl (n + 1 + 1)))), .inr (.inr (some (.inl (n + 1 + 2)))), .inl 0, .inl 0, .inl 0, .inl 0, .inl 0, .inl 0, .inr (.inr (some (.inl (n + 1 + 3)))), .inl 0], ?_, rfl⟩, by omega, zK_at 3, ?_⟩, fun j _ _ => (show ((0 : Int32)).toInt ≤ 100000000 by decide)⟩))⟩ (fun f h => by cases h)))
      · rw [jup_n (by omega)]
        exact zS3_ob
      · rw [jup_n (by omega)]
        exact zS3_hi (k := 2) rfl
    · refine aH_up (zH_of hH) (fun d hd => ?_)
      rw [show zK K n x0 = 55 from (if_pos b0).trans d0] at hd
      obtain rfl := Option.some.inj hd
      refine ⟨rfl, by rw [List.length_set]; exact hf0, fun f t v ht hv => ?_⟩
      by_cases h7 : f = 7
      · subst h7
        rw [List.getElem?_set_self (by omega)] at hv
        cases hv
        cases ht
        exact ⟨by omega, Or.inl (zK_at 0)⟩
      · rw [List.getElem?_set_ne (fun e => h7 e.symm)] at hv
        exact aG_gw zK_gw (hf f t v ht hv)
    · exact hJg K n σ1 _ hJX (fun a ha hk => hgz a ha hk)
    · refine aFr_gw zK_gw ?_
      have h1 := zFr_put hfr (f := 7) (v := rR n) hs (by rw [d0]; decide)
      intro a ha c1 gs he
      obtain ⟨gs', e1, e2, e3⟩ := h1 a ha c1 gs he
      refine ⟨gs', ?_, e2, e3⟩
      rw [← e1]
      by_cases e : a = x0
      · subst e
        rw [jup_s, jup_s]
      · rw [jup_n e, jup_n e]
        exact zS3_lo ha
    · refine aFa_gw zK_gw ?_
      have h1 := aFa_obj hfa (x := .inr (11, fs.set 7 (rR n))) hs
      have he : ∀ a, a < n → jup (zS3 σ1 n (.inr (14, [.inl 0, .inl 0, .inl 0, .inr (.inr none), .inr (.inr none), .inr (.inr none), .inl 0, .inl 0, .inl 0, .inl 0, .inl 0, .inl 0, .inr (.inr none), .inl 0]))) x0 (.inr (11, fs.set 7 (rR n))) a = jup σ1 x0 (.inr (11, fs.set 7 (rR n))) a := fun a ha => by
        by_cases e : a = x0
        · subst e
          rw [jup_s, jup_s]
        · rw [jup_n e, jup_n e]
          exact zS3_lo ha
      intro a ha
      rw [he a ha]
      exact h1 a ha
  · -- they are there
    obtain ⟨-, -, c9, fs9, o3, o4⟩ := o
    rw [hs] at o3
    cases o3
    have hl7 : (7 < fs.length) = True := eq_true (by omega)
    obtain ⟨gq, hq1, hq2⟩ := hq
    have hqk : q < n1 ∧ K1 q = 109 := by
      obtain ⟨r, ⟨h1, h2, -⟩, -⟩ := hq1
      exact ⟨h1, h2⟩
    refine jrun_ok jC X kz_118 118 _ _ _ oz_118 ?_
    simp only [kz_118, jrun, jstep, jldi, jldl, jlda, j1, j2, jl1, jl2, jli, ja1, jbr, jget, jput, jfit, jdup, jcat, List.getElem?_cons_zero, List.getElem?_cons_succ, List.set_cons_zero, List.set_cons_succ, List.length_cons, List.length_nil, Nat.reduceAdd, Nat.reduceLT, Int32.reduceToNatClampNeg, true_and, and_true, and_self, reduceCtorEq, not_false_eq_true, not_true_eq_false, false_implies, true_implies, false_and, and_false, or_false, false_or, true_or, or_true, hlv, hs, o4, hak]
    refine jrun_ok jC X kz_139 139 _ _ _ oz_139 ?_
    simp only [kz_139, jrun, jstep, jldi, jldl, jlda, j1, j2, jl1, jl2, jli, ja1, jbr, jget, jput, jfit, jdup, jcat, List.getElem?_cons_zero, List.getElem?_cons_succ, List.set_cons_zero, List.set_cons_succ, List.length_cons, List.length_nil, Nat.reduceAdd, Nat.reduceLT, Int32.reduceToNatClampNeg, true_and, and_true, and_self, reduceCtorEq, not_false_eq_true, not_true_eq_false, false_implies, true_implies, false_and, and_false, or_false, false_or, true_or, or_true, hlv, hs, o4, hak, hl7]
    have hset : jup σ1 x0 (.inr (11, fs.set 7 (rR q))) = σ1 := by
      have e1 : fs.set 7 (rR q) = fs := by
        apply List.ext_getElem?
        intro i
        by_cases h7 : i = 7
        · subst h7
          rw [List.getElem?_set_self (by omega), o4]
        · rw [List.getElem?_set_ne (fun e => h7 e.symm)]
      rw [e1]
      exact jup_id hs
    rw [hset]
    refine IH K1 n1 σ0 ca sl hw ze_146 (List.mem_of_getElem? (i := 2) rfl) [rR x0, rR x1, v2, v3, v4, rI y5, v6, v7, rR q] lv [] _ (hlt _) (hx0.tr (hxn _)) ?_
    have hR2 : aR K1 n1 ze_146.2.1.2.2.1 [rR x0, rR x1, v2, v3, v4, rI y5, v6, v7, rR q] := by
      refine ⟨rfl, fun i e v he hv => ?_⟩
      by_cases hi : i < 8
      · have h1 : ze_118.2.1.2.2.1[i]? = some e := by
          rw [← he]
          match i, hi with
          | 0, _ | 1, _ | 2, _ | 3, _ | 4, _ | 5, _ | 6, _ | 7, _ => rfl
        have h2 : [rR x0, rR x1, v2, v3, v4, rI y5, v6, v7][i]? = some v := by
          rw [← hv]
          match i, hi with
          | 0, _ | 1, _ | 2, _ | 3, _ | 4, _ | 5, _ | 6, _ | 7, _ => rfl
        have h3 := hA.2 i e v h1 h2
        refine ⟨h3.1, ?_⟩
        have h4 : e.2 = none := by
          match i, hi, h1 with
          | 0, _, h1 | 1, _, h1 | 2, _, h1 | 3, _, h1 | 4, _, h1 | 5, _, h1 | 6, _, h1 | 7, _, h1 => exact (congrArg Prod.snd (Option.some.inj h1)).symm
        rw [h4]
        trivial
      · have hi2 : i < 9 := (List.getElem?_eq_some_iff.mp hv).1
        obtain rfl : i = 8 := by omega
        cases he
        cases hv
        exact ⟨⟨hqk.1, Or.inl hqk.2⟩, trivial⟩
    refine ⟨hR2, hLn _, trivial, ⟨p9, ?_, fun q hq => (by cases hq), fun f hf => (by cases hf), ?_⟩, hH, hJX, hfr, hfa⟩
    · exact aAllc ⟨x0, 11, fs, w50, rfl, hs, t50, e504⟩ (aAllc ⟨x1, c51, fs51, w51, rfl, s51, t51, e514⟩ (aAllc ⟨x1, c52, fs52, w52, rfl, s52, t52, e524⟩ (aAllc ⟨x0, 11, fs, rR q, rfl, hs, o4, rfl⟩ (fun f h => by cases h))))
    · have wr : ∀ {r : Nat} {vs : List jv} {σ9 : Nat → jcell}, ¬ r = 0 → rH N K1 n1 p9 r vs σ9 → aFq (rH N K1 n1) p p9 r vs σ9 := fun h0 h9 => by
        unfold aFq
        rw [if_neg h0]
        exact h9
      exact aAllc ⟨_, rfl, wr (by decide) ((rF_b (r := 5873) (by decide) rfl).mpr fG)⟩ (aAllc ⟨_, rfl, wr (by decide) ((rF_b (r := 6370) (by decide) rfl).mpr fM)⟩ (aAllc ⟨_, rfl, wr (by decide) ((rF_b (r := 5649) (by decide) rfl).mpr (ro3_353.mpr ⟨gq, hq1, hq2⟩))⟩ (fun f h => by cases h)))
