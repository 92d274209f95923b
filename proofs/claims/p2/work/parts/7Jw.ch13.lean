/-! Endings.prepare, ChessHouse.answerEnds: the whole -/
theorem pI_0 {K : Nat → Nat} {n en : Nat} {σ σ' : Nat → jcell} {ρ : List jv} (hJ : cJ K n σ en) (hz : ∀ a, a < n → zPl (σ a)) (h1 : aH fa_T K n σ') (h2 : fJX K n σ') (h3 : aFr K n [] σ σ') (h4 : aFa K n [] ρ σ σ') : pI K n σ en K n σ' := by
  have e : ∀ a, a < n → σ' a = σ a := fun a ha => zPl_eq h3 h4 ha (hz a ha) (fun q hq => by cases hq) (fun q hq => by cases hq)
  exact ⟨h1, h2, cJ_fr hJ h3 h4 rfl, gW_rf, fun a g1 g2 => absurd g2 (Nat.not_lt.mpr g1), fun a ha => by rw [e a ha]; exact hz a ha, fun a ha _ _ => e a ha, Nat.le_refl _, Nat.le_refl _⟩
theorem pI_fr {K0 K : Nat → Nat} {n0 n en : Nat} {σ0 σ σ' : Nat → jcell} {ρ : List jv} (h : pI K0 n0 σ0 en K n σ) (h1 : aH fa_T K n σ') (h2 : fJX K n σ') (h3 : aFr K n [] σ σ') (h4 : aFa K n [] ρ σ σ') : pI K0 n0 σ0 en K n σ' := by
  obtain ⟨-, -, i3, i4, i5, i6, i7, i8, i9⟩ := h
  have e : ∀ a, a < n → σ' a = σ a := fun a ha => zPl_eq h3 h4 ha (i6 a ha) (fun q hq => by cases hq) (fun q hq => by cases hq)
  exact ⟨h1, h2, cJ_fr i3 h3 h4 rfl, i4, i5, fun a ha => by rw [e a ha]; exact i6 a ha, fun a ha hne ht => (e a (Nat.lt_of_lt_of_le ha i4.1)).trans (i7 a ha hne ht), i8, i9⟩
section PRZ
variable {l : Launch} {E : jE}
def pRm (K : Nat → Nat) (n : Nat) : Room := { frames := 4, cells := 5 - tC K n, slots := 638976 - tS K n, locals := 116 }
set_option maxRecDepth 100000 in
set_option maxHeartbeats 4000000 in
theorem cz_prepare {K : Nat → Nat} {n : Nat} {σ : Nat → jcell} {en bo : Nat} (h : aH fa_T K n σ) (hX : fJX K n σ) (hJ : cJ K n σ en) (hz : ∀ a, a < n → zPl (σ a)) (hb : bo < n) (hkb : K bo = 26) : jMet l E jcl jtb lw_tbl y_EN_prepare (pRm K n) [.inr (.inr (some (.inl en))), .inr (.inr (some (.inl bo)))] σ n (fun r σ' n' => r = none ∧ ∃ K', pI K n σ en K' n' σ') := by
  refine zc_ENprepareG (l := l) (E := E) _ (pRm K n) ⟨Nat.le_of_ble_eq_true rfl, Nat.le_of_ble_eq_true rfl⟩ K n bP0 σ [.inr (.inr (some (.inl en))), .inr (.inr (some (.inl bo)))] h hX ⟨rfl, fun i e v he hv => ?_⟩ ⟨fun q hq => (by cases hq), fun q hq => (by cases hq), fun q hq => (by cases hq), fun q hq => (by cases hq)⟩ (fun w => ∃ K' n' σ', w = (K', n', σ', tC K' n' - tC K n, tS K' n' - tS K n) ∧ pI K n σ en K' n' σ') ⟨K, n, σ, by rw [Nat.sub_self, Nat.sub_self], pI_0 (ρ := []) hJ hz h hX aFr_rf aFa_rf⟩ (fun G hG => by cases hG) ?_ ?_
  · match i, he, hv with
    | 0, he, hv => cases he; cases hv; exact ⟨⟨hJ.1, Or.inl hJ.2.1⟩, trivial⟩
    | 1, he, hv => cases he; cases hv; exact ⟨⟨hb, Or.inl hkb⟩, trivial⟩
    | i + 2, he, _ => cases he
  · rintro K1 n1 σ1 ca sl ⟨K', n', σ', hw, hp⟩
    cases hw
    have r := cJ_rm hp.2.2.1
    refine ⟨⟨?_, ?_⟩, fun r σ2 hpo => ?_⟩
    · show _ ≤ 5 - tC K n
      omega
    · show _ ≤ 638976 - tS K n
      omega
    · obtain ⟨-, p1, p2, p3, p4, p5, -⟩ := hpo
      refine ⟨?_, K1, pI_fr hp p1 p2 p3 p4⟩
      cases r with
      | none => rfl
      | some v => cases p5
  · intro M hl hR hsz X hr hok c hc hce K1 n1 σ1 ca sl hw ρ' lv st σ2 hx hcx IH
    have h13 : c = ((13, ([some 0, none, some 2], [], [(.inr (some (.inl (false, 23))), none), (.inr (some (.inl (false, 26))), none), (.inl (0, 7), none)], ([], [], [], [(0, [])])), [.inl 2], [([], 1)]) : aCu) := by
      rcases List.mem_cons.mp hc with rfl | hc
      · rfl
      · rcases List.mem_cons.mp hc with rfl | hc
        · exact absurd hce (by decide)
        · rcases List.mem_cons.mp hc with rfl | hc
          · exact absurd hce (by decide)
          · cases hc
    subst h13
    obtain ⟨K', n', σ', hw, hp⟩ := hw
    cases hw
    obtain ⟨r1, r2, r3, -, g1, g2, g3, g4⟩ := hcx
    cases st with
    | cons _ _ => exact r3.elim
    | nil =>
      have hp2 := pI_fr hp g1 g2 g3 g4
      have x0 : ρ'[0]? = some (.inr (.inr (some (.inl en)))) := hx 0 _ rfl
      obtain ⟨u0, y0, y1⟩ := r2.2 0 0 rfl
      rw [x0] at y0
      obtain rfl := Option.some.inj y0
      obtain ⟨u2, y2, y3⟩ := r2.2 2 2 rfl
      obtain ⟨man, rfl, -⟩ := aG_int (r1.2 2 _ u2 rfl y2).1
      refine jJ_lv (lv' := [some (.inr (.inr (some (.inl en)))), none, some (.inl man)]) (fun i v hv => ?_) ?_
      · match i, hv with
        | 0, hv => cases hv; exact y1
        | 1, hv => cases hv
        | 2, hv => cases hv; exact y3
        | i + 3, hv => cases hv
      · refine pr_1 (rm := pRm K n) X hl hR (Nat.le_refl _) (Nat.le_refl _) rfl rfl (fun K n σ h p3 => pr_2 X hl hR (Nat.le_refl _) (Nat.le_refl _) rfl rfl (fun K n σ h p3 p4 => pr_3 X hl hR (Nat.le_refl _) (Nat.le_refl _) rfl rfl (fun K9 n9 σ9 h9 => ?_) h p3 p4) h p3) hp2
        refine IH K9 n9 σ9 _ _ ⟨K9, n9, σ9, rfl, h9⟩ ((86, ([none, none, none], [], [(.inr (some (.inl (false, 23))), none), (.inr (some (.inl (false, 26))), none)], ([], [], [], [])), [], [([], 0)]) : aCu) (List.mem_of_getElem? (i := 1) rfl) [.inr (.inr (some (.inl en))), .inr (.inr (some (.inl bo)))] _ [] σ9 ?_ aX_rf ⟨⟨rfl, fun i e v he hv => ?_⟩, ⟨rfl, fun i k hk => ?_⟩, trivial, ⟨bP0, fun q hq => (by cases hq), fun q hq => (by cases hq), fun q hq => (by cases hq), fun q hq => (by cases hq)⟩, h9.1, h9.2.1, aFr_rf, aFa_rf⟩
        · exact ⟨rfl, Or.inl Nat.zero_lt_one⟩
        · have w := h9.2.2.2.1
          match i, he, hv with
          | 0, he, hv => cases he; cases hv; exact ⟨⟨h9.2.2.1.1, Or.inl h9.2.2.1.2.1⟩, trivial⟩
          | 1, he, hv => cases he; cases hv; exact ⟨⟨Nat.lt_of_lt_of_le hb w.1, Or.inl ((w.2 bo hb).trans hkb)⟩, trivial⟩
          | i + 2, he, _ => cases he
        · match i, hk with
          | 0, hk => cases hk
          | 1, hk => cases hk
          | 2, hk => cases hk
          | i + 3, hk => cases hk
end PRZ
