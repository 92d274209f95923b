/-! switches by a table; a picture put twice -/
theorem jup_id {σ : Nat → jcell} {p : Nat} {c : jcell} (h : σ p = c) : jup σ p c = σ := by
  funext j
  by_cases hj : j = p
  · subst hj; rw [jup_s, h]
  · rw [jup_n hj]
theorem jup_jup {σ : Nat → jcell} {p : Nat} {c d : jcell} : jup (jup σ p c) p d = jup σ p d := by
  funext j
  by_cases hj : j = p
  · subst hj; rw [jup_s, jup_s]
  · rw [jup_n hj, jup_n hj, jup_n hj]
section JSW
variable {E : jE} {own : String} {Ts : List Jvm.Cond} {cl : List vw_C} {tb : jTb} {nL : Nat} {ini : Bool} {cc : ByteArray} {M : jM} {Q : State → Prop} {n cells slots : Nat}
theorem jk_tab (X : jX E own Ts cl tb nL ini cc M) {pc len td : Nat} {dflt lo hi : Int} {offs : Array Int} (hd : decode cc pc = .ok (.tableswitch dflt lo hi offs, len)) (tgs : List Nat) (hsz : hi - lo + 1 = (tgs.length : Int)) (hts : offs.toList.map (fun o => (pc : Int) + o) = tgs.map (fun t : Nat => (t : Int))) (htd : (pc : Int) + dflt = (td : Int)) {lv : List (Option jv)} {r : List jv} {σ : Nat → jcell} {x : Int32}
    (ko : (x.toInt < lo ∨ hi < x.toInt) → jJ E cl nL M Q n cells slots td lv r σ) (ki : ∀ (i t : Nat), tgs[i]? = some t → x.toInt = lo + i → jJ E cl nL M Q n cells slots t lv r σ) : jJ E cl nL M Q n cells slots pc lv (.inl x :: r) σ := by
  obtain ⟨hx, hb, -⟩ := X
  intro H locs ls hW hS hL
  by_cases h : x.toInt < lo ∨ hi < x.toInt
  · exact lv_tableOut hx hb hd h htd (ko h H locs ls hW hS hL)
  · have h1 : ¬ x.toInt < lo := fun q => h (Or.inl q)
    have h2 : ¬ hi < x.toInt := fun q => h (Or.inr q)
    have hi' : (x.toInt - lo).toNat < tgs.length := by omega
    obtain ⟨t, ht⟩ : ∃ t, tgs[(x.toInt - lo).toNat]? = some t := ⟨_, List.getElem?_eq_getElem hi'⟩
    have hm : (offs.toList.map (fun o => (pc : Int) + o))[(x.toInt - lo).toNat]? = some (t : Int) := by
      rw [hts, List.getElem?_map, ht]; rfl
    rw [List.getElem?_map] at hm
    obtain ⟨off, ho, he⟩ := Option.map_eq_some_iff.mp hm
    have ho2 : offs[(x.toInt - lo).toNat]? = some off := by
      rw [← Array.getElem?_toList]; exact ho
    exact lv_tableIn hx hb hd h1 h2 ho2 he (ki _ t ht (by omega) H locs ls hW hS hL)
end JSW
