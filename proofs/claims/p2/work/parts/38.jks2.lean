/-! a text's constant by the wide form -/
section JK8
variable {E : jE} {own : String} {Ts : List Jvm.Cond} {cl : List vw_C} {tb : jTb} {nL : Nat} {ini : Bool} {cc : ByteArray} {M : jM} {Q : State → Prop} {n cells slots : Nat}
theorem jk_stW {p : Program} {l : Launch} {e : Env} {R : Room} {s : State} {m : MethodId} {args : Array Value} {below : List Frame} {meth : Method} {c : Code} {T : State} {locs : List Loc} {cells slots : Nat} (X : Stand p l e R s m args below meth c T locs cells slots) (hexec : p.tables.exec = Jvm.exec) {own text : String} {index : Nat} {a : Addr} (hown : s.vm.findClass own = some m.cls) (hconst : (Jvm.Cond.stringRef own index text).before args s = true) (hev : (Term.string own index).eval args s none [] s = some (.ref a)) {g : JFrame} (hg : g.method = m) (hdg : decode c.code g.pc = .ok (.ldc_w index, 3)) :
    ∀ target, Steps p.tables e below (T.setTop { g with pc := g.pc + 3, stack := .ref a :: g.stack }) target → Steps p.tables e below (T.setTop g) target := by
  obtain ⟨k, cf, i, a', hk, hcf, hcp, -, hr, hev'⟩ := Cond.stringRef_spec hown hconst
  cases hev.symm.trans hev'
  obtain ⟨k', hk', he⟩ := X.warmed.alike.2.2 _ _ hk
  have hr' : k'.resolved[index]? = some (some (.string a)) := by
    rcases X.warmed.entry hk hk' index with h | ⟨h, -⟩
    · rw [h]; exact hr
    · rw [hr] at h; cases h
  intro target hrest
  subst hg
  jvm_step X.here [hexec, hdg, ldc_w.wp_string (e := e) (s := T) (f := g) X.here.top hk' (by rw [he]; exact hcf) hcp hr']
  exact hrest
theorem jk_ldx (X : jX E own Ts cl tb nL ini cc M) {pc i j : Nat} {tx : String} (hd : decode cc pc = .ok (.ldc_w i, 3)) (hm : (own, i, tx, j) ∈ js0.2.2.2.2) {lv : List (Option jv)} {r : List jv} {σ : Nat → jcell} (k : jJ E cl nL M Q n cells slots (pc + 3) lv (.inr (.inr (some (.inr j))) :: r) σ) : jJ E cl nL M Q n cells slots pc lv r σ := by
  obtain ⟨p, l, e, R, s, m, args, below, meth, c⟩ := M
  obtain ⟨hx, hb, hml, ho, hts, ⟨hK, hSt, -⟩, -⟩ := X
  have hZ := hSt.2.2.2.2.2.1 _ hm
  intro H locs ls hW hS hL T hT X1
  obtain ⟨t, a1, b1⟩ := k H locs ls hW hS hL T hT X1
  exact ⟨t, jk_stW X1 hx ho (text := tx) (a := E.2.2.1 j) (by have h9 := hZ.1; simpa [Cond.before, Cond.holds, Cond.value] using h9) (by have h9 := hZ.2; simpa [Term.eval] using h9) (g := F0 m pc ls (r.map (jc E))) rfl (by rw [hb]; exact hd) t a1, b1⟩
end JK8
