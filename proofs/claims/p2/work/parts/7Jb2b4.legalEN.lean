section FA
variable {l : Launch} {E : jE} {K : Nat → Nat} {n : Nat} {P : Type} {F : aFt P} {sh : P → List jv → P} {JX : (Nat → jcell) → Prop}
theorem ac_BOlegalXEN_4 : ((am_BOlegalXEN.2.2.2.2.2.drop 4).take 1).all (aCk1 am_BOlegalXEN 93) = true := by rw [fs_Ck1]; decide +kernel
end FA
