section FA
variable {l : Launch} {E : jE} {K : Nat → Nat} {n : Nat} {P : Type} {F : aFt P} {sh : P → List jv → P} {JX : (Nat → jcell) → Prop}
theorem ac_BOlegalXSE_2 : ((am_BOlegalXSE.2.2.2.2.2.drop 2).take 1).all (aCk1 am_BOlegalXSE 93) = true := by rw [fs_Ck1]; decide +kernel
end FA
