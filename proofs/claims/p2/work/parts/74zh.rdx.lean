/-! the reference: the second table of facts -/
def rb_237 (K : Nat → Nat) (n : Nat) (vs : List jv) (σ : Nat → jcell) : Prop := rC_rii (fun (a0 : Nat) (a1 : Int) (a2 : Int) => a2 = 1 → ∃ g c, rRo K n σ a0 62 32 85 2048 g ∧ rOb K n σ a0 62 33 (rI c) ∧ ∃ j, 0 ≤ j ∧ j < c.toInt ∧ (g j.toNat).toInt = a1) vs
def rb_238 (K : Nat → Nat) (n : Nat) (vs : List jv) (σ : Nat → jcell) : Prop := rC_rii (fun (a0 : Nat) (a1 : Int) (a2 : Int) => ∃ C y, rTY K n σ a0 a1 C y ∧ (0 ≤ a2 → a2 ≤ C)) vs
def rb_241 (K : Nat → Nat) (n : Nat) (vs : List jv) (σ : Nat → jcell) : Prop := rC_rii (fun (a0 : Nat) (a1 : Int) (a2 : Int) => ∃ C y, rTY K n σ a0 a1 C y ∧ (0 ≤ a2 ∧ a2 ≤ C)) vs
def rb_242 (K : Nat → Nat) (n : Nat) (vs : List jv) (σ : Nat → jcell) : Prop := rC_riii (fun (a0 : Nat) (a1 : Int) (a2 : Int) (a3 : Int) => ∃ C y, rTY K n σ a0 a1 C y ∧ (∃ L, rCn y.2.2.2.1 a2 L ∧ (∀ c ∈ L, 1 ≤ c ∧ c ≤ C) ∧ (L.length : Int) = a3)) vs
def rb_243 (K : Nat → Nat) (n : Nat) (vs : List jv) (σ : Nat → jcell) : Prop := rC_riii (fun (a0 : Nat) (a1 : Int) (a2 : Int) (a3 : Int) => ∃ C y, rTY K n σ a0 a1 C y ∧ (y.1 a2 = a3)) vs
def rb_245 (K : Nat → Nat) (n : Nat) (vs : List jv) (σ : Nat → jcell) : Prop := rC_rii (fun (a0 : Nat) (a1 : Int) (a2 : Int) => rSL9 K n σ a0 a1 a2) vs
def rb_246 (K : Nat → Nat) (n : Nat) (vs : List jv) (σ : Nat → jcell) : Prop := rC_riiii (fun (a0 : Nat) (a1 : Int) (a2 : Int) (a3 : Int) (a4 : Int) => ∃ C y, rTY K n σ a0 a1 C y ∧ 0 ≤ a2 ∧ a2 ≤ C ∧ 0 ≤ a3 ∧ rPth K n σ a0 y a2 a3 ∧ a4 = rUa y.1 a3.toNat a2 ∧ 0 ≤ a4 ∧ a4 ≤ C) vs
def rb_247 (K : Nat → Nat) (n : Nat) (vs : List jv) (σ : Nat → jcell) : Prop := rC_riiii (fun (a0 : Nat) (a1 : Int) (a2 : Int) (a3 : Int) (a4 : Int) => ∃ C y, rTY K n σ a0 a1 C y ∧ 0 ≤ a2 ∧ a2 ≤ C ∧ 0 ≤ a3 ∧ rPth K n σ a0 y a2 (a3 + 1) ∧ a4 = rUa y.1 a3.toNat a2 ∧ 1 ≤ a4 ∧ a4 ≤ C) vs
def rb_248 (K : Nat → Nat) (n : Nat) (vs : List jv) (σ : Nat → jcell) : Prop := rC_rii (fun (a0 : Nat) (a1 : Int) (a2 : Int) => 0 ≤ a1 ∧ ∃ g5 gm, rRo K n σ a0 62 16 74 128 g5 ∧ rRo K n σ a0 62 24 82 64 gm ∧ ∀ j, 0 ≤ j → j < a2 → j ≤ 63 → (gm j.toNat).toInt = (g5 (64 * a1 + j).toNat).toInt) vs
def rb_249 (K : Nat → Nat) (n : Nat) (vs : List jv) (σ : Nat → jcell) : Prop := rC_rii (fun (a0 : Nat) (a1 : Int) (a2 : Int) => 0 ≤ a1 ∧ ∃ g5 gm, rRo K n σ a0 62 16 74 128 g5 ∧ rRo K n σ a0 62 24 82 64 gm ∧ ∀ j, 0 ≤ j → j < a2 + 1 → j ≤ 63 → (gm j.toNat).toInt = (g5 (64 * a1 + j).toNat).toInt) vs
def rb_250 (K : Nat → Nat) (n : Nat) (vs : List jv) (σ : Nat → jcell) : Prop := rC_riiii (fun (a0 : Nat) (a1 : Int) (a2 : Int) (a3 : Int) (a4 : Int) => ∃ C y, rTY K n σ a0 a1 C y ∧ 0 ≤ a2 ∧ a2 ≤ C ∧ 0 ≤ a3 ∧ rPth K n σ a0 y a2 a3 ∧ rUa y.1 a3.toNat a2 = 0 ∧ -1 ≤ a4 ∧ a4 < a3 ∧ rTX K n σ a0 (rPo y (rUa y.1 (a4 + 1).toNat a2))) vs
def rb_251 (K : Nat → Nat) (n : Nat) (vs : List jv) (σ : Nat → jcell) : Prop := rC_riiii (fun (a0 : Nat) (a1 : Int) (a2 : Int) (a3 : Int) (a4 : Int) => ∃ C y, rTY K n σ a0 a1 C y ∧ 0 ≤ a2 ∧ a2 ≤ C ∧ 0 ≤ a3 ∧ rPth K n σ a0 y a2 a3 ∧ rUa y.1 a3.toNat a2 = 0 ∧ 0 ≤ a4 ∧ a4 < a3 ∧ rTX K n σ a0 (rPo y (rUa y.1 a4.toNat a2))) vs
def rb_252 (K : Nat → Nat) (n : Nat) (vs : List jv) (σ : Nat → jcell) : Prop := rC_riiii (fun (a0 : Nat) (a1 : Int) (a2 : Int) (a3 : Int) (a4 : Int) => ∃ C y, rTY K n σ a0 a1 C y ∧ 0 ≤ a2 ∧ a2 ≤ C ∧ 0 ≤ a3 ∧ rPth K n σ a0 y a2 a3 ∧ rUa y.1 a3.toNat a2 = 0) vs
def rb_253 (K : Nat → Nat) (n : Nat) (vs : List jv) (σ : Nat → jcell) : Prop := rC_rii (fun (a0 : Nat) (a1 : Int) (a2 : Int) => ∃ C y, rTY K n σ a0 a1 C y ∧ (y.2.2.2.2.1.2.1 = a2)) vs
def rb_254 (K : Nat → Nat) (n : Nat) (vs : List jv) (σ : Nat → jcell) : Prop := rC_rii (fun (a0 : Nat) (a1 : Int) (a2 : Int) => ∃ C y, rTY K n σ a0 a1 C y ∧ (y.2.2.2.2.1.2.2.1 = a2)) vs
def rb_255 (K : Nat → Nat) (n : Nat) (vs : List jv) (σ : Nat → jcell) : Prop := rC_rii (fun (a0 : Nat) (a1 : Int) (a2 : Int) => ∃ C y, rTY K n σ a0 a1 C y ∧ (y.2.2.2.2.1.2.2.2 = a2)) vs
def rb_256 (K : Nat → Nat) (n : Nat) (vs : List jv) (σ : Nat → jcell) : Prop := rC_ri (fun (a0 : Nat) (a1 : Int) => 0 ≤ a1 ∧ ∃ g, rRo K n σ a0 62 10 68 602 g ∧ (g a1.toNat).toInt = -1) vs
def rb_257 (K : Nat → Nat) (n : Nat) (vs : List jv) (σ : Nat → jcell) : Prop := rC_ri (fun (a0 : Nat) (a1 : Int) => 0 ≤ a1 ∧ ∃ g, rRo K n σ a0 62 11 69 602 g ∧ (g a1.toNat).toInt = -1) vs
def rb_258 (K : Nat → Nat) (n : Nat) (vs : List jv) (σ : Nat → jcell) : Prop := rC_riiii (fun (a0 : Nat) (a1 : Int) (a2 : Int) (a3 : Int) (a4 : Int) => ∃ y, rTy K n σ a0 a1 y ∧ 0 ≤ a1 ∧ 1 ≤ a4 ∧ a4 ≤ 300 ∧ rTr (a4 - 1) y ∧ 0 ≤ a2 ∧ a2 ≤ a4 - 1 ∧ rLm (rPo y a2) a3 ∧ rGd (rMk (rPo y a2) a3)) vs
def rb_259 (K : Nat → Nat) (n : Nat) (vs : List jv) (σ : Nat → jcell) : Prop := rC_riii (fun (a0 : Nat) (a1 : Int) (a2 : Int) (a3 : Int) => 0 ≤ 301 * a1 + a2 ∧ ∃ g, rRo K n σ a0 62 8 66 602 g ∧ (g (301 * a1 + a2).toNat).toInt = a3) vs
def rb_260 (K : Nat → Nat) (n : Nat) (vs : List jv) (σ : Nat → jcell) : Prop := rC_riii (fun (a0 : Nat) (a1 : Int) (a2 : Int) (a3 : Int) => 0 ≤ 301 * a1 + a2 ∧ ∃ g, rRo K n σ a0 62 9 67 602 g ∧ (g (301 * a1 + a2).toNat).toInt = a3) vs
def rb_261 (K : Nat → Nat) (n : Nat) (vs : List jv) (σ : Nat → jcell) : Prop := rC_rii (fun (a0 : Nat) (a1 : Int) (a2 : Int) => ∃ y, rTy K n σ a0 a1 y ∧ 0 ≤ a1 ∧ rTr a2 y ∧ 1 ≤ a2) vs
def rb_262 (K : Nat → Nat) (n : Nat) (vs : List jv) (σ : Nat → jcell) : Prop := rC_rii (fun (a0 : Nat) (a1 : Int) (a2 : Int) => 0 ≤ a1 ∧ ∃ g, rRo K n σ a0 62 7 65 2 g ∧ (g a1.toNat).toInt = a2) vs
def rb_263 (K : Nat → Nat) (n : Nat) (vs : List jv) (σ : Nat → jcell) : Prop := rC_riiii (fun (a0 : Nat) (a1 : Int) (a2 : Int) (a3 : Int) (a4 : Int) => ∃ y, rTy K n σ a0 a1 y ∧ ∃ A B, rCn y.2.2.2.1 (y.2.2.1 a2) (A ++ a3 :: B) ∧ (∀ c ∈ A ++ a3 :: B, 1 ≤ c) ∧ (B.length : Int) = a4) vs
def rb_264 (K : Nat → Nat) (n : Nat) (vs : List jv) (σ : Nat → jcell) : Prop := rC_ri (fun (a0 : Nat) (a1 : Int) => 0 ≤ a1 ∧ ∃ g, rRo K n σ a0 62 7 65 2 g ∧ (g a1.toNat).toInt ≤ 299) vs
def rb_266 (K : Nat → Nat) (n : Nat) (vs : List jv) (σ : Nat → jcell) : Prop := rC_riii (fun (a0 : Nat) (a1 : Int) (a2 : Int) (a3 : Int) => ∃ C y, rTY K n σ a0 a1 C y ∧ (rLm (rPo y a2) a3 ∧ rGd (rMk (rPo y a2) a3))) vs
def rb_270 (K : Nat → Nat) (n : Nat) (vs : List jv) (σ : Nat → jcell) : Prop := rC_i (fun (a0 : Int) => True) vs
def rb_271 (K : Nat → Nat) (n : Nat) (vs : List jv) (σ : Nat → jcell) : Prop := rC_i (fun (a0 : Int) => True) vs
def rb_276 (K : Nat → Nat) (n : Nat) (vs : List jv) (σ : Nat → jcell) : Prop := rC_riii (fun (a0 : Nat) (a1 : Int) (a2 : Int) (a3 : Int) => ∃ C y, rTY K n σ a0 a1 C y ∧ (1 ≤ a2 ∧ a2 ≤ C ∧ y.2.2.1 (y.1 a2) = a3)) vs
def rb_277 (K : Nat → Nat) (n : Nat) (vs : List jv) (σ : Nat → jcell) : Prop := rC_riiii (fun (a0 : Nat) (a1 : Int) (a2 : Int) (a3 : Int) (a4 : Int) => ∃ C y, rTY K n σ a0 a1 C y ∧ (1 ≤ a2 ∧ a2 ≤ C ∧ ∃ A B D, rCn y.2.2.2.1 (y.2.2.1 (y.1 a2)) (A ++ a3 :: (B ++ a2 :: D)) ∧ (∀ c ∈ A ++ a3 :: (B ++ a2 :: D), 1 ≤ c ∧ c ≤ C) ∧ (B.length : Int) = a4)) vs
def rb_278 (K : Nat → Nat) (n : Nat) (vs : List jv) (σ : Nat → jcell) : Prop := rC_riiiii (fun (a0 : Nat) (a1 : Int) (a2 : Int) (a3 : Int) (a4 : Int) (a5 : Int) => ∃ C y nx, rTy K n σ a0 a1 y ∧ rCt9 K n σ a0 a1 C ∧ rTr C (y.1, y.2.1, y.2.2.1, nx, y.2.2.2.2) ∧ 1 ≤ a2 ∧ a2 ≤ C ∧ y.1 a2 = a3 ∧ y.2.2.1 a3 = a4 ∧ ¬ a4 = a2 ∧ (∃ A B, rCn nx (y.2.2.1 a3) (A ++ a5 :: a2 :: B) ∧ ∀ c ∈ A ++ a5 :: a2 :: B, 1 ≤ c ∧ c ≤ C) ∧ ∀ k, 0 ≤ k → k ≤ C → y.2.2.2.1 k = if k = a5 then nx a2 else nx k) vs
def rb_279 (K : Nat → Nat) (n : Nat) (vs : List jv) (σ : Nat → jcell) : Prop := rC_riiiii (fun (a0 : Nat) (a1 : Int) (a2 : Int) (a3 : Int) (a4 : Int) (a5 : Int) => ∃ C y nx, rTy K n σ a0 a1 y ∧ rCt9 K n σ a0 a1 C ∧ rTr C (y.1, y.2.1, y.2.2.1, nx, y.2.2.2.2) ∧ 1 ≤ a2 ∧ a2 ≤ C ∧ y.1 a2 = a3 ∧ y.2.2.1 a3 = a4 ∧ ¬ a4 = a2 ∧ (∃ A B, rCn nx (y.2.2.1 a3) (A ++ a5 :: a2 :: B) ∧ ∀ c ∈ A ++ a5 :: a2 :: B, 1 ≤ c ∧ c ≤ C) ∧ ∀ k, 0 ≤ k → k ≤ C → y.2.2.2.1 k = if k = a2 then a4 else if k = a5 then nx a2 else nx k) vs
def rb_280 (K : Nat → Nat) (n : Nat) (vs : List jv) (σ : Nat → jcell) : Prop := rC_ri (fun (a0 : Nat) (a1 : Int) => 0 ≤ a1 ∧ (∃ g, rRo K n σ a0 62 7 65 2 g ∧ (g a1.toNat).toInt = 0) ∧ ∃ g, rRo K n σ a0 62 10 68 602 g ∧ (g (301 * a1).toNat).toInt = -1) vs
def rb_281 (K : Nat → Nat) (n : Nat) (vs : List jv) (σ : Nat → jcell) : Prop := rC_ri (fun (a0 : Nat) (a1 : Int) => ∃ q z, rSt9 K n σ a0 a1 q z ∧ rGd q ∧ 0 ≤ z ∧ z ≤ 999 ∧ 0 ≤ q.2.2.1 ∧ q.2.2.1 ≤ 15) vs
def rb_282 (K : Nat → Nat) (n : Nat) (vs : List jv) (σ : Nat → jcell) : Prop := rC_r (fun (a0 : Nat) => ∃ q, rTX K n σ a0 q ∧ rGd q) vs ∨ rC_ri (fun (a0 : Nat) (a1 : Int) => a1 = 1 → ∃ q, rTX K n σ a0 q ∧ rGd q) vs
def rb_283 (K : Nat → Nat) (n : Nat) (vs : List jv) (σ : Nat → jcell) : Prop := rC_rii (fun (a0 : Nat) (a1 : Int) (a2 : Int) => 0 ≤ a1 ∧ ∃ g5 gm, rRo K n σ a0 62 16 74 128 g5 ∧ rRo K n σ a0 62 24 82 64 gm ∧ ∀ j, 0 ≤ j → j < a2 → j ≤ 63 → (g5 (64 * a1 + j).toNat).toInt = (gm j.toNat).toInt) vs
def rb_284 (K : Nat → Nat) (n : Nat) (vs : List jv) (σ : Nat → jcell) : Prop := rC_rii (fun (a0 : Nat) (a1 : Int) (a2 : Int) => 0 ≤ a1 ∧ ∃ g5 gm, rRo K n σ a0 62 16 74 128 g5 ∧ rRo K n σ a0 62 24 82 64 gm ∧ ∀ j, 0 ≤ j → j < a2 + 1 → j ≤ 63 → (g5 (64 * a1 + j).toNat).toInt = (gm j.toNat).toInt) vs
def rb_285 (K : Nat → Nat) (n : Nat) (vs : List jv) (σ : Nat → jcell) : Prop := rC_ri (fun (a0 : Nat) (a1 : Int) => ∃ g, rRo K n σ a0 62 24 82 64 g ∧ ∀ j, 0 ≤ j → j < a1 → j ≤ 63 → (g j.toNat).toInt = 0) vs
def rb_286 (K : Nat → Nat) (n : Nat) (vs : List jv) (σ : Nat → jcell) : Prop := rC_ri (fun (a0 : Nat) (a1 : Int) => ∃ g, rRo K n σ a0 62 24 82 64 g ∧ ∀ j, 0 ≤ j → j < a1 + 1 → j ≤ 63 → (g j.toNat).toInt = 0) vs
def rb_287 (K : Nat → Nat) (n : Nat) (vs : List jv) (σ : Nat → jcell) : Prop := rC_ri (fun (a0 : Nat) (a1 : Int) => 0 ≤ a1 ∧ ∃ g, rRo K n σ a0 62 7 65 2 g ∧ (g a1.toNat).toInt = 0) vs
def rb_288 (K : Nat → Nat) (n : Nat) (vs : List jv) (σ : Nat → jcell) : Prop := rC_rii (fun (a0 : Nat) (a1 : Int) (a2 : Int) => 0 ≤ a1 ∧ ∃ g, rRo K n σ a0 62 17 75 10 g ∧ (g (5 * a1 + 0).toNat).toInt = a2) vs
def rb_289 (K : Nat → Nat) (n : Nat) (vs : List jv) (σ : Nat → jcell) : Prop := rC_rii (fun (a0 : Nat) (a1 : Int) (a2 : Int) => 0 ≤ a1 ∧ ∃ g, rRo K n σ a0 62 17 75 10 g ∧ (g (5 * a1 + 1).toNat).toInt = a2) vs
def rb_290 (K : Nat → Nat) (n : Nat) (vs : List jv) (σ : Nat → jcell) : Prop := rC_rii (fun (a0 : Nat) (a1 : Int) (a2 : Int) => 0 ≤ a1 ∧ ∃ g, rRo K n σ a0 62 17 75 10 g ∧ (g (5 * a1 + 2).toNat).toInt = a2) vs
def rb_291 (K : Nat → Nat) (n : Nat) (vs : List jv) (σ : Nat → jcell) : Prop := rC_rii (fun (a0 : Nat) (a1 : Int) (a2 : Int) => 0 ≤ a1 ∧ ∃ g, rRo K n σ a0 62 17 75 10 g ∧ (g (5 * a1 + 4).toNat).toInt = a2) vs
def rb_300 (K : Nat → Nat) (n : Nat) (vs : List jv) (σ : Nat → jcell) : Prop := rC_r (fun (a0 : Nat) => ∃ M, rTe K n σ a0 M ∧ (M = rIp 0)) vs
def rb_301 (K : Nat → Nat) (n : Nat) (vs : List jv) (σ : Nat → jcell) : Prop := rC_r (fun (a0 : Nat) => ∃ M, rTe K n σ a0 M ∧ (M = rIp 1)) vs
def rb_302 (K : Nat → Nat) (n : Nat) (vs : List jv) (σ : Nat → jcell) : Prop := rC_r (fun (a0 : Nat) => ∃ M, rTe K n σ a0 M ∧ (M = rIp 2)) vs
def rb_303 (K : Nat → Nat) (n : Nat) (vs : List jv) (σ : Nat → jcell) : Prop := rC_r (fun (a0 : Nat) => ∃ M, rTe K n σ a0 M ∧ (M = rIp 3)) vs
def rb_304 (K : Nat → Nat) (n : Nat) (vs : List jv) (σ : Nat → jcell) : Prop := rC_r (fun (a0 : Nat) => ∃ M, rTe K n σ a0 M ∧ (M = rIp 4)) vs
def rb_305 (K : Nat → Nat) (n : Nat) (vs : List jv) (σ : Nat → jcell) : Prop := rC_r (fun (a0 : Nat) => ∃ M, rTe K n σ a0 M ∧ (M = rIp 5)) vs
def rb_306 (K : Nat → Nat) (n : Nat) (vs : List jv) (σ : Nat → jcell) : Prop := rC_r (fun (a0 : Nat) => ∃ M, rTe K n σ a0 M ∧ (M = rIp 6)) vs
def rb_307 (K : Nat → Nat) (n : Nat) (vs : List jv) (σ : Nat → jcell) : Prop := rC_r (fun (a0 : Nat) => ∃ M, rTe K n σ a0 M ∧ (M = rIp 7)) vs
def rb_308 (K : Nat → Nat) (n : Nat) (vs : List jv) (σ : Nat → jcell) : Prop := rC_r (fun (a0 : Nat) => ∃ M, rTe K n σ a0 M ∧ (M = rIp 8)) vs
def rb_309 (K : Nat → Nat) (n : Nat) (vs : List jv) (σ : Nat → jcell) : Prop := rC_r (fun (a0 : Nat) => ∃ M, rTe K n σ a0 M ∧ (M = rIp 9)) vs
def rb_310 (K : Nat → Nat) (n : Nat) (vs : List jv) (σ : Nat → jcell) : Prop := rC_r (fun (a0 : Nat) => ∃ M, rTe K n σ a0 M ∧ (M = rIp 10)) vs
def rb_311 (K : Nat → Nat) (n : Nat) (vs : List jv) (σ : Nat → jcell) : Prop := rC_r (fun (a0 : Nat) => ∃ M, rTe K n σ a0 M ∧ (M = rIp 11)) vs
def rb_312 (K : Nat → Nat) (n : Nat) (vs : List jv) (σ : Nat → jcell) : Prop := rC_r (fun (a0 : Nat) => ∃ M, rTe K n σ a0 M ∧ (M = rIp 12)) vs
def rb_313 (K : Nat → Nat) (n : Nat) (vs : List jv) (σ : Nat → jcell) : Prop := rC_r (fun (a0 : Nat) => ∃ M, rTe K n σ a0 M ∧ (M = rIp 13)) vs
def rb_314 (K : Nat → Nat) (n : Nat) (vs : List jv) (σ : Nat → jcell) : Prop := rC_r (fun (a0 : Nat) => ∃ M, rTe K n σ a0 M ∧ (M = rIp 14)) vs
def rb_315 (K : Nat → Nat) (n : Nat) (vs : List jv) (σ : Nat → jcell) : Prop := rC_r (fun (a0 : Nat) => ∃ M, rTe K n σ a0 M ∧ (M = rIp 15)) vs
def rb_316 (K : Nat → Nat) (n : Nat) (vs : List jv) (σ : Nat → jcell) : Prop := rC_r (fun (a0 : Nat) => ∃ M, rTe K n σ a0 M ∧ (M = rIp 16)) vs
def rb_317 (K : Nat → Nat) (n : Nat) (vs : List jv) (σ : Nat → jcell) : Prop := rC_r (fun (a0 : Nat) => ∃ M, rTe K n σ a0 M ∧ (M = rIp 17)) vs
def rb_318 (K : Nat → Nat) (n : Nat) (vs : List jv) (σ : Nat → jcell) : Prop := rC_r (fun (a0 : Nat) => ∃ M, rTe K n σ a0 M ∧ (M = rIp 18)) vs
def rb_319 (K : Nat → Nat) (n : Nat) (vs : List jv) (σ : Nat → jcell) : Prop := rC_r (fun (a0 : Nat) => ∃ M, rTe K n σ a0 M ∧ (M = rIp 19)) vs
def rb_320 (K : Nat → Nat) (n : Nat) (vs : List jv) (σ : Nat → jcell) : Prop := rC_r (fun (a0 : Nat) => ∃ M, rTe K n σ a0 M ∧ (M = rIp 20)) vs
def rb_321 (K : Nat → Nat) (n : Nat) (vs : List jv) (σ : Nat → jcell) : Prop := rC_r (fun (a0 : Nat) => ∃ M, rTe K n σ a0 M ∧ (M = rIp 21)) vs
def rb_322 (K : Nat → Nat) (n : Nat) (vs : List jv) (σ : Nat → jcell) : Prop := rC_r (fun (a0 : Nat) => ∃ M, rTe K n σ a0 M ∧ (M = rIp 22)) vs
def rb_323 (K : Nat → Nat) (n : Nat) (vs : List jv) (σ : Nat → jcell) : Prop := rC_r (fun (a0 : Nat) => ∃ M, rTe K n σ a0 M ∧ (M = rIp 23)) vs
def rb_324 (K : Nat → Nat) (n : Nat) (vs : List jv) (σ : Nat → jcell) : Prop := rC_r (fun (a0 : Nat) => ∃ M, rTe K n σ a0 M ∧ (M = rIp 24)) vs
def rb_325 (K : Nat → Nat) (n : Nat) (vs : List jv) (σ : Nat → jcell) : Prop := rC_r (fun (a0 : Nat) => ∃ M, rTe K n σ a0 M ∧ (M = rIp 25)) vs
def rb_326 (K : Nat → Nat) (n : Nat) (vs : List jv) (σ : Nat → jcell) : Prop := rC_r (fun (a0 : Nat) => ∃ M, rTe K n σ a0 M ∧ (M = rIp 26)) vs
def rb_327 (K : Nat → Nat) (n : Nat) (vs : List jv) (σ : Nat → jcell) : Prop := rC_r (fun (a0 : Nat) => ∃ M, rTe K n σ a0 M ∧ (M = rIp 27)) vs
def rb_328 (K : Nat → Nat) (n : Nat) (vs : List jv) (σ : Nat → jcell) : Prop := rC_r (fun (a0 : Nat) => ∃ M, rTe K n σ a0 M ∧ (M = rIp 28)) vs
def rb_329 (K : Nat → Nat) (n : Nat) (vs : List jv) (σ : Nat → jcell) : Prop := rC_r (fun (a0 : Nat) => ∃ M, rTe K n σ a0 M ∧ (M = rIp 29)) vs
def rb_330 (K : Nat → Nat) (n : Nat) (vs : List jv) (σ : Nat → jcell) : Prop := rC_r (fun (a0 : Nat) => ∃ M, rTe K n σ a0 M ∧ (M = rIp 30)) vs
def rb_331 (K : Nat → Nat) (n : Nat) (vs : List jv) (σ : Nat → jcell) : Prop := rC_r (fun (a0 : Nat) => ∃ M, rTe K n σ a0 M ∧ (M = rIp 31)) vs
def rb_332 (K : Nat → Nat) (n : Nat) (vs : List jv) (σ : Nat → jcell) : Prop := rC_r (fun (a0 : Nat) => ∃ M, rTe K n σ a0 M ∧ (M = rIp 32)) vs
def rb_333 (K : Nat → Nat) (n : Nat) (vs : List jv) (σ : Nat → jcell) : Prop := rC_ri (fun (a0 : Nat) (a1 : Int) => ∃ g t e, rVl K n σ a0 g ∧ rOb K n σ a0 62 38 (rI t) ∧ rOb K n σ a0 62 39 (rI e) ∧ a1 = (if t.toInt < e.toInt then (g t.toInt.toNat).toInt else 0)) vs
def rb_334 (K : Nat → Nat) (n : Nat) (vs : List jv) (σ : Nat → jcell) : Prop := rC_r (fun (a0 : Nat) => ∃ M, rTe K n σ a0 M ∧ (rVal M)) vs
def rb_335 (K : Nat → Nat) (n : Nat) (vs : List jv) (σ : Nat → jcell) : Prop := rC_r (fun (a0 : Nat) => ∃ M, rTe K n σ a0 M ∧ (rCnt M 6 64 = 1)) vs ∨ rC_riii (fun (a0 : Nat) (a1 : Int) (a2 : Int) (a3 : Int) => ∃ M, rTe K n σ a0 M ∧ (a3 = rCnt M a1 a2.toNat)) vs
def rb_336 (K : Nat → Nat) (n : Nat) (vs : List jv) (σ : Nat → jcell) : Prop := rC_r (fun (a0 : Nat) => ∃ M, rTe K n σ a0 M ∧ (rCnt M 6 64 = 1 ∧ rCnt M 14 64 = 1)) vs ∨ rC_riii (fun (a0 : Nat) (a1 : Int) (a2 : Int) (a3 : Int) => ∃ M, rTe K n σ a0 M ∧ (a3 = rCnt M a1 (a2 + 1).toNat)) vs
def rb_337 (K : Nat → Nat) (n : Nat) (vs : List jv) (σ : Nat → jcell) : Prop := rC_rii (fun (a0 : Nat) (a1 : Int) (a2 : Int) => ∃ M, rTe K n σ a0 M ∧ (a2 = rCnt M a1 64)) vs
def rb_338 (K : Nat → Nat) (n : Nat) (vs : List jv) (σ : Nat → jcell) : Prop := rC_ri (fun (a0 : Nat) (a1 : Int) => a1 = 1 → ∃ M v, rTe K n σ a0 M ∧ rOb K n σ a0 62 25 (rI v) ∧ 0 ≤ v.toInt ∧ v.toInt ≤ 1 ∧ ∀ j, 0 ≤ j → j ≤ 63 → M j = 8 * (1 - v.toInt) + 6 → ∃ s, 0 ≤ s ∧ s ≤ 63 ∧ M s = 8 * (1 - v.toInt) + 6 ∧ ¬ rAk M s v.toInt) vs
def rb_339 (K : Nat → Nat) (n : Nat) (vs : List jv) (σ : Nat → jcell) : Prop := rC_ri (fun (a0 : Nat) (a1 : Int) => a1 = 1 → ∃ M v P, rTe K n σ a0 M ∧ rOb K n σ a0 62 25 (rI v) ∧ rOb K n σ a0 62 27 (rI P) ∧ 0 ≤ P.toInt ∧ P.toInt ≤ 63 ∧ M P.toInt = 0 ∧ ((v.toInt = 0 ∧ P.toInt / 8 = 5) ∨ (v.toInt = 1 ∧ P.toInt / 8 = 2))) vs
def rb_340 (K : Nat → Nat) (n : Nat) (vs : List jv) (σ : Nat → jcell) : Prop := rC_ri (fun (a0 : Nat) (a1 : Int) => a1 = 1 → ∃ M v P, rTe K n σ a0 M ∧ rOb K n σ a0 62 25 (rI v) ∧ rOb K n σ a0 62 27 (rI P) ∧ rPs (M, v.toInt, 0, P.toInt)) vs
def rb_341 (K : Nat → Nat) (n : Nat) (vs : List jv) (σ : Nat → jcell) : Prop := rC_ii (fun (a0 : Int) (a1 : Int) => a1 = if a0 = 66 then 3 else if a0 = 75 then 6 else if a0 = 78 then 2 else if a0 = 80 then 1 else if a0 = 81 then 5 else if a0 = 82 then 4 else 0) vs
def rb_449 (K : Nat → Nat) (n : Nat) (p : rP) (vs : List jv) (σ : Nat → jcell) : Prop := rC_rii (fun (a0 : Nat) (a1 : Int) (a2 : Int) => p.2 = none ∧ ∃ C y, rTY K n σ a0 a1 C y ∧ 0 ≤ a2 ∧ a2 ≤ C ∧ p.1 = rPo y a2) vs ∨ rC_riiii (fun (a0 : Nat) (a1 : Int) (a2 : Int) (a3 : Int) (a4 : Int) => p.2 = none ∧ ∃ C y, rTY K n σ a0 a1 C y ∧ 0 ≤ a2 ∧ a2 ≤ C ∧ 0 ≤ a3 ∧ rPth K n σ a0 y a2 a3 ∧ rUa y.1 a3.toNat a2 = 0 ∧ 0 ≤ a4 ∧ a4 < a3 ∧ p.1 = rPo y (rUa y.1 (a4 + 1).toNat a2)) vs
def rUfllllll (K : Nat → Nat) (n : Nat) (k : Nat) (vs : List jv) (σ : Nat → jcell) : Prop := cond (Nat.beq k 237) (rb_237 K n vs σ) False
def rUflllllr (K : Nat → Nat) (n : Nat) (k : Nat) (vs : List jv) (σ : Nat → jcell) : Prop := cond (Nat.beq k 238) (rb_238 K n vs σ) False
def rUflllll (K : Nat → Nat) (n : Nat) (k : Nat) (vs : List jv) (σ : Nat → jcell) : Prop := cond (Nat.ble k 237) (rUfllllll K n k vs σ) (rUflllllr K n k vs σ)
def rUfllllrl (K : Nat → Nat) (n : Nat) (k : Nat) (vs : List jv) (σ : Nat → jcell) : Prop := cond (Nat.beq k 241) (rb_241 K n vs σ) False
def rUfllllrrl (K : Nat → Nat) (n : Nat) (k : Nat) (vs : List jv) (σ : Nat → jcell) : Prop := cond (Nat.beq k 242) (rb_242 K n vs σ) False
def rUfllllrrr (K : Nat → Nat) (n : Nat) (k : Nat) (vs : List jv) (σ : Nat → jcell) : Prop := cond (Nat.beq k 243) (rb_243 K n vs σ) False
def rUfllllrr (K : Nat → Nat) (n : Nat) (k : Nat) (vs : List jv) (σ : Nat → jcell) : Prop := cond (Nat.ble k 242) (rUfllllrrl K n k vs σ) (rUfllllrrr K n k vs σ)
def rUfllllr (K : Nat → Nat) (n : Nat) (k : Nat) (vs : List jv) (σ : Nat → jcell) : Prop := cond (Nat.ble k 241) (rUfllllrl K n k vs σ) (rUfllllrr K n k vs σ)
def rUfllll (K : Nat → Nat) (n : Nat) (k : Nat) (vs : List jv) (σ : Nat → jcell) : Prop := cond (Nat.ble k 238) (rUflllll K n k vs σ) (rUfllllr K n k vs σ)
def rUflllrll (K : Nat → Nat) (n : Nat) (k : Nat) (vs : List jv) (σ : Nat → jcell) : Prop := cond (Nat.beq k 245) (rb_245 K n vs σ) False
def rUflllrlr (K : Nat → Nat) (n : Nat) (k : Nat) (vs : List jv) (σ : Nat → jcell) : Prop := cond (Nat.beq k 246) (rb_246 K n vs σ) False
def rUflllrl (K : Nat → Nat) (n : Nat) (k : Nat) (vs : List jv) (σ : Nat → jcell) : Prop := cond (Nat.ble k 245) (rUflllrll K n k vs σ) (rUflllrlr K n k vs σ)
def rUflllrrl (K : Nat → Nat) (n : Nat) (k : Nat) (vs : List jv) (σ : Nat → jcell) : Prop := cond (Nat.beq k 247) (rb_247 K n vs σ) False
def rUflllrrrl (K : Nat → Nat) (n : Nat) (k : Nat) (vs : List jv) (σ : Nat → jcell) : Prop := cond (Nat.beq k 248) (rb_248 K n vs σ) False
def rUflllrrrr (K : Nat → Nat) (n : Nat) (k : Nat) (vs : List jv) (σ : Nat → jcell) : Prop := cond (Nat.beq k 249) (rb_249 K n vs σ) False
def rUflllrrr (K : Nat → Nat) (n : Nat) (k : Nat) (vs : List jv) (σ : Nat → jcell) : Prop := cond (Nat.ble k 248) (rUflllrrrl K n k vs σ) (rUflllrrrr K n k vs σ)
def rUflllrr (K : Nat → Nat) (n : Nat) (k : Nat) (vs : List jv) (σ : Nat → jcell) : Prop := cond (Nat.ble k 247) (rUflllrrl K n k vs σ) (rUflllrrr K n k vs σ)
def rUflllr (K : Nat → Nat) (n : Nat) (k : Nat) (vs : List jv) (σ : Nat → jcell) : Prop := cond (Nat.ble k 246) (rUflllrl K n k vs σ) (rUflllrr K n k vs σ)
def rUflll (K : Nat → Nat) (n : Nat) (k : Nat) (vs : List jv) (σ : Nat → jcell) : Prop := cond (Nat.ble k 243) (rUfllll K n k vs σ) (rUflllr K n k vs σ)
def rUfllrlll (K : Nat → Nat) (n : Nat) (k : Nat) (vs : List jv) (σ : Nat → jcell) : Prop := cond (Nat.beq k 250) (rb_250 K n vs σ) False
def rUfllrllr (K : Nat → Nat) (n : Nat) (k : Nat) (vs : List jv) (σ : Nat → jcell) : Prop := cond (Nat.beq k 251) (rb_251 K n vs σ) False
def rUfllrll (K : Nat → Nat) (n : Nat) (k : Nat) (vs : List jv) (σ : Nat → jcell) : Prop := cond (Nat.ble k 250) (rUfllrlll K n k vs σ) (rUfllrllr K n k vs σ)
def rUfllrlrl (K : Nat → Nat) (n : Nat) (k : Nat) (vs : List jv) (σ : Nat → jcell) : Prop := cond (Nat.beq k 252) (rb_252 K n vs σ) False
def rUfllrlrrl (K : Nat → Nat) (n : Nat) (k : Nat) (vs : List jv) (σ : Nat → jcell) : Prop := cond (Nat.beq k 253) (rb_253 K n vs σ) False
def rUfllrlrrr (K : Nat → Nat) (n : Nat) (k : Nat) (vs : List jv) (σ : Nat → jcell) : Prop := cond (Nat.beq k 254) (rb_254 K n vs σ) False
def rUfllrlrr (K : Nat → Nat) (n : Nat) (k : Nat) (vs : List jv) (σ : Nat → jcell) : Prop := cond (Nat.ble k 253) (rUfllrlrrl K n k vs σ) (rUfllrlrrr K n k vs σ)
def rUfllrlr (K : Nat → Nat) (n : Nat) (k : Nat) (vs : List jv) (σ : Nat → jcell) : Prop := cond (Nat.ble k 252) (rUfllrlrl K n k vs σ) (rUfllrlrr K n k vs σ)
def rUfllrl (K : Nat → Nat) (n : Nat) (k : Nat) (vs : List jv) (σ : Nat → jcell) : Prop := cond (Nat.ble k 251) (rUfllrll K n k vs σ) (rUfllrlr K n k vs σ)
def rUfllrrll (K : Nat → Nat) (n : Nat) (k : Nat) (vs : List jv) (σ : Nat → jcell) : Prop := cond (Nat.beq k 255) (rb_255 K n vs σ) False
def rUfllrrlrl (K : Nat → Nat) (n : Nat) (k : Nat) (vs : List jv) (σ : Nat → jcell) : Prop := cond (Nat.beq k 256) (rb_256 K n vs σ) False
def rUfllrrlrr (K : Nat → Nat) (n : Nat) (k : Nat) (vs : List jv) (σ : Nat → jcell) : Prop := cond (Nat.beq k 257) (rb_257 K n vs σ) False
def rUfllrrlr (K : Nat → Nat) (n : Nat) (k : Nat) (vs : List jv) (σ : Nat → jcell) : Prop := cond (Nat.ble k 256) (rUfllrrlrl K n k vs σ) (rUfllrrlrr K n k vs σ)
def rUfllrrl (K : Nat → Nat) (n : Nat) (k : Nat) (vs : List jv) (σ : Nat → jcell) : Prop := cond (Nat.ble k 255) (rUfllrrll K n k vs σ) (rUfllrrlr K n k vs σ)
def rUfllrrrl (K : Nat → Nat) (n : Nat) (k : Nat) (vs : List jv) (σ : Nat → jcell) : Prop := cond (Nat.beq k 258) (rb_258 K n vs σ) False
def rUfllrrrrl (K : Nat → Nat) (n : Nat) (k : Nat) (vs : List jv) (σ : Nat → jcell) : Prop := cond (Nat.beq k 259) (rb_259 K n vs σ) False
def rUfllrrrrr (K : Nat → Nat) (n : Nat) (k : Nat) (vs : List jv) (σ : Nat → jcell) : Prop := cond (Nat.beq k 260) (rb_260 K n vs σ) False
def rUfllrrrr (K : Nat → Nat) (n : Nat) (k : Nat) (vs : List jv) (σ : Nat → jcell) : Prop := cond (Nat.ble k 259) (rUfllrrrrl K n k vs σ) (rUfllrrrrr K n k vs σ)
def rUfllrrr (K : Nat → Nat) (n : Nat) (k : Nat) (vs : List jv) (σ : Nat → jcell) : Prop := cond (Nat.ble k 258) (rUfllrrrl K n k vs σ) (rUfllrrrr K n k vs σ)
def rUfllrr (K : Nat → Nat) (n : Nat) (k : Nat) (vs : List jv) (σ : Nat → jcell) : Prop := cond (Nat.ble k 257) (rUfllrrl K n k vs σ) (rUfllrrr K n k vs σ)
def rUfllr (K : Nat → Nat) (n : Nat) (k : Nat) (vs : List jv) (σ : Nat → jcell) : Prop := cond (Nat.ble k 254) (rUfllrl K n k vs σ) (rUfllrr K n k vs σ)
def rUfll (K : Nat → Nat) (n : Nat) (k : Nat) (vs : List jv) (σ : Nat → jcell) : Prop := cond (Nat.ble k 249) (rUflll K n k vs σ) (rUfllr K n k vs σ)
def rUflrllll (K : Nat → Nat) (n : Nat) (k : Nat) (vs : List jv) (σ : Nat → jcell) : Prop := cond (Nat.beq k 261) (rb_261 K n vs σ) False
def rUflrlllr (K : Nat → Nat) (n : Nat) (k : Nat) (vs : List jv) (σ : Nat → jcell) : Prop := cond (Nat.beq k 262) (rb_262 K n vs σ) False
def rUflrlll (K : Nat → Nat) (n : Nat) (k : Nat) (vs : List jv) (σ : Nat → jcell) : Prop := cond (Nat.ble k 261) (rUflrllll K n k vs σ) (rUflrlllr K n k vs σ)
def rUflrllrl (K : Nat → Nat) (n : Nat) (k : Nat) (vs : List jv) (σ : Nat → jcell) : Prop := cond (Nat.beq k 263) (rb_263 K n vs σ) False
def rUflrllrrl (K : Nat → Nat) (n : Nat) (k : Nat) (vs : List jv) (σ : Nat → jcell) : Prop := cond (Nat.beq k 264) (rb_264 K n vs σ) False
def rUflrllrrr (K : Nat → Nat) (n : Nat) (k : Nat) (vs : List jv) (σ : Nat → jcell) : Prop := cond (Nat.beq k 266) (rb_266 K n vs σ) False
def rUflrllrr (K : Nat → Nat) (n : Nat) (k : Nat) (vs : List jv) (σ : Nat → jcell) : Prop := cond (Nat.ble k 264) (rUflrllrrl K n k vs σ) (rUflrllrrr K n k vs σ)
def rUflrllr (K : Nat → Nat) (n : Nat) (k : Nat) (vs : List jv) (σ : Nat → jcell) : Prop := cond (Nat.ble k 263) (rUflrllrl K n k vs σ) (rUflrllrr K n k vs σ)
def rUflrll (K : Nat → Nat) (n : Nat) (k : Nat) (vs : List jv) (σ : Nat → jcell) : Prop := cond (Nat.ble k 262) (rUflrlll K n k vs σ) (rUflrllr K n k vs σ)
def rUflrlrll (K : Nat → Nat) (n : Nat) (k : Nat) (vs : List jv) (σ : Nat → jcell) : Prop := cond (Nat.beq k 270) (rb_270 K n vs σ) False
def rUflrlrlrl (K : Nat → Nat) (n : Nat) (k : Nat) (vs : List jv) (σ : Nat → jcell) : Prop := cond (Nat.beq k 271) (rb_271 K n vs σ) False
def rUflrlrlrr (K : Nat → Nat) (n : Nat) (k : Nat) (vs : List jv) (σ : Nat → jcell) : Prop := cond (Nat.beq k 276) (rb_276 K n vs σ) False
def rUflrlrlr (K : Nat → Nat) (n : Nat) (k : Nat) (vs : List jv) (σ : Nat → jcell) : Prop := cond (Nat.ble k 271) (rUflrlrlrl K n k vs σ) (rUflrlrlrr K n k vs σ)
def rUflrlrl (K : Nat → Nat) (n : Nat) (k : Nat) (vs : List jv) (σ : Nat → jcell) : Prop := cond (Nat.ble k 270) (rUflrlrll K n k vs σ) (rUflrlrlr K n k vs σ)
def rUflrlrrl (K : Nat → Nat) (n : Nat) (k : Nat) (vs : List jv) (σ : Nat → jcell) : Prop := cond (Nat.beq k 277) (rb_277 K n vs σ) False
def rUflrlrrrl (K : Nat → Nat) (n : Nat) (k : Nat) (vs : List jv) (σ : Nat → jcell) : Prop := cond (Nat.beq k 278) (rb_278 K n vs σ) False
def rUflrlrrrr (K : Nat → Nat) (n : Nat) (k : Nat) (vs : List jv) (σ : Nat → jcell) : Prop := cond (Nat.beq k 279) (rb_279 K n vs σ) False
def rUflrlrrr (K : Nat → Nat) (n : Nat) (k : Nat) (vs : List jv) (σ : Nat → jcell) : Prop := cond (Nat.ble k 278) (rUflrlrrrl K n k vs σ) (rUflrlrrrr K n k vs σ)
def rUflrlrr (K : Nat → Nat) (n : Nat) (k : Nat) (vs : List jv) (σ : Nat → jcell) : Prop := cond (Nat.ble k 277) (rUflrlrrl K n k vs σ) (rUflrlrrr K n k vs σ)
def rUflrlr (K : Nat → Nat) (n : Nat) (k : Nat) (vs : List jv) (σ : Nat → jcell) : Prop := cond (Nat.ble k 276) (rUflrlrl K n k vs σ) (rUflrlrr K n k vs σ)
def rUflrl (K : Nat → Nat) (n : Nat) (k : Nat) (vs : List jv) (σ : Nat → jcell) : Prop := cond (Nat.ble k 266) (rUflrll K n k vs σ) (rUflrlr K n k vs σ)
def rUflrrlll (K : Nat → Nat) (n : Nat) (k : Nat) (vs : List jv) (σ : Nat → jcell) : Prop := cond (Nat.beq k 280) (rb_280 K n vs σ) False
def rUflrrllr (K : Nat → Nat) (n : Nat) (k : Nat) (vs : List jv) (σ : Nat → jcell) : Prop := cond (Nat.beq k 281) (rb_281 K n vs σ) False
def rUflrrll (K : Nat → Nat) (n : Nat) (k : Nat) (vs : List jv) (σ : Nat → jcell) : Prop := cond (Nat.ble k 280) (rUflrrlll K n k vs σ) (rUflrrllr K n k vs σ)
def rUflrrlrl (K : Nat → Nat) (n : Nat) (k : Nat) (vs : List jv) (σ : Nat → jcell) : Prop := cond (Nat.beq k 282) (rb_282 K n vs σ) False
def rUflrrlrrl (K : Nat → Nat) (n : Nat) (k : Nat) (vs : List jv) (σ : Nat → jcell) : Prop := cond (Nat.beq k 283) (rb_283 K n vs σ) False
def rUflrrlrrr (K : Nat → Nat) (n : Nat) (k : Nat) (vs : List jv) (σ : Nat → jcell) : Prop := cond (Nat.beq k 284) (rb_284 K n vs σ) False
def rUflrrlrr (K : Nat → Nat) (n : Nat) (k : Nat) (vs : List jv) (σ : Nat → jcell) : Prop := cond (Nat.ble k 283) (rUflrrlrrl K n k vs σ) (rUflrrlrrr K n k vs σ)
def rUflrrlr (K : Nat → Nat) (n : Nat) (k : Nat) (vs : List jv) (σ : Nat → jcell) : Prop := cond (Nat.ble k 282) (rUflrrlrl K n k vs σ) (rUflrrlrr K n k vs σ)
def rUflrrl (K : Nat → Nat) (n : Nat) (k : Nat) (vs : List jv) (σ : Nat → jcell) : Prop := cond (Nat.ble k 281) (rUflrrll K n k vs σ) (rUflrrlr K n k vs σ)
def rUflrrrll (K : Nat → Nat) (n : Nat) (k : Nat) (vs : List jv) (σ : Nat → jcell) : Prop := cond (Nat.beq k 285) (rb_285 K n vs σ) False
def rUflrrrlrl (K : Nat → Nat) (n : Nat) (k : Nat) (vs : List jv) (σ : Nat → jcell) : Prop := cond (Nat.beq k 286) (rb_286 K n vs σ) False
def rUflrrrlrr (K : Nat → Nat) (n : Nat) (k : Nat) (vs : List jv) (σ : Nat → jcell) : Prop := cond (Nat.beq k 287) (rb_287 K n vs σ) False
def rUflrrrlr (K : Nat → Nat) (n : Nat) (k : Nat) (vs : List jv) (σ : Nat → jcell) : Prop := cond (Nat.ble k 286) (rUflrrrlrl K n k vs σ) (rUflrrrlrr K n k vs σ)
def rUflrrrl (K : Nat → Nat) (n : Nat) (k : Nat) (vs : List jv) (σ : Nat → jcell) : Prop := cond (Nat.ble k 285) (rUflrrrll K n k vs σ) (rUflrrrlr K n k vs σ)
def rUflrrrrl (K : Nat → Nat) (n : Nat) (k : Nat) (vs : List jv) (σ : Nat → jcell) : Prop := cond (Nat.beq k 288) (rb_288 K n vs σ) False
def rUflrrrrrl (K : Nat → Nat) (n : Nat) (k : Nat) (vs : List jv) (σ : Nat → jcell) : Prop := cond (Nat.beq k 289) (rb_289 K n vs σ) False
def rUflrrrrrr (K : Nat → Nat) (n : Nat) (k : Nat) (vs : List jv) (σ : Nat → jcell) : Prop := cond (Nat.beq k 290) (rb_290 K n vs σ) False
def rUflrrrrr (K : Nat → Nat) (n : Nat) (k : Nat) (vs : List jv) (σ : Nat → jcell) : Prop := cond (Nat.ble k 289) (rUflrrrrrl K n k vs σ) (rUflrrrrrr K n k vs σ)
def rUflrrrr (K : Nat → Nat) (n : Nat) (k : Nat) (vs : List jv) (σ : Nat → jcell) : Prop := cond (Nat.ble k 288) (rUflrrrrl K n k vs σ) (rUflrrrrr K n k vs σ)
def rUflrrr (K : Nat → Nat) (n : Nat) (k : Nat) (vs : List jv) (σ : Nat → jcell) : Prop := cond (Nat.ble k 287) (rUflrrrl K n k vs σ) (rUflrrrr K n k vs σ)
def rUflrr (K : Nat → Nat) (n : Nat) (k : Nat) (vs : List jv) (σ : Nat → jcell) : Prop := cond (Nat.ble k 284) (rUflrrl K n k vs σ) (rUflrrr K n k vs σ)
def rUflr (K : Nat → Nat) (n : Nat) (k : Nat) (vs : List jv) (σ : Nat → jcell) : Prop := cond (Nat.ble k 279) (rUflrl K n k vs σ) (rUflrr K n k vs σ)
def rUfl (K : Nat → Nat) (n : Nat) (k : Nat) (vs : List jv) (σ : Nat → jcell) : Prop := cond (Nat.ble k 260) (rUfll K n k vs σ) (rUflr K n k vs σ)
def rUfrlllll (K : Nat → Nat) (n : Nat) (k : Nat) (vs : List jv) (σ : Nat → jcell) : Prop := cond (Nat.beq k 291) (rb_291 K n vs σ) False
def rUfrllllr (K : Nat → Nat) (n : Nat) (k : Nat) (vs : List jv) (σ : Nat → jcell) : Prop := cond (Nat.beq k 300) (rb_300 K n vs σ) False
def rUfrllll (K : Nat → Nat) (n : Nat) (k : Nat) (vs : List jv) (σ : Nat → jcell) : Prop := cond (Nat.ble k 291) (rUfrlllll K n k vs σ) (rUfrllllr K n k vs σ)
def rUfrlllrl (K : Nat → Nat) (n : Nat) (k : Nat) (vs : List jv) (σ : Nat → jcell) : Prop := cond (Nat.beq k 301) (rb_301 K n vs σ) False
def rUfrlllrrl (K : Nat → Nat) (n : Nat) (k : Nat) (vs : List jv) (σ : Nat → jcell) : Prop := cond (Nat.beq k 302) (rb_302 K n vs σ) False
def rUfrlllrrr (K : Nat → Nat) (n : Nat) (k : Nat) (vs : List jv) (σ : Nat → jcell) : Prop := cond (Nat.beq k 303) (rb_303 K n vs σ) False
def rUfrlllrr (K : Nat → Nat) (n : Nat) (k : Nat) (vs : List jv) (σ : Nat → jcell) : Prop := cond (Nat.ble k 302) (rUfrlllrrl K n k vs σ) (rUfrlllrrr K n k vs σ)
def rUfrlllr (K : Nat → Nat) (n : Nat) (k : Nat) (vs : List jv) (σ : Nat → jcell) : Prop := cond (Nat.ble k 301) (rUfrlllrl K n k vs σ) (rUfrlllrr K n k vs σ)
def rUfrlll (K : Nat → Nat) (n : Nat) (k : Nat) (vs : List jv) (σ : Nat → jcell) : Prop := cond (Nat.ble k 300) (rUfrllll K n k vs σ) (rUfrlllr K n k vs σ)
def rUfrllrll (K : Nat → Nat) (n : Nat) (k : Nat) (vs : List jv) (σ : Nat → jcell) : Prop := cond (Nat.beq k 304) (rb_304 K n vs σ) False
def rUfrllrlr (K : Nat → Nat) (n : Nat) (k : Nat) (vs : List jv) (σ : Nat → jcell) : Prop := cond (Nat.beq k 305) (rb_305 K n vs σ) False
def rUfrllrl (K : Nat → Nat) (n : Nat) (k : Nat) (vs : List jv) (σ : Nat → jcell) : Prop := cond (Nat.ble k 304) (rUfrllrll K n k vs σ) (rUfrllrlr K n k vs σ)
def rUfrllrrl (K : Nat → Nat) (n : Nat) (k : Nat) (vs : List jv) (σ : Nat → jcell) : Prop := cond (Nat.beq k 306) (rb_306 K n vs σ) False
def rUfrllrrrl (K : Nat → Nat) (n : Nat) (k : Nat) (vs : List jv) (σ : Nat → jcell) : Prop := cond (Nat.beq k 307) (rb_307 K n vs σ) False
def rUfrllrrrr (K : Nat → Nat) (n : Nat) (k : Nat) (vs : List jv) (σ : Nat → jcell) : Prop := cond (Nat.beq k 308) (rb_308 K n vs σ) False
def rUfrllrrr (K : Nat → Nat) (n : Nat) (k : Nat) (vs : List jv) (σ : Nat → jcell) : Prop := cond (Nat.ble k 307) (rUfrllrrrl K n k vs σ) (rUfrllrrrr K n k vs σ)
def rUfrllrr (K : Nat → Nat) (n : Nat) (k : Nat) (vs : List jv) (σ : Nat → jcell) : Prop := cond (Nat.ble k 306) (rUfrllrrl K n k vs σ) (rUfrllrrr K n k vs σ)
def rUfrllr (K : Nat → Nat) (n : Nat) (k : Nat) (vs : List jv) (σ : Nat → jcell) : Prop := cond (Nat.ble k 305) (rUfrllrl K n k vs σ) (rUfrllrr K n k vs σ)
def rUfrll (K : Nat → Nat) (n : Nat) (k : Nat) (vs : List jv) (σ : Nat → jcell) : Prop := cond (Nat.ble k 303) (rUfrlll K n k vs σ) (rUfrllr K n k vs σ)
def rUfrlrlll (K : Nat → Nat) (n : Nat) (k : Nat) (vs : List jv) (σ : Nat → jcell) : Prop := cond (Nat.beq k 309) (rb_309 K n vs σ) False
def rUfrlrllr (K : Nat → Nat) (n : Nat) (k : Nat) (vs : List jv) (σ : Nat → jcell) : Prop := cond (Nat.beq k 310) (rb_310 K n vs σ) False
def rUfrlrll (K : Nat → Nat) (n : Nat) (k : Nat) (vs : List jv) (σ : Nat → jcell) : Prop := cond (Nat.ble k 309) (rUfrlrlll K n k vs σ) (rUfrlrllr K n k vs σ)
def rUfrlrlrl (K : Nat → Nat) (n : Nat) (k : Nat) (vs : List jv) (σ : Nat → jcell) : Prop := cond (Nat.beq k 311) (rb_311 K n vs σ) False
def rUfrlrlrrl (K : Nat → Nat) (n : Nat) (k : Nat) (vs : List jv) (σ : Nat → jcell) : Prop := cond (Nat.beq k 312) (rb_312 K n vs σ) False
def rUfrlrlrrr (K : Nat → Nat) (n : Nat) (k : Nat) (vs : List jv) (σ : Nat → jcell) : Prop := cond (Nat.beq k 313) (rb_313 K n vs σ) False
def rUfrlrlrr (K : Nat → Nat) (n : Nat) (k : Nat) (vs : List jv) (σ : Nat → jcell) : Prop := cond (Nat.ble k 312) (rUfrlrlrrl K n k vs σ) (rUfrlrlrrr K n k vs σ)
def rUfrlrlr (K : Nat → Nat) (n : Nat) (k : Nat) (vs : List jv) (σ : Nat → jcell) : Prop := cond (Nat.ble k 311) (rUfrlrlrl K n k vs σ) (rUfrlrlrr K n k vs σ)
def rUfrlrl (K : Nat → Nat) (n : Nat) (k : Nat) (vs : List jv) (σ : Nat → jcell) : Prop := cond (Nat.ble k 310) (rUfrlrll K n k vs σ) (rUfrlrlr K n k vs σ)
def rUfrlrrll (K : Nat → Nat) (n : Nat) (k : Nat) (vs : List jv) (σ : Nat → jcell) : Prop := cond (Nat.beq k 314) (rb_314 K n vs σ) False
def rUfrlrrlrl (K : Nat → Nat) (n : Nat) (k : Nat) (vs : List jv) (σ : Nat → jcell) : Prop := cond (Nat.beq k 315) (rb_315 K n vs σ) False
def rUfrlrrlrr (K : Nat → Nat) (n : Nat) (k : Nat) (vs : List jv) (σ : Nat → jcell) : Prop := cond (Nat.beq k 316) (rb_316 K n vs σ) False
def rUfrlrrlr (K : Nat → Nat) (n : Nat) (k : Nat) (vs : List jv) (σ : Nat → jcell) : Prop := cond (Nat.ble k 315) (rUfrlrrlrl K n k vs σ) (rUfrlrrlrr K n k vs σ)
def rUfrlrrl (K : Nat → Nat) (n : Nat) (k : Nat) (vs : List jv) (σ : Nat → jcell) : Prop := cond (Nat.ble k 314) (rUfrlrrll K n k vs σ) (rUfrlrrlr K n k vs σ)
def rUfrlrrrl (K : Nat → Nat) (n : Nat) (k : Nat) (vs : List jv) (σ : Nat → jcell) : Prop := cond (Nat.beq k 317) (rb_317 K n vs σ) False
def rUfrlrrrrl (K : Nat → Nat) (n : Nat) (k : Nat) (vs : List jv) (σ : Nat → jcell) : Prop := cond (Nat.beq k 318) (rb_318 K n vs σ) False
def rUfrlrrrrr (K : Nat → Nat) (n : Nat) (k : Nat) (vs : List jv) (σ : Nat → jcell) : Prop := cond (Nat.beq k 319) (rb_319 K n vs σ) False
def rUfrlrrrr (K : Nat → Nat) (n : Nat) (k : Nat) (vs : List jv) (σ : Nat → jcell) : Prop := cond (Nat.ble k 318) (rUfrlrrrrl K n k vs σ) (rUfrlrrrrr K n k vs σ)
def rUfrlrrr (K : Nat → Nat) (n : Nat) (k : Nat) (vs : List jv) (σ : Nat → jcell) : Prop := cond (Nat.ble k 317) (rUfrlrrrl K n k vs σ) (rUfrlrrrr K n k vs σ)
def rUfrlrr (K : Nat → Nat) (n : Nat) (k : Nat) (vs : List jv) (σ : Nat → jcell) : Prop := cond (Nat.ble k 316) (rUfrlrrl K n k vs σ) (rUfrlrrr K n k vs σ)
def rUfrlr (K : Nat → Nat) (n : Nat) (k : Nat) (vs : List jv) (σ : Nat → jcell) : Prop := cond (Nat.ble k 313) (rUfrlrl K n k vs σ) (rUfrlrr K n k vs σ)
def rUfrl (K : Nat → Nat) (n : Nat) (k : Nat) (vs : List jv) (σ : Nat → jcell) : Prop := cond (Nat.ble k 308) (rUfrll K n k vs σ) (rUfrlr K n k vs σ)
def rUfrrllll (K : Nat → Nat) (n : Nat) (k : Nat) (vs : List jv) (σ : Nat → jcell) : Prop := cond (Nat.beq k 320) (rb_320 K n vs σ) False
def rUfrrlllr (K : Nat → Nat) (n : Nat) (k : Nat) (vs : List jv) (σ : Nat → jcell) : Prop := cond (Nat.beq k 321) (rb_321 K n vs σ) False
def rUfrrlll (K : Nat → Nat) (n : Nat) (k : Nat) (vs : List jv) (σ : Nat → jcell) : Prop := cond (Nat.ble k 320) (rUfrrllll K n k vs σ) (rUfrrlllr K n k vs σ)
def rUfrrllrl (K : Nat → Nat) (n : Nat) (k : Nat) (vs : List jv) (σ : Nat → jcell) : Prop := cond (Nat.beq k 322) (rb_322 K n vs σ) False
def rUfrrllrrl (K : Nat → Nat) (n : Nat) (k : Nat) (vs : List jv) (σ : Nat → jcell) : Prop := cond (Nat.beq k 323) (rb_323 K n vs σ) False
def rUfrrllrrr (K : Nat → Nat) (n : Nat) (k : Nat) (vs : List jv) (σ : Nat → jcell) : Prop := cond (Nat.beq k 324) (rb_324 K n vs σ) False
def rUfrrllrr (K : Nat → Nat) (n : Nat) (k : Nat) (vs : List jv) (σ : Nat → jcell) : Prop := cond (Nat.ble k 323) (rUfrrllrrl K n k vs σ) (rUfrrllrrr K n k vs σ)
def rUfrrllr (K : Nat → Nat) (n : Nat) (k : Nat) (vs : List jv) (σ : Nat → jcell) : Prop := cond (Nat.ble k 322) (rUfrrllrl K n k vs σ) (rUfrrllrr K n k vs σ)
def rUfrrll (K : Nat → Nat) (n : Nat) (k : Nat) (vs : List jv) (σ : Nat → jcell) : Prop := cond (Nat.ble k 321) (rUfrrlll K n k vs σ) (rUfrrllr K n k vs σ)
def rUfrrlrll (K : Nat → Nat) (n : Nat) (k : Nat) (vs : List jv) (σ : Nat → jcell) : Prop := cond (Nat.beq k 325) (rb_325 K n vs σ) False
def rUfrrlrlrl (K : Nat → Nat) (n : Nat) (k : Nat) (vs : List jv) (σ : Nat → jcell) : Prop := cond (Nat.beq k 326) (rb_326 K n vs σ) False
def rUfrrlrlrr (K : Nat → Nat) (n : Nat) (k : Nat) (vs : List jv) (σ : Nat → jcell) : Prop := cond (Nat.beq k 327) (rb_327 K n vs σ) False
def rUfrrlrlr (K : Nat → Nat) (n : Nat) (k : Nat) (vs : List jv) (σ : Nat → jcell) : Prop := cond (Nat.ble k 326) (rUfrrlrlrl K n k vs σ) (rUfrrlrlrr K n k vs σ)
def rUfrrlrl (K : Nat → Nat) (n : Nat) (k : Nat) (vs : List jv) (σ : Nat → jcell) : Prop := cond (Nat.ble k 325) (rUfrrlrll K n k vs σ) (rUfrrlrlr K n k vs σ)
def rUfrrlrrl (K : Nat → Nat) (n : Nat) (k : Nat) (vs : List jv) (σ : Nat → jcell) : Prop := cond (Nat.beq k 328) (rb_328 K n vs σ) False
def rUfrrlrrrl (K : Nat → Nat) (n : Nat) (k : Nat) (vs : List jv) (σ : Nat → jcell) : Prop := cond (Nat.beq k 329) (rb_329 K n vs σ) False
def rUfrrlrrrr (K : Nat → Nat) (n : Nat) (k : Nat) (vs : List jv) (σ : Nat → jcell) : Prop := cond (Nat.beq k 330) (rb_330 K n vs σ) False
def rUfrrlrrr (K : Nat → Nat) (n : Nat) (k : Nat) (vs : List jv) (σ : Nat → jcell) : Prop := cond (Nat.ble k 329) (rUfrrlrrrl K n k vs σ) (rUfrrlrrrr K n k vs σ)
def rUfrrlrr (K : Nat → Nat) (n : Nat) (k : Nat) (vs : List jv) (σ : Nat → jcell) : Prop := cond (Nat.ble k 328) (rUfrrlrrl K n k vs σ) (rUfrrlrrr K n k vs σ)
def rUfrrlr (K : Nat → Nat) (n : Nat) (k : Nat) (vs : List jv) (σ : Nat → jcell) : Prop := cond (Nat.ble k 327) (rUfrrlrl K n k vs σ) (rUfrrlrr K n k vs σ)
def rUfrrl (K : Nat → Nat) (n : Nat) (k : Nat) (vs : List jv) (σ : Nat → jcell) : Prop := cond (Nat.ble k 324) (rUfrrll K n k vs σ) (rUfrrlr K n k vs σ)
def rUfrrrlll (K : Nat → Nat) (n : Nat) (k : Nat) (vs : List jv) (σ : Nat → jcell) : Prop := cond (Nat.beq k 331) (rb_331 K n vs σ) False
def rUfrrrllr (K : Nat → Nat) (n : Nat) (k : Nat) (vs : List jv) (σ : Nat → jcell) : Prop := cond (Nat.beq k 332) (rb_332 K n vs σ) False
def rUfrrrll (K : Nat → Nat) (n : Nat) (k : Nat) (vs : List jv) (σ : Nat → jcell) : Prop := cond (Nat.ble k 331) (rUfrrrlll K n k vs σ) (rUfrrrllr K n k vs σ)
def rUfrrrlrl (K : Nat → Nat) (n : Nat) (k : Nat) (vs : List jv) (σ : Nat → jcell) : Prop := cond (Nat.beq k 333) (rb_333 K n vs σ) False
def rUfrrrlrrl (K : Nat → Nat) (n : Nat) (k : Nat) (vs : List jv) (σ : Nat → jcell) : Prop := cond (Nat.beq k 334) (rb_334 K n vs σ) False
def rUfrrrlrrr (K : Nat → Nat) (n : Nat) (k : Nat) (vs : List jv) (σ : Nat → jcell) : Prop := cond (Nat.beq k 335) (rb_335 K n vs σ) False
def rUfrrrlrr (K : Nat → Nat) (n : Nat) (k : Nat) (vs : List jv) (σ : Nat → jcell) : Prop := cond (Nat.ble k 334) (rUfrrrlrrl K n k vs σ) (rUfrrrlrrr K n k vs σ)
def rUfrrrlr (K : Nat → Nat) (n : Nat) (k : Nat) (vs : List jv) (σ : Nat → jcell) : Prop := cond (Nat.ble k 333) (rUfrrrlrl K n k vs σ) (rUfrrrlrr K n k vs σ)
def rUfrrrl (K : Nat → Nat) (n : Nat) (k : Nat) (vs : List jv) (σ : Nat → jcell) : Prop := cond (Nat.ble k 332) (rUfrrrll K n k vs σ) (rUfrrrlr K n k vs σ)
def rUfrrrrll (K : Nat → Nat) (n : Nat) (k : Nat) (vs : List jv) (σ : Nat → jcell) : Prop := cond (Nat.beq k 336) (rb_336 K n vs σ) False
def rUfrrrrlrl (K : Nat → Nat) (n : Nat) (k : Nat) (vs : List jv) (σ : Nat → jcell) : Prop := cond (Nat.beq k 337) (rb_337 K n vs σ) False
def rUfrrrrlrr (K : Nat → Nat) (n : Nat) (k : Nat) (vs : List jv) (σ : Nat → jcell) : Prop := cond (Nat.beq k 338) (rb_338 K n vs σ) False
def rUfrrrrlr (K : Nat → Nat) (n : Nat) (k : Nat) (vs : List jv) (σ : Nat → jcell) : Prop := cond (Nat.ble k 337) (rUfrrrrlrl K n k vs σ) (rUfrrrrlrr K n k vs σ)
def rUfrrrrl (K : Nat → Nat) (n : Nat) (k : Nat) (vs : List jv) (σ : Nat → jcell) : Prop := cond (Nat.ble k 336) (rUfrrrrll K n k vs σ) (rUfrrrrlr K n k vs σ)
def rUfrrrrrl (K : Nat → Nat) (n : Nat) (k : Nat) (vs : List jv) (σ : Nat → jcell) : Prop := cond (Nat.beq k 339) (rb_339 K n vs σ) False
def rUfrrrrrrl (K : Nat → Nat) (n : Nat) (k : Nat) (vs : List jv) (σ : Nat → jcell) : Prop := cond (Nat.beq k 340) (rb_340 K n vs σ) False
def rUfrrrrrrr (K : Nat → Nat) (n : Nat) (k : Nat) (vs : List jv) (σ : Nat → jcell) : Prop := cond (Nat.beq k 341) (rb_341 K n vs σ) False
def rUfrrrrrr (K : Nat → Nat) (n : Nat) (k : Nat) (vs : List jv) (σ : Nat → jcell) : Prop := cond (Nat.ble k 340) (rUfrrrrrrl K n k vs σ) (rUfrrrrrrr K n k vs σ)
def rUfrrrrr (K : Nat → Nat) (n : Nat) (k : Nat) (vs : List jv) (σ : Nat → jcell) : Prop := cond (Nat.ble k 339) (rUfrrrrrl K n k vs σ) (rUfrrrrrr K n k vs σ)
def rUfrrrr (K : Nat → Nat) (n : Nat) (k : Nat) (vs : List jv) (σ : Nat → jcell) : Prop := cond (Nat.ble k 338) (rUfrrrrl K n k vs σ) (rUfrrrrr K n k vs σ)
def rUfrrr (K : Nat → Nat) (n : Nat) (k : Nat) (vs : List jv) (σ : Nat → jcell) : Prop := cond (Nat.ble k 335) (rUfrrrl K n k vs σ) (rUfrrrr K n k vs σ)
def rUfrr (K : Nat → Nat) (n : Nat) (k : Nat) (vs : List jv) (σ : Nat → jcell) : Prop := cond (Nat.ble k 330) (rUfrrl K n k vs σ) (rUfrrr K n k vs σ)
def rUfr (K : Nat → Nat) (n : Nat) (k : Nat) (vs : List jv) (σ : Nat → jcell) : Prop := cond (Nat.ble k 319) (rUfrl K n k vs σ) (rUfrr K n k vs σ)
def rUf (K : Nat → Nat) (n : Nat) (k : Nat) (vs : List jv) (σ : Nat → jcell) : Prop := cond (Nat.ble k 290) (rUfl K n k vs σ) (rUfr K n k vs σ)
def rUg (K : Nat → Nat) (n : Nat) (p : rP) (k : Nat) (vs : List jv) (σ : Nat → jcell) : Prop := cond (Nat.beq k 449) (rb_449 K n p vs σ) False
def rB2 (K : Nat → Nat) (n : Nat) (p : rP) (k : Nat) (vs : List jv) (σ : Nat → jcell) : Prop := cond (Nat.ble 1000 k) False (cond (Nat.ble 449 k) (rUg K n p k vs σ) (cond (Nat.ble 237 k) (cond (Nat.ble k 399) (rUf K n k vs σ) (rB K n p k vs σ)) (rB K n p k vs σ)))
abbrev rG (K : Nat → Nat) (n : Nat) : aFt rP := rFF (rB2 K n) rS1
theorem rB2_fre (K : Nat → Nat) (n : Nat) (p p' : rP) (k : Nat) (vs : List jv) (σ : Nat → jcell) (h1 : 100 ≤ k) (h2 : k < 400) (h : rB2 K n p k vs σ) : rB2 K n p' k vs σ := by
  unfold rB2 at h ⊢
  rw [show Nat.ble 1000 k = false from Bool.eq_false_iff.mpr (fun h9 => by have := Nat.le_of_ble_eq_true h9; omega), show Nat.ble 449 k = false from Bool.eq_false_iff.mpr (fun h9 => by have := Nat.le_of_ble_eq_true h9; omega), show Nat.ble k 399 = true from Nat.ble_eq_true_of_le (by omega)] at h ⊢
  cases c : Nat.ble 237 k with
  | true => rw [c] at h; exact h
  | false => rw [c] at h; exact rB_fre K n p p' k vs σ h1 h2 h
theorem rB2_hi (K : Nat → Nat) (n : Nat) (p : rP) (k : Nat) (vs : List jv) (σ : Nat → jcell) (h1 : 1000 ≤ k) (h : rB2 K n p k vs σ) : False := by
  unfold rB2 at h
  rw [show Nat.ble 1000 k = true from Nat.ble_eq_true_of_le h1] at h
  exact h
theorem rG_shf (K : Nat → Nat) (n : Nat) : aShf (rG K n) (rSh rS1) := rF_sh (rB2_fre K n) (rB2_hi K n)
def rOk (k : Nat) : Bool := Nat.ble k 236 || (Nat.ble 400 k && Nat.ble k 448)
theorem rB2_o {K : Nat → Nat} {n : Nat} {p : rP} {k : Nat} {vs : List jv} {σ : Nat → jcell} (h : rOk k = true) : rB2 K n p k vs σ ↔ rB K n p k vs σ := by
  have h2 : k ≤ 236 ∨ (400 ≤ k ∧ k ≤ 448) := by
    unfold rOk at h
    rw [Bool.or_eq_true, Bool.and_eq_true] at h
    rcases h with h | ⟨h, h'⟩
    · exact Or.inl (Nat.le_of_ble_eq_true h)
    · exact Or.inr ⟨Nat.le_of_ble_eq_true h, Nat.le_of_ble_eq_true h'⟩
  unfold rB2
  rw [show Nat.ble 1000 k = false from Bool.eq_false_iff.mpr (fun h9 => by have := Nat.le_of_ble_eq_true h9; omega), show Nat.ble 449 k = false from Bool.eq_false_iff.mpr (fun h9 => by have := Nat.le_of_ble_eq_true h9; omega)]
  rcases h2 with h2 | h2
  · rw [show Nat.ble 237 k = false from Bool.eq_false_iff.mpr (fun h9 => by have := Nat.le_of_ble_eq_true h9; omega)]
    exact Iff.rfl
  · rw [show Nat.ble 237 k = true from Nat.ble_eq_true_of_le (by omega), show Nat.ble k 399 = false from Bool.eq_false_iff.mpr (fun h9 => by have := Nat.le_of_ble_eq_true h9; omega)]
    exact Iff.rfl
def rOkr (r : Nat) : Bool := if r < 65536 then rOk (r / 16) else if r < 131072 then rOk ((r - 65539) / 16) else rOk ((r % 131072 - 2) / 16)
theorem rFG {K : Nat → Nat} {n : Nat} {p : rP} {r : Nat} {vs : List jv} {σ : Nat → jcell} (h : rOkr r = true) : rF K n p r vs σ ↔ rG K n p r vs σ := by
  unfold rOkr at h
  unfold rF rG rFF
  split
  next c =>
    rw [if_pos c] at h
    exact (rB2_o h).symm
  next c =>
    rw [if_neg c] at h
    split
    next c2 =>
      rw [if_pos c2] at h
      split
      next =>
        split
        · exact (rB2_o h).symm
        · exact (rB2_o h).symm
        · exact Iff.rfl
      next => exact Iff.rfl
    next c2 =>
      rw [if_neg c2] at h
      split
      next =>
        split
        · exact (rB2_o h).symm
        · exact Iff.rfl
      next => exact Iff.rfl
/-- a rule of the first table is one of the second -/
theorem rG_of {K : Nat → Nat} {n : Nat} {JX : (Nat → jcell) → Prop} {G : aCon} (h : (G.2.2.2.1.2.2.2.2.all (fun q => rOkr q.1) && G.2.2.2.2.1.2.2.1.2.2.2.all (fun q => rOkr q.1)) = true) (hg : aGho (rF K n) fa_T K n JX G) : aGho (rG K n) fa_T K n JX G := by
  rw [Bool.and_eq_true, List.all_eq_true, List.all_eq_true] at h
  intro p σ ρ hH hX hA hM
  obtain ⟨m1, m2, m3, m4⟩ := hM
  obtain ⟨p', xs, e1, e2, ⟨n1, n2, n3, n4⟩, e3⟩ := hg p σ ρ hH hX hA ⟨m1, m2, m3, fun q hq => by
    obtain ⟨w, a1, a2⟩ := m4 q hq
    exact ⟨w, a1, (rFG (h.1 q hq)).mpr a2⟩⟩
  exact ⟨p', xs, e1, e2, ⟨n1, n2, n3, fun q hq => by
    obtain ⟨w, a1, a2⟩ := n4 q hq
    exact ⟨w, a1, (rFG (h.2 q hq)).mp a2⟩⟩, e3⟩
theorem ro2_22 {K : Nat → Nat} {n : Nat} {p : rP} {x0 : Nat} {σ : Nat → jcell} : rB2 K n p 22 [rR x0] σ ↔ (p.2 = none ∧ rRX K n σ x0 p.1) := (rB2_o (k := 22) rfl).trans ro_22
theorem ro2_23 {K : Nat → Nat} {n : Nat} {p : rP} {x0 : Nat} {x1 : Int32} {σ : Nat → jcell} : rB2 K n p 23 [rR x0, rI x1] σ ↔ (p.2 = none ∧ rUD K n σ x0 0 p.1 x1.toInt) := (rB2_o (k := 23) rfl).trans ro_23
theorem ro2_24 {K : Nat → Nat} {n : Nat} {p : rP}  {σ : Nat → jcell} : rB2 K n p 24 [] σ ↔ (rGd p.1) := (rB2_o (k := 24) rfl).trans ro_24
theorem ro2_25 {K : Nat → Nat} {n : Nat} {p : rP} {x0 : Int32} {σ : Nat → jcell} : rB2 K n p 25 [rI x0] σ ↔ (rLm p.1 x0.toInt) := (rB2_o (k := 25) rfl).trans ro_25
theorem ro2_26 {K : Nat → Nat} {n : Nat} {p : rP} {x0 : Nat} {x1 : Int32} {σ : Nat → jcell} : rB2 K n p 26 [rR x0, rI x1] σ ↔ (p.2 = none ∧ rUD K n σ x0 1 p.1 x1.toInt) := (rB2_o (k := 26) rfl).trans ro_26
theorem ro2_27 {K : Nat → Nat} {n : Nat} {p : rP} {x0 : Nat} {x1 : Int32} {σ : Nat → jcell} : rB2 K n p 27 [rR x0, rI x1] σ ↔ (p.2 = none ∧ rUD K n σ x0 2 p.1 x1.toInt) := (rB2_o (k := 27) rfl).trans ro_27
theorem ro2_28 {K : Nat → Nat} {n : Nat} {p : rP} {x0 : Nat} {x1 : Int32} {x2 : Int32} {σ : Nat → jcell} : rB2 K n p 28 [rR x0, rI x1, rI x2] σ ↔ (p.2 = none ∧ rUD K n σ x0 x1.toInt p.1 x2.toInt) := (rB2_o (k := 28) rfl).trans ro_28
theorem ro2_29 {K : Nat → Nat} {n : Nat} {p : rP} {x0 : Int32} {x1 : Int32} {σ : Nat → jcell} : rB2 K n p 29 [rI x0, rI x1] σ ↔ ((x1.toInt = 1 ∧ rGd (rMk p.1 x0.toInt)) ∨ (x1.toInt = 0 ∧ ¬ rGd (rMk p.1 x0.toInt))) := (rB2_o (k := 29) rfl).trans ro_29
theorem ro2_30 {K : Nat → Nat} {n : Nat} {p : rP} {x0 : Int32} {x1 : Int64} {σ : Nat → jcell} : rB2 K n p 30 [rI x0, rL x1] σ ↔ (∀ u, 0 ≤ u → u ≤ 63 → (rBt x1 u ↔ rGO p.1 x0.toInt u)) := (rB2_o (k := 30) rfl).trans ro_30
theorem ro2_31 {K : Nat → Nat} {n : Nat} {p : rP} {x0 : Int32} {σ : Nat → jcell} : rB2 K n p 31 [rI x0] σ ↔ (rLm p.1 x0.toInt ∧ rGd (rMk p.1 x0.toInt)) := (rB2_o (k := 31) rfl).trans ro_31
theorem ro2_32 {K : Nat → Nat} {n : Nat} {p : rP} {x0 : Int32} {x1 : Int32} {σ : Nat → jcell} : rB2 K n p 32 [rI x0, rI x1] σ ↔ ((x1.toInt = 1 ∧ rCa p.1 x0.toInt) ∨ (x1.toInt = 0 ∧ ¬ rCa p.1 x0.toInt)) := (rB2_o (k := 32) rfl).trans ro_32
theorem ro2_33 {K : Nat → Nat} {n : Nat} {p : rP} {x0 : Int32} {x1 : Int32} {σ : Nat → jcell} : rB2 K n p 33 [rI x0, rI x1] σ ↔ (∀ j, 56 * p.1.2.1 + (if x0.toInt = 1 then 5 else 1) ≤ j → j < x1.toInt → p.1.1 j = 0) := (rB2_o (k := 33) rfl).trans ro_33
theorem ro2_34 {K : Nat → Nat} {n : Nat} {p : rP} {x0 : Int32} {x1 : Int64} {σ : Nat → jcell} : rB2 K n p 34 [rI x0, rL x1] σ ↔ (p.1.1 x0.toInt % 8 = 6 ∧ ∀ u, 0 ≤ u → u ≤ 63 → (rBt x1 u ↔ rRe p.1.1 (p.1.1 x0.toInt % 8) x0.toInt u ∨ (rCa p.1 1 ∧ u = x0.toInt + 2))) := (rB2_o (k := 34) rfl).trans ro_34
theorem ro2_35 {K : Nat → Nat} {n : Nat} {p : rP} {x0 : Int32} {x1 : Int32} {σ : Nat → jcell} : rB2 K n p 35 [rI x0, rI x1] σ ↔ (x1.toInt = rSp x0.toInt 0 (rUpw p.1)) := (rB2_o (k := 35) rfl).trans ro_35
theorem ro2_36 {K : Nat → Nat} {n : Nat} {p : rP} {x0 : Int32} {x1 : Int32} {σ : Nat → jcell} : rB2 K n p 36 [rI x0, rI x1] σ ↔ (x1.toInt = rSp x0.toInt 0 (rUpw p.1)) := (rB2_o (k := 36) rfl).trans ro_36
theorem ro2_37 {K : Nat → Nat} {n : Nat} {p : rP} {x0 : Int32} {x1 : Int32} {σ : Nat → jcell} : rB2 K n p 37 [rI x0, rI x1] σ ↔ (p.1.1 x0.toInt = x1.toInt) := (rB2_o (k := 37) rfl).trans ro_37
theorem ro2_38 {K : Nat → Nat} {n : Nat} {p : rP} {x0 : Int32} {x1 : Int32} {x2 : Int64} {σ : Nat → jcell} : rB2 K n p 38 [rI x0, rI x1, rL x2] σ ↔ (x1.toInt = rSp x0.toInt 0 (rUpw p.1) ∧ p.1.1 x1.toInt = 0 ∧ ∀ u, 0 ≤ u → u ≤ 63 → (rBt x2 u ↔ u = x1.toInt)) := (rB2_o (k := 38) rfl).trans ro_38
theorem ro2_39 {K : Nat → Nat} {n : Nat} {p : rP} {x0 : Int32} {x1 : Int64} {σ : Nat → jcell} : rB2 K n p 39 [rI x0, rL x1] σ ↔ (∀ u, 0 ≤ u → u ≤ 63 → (rBt x1 u ↔ rPF p.1 x0.toInt u)) := (rB2_o (k := 39) rfl).trans ro_39
theorem ro2_40 {K : Nat → Nat} {n : Nat} {p : rP} {x0 : Int32} {x1 : Int32} {x2 : Int64} {σ : Nat → jcell} : rB2 K n p 40 [rI x0, rI x1, rL x2] σ ↔ ((x1.toInt = -1 ∨ x1.toInt = 1 ∨ x1.toInt = 3) ∧ ∀ u, 0 ≤ u → u ≤ 63 → (rBt x2 u ↔ rPF p.1 x0.toInt u ∨ ∃ f, f < x1.toInt ∧ rPT p.1 x0.toInt f u)) := (rB2_o (k := 40) rfl).trans ro_40
theorem ro2_41 {K : Nat → Nat} {n : Nat} {p : rP} {x0 : Int32} {x1 : Int32} {x2 : Int64} {σ : Nat → jcell} : rB2 K n p 41 [rI x0, rI x1, rL x2] σ ↔ ((x1.toInt = -1 ∨ x1.toInt = 1) ∧ ∀ u, 0 ≤ u → u ≤ 63 → (rBt x2 u ↔ rPF p.1 x0.toInt u ∨ ∃ f, f < x1.toInt + 2 ∧ rPT p.1 x0.toInt f u)) := (rB2_o (k := 41) rfl).trans ro_41
theorem ro2_42 {K : Nat → Nat} {n : Nat} {p : rP} {x0 : Int32} {σ : Nat → jcell} : rB2 K n p 42 [rI x0] σ ↔ (rTk p.1 x0.toInt) := (rB2_o (k := 42) rfl).trans ro_42
theorem ro2_43 {K : Nat → Nat} {n : Nat} {p : rP} {x0 : Int32} {x1 : Int64} {σ : Nat → jcell} : rB2 K n p 43 [rI x0, rL x1] σ ↔ (∀ u, 0 ≤ u → u ≤ 63 → (rBt x1 u ↔ rPG p.1 x0.toInt u)) := (rB2_o (k := 43) rfl).trans ro_43
theorem ro2_45 {K : Nat → Nat} {n : Nat} {p : rP} {x0 : Int32} {σ : Nat → jcell} : rB2 K n p 45 [rI x0] σ ↔ (rHas p.1.2.2.1 ((if x0.toInt = 1 then 1 else 2) * (if p.1.2.1 = 0 then 1 else 4))) := (rB2_o (k := 45) rfl).trans ro_45
theorem ro2_46 {K : Nat → Nat} {n : Nat} {p : rP} {x0 : Int32} {x1 : Int32} {x2 : Int32} {σ : Nat → jcell} : rB2 K n p 46 [rI x0, rI x1, rI x2] σ ↔ (x2.toInt = rSp x0.toInt x1.toInt (rUpw p.1)) := (rB2_o (k := 46) rfl).trans ro_46
theorem ro2_47 {K : Nat → Nat} {n : Nat} {p : rP} {x0 : Int32} {σ : Nat → jcell} : rB2 K n p 47 [rI x0] σ ↔ (¬ p.1.1 x0.toInt % 8 = 1) := (rB2_o (k := 47) rfl).trans ro_47
theorem ro2_48 {K : Nat → Nat} {n : Nat} {p : rP} {x0 : Nat} {x1 : Int32} {σ : Nat → jcell} : rB2 K n p 48 [rR x0, rI x1] σ ↔ (p.2 = none ∧ rUD K n σ x0 3 p.1 x1.toInt) := (rB2_o (k := 48) rfl).trans ro_48
theorem ro2_49 {K : Nat → Nat} {n : Nat} {p : rP} {x0 : Nat} {σ : Nat → jcell} : rB2 K n p 49 [rR x0] σ ↔ (p.2 = none ∧ ∃ c, 1 ≤ c ∧ c ≤ 2048 ∧ rCT K n σ x0 0 c ∧ rLF K n σ x0 0 c p.1) := (rB2_o (k := 49) rfl).trans ro_49
theorem ro2_50 {K : Nat → Nat} {n : Nat} {p : rP} {x0 : Nat} {x1 : Int32} {σ : Nat → jcell} : rB2 K n p 50 [rR x0, rI x1] σ ↔ (∃ M, rMe K n σ x0 M ∧ (p.2 = none ∧ M = rM1 p.1 x1.toInt)) := (rB2_o (k := 50) rfl).trans ro_50
theorem ro2_51 {K : Nat → Nat} {n : Nat} {p : rP} {x0 : Nat} {x1 : Int32} {σ : Nat → jcell} : rB2 K n p 51 [rR x0, rI x1] σ ↔ (∃ M, rMe K n σ x0 M ∧ (p.2 = none ∧ M = rM2 p.1 x1.toInt)) := (rB2_o (k := 51) rfl).trans ro_51
theorem ro2_52 {K : Nat → Nat} {n : Nat} {p : rP} {x0 : Nat} {x1 : Int32} {σ : Nat → jcell} : rB2 K n p 52 [rR x0, rI x1] σ ↔ (∃ M, rMe K n σ x0 M ∧ (p.2 = none ∧ M = rM3 p.1 x1.toInt)) := (rB2_o (k := 52) rfl).trans ro_52
theorem ro2_53 {K : Nat → Nat} {n : Nat} {p : rP} {x0 : Nat} {x1 : Int32} {σ : Nat → jcell} : rB2 K n p 53 [rR x0, rI x1] σ ↔ (∃ M, rMe K n σ x0 M ∧ (p.2 = none ∧ M = rM4 p.1 x1.toInt)) := (rB2_o (k := 53) rfl).trans ro_53
theorem ro2_54 {K : Nat → Nat} {n : Nat} {p : rP} {x0 : Nat} {x1 : Int32} {x2 : Int32} {σ : Nat → jcell} : rB2 K n p 54 [rR x0, rI x1, rI x2] σ ↔ (∃ M, rMe K n σ x0 M ∧ (p.2 = none ∧ M = rM3 p.1 (x1.toInt + 64 * x2.toInt))) := (rB2_o (k := 54) rfl).trans ro_54
theorem ro2_55 {K : Nat → Nat} {n : Nat} {p : rP} {x0 : Nat} {x1 : Int32} {x2 : Int32} {σ : Nat → jcell} : rB2 K n p 55 [rR x0, rI x1, rI x2] σ ↔ (∃ M, rMe K n σ x0 M ∧ (p.2 = none ∧ M = rUp (rM3 p.1 (x1.toInt + 64 * x2.toInt)) (rOv x1.toInt x2.toInt) (rM3 p.1 (x1.toInt + 64 * x2.toInt) (rCo x1.toInt x2.toInt)))) := (rB2_o (k := 55) rfl).trans ro_55
theorem ro2_56 {K : Nat → Nat} {n : Nat} {p : rP} {x0 : Nat} {x1 : Int32} {x2 : Int32} {σ : Nat → jcell} : rB2 K n p 56 [rR x0, rI x1, rI x2] σ ↔ (∃ M, rMe K n σ x0 M ∧ (p.2 = none ∧ M = rM4c p.1 (x1.toInt + 64 * x2.toInt))) := (rB2_o (k := 56) rfl).trans ro_56
theorem ro2_57 {K : Nat → Nat} {n : Nat} {p : rP} {x0 : Nat} {x1 : Int32} {x2 : Int32} {σ : Nat → jcell} : rB2 K n p 57 [rR x0, rI x1, rI x2] σ ↔ (∃ M, rMe K n σ x0 M ∧ (p.2 = none ∧ rIsC p.1 (x1.toInt + 64 * x2.toInt) ∧ M = rT0c p.1 (x1.toInt + 64 * x2.toInt))) := (rB2_o (k := 57) rfl).trans ro_57
theorem ro2_58 {K : Nat → Nat} {n : Nat} {p : rP} {x0 : Nat} {x1 : Int32} {σ : Nat → jcell} : rB2 K n p 58 [rR x0, rI x1] σ ↔ (∃ M, rMe K n σ x0 M ∧ (p.2 = none ∧ M = rT0 p.1 x1.toInt)) := (rB2_o (k := 58) rfl).trans ro_58
theorem ro2_59 {K : Nat → Nat} {n : Nat} {p : rP} {x0 : Nat} {x1 : Int32} {σ : Nat → jcell} : rB2 K n p 59 [rR x0, rI x1] σ ↔ (∃ M, rMe K n σ x0 M ∧ (p.2 = none ∧ M = rT1 p.1 x1.toInt)) := (rB2_o (k := 59) rfl).trans ro_59
theorem ro2_60 {K : Nat → Nat} {n : Nat} {p : rP} {x0 : Nat} {x1 : Int32} {σ : Nat → jcell} : rB2 K n p 60 [rR x0, rI x1] σ ↔ (∃ M, rMe K n σ x0 M ∧ (p.2 = none ∧ M = rT2 p.1 x1.toInt)) := (rB2_o (k := 60) rfl).trans ro_60
theorem ro2_61 {K : Nat → Nat} {n : Nat} {p : rP} {x0 : Nat} {x1 : Int32} {σ : Nat → jcell} : rB2 K n p 61 [rR x0, rI x1] σ ↔ (∃ M, rMe K n σ x0 M ∧ (p.2 = none ∧ M = rT3 p.1 x1.toInt)) := (rB2_o (k := 61) rfl).trans ro_61
theorem ro2_62 {K : Nat → Nat} {n : Nat} {p : rP} {x0 : Nat} {x1 : Int32} {x2 : Int32} {σ : Nat → jcell} : rB2 K n p 62 [rR x0, rI x1, rI x2] σ ↔ (∃ M, rMe K n σ x0 M ∧ (p.2 = none ∧ rIsC p.1 (x1.toInt + 64 * x2.toInt) ∧ M = rM4c p.1 (x1.toInt + 64 * x2.toInt))) := (rB2_o (k := 62) rfl).trans ro_62
theorem ro2_63 {K : Nat → Nat} {n : Nat} {p : rP} {x0 : Nat} {x1 : Int32} {x2 : Int32} {σ : Nat → jcell} : rB2 K n p 63 [rR x0, rI x1, rI x2] σ ↔ (∃ M, rMe K n σ x0 M ∧ (p.2 = none ∧ rIsC p.1 (x1.toInt + 64 * x2.toInt) ∧ M = rUp (rM4c p.1 (x1.toInt + 64 * x2.toInt)) (rCo x1.toInt x2.toInt) (rM4c p.1 (x1.toInt + 64 * x2.toInt) (rOv x1.toInt x2.toInt)))) := (rB2_o (k := 63) rfl).trans ro_63
theorem ro2_64 {K : Nat → Nat} {n : Nat} {p : rP} {x0 : Int32} {x1 : Int32} {σ : Nat → jcell} : rB2 K n p 64 [rI x0, rI x1] σ ↔ (x1.toInt = rWh p.1 x0.toInt) := (rB2_o (k := 64) rfl).trans ro_64
theorem ro2_65 {K : Nat → Nat} {n : Nat} {p : rP} {x0 : Int32} {x1 : Int32} {σ : Nat → jcell} : rB2 K n p 65 [rI x0, rI x1] σ ↔ (x1.toInt = p.1.1 (rFr x0.toInt)) := (rB2_o (k := 65) rfl).trans ro_65
theorem ro2_66 {K : Nat → Nat} {n : Nat} {p : rP} {x0 : Int32} {x1 : Int32} {σ : Nat → jcell} : rB2 K n p 66 [rI x0, rI x1] σ ↔ (x1.toInt = p.1.1 (rWh p.1 x0.toInt)) := (rB2_o (k := 66) rfl).trans ro_66
theorem ro2_67 {K : Nat → Nat} {n : Nat} {p : rP} {x0 : Int32} {σ : Nat → jcell} : rB2 K n p 67 [rI x0] σ ↔ (x0.toInt = p.1.2.1) := (rB2_o (k := 67) rfl).trans ro_67
theorem ro2_68 {K : Nat → Nat} {n : Nat} {p : rP} {x0 : Int32} {σ : Nat → jcell} : rB2 K n p 68 [rI x0] σ ↔ (x0.toInt = p.1.2.2.1) := (rB2_o (k := 68) rfl).trans ro_68
theorem ro2_69 {K : Nat → Nat} {n : Nat} {p : rP} {x0 : Int32} {σ : Nat → jcell} : rB2 K n p 69 [rI x0] σ ↔ (x0.toInt = p.1.2.2.2) := (rB2_o (k := 69) rfl).trans ro_69
theorem ro2_70 {K : Nat → Nat} {n : Nat} {p : rP} {x0 : Int32} {x1 : Int32} {σ : Nat → jcell} : rB2 K n p 70 [rI x0, rI x1] σ ↔ (x1.toInt = rAn (rAn p.1.2.2.1 (rLo (rFr x0.toInt))) (rLo (rTo x0.toInt))) := (rB2_o (k := 70) rfl).trans ro_70
theorem ro2_71 {K : Nat → Nat} {n : Nat} {p : rP} {x0 : Int32} {x1 : Int32} {σ : Nat → jcell} : rB2 K n p 71 [rI x0, rI x1] σ ↔ (x1.toInt = rNp p.1 x0.toInt) := (rB2_o (k := 71) rfl).trans ro_71
theorem ro2_72 {K : Nat → Nat} {n : Nat} {p : rP} {x0 : Int32} {σ : Nat → jcell} : rB2 K n p 72 [rI x0] σ ↔ (¬ rNbr (rM4 p.1 x0.toInt) (rTo x0.toInt) (-1) (1 + 8 * (1 - p.1.2.1))) := (rB2_o (k := 72) rfl).trans ro_72
theorem ro2_73 {K : Nat → Nat} {n : Nat} {p : rP} {x0 : Int32} {x1 : Int32} {σ : Nat → jcell} : rB2 K n p 73 [rI x0, rI x1] σ ↔ (rCB p.1 x0.toInt 0 x1.toInt) := (rB2_o (k := 73) rfl).trans ro_73
theorem ro2_74 {K : Nat → Nat} {n : Nat} {p : rP} {x0 : Int32} {x1 : Int32} {x2 : Int32} {σ : Nat → jcell} : rB2 K n p 74 [rI x0, rI x1, rI x2] σ ↔ (rCB p.1 x0.toInt x1.toInt x2.toInt) := (rB2_o (k := 74) rfl).trans ro_74
theorem ro2_75 {K : Nat → Nat} {n : Nat} {p : rP} {x0 : Int32} {x1 : Int32} {x2 : Int32} {x3 : Int32} {σ : Nat → jcell} : rB2 K n p 75 [rI x0, rI x1, rI x2, rI x3] σ ↔ (rCJ p.1 x0.toInt x1.toInt x2.toInt x3.toInt) := (rB2_o (k := 75) rfl).trans ro_75
theorem ro2_76 {K : Nat → Nat} {n : Nat} {p : rP} {x0 : Nat} {x1 : Int32} {x2 : Int32} {σ : Nat → jcell} : rB2 K n p 76 [rR x0, rI x1, rI x2] σ ↔ (p.2 = none ∧ x2.toInt ≤ 2048 ∧ rLF K n σ x0 x1.toInt x2.toInt p.1) := (rB2_o (k := 76) rfl).trans ro_76
theorem ro2_77_3 {K : Nat → Nat} {n : Nat} {p : rP} {x0 : Nat} {x1 : Int32} {x2 : Int32} {σ : Nat → jcell} : rB2 K n p 77 [rR x0, rI x1, rI x2] σ ↔ (p.2 = none ∧ x2.toInt ≤ 2048 ∧ rLF K n σ x0 x1.toInt (x2.toInt + 1) p.1) := (rB2_o (k := 77) rfl).trans ro_77_3
theorem ro2_77_4 {K : Nat → Nat} {n : Nat} {p : rP} {x0 : Nat} {x1 : Int32} {x2 : Int32} {x3 : Int32} {σ : Nat → jcell} : rB2 K n p 77 [rR x0, rI x1, rI x2, rI x3] σ ↔ (p.2 = none ∧ x2.toInt ≤ 2048 ∧ rLF K n σ x0 (x1.toInt + 1) x2.toInt p.1) := (rB2_o (k := 77) rfl).trans ro_77_4
theorem ro2_78 {K : Nat → Nat} {n : Nat} {p : rP} {x0 : Int32} {σ : Nat → jcell} : rB2 K n p 78 [rI x0] σ ↔ (x0.toInt = 0 → ∀ m, rLm p.1 m → ¬ rGd (rMk p.1 m)) := (rB2_o (k := 78) rfl).trans ro_78
theorem ro2_79 {K : Nat → Nat} {n : Nat} {p : rP} {x0 : Int32} {x1 : Int32} {σ : Nat → jcell} : rB2 K n p 79 [rI x0, rI x1] σ ↔ ((x1.toInt = 1 ∧ p.1.1 (rFr x0.toInt) % 8 = 1) ∨ (x1.toInt = 0 ∧ ¬ p.1.1 (rFr x0.toInt) % 8 = 1)) := (rB2_o (k := 79) rfl).trans ro_79
theorem ro2_80 {K : Nat → Nat} {n : Nat} {p : rP} {x0 : Nat} {x1 : Int32} {σ : Nat → jcell} : rB2 K n p 80 [rR x0, rI x1] σ ↔ (p.2 = none ∧ x1.toInt ≤ 2048 ∧ rLF K n σ x0 1 x1.toInt p.1) := (rB2_o (k := 80) rfl).trans ro_80
theorem ro2_81 {K : Nat → Nat} {n : Nat} {p : rP} {x0 : Int32} {x1 : Int32} {σ : Nat → jcell} : rB2 K n p 81 [rI x0, rI x1] σ ↔ (x1.toInt = 1 - p.1.2.1) := (rB2_o (k := 81) rfl).trans ro_81
theorem ro2_82 {K : Nat → Nat} {n : Nat} {p : rP} {x0 : Int32} {x1 : Int32} {σ : Nat → jcell} : rB2 K n p 82 [rI x0, rI x1] σ ↔ (0 ≤ p.1.2.1 ∧ p.1.2.1 ≤ 1 ∧ ((x1.toInt = 1 ∧ rOwn p.1 x0.toInt) ∨ (x1.toInt = 0 ∧ ¬ rOwn p.1 x0.toInt))) := (rB2_o (k := 82) rfl).trans ro_82
theorem ro2_83 {K : Nat → Nat} {n : Nat} {p : rP} {x0 : Int32} {x1 : Int64} {σ : Nat → jcell} : rB2 K n p 83 [rI x0, rL x1] σ ↔ (∀ u, 0 ≤ u → u ≤ 63 → (rBt x1 u ↔ rOwn p.1 x0.toInt ∧ rGO p.1 x0.toInt u)) := (rB2_o (k := 83) rfl).trans ro_83
theorem ro2_84 {K : Nat → Nat} {n : Nat} {p : rP} {x0 : Int32} {x1 : Int32} {x2 : Int32} {σ : Nat → jcell} : rB2 K n p 84 [rI x0, rI x1, rI x2] σ ↔ (rCB p.1 x0.toInt (x1.toInt + 1) x2.toInt) := (rB2_o (k := 84) rfl).trans ro_84
theorem ro2_85 {K : Nat → Nat} {n : Nat} {p : rP} {x0 : Int32} {x1 : Int32} {σ : Nat → jcell} : rB2 K n p 85 [rI x0, rI x1] σ ↔ (rCB p.1 (x0.toInt + 1) 0 x1.toInt) := (rB2_o (k := 85) rfl).trans ro_85
theorem ro2_86 {K : Nat → Nat} {n : Nat} {p : rP} {x0 : Int32} {x1 : Int32} {x2 : Int32} {σ : Nat → jcell} : rB2 K n p 86 [rI x0, rI x1, rI x2] σ ↔ ((x2.toInt = 1 ∧ rLs p.1 x0.toInt x1.toInt) ∨ (x2.toInt = 0 ∧ ¬ rLs p.1 x0.toInt x1.toInt)) := (rB2_o (k := 86) rfl).trans ro_86
theorem ro2_87 {K : Nat → Nat} {n : Nat} {p : rP} {x0 : Int32} {x1 : Int32} {x2 : Int32} {x3 : Int32} {σ : Nat → jcell} : rB2 K n p 87 [rI x0, rI x1, rI x2, rI x3] σ ↔ (rCJ p.1 x0.toInt x1.toInt (x2.toInt + 1) x3.toInt) := (rB2_o (k := 87) rfl).trans ro_87
theorem ro2_88 {K : Nat → Nat} {n : Nat} {p : rP} {x0 : Nat} {x1 : Int32} {x2 : Int32} {σ : Nat → jcell} : rB2 K n p 88 [rR x0, rI x1, rI x2] σ ↔ (rEN K n σ x0 x1.toInt x2.toInt p.1.1) := (rB2_o (k := 88) rfl).trans ro_88
theorem ro2_89 {K : Nat → Nat} {n : Nat} {p : rP} {x0 : Nat} {x1 : Int32} {x2 : Int32} {σ : Nat → jcell} : rB2 K n p 89 [rR x0, rI x1, rI x2] σ ↔ (rEN K n σ x0 x1.toInt (x2.toInt + 1) p.1.1) := (rB2_o (k := 89) rfl).trans ro_89
theorem ro2_90 {K : Nat → Nat} {n : Nat} {p : rP} {x0 : Nat} {x1 : Int32} {σ : Nat → jcell} : rB2 K n p 90 [rR x0, rI x1] σ ↔ (p.2 = none ∧ rAP K n σ x0 x1.toInt p.1) := (rB2_o (k := 90) rfl).trans ro_90
theorem ro2_91 {K : Nat → Nat} {n : Nat} {p : rP} {x0 : Nat} {x1 : Int32} {σ : Nat → jcell} : rB2 K n p 91 [rR x0, rI x1] σ ↔ (p.2 = none ∧ ∃ c, c ≤ 2048 ∧ rCT K n σ x0 x1.toInt c ∧ rLF K n σ x0 x1.toInt c p.1) := (rB2_o (k := 91) rfl).trans ro_91
theorem ro2_92 {K : Nat → Nat} {n : Nat} {p : rP} {x0 : Nat} {x1 : Int32} {x2 : Int32} {σ : Nat → jcell} : rB2 K n p 92 [rR x0, rI x1, rI x2] σ ↔ (p.2 = none ∧ x2.toInt ≤ 2048 ∧ rCT K n σ x0 x1.toInt x2.toInt ∧ rLF K n σ x0 x1.toInt x2.toInt p.1) := (rB2_o (k := 92) rfl).trans ro_92
theorem ro2_93 {K : Nat → Nat} {n : Nat} {p : rP} {x0 : Int32} {σ : Nat → jcell} : rB2 K n p 93 [rI x0] σ ↔ (rLm p.1 x0.toInt ∧ rGd (rSh rS1 p [rR 0, rI (Int32.ofInt x0.toInt)]).1) := (rB2_o (k := 93) rfl).trans ro_93
theorem ro2_94 {K : Nat → Nat} {n : Nat} {p : rP} {x0 : Nat} {σ : Nat → jcell} : rB2 K n p 94 [rR x0] σ ↔ (∃ v : Int32, rOb K n σ x0 88 25 (rI v) ∧ rLm p.1 v.toInt ∧ rGd (rSh rS1 p [rR 0, rI (Int32.ofInt v.toInt)]).1) := (rB2_o (k := 94) rfl).trans ro_94
theorem ro2_95 {K : Nat → Nat} {n : Nat} {p : rP}  {σ : Nat → jcell} : rB2 K n p 95 [] σ ↔ (∃ m, rLm p.1 m ∧ rGd (rMk p.1 m)) := (rB2_o (k := 95) rfl).trans ro_95
theorem ro2_96 {K : Nat → Nat} {n : Nat} {p : rP} {x0 : Nat} {x1 : Int32} {σ : Nat → jcell} : rB2 K n p 96 [rR x0, rI x1] σ ↔ (∃ g a, (rRw K n σ x0 105 4 g ∨ rRw K n σ x0 107 4 g) ∧ rLn a p g 0 x1.toInt.toNat) := (rB2_o (k := 96) rfl).trans ro_96
theorem ro2_97_3 {K : Nat → Nat} {n : Nat} {p : rP} {x0 : Nat} {x1 : Int32} {x2 : Int32} {σ : Nat → jcell} : rB2 K n p 97 [rR x0, rI x1, rI x2] σ ↔ (∃ g, rRo K n σ x0 88 33 107 4 g ∧ rLn x0 p g x1.toInt.toNat x2.toInt.toNat) := (rB2_o (k := 97) rfl).trans ro_97_3
theorem ro2_97_4 {K : Nat → Nat} {n : Nat} {p : rP} {x0 : Nat} {x1 : Int32} {x2 : Int32} {x3 : Int32} {σ : Nat → jcell} : rB2 K n p 97 [rR x0, rI x1, rI x2, rI x3] σ ↔ (x3.toInt = 1 → ∃ g, rRo K n σ x0 88 33 107 4 g ∧ rLn x0 p g x1.toInt.toNat x2.toInt.toNat) := (rB2_o (k := 97) rfl).trans ro_97_4
theorem ro2_98 {K : Nat → Nat} {n : Nat} {p : rP} {x0 : Nat} {x1 : Int32} {σ : Nat → jcell} : rB2 K n p 98 [rR x0, rI x1] σ ↔ (p.2 = none ∧ x1.toInt ≤ 2048 ∧ rCT K n σ x0 0 x1.toInt ∧ rLF K n σ x0 0 x1.toInt p.1) := (rB2_o (k := 98) rfl).trans ro_98
theorem ro2_99 {K : Nat → Nat} {n : Nat} {p : rP} {x0 : Nat} {x1 : Int32} {σ : Nat → jcell} : rB2 K n p 99 [rR x0, rI x1] σ ↔ (p.2 = none ∧ x1.toInt ≤ 2048 ∧ rLF K n σ x0 0 x1.toInt p.1) := (rB2_o (k := 99) rfl).trans ro_99
theorem ro2_100 {K : Nat → Nat} {n : Nat} {p : rP} {x0 : jv} {x1 : jv} {x2 : jv} {σ : Nat → jcell} : rB2 K n p 100 [x0, x1, x2] σ ↔ (aOv 0 x0 x1 x2) := (rB2_o (k := 100) rfl).trans ro_100
theorem ro2_101 {K : Nat → Nat} {n : Nat} {p : rP} {x0 : jv} {x1 : jv} {x2 : jv} {σ : Nat → jcell} : rB2 K n p 101 [x0, x1, x2] σ ↔ (aOv 1 x0 x1 x2) := (rB2_o (k := 101) rfl).trans ro_101
theorem ro2_102 {K : Nat → Nat} {n : Nat} {p : rP} {x0 : jv} {x1 : jv} {x2 : jv} {σ : Nat → jcell} : rB2 K n p 102 [x0, x1, x2] σ ↔ (aOv 2 x0 x1 x2) := (rB2_o (k := 102) rfl).trans ro_102
theorem ro2_103 {K : Nat → Nat} {n : Nat} {p : rP} {x0 : jv} {x1 : jv} {x2 : jv} {σ : Nat → jcell} : rB2 K n p 103 [x0, x1, x2] σ ↔ (aOv 3 x0 x1 x2) := (rB2_o (k := 103) rfl).trans ro_103
theorem ro2_104 {K : Nat → Nat} {n : Nat} {p : rP} {x0 : jv} {x1 : jv} {x2 : jv} {σ : Nat → jcell} : rB2 K n p 104 [x0, x1, x2] σ ↔ (aOv 4 x0 x1 x2) := (rB2_o (k := 104) rfl).trans ro_104
theorem ro2_105 {K : Nat → Nat} {n : Nat} {p : rP} {x0 : jv} {x1 : jv} {x2 : jv} {σ : Nat → jcell} : rB2 K n p 105 [x0, x1, x2] σ ↔ (aOv 5 x0 x1 x2) := (rB2_o (k := 105) rfl).trans ro_105
theorem ro2_106 {K : Nat → Nat} {n : Nat} {p : rP} {x0 : jv} {x1 : jv} {x2 : jv} {σ : Nat → jcell} : rB2 K n p 106 [x0, x1, x2] σ ↔ (aOv 6 x0 x1 x2) := (rB2_o (k := 106) rfl).trans ro_106
theorem ro2_107 {K : Nat → Nat} {n : Nat} {p : rP} {x0 : jv} {x1 : jv} {x2 : jv} {σ : Nat → jcell} : rB2 K n p 107 [x0, x1, x2] σ ↔ (aOv 7 x0 x1 x2) := (rB2_o (k := 107) rfl).trans ro_107
theorem ro2_108 {K : Nat → Nat} {n : Nat} {p : rP} {x0 : jv} {x1 : jv} {x2 : jv} {σ : Nat → jcell} : rB2 K n p 108 [x0, x1, x2] σ ↔ (aOv 8 x0 x1 x2) := (rB2_o (k := 108) rfl).trans ro_108
theorem ro2_109 {K : Nat → Nat} {n : Nat} {p : rP} {x0 : jv} {x1 : jv} {x2 : jv} {σ : Nat → jcell} : rB2 K n p 109 [x0, x1, x2] σ ↔ (aOv 9 x0 x1 x2) := (rB2_o (k := 109) rfl).trans ro_109
theorem ro2_110 {K : Nat → Nat} {n : Nat} {p : rP} {x0 : jv} {x1 : jv} {x2 : jv} {σ : Nat → jcell} : rB2 K n p 110 [x0, x1, x2] σ ↔ (aOv 10 x0 x1 x2) := (rB2_o (k := 110) rfl).trans ro_110
theorem ro2_111 {K : Nat → Nat} {n : Nat} {p : rP} {x0 : jv} {x1 : jv} {x2 : jv} {σ : Nat → jcell} : rB2 K n p 111 [x0, x1, x2] σ ↔ (aOv 11 x0 x1 x2) := (rB2_o (k := 111) rfl).trans ro_111
theorem ro2_112 {K : Nat → Nat} {n : Nat} {p : rP} {x0 : jv} {x1 : jv} {x2 : jv} {σ : Nat → jcell} : rB2 K n p 112 [x0, x1, x2] σ ↔ (aOv 12 x0 x1 x2) := (rB2_o (k := 112) rfl).trans ro_112
theorem ro2_113 {K : Nat → Nat} {n : Nat} {p : rP} {x0 : jv} {x1 : jv} {x2 : jv} {σ : Nat → jcell} : rB2 K n p 113 [x0, x1, x2] σ ↔ (aOv 13 x0 x1 x2) := (rB2_o (k := 113) rfl).trans ro_113
theorem ro2_114 {K : Nat → Nat} {n : Nat} {p : rP} {x0 : jv} {x1 : jv} {x2 : jv} {σ : Nat → jcell} : rB2 K n p 114 [x0, x1, x2] σ ↔ (aOv 14 x0 x1 x2) := (rB2_o (k := 114) rfl).trans ro_114
theorem ro2_115 {K : Nat → Nat} {n : Nat} {p : rP} {x0 : jv} {x1 : jv} {x2 : jv} {σ : Nat → jcell} : rB2 K n p 115 [x0, x1, x2] σ ↔ (aOv 15 x0 x1 x2) := (rB2_o (k := 115) rfl).trans ro_115
theorem ro2_116 {K : Nat → Nat} {n : Nat} {p : rP} {x0 : jv} {x1 : jv} {x2 : jv} {σ : Nat → jcell} : rB2 K n p 116 [x0, x1, x2] σ ↔ (aOv 16 x0 x1 x2) := (rB2_o (k := 116) rfl).trans ro_116
theorem ro2_117 {K : Nat → Nat} {n : Nat} {p : rP} {x0 : jv} {x1 : jv} {x2 : jv} {σ : Nat → jcell} : rB2 K n p 117 [x0, x1, x2] σ ↔ (aOv 17 x0 x1 x2) := (rB2_o (k := 117) rfl).trans ro_117
theorem ro2_120 {K : Nat → Nat} {n : Nat} {p : rP} {x0 : Int32} {x1 : Int32} {x2 : Int32} {x3 : Int32} {σ : Nat → jcell} : rB2 K n p 120 [rI x0, rI x1, rI x2, rI x3] σ ↔ (x3.toInt = rSp x0.toInt x1.toInt x2.toInt) := (rB2_o (k := 120) rfl).trans ro_120
theorem ro2_121 {K : Nat → Nat} {n : Nat} {p : rP} {x0 : Int32} {x1 : Int32} {x2 : Int32} {σ : Nat → jcell} : rB2 K n p 121 [rI x0, rI x1, rI x2] σ ↔ ((x2.toInt = 1 ∧ 0 ≤ x0.toInt ∧ x0.toInt ≤ 7 ∧ 0 ≤ x1.toInt ∧ x1.toInt ≤ 7) ∨ (x2.toInt = 0 ∧ ¬ (0 ≤ x0.toInt ∧ x0.toInt ≤ 7 ∧ 0 ≤ x1.toInt ∧ x1.toInt ≤ 7))) := (rB2_o (k := 121) rfl).trans ro_121
theorem ro2_122 {K : Nat → Nat} {n : Nat} {p : rP} {x0 : Nat} {x1 : Int32} {x2 : Int32} {x3 : Int32} {σ : Nat → jcell} : rB2 K n p 122 [rR x0, rI x1, rI x2, rI x3] σ ↔ (∃ M, rMe K n σ x0 M ∧ ((x3.toInt = 1 ∧ 0 ≤ x1.toInt ∧ M x1.toInt = x2.toInt) ∨ (x3.toInt = 0 ∧ ¬ (0 ≤ x1.toInt ∧ M x1.toInt = x2.toInt)))) := (rB2_o (k := 122) rfl).trans ro_122
theorem ro2_123 {K : Nat → Nat} {n : Nat} {p : rP} {x0 : Nat} {x1 : Int32} {x2 : Int32} {x3 : Int32} {x4 : Int32} {σ : Nat → jcell} : rB2 K n p 123 [rR x0, rI x1, rI x2, rI x3, rI x4] σ ↔ (∃ M, rMe K n σ x0 M ∧ (∀ m, rGf M x2.toInt x3.toInt x4.toInt m → rGf M x2.toInt x3.toInt (rSp x1.toInt x2.toInt x3.toInt) m)) := (rB2_o (k := 123) rfl).trans ro_123
theorem ro2_124 {K : Nat → Nat} {n : Nat} {p : rP} {x0 : Nat} {x1 : Int32} {x2 : Int32} {x3 : Int32} {x4 : Int32} {σ : Nat → jcell} : rB2 K n p 124 [rR x0, rI x1, rI x2, rI x3, rI x4] σ ↔ (∃ M, rMe K n σ x0 M ∧ (∀ m, rGf M x2.toInt x3.toInt (rSp x4.toInt x2.toInt x3.toInt) m → rGf M x2.toInt x3.toInt (rSp x1.toInt x2.toInt x3.toInt) m)) := (rB2_o (k := 124) rfl).trans ro_124
theorem ro2_125 {K : Nat → Nat} {n : Nat} {p : rP} {x0 : Nat} {x1 : Int32} {x2 : Int32} {x3 : Int32} {x4 : Int32} {σ : Nat → jcell} : rB2 K n p 125 [rR x0, rI x1, rI x2, rI x3, rI x4] σ ↔ (∃ M, rMe K n σ x0 M ∧ (rGf M x2.toInt x3.toInt (rSp x1.toInt x2.toInt x3.toInt) x4.toInt)) := (rB2_o (k := 125) rfl).trans ro_125
theorem ro2_126 {K : Nat → Nat} {n : Nat} {p : rP} {x0 : Nat} {x1 : Int32} {x2 : Int32} {σ : Nat → jcell} : rB2 K n p 126 [rR x0, rI x1, rI x2] σ ↔ (∃ M, rMe K n σ x0 M ∧ (¬ rP1 M x1.toInt x2.toInt (-1))) := (rB2_o (k := 126) rfl).trans ro_126
theorem ro2_127 {K : Nat → Nat} {n : Nat} {p : rP} {x0 : Nat} {x1 : Int32} {x2 : Int32} {σ : Nat → jcell} : rB2 K n p 127 [rR x0, rI x1, rI x2] σ ↔ (∃ M, rMe K n σ x0 M ∧ (¬ rP1 M x1.toInt x2.toInt (-1) ∧ ¬ rP1 M x1.toInt x2.toInt 1)) := (rB2_o (k := 127) rfl).trans ro_127
theorem ro2_128 {K : Nat → Nat} {n : Nat} {p : rP} {x0 : Nat} {x1 : Int32} {x2 : Int32} {x3 : Int32} {σ : Nat → jcell} : rB2 K n p 128 [rR x0, rI x1, rI x2, rI x3] σ ↔ (∃ M, rMe K n σ x0 M ∧ (¬ rP1 M x1.toInt x2.toInt (-1) ∧ ¬ rP1 M x1.toInt x2.toInt 1 ∧ ∀ f r, -2 ≤ f → f < x3.toInt → -2 ≤ r → r ≤ 2 → ¬ rA1 M x1.toInt x2.toInt f r)) := (rB2_o (k := 128) rfl).trans ro_128
theorem ro2_129 {K : Nat → Nat} {n : Nat} {p : rP} {x0 : Nat} {x1 : Int32} {x2 : Int32} {x3 : Int32} {x4 : Int32} {σ : Nat → jcell} : rB2 K n p 129 [rR x0, rI x1, rI x2, rI x3, rI x4] σ ↔ (∃ M, rMe K n σ x0 M ∧ (¬ rP1 M x1.toInt x2.toInt (-1) ∧ ¬ rP1 M x1.toInt x2.toInt 1 ∧ (∀ f r, -2 ≤ f → f < x3.toInt → -2 ≤ r → r ≤ 2 → ¬ rA1 M x1.toInt x2.toInt f r) ∧ ∀ r, -2 ≤ r → r < x4.toInt → ¬ rA1 M x1.toInt x2.toInt x3.toInt r)) := (rB2_o (k := 129) rfl).trans ro_129
theorem ro2_130 {K : Nat → Nat} {n : Nat} {p : rP} {x0 : Nat} {x1 : Int32} {x2 : Int32} {x3 : Int32} {x4 : Int32} {σ : Nat → jcell} : rB2 K n p 130 [rR x0, rI x1, rI x2, rI x3, rI x4] σ ↔ (∃ M, rMe K n σ x0 M ∧ (¬ rP1 M x1.toInt x2.toInt (-1) ∧ ¬ rP1 M x1.toInt x2.toInt 1 ∧ (∀ f r, -2 ≤ f → f < x3.toInt → -2 ≤ r → r ≤ 2 → ¬ rA1 M x1.toInt x2.toInt f r) ∧ ∀ r, -2 ≤ r → r < x4.toInt + 1 → ¬ rA1 M x1.toInt x2.toInt x3.toInt r)) := (rB2_o (k := 130) rfl).trans ro_130
theorem ro2_131 {K : Nat → Nat} {n : Nat} {p : rP} {x0 : Nat} {x1 : Int32} {x2 : Int32} {σ : Nat → jcell} : rB2 K n p 131 [rR x0, rI x1, rI x2] σ ↔ (∃ M, rMe K n σ x0 M ∧ (rAk M x1.toInt x2.toInt)) := (rB2_o (k := 131) rfl).trans ro_131
theorem ro2_132 {K : Nat → Nat} {n : Nat} {p : rP} {x0 : Nat} {x1 : Int32} {x2 : Int32} {x3 : Int32} {σ : Nat → jcell} : rB2 K n p 132 [rR x0, rI x1, rI x2, rI x3] σ ↔ (∃ M, rMe K n σ x0 M ∧ ((x3.toInt = 1 ∧ rAk M x1.toInt x2.toInt) ∨ (x3.toInt = 0 ∧ ¬ rAk M x1.toInt x2.toInt))) := (rB2_o (k := 132) rfl).trans ro_132
theorem ro2_133 {K : Nat → Nat} {n : Nat} {p : rP} {x0 : Int32} {x1 : Int32} {σ : Nat → jcell} : rB2 K n p 133 [rI x0, rI x1] σ ↔ (¬ x0.toInt = x1.toInt + 5) := (rB2_o (k := 133) rfl).trans ro_133
theorem ro2_134 {K : Nat → Nat} {n : Nat} {p : rP} {x0 : Int32} {x1 : Int32} {x2 : Int32} {σ : Nat → jcell} : rB2 K n p 134 [rI x0, rI x1, rI x2] σ ↔ ((x2.toInt = 1 → ¬ x0.toInt = x1.toInt + 4) ∧ (x2.toInt = 2 → ¬ x0.toInt = x1.toInt + 3)) := (rB2_o (k := 134) rfl).trans ro_134
theorem ro2_135 {K : Nat → Nat} {n : Nat} {p : rP} {x0 : Int32} {x1 : Int32} {σ : Nat → jcell} : rB2 K n p 135 [rI x0, rI x1] σ ↔ (True) := (rB2_o (k := 135) rfl).trans ro_135
theorem ro2_136 {K : Nat → Nat} {n : Nat} {p : rP} {x0 : Int32} {σ : Nat → jcell} : rB2 K n p 136 [rI x0] σ ↔ (True) := (rB2_o (k := 136) rfl).trans ro_136
theorem ro2_137 {K : Nat → Nat} {n : Nat} {p : rP} {x0 : Nat} {x1 : Int32} {x2 : Int32} {σ : Nat → jcell} : rB2 K n p 137 [rR x0, rI x1, rI x2] σ ↔ (∃ M, rMe K n σ x0 M ∧ (∀ j, 0 ≤ j → j < x2.toInt → ¬ M j = 8 * x1.toInt + 6)) := (rB2_o (k := 137) rfl).trans ro_137
theorem ro2_138 {K : Nat → Nat} {n : Nat} {p : rP} {x0 : Nat} {x1 : Int32} {x2 : Int32} {σ : Nat → jcell} : rB2 K n p 138 [rR x0, rI x1, rI x2] σ ↔ (∃ M, rMe K n σ x0 M ∧ (rKg M x1.toInt x2.toInt)) := (rB2_o (k := 138) rfl).trans ro_138
theorem ro2_139 {K : Nat → Nat} {n : Nat} {p : rP} {x0 : Nat} {σ : Nat → jcell} : rB2 K n p 139 [rR x0] σ ↔ (∃ M, rMe K n σ x0 M ∧ (rKs M)) := (rB2_o (k := 139) rfl).trans ro_139
theorem ro2_140 {K : Nat → Nat} {n : Nat} {p : rP} {x0 : Nat} {x1 : Int32} {x2 : Int32} {σ : Nat → jcell} : rB2 K n p 140 [rR x0, rI x1, rI x2] σ ↔ (∃ M, rMe K n σ x0 M ∧ (∃ s, rKg M x1.toInt s ∧ ((x2.toInt = 1 ∧ rAk M s (1 - x1.toInt)) ∨ (x2.toInt = 0 ∧ ¬ rAk M s (1 - x1.toInt))))) := (rB2_o (k := 140) rfl).trans ro_140
theorem ro2_141 {K : Nat → Nat} {n : Nat} {p : rP} {x0 : Int32} {x1 : Int64} {σ : Nat → jcell} : rB2 K n p 141 [rI x0, rL x1] σ ↔ (∀ u, 0 ≤ u → u ≤ 63 → (rBt x1 u ↔ u = x0.toInt)) := (rB2_o (k := 141) rfl).trans ro_141
theorem ro2_142 {K : Nat → Nat} {n : Nat} {p : rP} {x0 : Nat} {x1 : Int32} {x2 : Int32} {x3 : Int32} {x4 : Int32} {x5 : Int64} {σ : Nat → jcell} : rB2 K n p 142 [rR x0, rI x1, rI x2, rI x3, rI x4, rL x5] σ ↔ (∃ M, rMe K n σ x0 M ∧ (∀ u, 0 ≤ u → u ≤ 63 → (rWf M x2.toInt x3.toInt (rSp x1.toInt x2.toInt x3.toInt) u ↔ rBt x5 u ∨ rWf M x2.toInt x3.toInt x4.toInt u))) := (rB2_o (k := 142) rfl).trans ro_142
theorem ro2_143 {K : Nat → Nat} {n : Nat} {p : rP} {x0 : Nat} {x1 : Int32} {x2 : Int32} {x3 : Int32} {x4 : Int32} {x5 : Int64} {σ : Nat → jcell} : rB2 K n p 143 [rR x0, rI x1, rI x2, rI x3, rI x4, rL x5] σ ↔ (∃ M, rMe K n σ x0 M ∧ (∀ u, 0 ≤ u → u ≤ 63 → (rWf M x2.toInt x3.toInt (rSp x1.toInt x2.toInt x3.toInt) u ↔ rBt x5 u ∨ (M x4.toInt = 0 ∧ rWf M x2.toInt x3.toInt (rSp x4.toInt x2.toInt x3.toInt) u)))) := (rB2_o (k := 143) rfl).trans ro_143
theorem ro2_144 {K : Nat → Nat} {n : Nat} {p : rP} {x0 : Nat} {x1 : Int32} {x2 : Int32} {x3 : Int32} {x4 : Int64} {σ : Nat → jcell} : rB2 K n p 144 [rR x0, rI x1, rI x2, rI x3, rL x4] σ ↔ (∃ M, rMe K n σ x0 M ∧ (∀ u, 0 ≤ u → u ≤ 63 → (rWf M x2.toInt x3.toInt (rSp x1.toInt x2.toInt x3.toInt) u ↔ rBt x4 u))) := (rB2_o (k := 144) rfl).trans ro_144
theorem ro2_145 {K : Nat → Nat} {n : Nat} {p : rP} {x0 : Nat} {x1 : Int32} {x2 : Int32} {σ : Nat → jcell} : rB2 K n p 145 [rR x0, rI x1, rI x2] σ ↔ (∃ M, rMe K n σ x0 M ∧ (∀ j, 0 ≤ j → j < x2.toInt + 1 → ¬ M j = 8 * x1.toInt + 6)) := (rB2_o (k := 145) rfl).trans ro_145
theorem ro2_146 {K : Nat → Nat} {n : Nat} {p : rP} {x0 : Nat} {x1 : Int32} {x2 : Int32} {x3 : Int32} {x4 : Int32} {x5 : Int64} {σ : Nat → jcell} : rB2 K n p 146 [rR x0, rI x1, rI x2, rI x3, rI x4, rL x5] σ ↔ (∃ M, rMe K n σ x0 M ∧ (∀ u, 0 ≤ u → u ≤ 63 → (rWf M x2.toInt x3.toInt (rSp x1.toInt x2.toInt x3.toInt) u ↔ rBt x5 u ∨ rWf M x2.toInt x3.toInt (rSp x4.toInt x2.toInt x3.toInt) u))) := (rB2_o (k := 146) rfl).trans ro_146
theorem ro2_147 {K : Nat → Nat} {n : Nat} {p : rP} {x0 : Int32} {x1 : Int32} {σ : Nat → jcell} : rB2 K n p 147 [rI x0, rI x1] σ ↔ (x1.toInt = x0.toInt % 8) := (rB2_o (k := 147) rfl).trans ro_147
theorem ro2_148 {K : Nat → Nat} {n : Nat} {p : rP} {x0 : Nat} {x1 : Int32} {x2 : Int32} {σ : Nat → jcell} : rB2 K n p 148 [rR x0, rI x1, rI x2] σ ↔ (∃ M, rMe K n σ x0 M ∧ (x2.toInt = M x1.toInt % 8)) := (rB2_o (k := 148) rfl).trans ro_148
theorem ro2_149 {K : Nat → Nat} {n : Nat} {p : rP} {x0 : Nat} {x1 : Int32} {x2 : Int32} {x3 : Int32} {x4 : Int64} {σ : Nat → jcell} : rB2 K n p 149 [rR x0, rI x1, rI x2, rI x3, rL x4] σ ↔ (∃ M, rMe K n σ x0 M ∧ (x2.toInt = M x1.toInt % 8 ∧ ∀ u, 0 ≤ u → u ≤ 63 → (rBt x4 u ↔ ∃ f r, -2 ≤ f ∧ f < x3.toInt ∧ -2 ≤ r ∧ r ≤ 2 ∧ rR1 M x2.toInt x1.toInt f r u))) := (rB2_o (k := 149) rfl).trans ro_149
theorem ro2_150 {K : Nat → Nat} {n : Nat} {p : rP} {x0 : Nat} {x1 : Int32} {x2 : Int32} {x3 : Int32} {x4 : Int32} {x5 : Int64} {σ : Nat → jcell} : rB2 K n p 150 [rR x0, rI x1, rI x2, rI x3, rI x4, rL x5] σ ↔ (∃ M, rMe K n σ x0 M ∧ (x2.toInt = M x1.toInt % 8 ∧ ∀ u, 0 ≤ u → u ≤ 63 → (rBt x5 u ↔ ∃ f r, -2 ≤ f ∧ (f < x3.toInt ∨ (f = x3.toInt ∧ r < x4.toInt)) ∧ -2 ≤ r ∧ r ≤ 2 ∧ rR1 M x2.toInt x1.toInt f r u))) := (rB2_o (k := 150) rfl).trans ro_150
theorem ro2_151 {K : Nat → Nat} {n : Nat} {p : rP} {x0 : Nat} {x1 : Int32} {x2 : Int32} {x3 : Int32} {x4 : Int32} {x5 : Int64} {σ : Nat → jcell} : rB2 K n p 151 [rR x0, rI x1, rI x2, rI x3, rI x4, rL x5] σ ↔ (∃ M, rMe K n σ x0 M ∧ (x2.toInt = M x1.toInt % 8 ∧ ∀ u, 0 ≤ u → u ≤ 63 → (rBt x5 u ↔ ∃ f r, -2 ≤ f ∧ (f < x3.toInt ∨ (f = x3.toInt ∧ r < x4.toInt + 1)) ∧ -2 ≤ r ∧ r ≤ 2 ∧ rR1 M x2.toInt x1.toInt f r u))) := (rB2_o (k := 151) rfl).trans ro_151
theorem ro2_152 {K : Nat → Nat} {n : Nat} {p : rP} {x0 : Nat} {x1 : Int32} {x2 : Int32} {x3 : Int32} {x4 : Int64} {σ : Nat → jcell} : rB2 K n p 152 [rR x0, rI x1, rI x2, rI x3, rL x4] σ ↔ (∃ M, rMe K n σ x0 M ∧ (x2.toInt = M x1.toInt % 8 ∧ ∀ u, 0 ≤ u → u ≤ 63 → (rBt x4 u ↔ ∃ f r, -2 ≤ f ∧ f < x3.toInt + 1 ∧ -2 ≤ r ∧ r ≤ 2 ∧ rR1 M x2.toInt x1.toInt f r u))) := (rB2_o (k := 152) rfl).trans ro_152
theorem ro2_153 {K : Nat → Nat} {n : Nat} {p : rP} {x0 : Nat} {x1 : Int32} {x2 : Int64} {σ : Nat → jcell} : rB2 K n p 153 [rR x0, rI x1, rL x2] σ ↔ (∃ M, rMe K n σ x0 M ∧ (∀ u, 0 ≤ u → u ≤ 63 → (rBt x2 u ↔ rRe M (M x1.toInt % 8) x1.toInt u))) := (rB2_o (k := 153) rfl).trans ro_153
theorem ro2_154 {K : Nat → Nat} {n : Nat} {p : rP} {x0 : Int32} {x1 : Int32} {σ : Nat → jcell} : rB2 K n p 154 [rI x0, rI x1] σ ↔ (x1.toInt = x0.toInt * x0.toInt) := (rB2_o (k := 154) rfl).trans ro_154
theorem ro2_155 {K : Nat → Nat} {n : Nat} {p : rP} {x0 : Int32} {x1 : Int32} {x2 : Int32} {σ : Nat → jcell} : rB2 K n p 155 [rI x0, rI x1, rI x2] σ ↔ (x2.toInt = x0.toInt * x0.toInt + x1.toInt * x1.toInt) := (rB2_o (k := 155) rfl).trans ro_155
theorem ro2_156 {K : Nat → Nat} {n : Nat} {p : rP} {x0 : Nat} {x1 : Int32} {x2 : Int32} {x3 : Int32} {σ : Nat → jcell} : rB2 K n p 156 [rR x0, rI x1, rI x2, rI x3] σ ↔ (∃ M, rMe K n σ x0 M ∧ ((x3.toInt = 1 ∧ ¬ M x1.toInt = 0 ∧ M x1.toInt / 8 = x2.toInt) ∨ (x3.toInt = 0 ∧ ¬ (¬ M x1.toInt = 0 ∧ M x1.toInt / 8 = x2.toInt)))) := (rB2_o (k := 156) rfl).trans ro_156
theorem ro2_157 {K : Nat → Nat} {n : Nat} {p : rP} {x0 : Int32} {x1 : Int32} {σ : Nat → jcell} : rB2 K n p 157 [rI x0, rI x1] σ ↔ (x1.toInt = x0.toInt / 8) := (rB2_o (k := 157) rfl).trans ro_157
theorem ro2_160 {K : Nat → Nat} {n : Nat} {p : rP} {x0 : Int32} {x1 : Int32} {x2 : Int32} {x3 : Int32} {σ : Nat → jcell} : rB2 K n p 160 [rI x0, rI x1, rI x2, rI x3] σ ↔ (x1.toInt = rFr x0.toInt ∧ x2.toInt = rTo x0.toInt ∧ x3.toInt = rBc x0.toInt) := (rB2_o (k := 160) rfl).trans ro_160
theorem ro2_161 {K : Nat → Nat} {n : Nat} {p : rP} {x0 : Int32} {x1 : Int32} {x2 : Int32} {σ : Nat → jcell} : rB2 K n p 161 [rI x0, rI x1, rI x2] σ ↔ ((x1.toInt = x0.toInt + 2 ∨ x1.toInt = x0.toInt - 2) ∧ (x0.toInt = 4 ∨ x0.toInt = 60) ∧ x2.toInt = 0) := (rB2_o (k := 161) rfl).trans ro_161
theorem ro2_162 {K : Nat → Nat} {n : Nat} {p : rP} {x0 : Int32} {x1 : Int32} {σ : Nat → jcell} : rB2 K n p 162 [rI x0, rI x1] σ ↔ (x1.toInt = rLo x0.toInt) := (rB2_o (k := 162) rfl).trans ro_162
theorem ro2_163 {K : Nat → Nat} {n : Nat} {p : rP} {x0 : Int32} {x1 : Int32} {x2 : Int32} {σ : Nat → jcell} : rB2 K n p 163 [rI x0, rI x1, rI x2] σ ↔ (x2.toInt = rAn x1.toInt (rLo x0.toInt)) := (rB2_o (k := 163) rfl).trans ro_163
theorem ro2_164 {K : Nat → Nat} {n : Nat} {p : rP} {x0 : Int64} {x1 : Int32} {σ : Nat → jcell} : rB2 K n p 164 [rL x0, rI x1] σ ↔ (rBt x0 x1.toInt) := (rB2_o (k := 164) rfl).trans ro_164
theorem ro2_167 {K : Nat → Nat} {n : Nat} {p : rP} {x0 : Int64} {x1 : Int32} {x2 : Int64} {σ : Nat → jcell} : rB2 K n p 167 [rL x0, rI x1, rL x2] σ ↔ (x2 = x0 >>> ((Int32.ofInt x1.toInt).toInt64 &&& 63)) := (rB2_o (k := 167) rfl).trans ro_167
theorem ro2_168 {K : Nat → Nat} {n : Nat} {p : rP} {x0 : Nat} {x1 : Int32} {x2 : Int32} {σ : Nat → jcell} : rB2 K n p 168 [rR x0, rI x1, rI x2] σ ↔ (rCT K n σ x0 x1.toInt x2.toInt) := (rB2_o (k := 168) rfl).trans ro_168
theorem ro2_169 {K : Nat → Nat} {n : Nat} {p : rP} {x0 : Int32} {x1 : Int32} {σ : Nat → jcell} : rB2 K n p 169 [rI x0, rI x1] σ ↔ ((x1.toInt = x0.toInt + 2 ∨ x1.toInt = x0.toInt - 2) ∧ (x0.toInt = 4 ∨ x0.toInt = 60)) := (rB2_o (k := 169) rfl).trans ro_169
theorem ro2_170 {K : Nat → Nat} {n : Nat} {p : rP} {x0 : Nat} {x1 : Int32} {σ : Nat → jcell} : rB2 K n p 170 [rR x0, rI x1] σ ↔ (rPG0 K n σ x0 x1.toInt) := (rB2_o (k := 170) rfl).trans ro_170
theorem ro2_171 {K : Nat → Nat} {n : Nat} {p : rP} {x0 : Nat} {x1 : Int32} {σ : Nat → jcell} : rB2 K n p 171 [rR x0, rI x1] σ ↔ (rPG0 K n σ x0 (x1.toInt + 1)) := (rB2_o (k := 171) rfl).trans ro_171
theorem ro2_172 {K : Nat → Nat} {n : Nat} {p : rP} {x0 : Nat} {x1 : Int32} {x2 : Int32} {σ : Nat → jcell} : rB2 K n p 172 [rR x0, rI x1, rI x2] σ ↔ (rPG0 K n σ x0 (x1.toInt + x2.toInt)) := (rB2_o (k := 172) rfl).trans ro_172
theorem ro2_173 {K : Nat → Nat} {n : Nat} {p : rP} {x0 : Nat} {x1 : Int32} {x2 : Int32} {σ : Nat → jcell} : rB2 K n p 173 [rR x0, rI x1, rI x2] σ ↔ (rPG0 K n σ x0 (x1.toInt + x2.toInt + 1)) := (rB2_o (k := 173) rfl).trans ro_173
theorem ro2_174 {K : Nat → Nat} {n : Nat} {p : rP} {x0 : Nat} {x1 : Int32} {x2 : Int32} {σ : Nat → jcell} : rB2 K n p 174 [rR x0, rI x1, rI x2] σ ↔ (x2.toInt = 1 → rAS K n σ x0 x1.toInt 64) := (rB2_o (k := 174) rfl).trans ro_174
theorem ro2_175 {K : Nat → Nat} {n : Nat} {p : rP} {x0 : Nat} {x1 : Int32} {x2 : Int32} {σ : Nat → jcell} : rB2 K n p 175 [rR x0, rI x1, rI x2] σ ↔ (x2.toInt = 1 → rAS K n σ x0 x1.toInt 0) := (rB2_o (k := 175) rfl).trans ro_175
theorem ro2_176 {K : Nat → Nat} {n : Nat} {p : rP} {x0 : Nat} {x1 : Int32} {x2 : Int32} {x3 : Int32} {σ : Nat → jcell} : rB2 K n p 176 [rR x0, rI x1, rI x2, rI x3] σ ↔ (x3.toInt = 1 → rAS K n σ x0 x1.toInt x2.toInt) := (rB2_o (k := 176) rfl).trans ro_176
theorem ro2_177 {K : Nat → Nat} {n : Nat} {p : rP} {x0 : Nat} {x1 : Int32} {x2 : Int32} {x3 : Int32} {σ : Nat → jcell} : rB2 K n p 177 [rR x0, rI x1, rI x2, rI x3] σ ↔ (x3.toInt = 1 → rAS K n σ x0 x1.toInt (x2.toInt + 1)) := (rB2_o (k := 177) rfl).trans ro_177
theorem ro2_179 {K : Nat → Nat} {n : Nat} {p : rP} {x0 : Nat} {x1 : Int32} {σ : Nat → jcell} : rB2 K n p 179 [rR x0, rI x1] σ ↔ (∃ c, 1 ≤ c ∧ rCT K n σ x0 x1.toInt c) := (rB2_o (k := 179) rfl).trans ro_179
theorem ro2_181 {K : Nat → Nat} {n : Nat} {p : rP} {x0 : Nat} {x1 : Int32} {x2 : Int32} {σ : Nat → jcell} : rB2 K n p 181 [rR x0, rI x1, rI x2] σ ↔ (x2.toInt = 0 → ∃ c, 1 ≤ c ∧ rCT K n σ x0 x1.toInt c) := (rB2_o (k := 181) rfl).trans ro_181
theorem ro2_182_2 {K : Nat → Nat} {n : Nat} {p : rP} {x0 : Nat} {x1 : Int32} {σ : Nat → jcell} : rB2 K n p 182 [rR x0, rI x1] σ ↔ (rHP K n σ x0 x1.toInt) := (rB2_o (k := 182) rfl).trans ro_182_2
theorem ro2_182_3 {K : Nat → Nat} {n : Nat} {p : rP} {x0 : Nat} {x1 : Int32} {x2 : Int32} {σ : Nat → jcell} : rB2 K n p 182 [rR x0, rI x1, rI x2] σ ↔ (x2.toInt = 1 → rHP K n σ x0 x1.toInt) := (rB2_o (k := 182) rfl).trans ro_182_3
theorem ro2_183 {K : Nat → Nat} {n : Nat} {p : rP} {x0 : Nat} {x1 : Int32} {σ : Nat → jcell} : rB2 K n p 183 [rR x0, rI x1] σ ↔ (rHP K n σ x0 (x1.toInt + 1)) := (rB2_o (k := 183) rfl).trans ro_183
theorem ro2_184 {K : Nat → Nat} {n : Nat} {p : rP} {x0 : Nat} {x1 : Int32} {σ : Nat → jcell} : rB2 K n p 184 [rR x0, rI x1] σ ↔ (∃ g, rRw K n σ x0 105 4 g ∧ (g 0).toInt = x1.toInt) := (rB2_o (k := 184) rfl).trans ro_184
theorem ro2_185 {K : Nat → Nat} {n : Nat} {p : rP} {x0 : Nat} {x1 : Int32} {σ : Nat → jcell} : rB2 K n p 185 [rR x0, rI x1] σ ↔ (∃ g, rRw K n σ x0 105 4 g ∧ (g 1).toInt = x1.toInt) := (rB2_o (k := 185) rfl).trans ro_185
theorem ro2_186 {K : Nat → Nat} {n : Nat} {p : rP} {x0 : Nat} {x1 : Int32} {σ : Nat → jcell} : rB2 K n p 186 [rR x0, rI x1] σ ↔ (∃ g, rRw K n σ x0 105 4 g ∧ (g 2).toInt = x1.toInt) := (rB2_o (k := 186) rfl).trans ro_186
theorem ro2_187 {K : Nat → Nat} {n : Nat} {p : rP} {x0 : Nat} {x1 : Int32} {σ : Nat → jcell} : rB2 K n p 187 [rR x0, rI x1] σ ↔ (∃ g, rRw K n σ x0 105 4 g ∧ (g 3).toInt = x1.toInt) := (rB2_o (k := 187) rfl).trans ro_187
theorem ro2_188 {K : Nat → Nat} {n : Nat} {p : rP} {x0 : Nat} {x1 : Int32} {x2 : Int32} {σ : Nat → jcell} : rB2 K n p 188 [rR x0, rI x1, rI x2] σ ↔ (0 ≤ x1.toInt ∧ ∃ g, rRo K n σ x0 88 34 108 4 g ∧ (g x1.toInt.toNat).toInt = x2.toInt) := (rB2_o (k := 188) rfl).trans ro_188
theorem ro2_189 {K : Nat → Nat} {n : Nat} {p : rP} {x0 : Nat} {x1 : Int32} {x2 : Int32} {σ : Nat → jcell} : rB2 K n p 189 [rR x0, rI x1, rI x2] σ ↔ (rSGN K n σ x0 x1.toInt x2.toInt) := (rB2_o (k := 189) rfl).trans ro_189
theorem ro2_190 {K : Nat → Nat} {n : Nat} {p : rP} {x0 : Int32} {σ : Nat → jcell} : rB2 K n p 190 [rI x0] σ ↔ (True) := (rB2_o (k := 190) rfl).trans ro_190
theorem ro2_191 {K : Nat → Nat} {n : Nat} {p : rP} {x0 : Int32} {σ : Nat → jcell} : rB2 K n p 191 [rI x0] σ ↔ (True) := (rB2_o (k := 191) rfl).trans ro_191
theorem ro2_192 {K : Nat → Nat} {n : Nat} {p : rP} {x0 : Nat} {x1 : Int32} {x2 : Int32} {x3 : Int32} {σ : Nat → jcell} : rB2 K n p 192 [rR x0, rI x1, rI x2, rI x3] σ ↔ (∃ M, rMe K n σ x0 M ∧ (x3.toInt = rCnt M x1.toInt x2.toInt.toNat)) := (rB2_o (k := 192) rfl).trans ro_192
theorem ro2_193_1 {K : Nat → Nat} {n : Nat} {p : rP} {x0 : Nat} {σ : Nat → jcell} : rB2 K n p 193 [rR x0] σ ↔ (∃ M, rMe K n σ x0 M ∧ (rCnt M 6 64 = 1)) := (rB2_o (k := 193) rfl).trans ro_193_1
theorem ro2_193_4 {K : Nat → Nat} {n : Nat} {p : rP} {x0 : Nat} {x1 : Int32} {x2 : Int32} {x3 : Int32} {σ : Nat → jcell} : rB2 K n p 193 [rR x0, rI x1, rI x2, rI x3] σ ↔ (∃ M, rMe K n σ x0 M ∧ (x3.toInt = rCnt M x1.toInt (x2.toInt + 1).toNat)) := (rB2_o (k := 193) rfl).trans ro_193_4
theorem ro2_194 {K : Nat → Nat} {n : Nat} {p : rP} {x0 : Nat} {x1 : Int32} {x2 : Int32} {σ : Nat → jcell} : rB2 K n p 194 [rR x0, rI x1, rI x2] σ ↔ (∃ M, rMe K n σ x0 M ∧ (x2.toInt = rCnt M x1.toInt 64)) := (rB2_o (k := 194) rfl).trans ro_194
theorem ro2_195 {K : Nat → Nat} {n : Nat} {p : rP} {x0 : Nat} {x1 : Int32} {σ : Nat → jcell} : rB2 K n p 195 [rR x0, rI x1] σ ↔ (x1.toInt = 0 → rPSW K n σ x0) := (rB2_o (k := 195) rfl).trans ro_195
theorem ro2_197 {K : Nat → Nat} {n : Nat} {p : rP} {x0 : Nat} {x1 : Int32} {σ : Nat → jcell} : rB2 K n p 197 [rR x0, rI x1] σ ↔ (x1.toInt = 0 → rFO K n σ x0) := (rB2_o (k := 197) rfl).trans ro_197
theorem ro2_198 {K : Nat → Nat} {n : Nat} {p : rP} {x0 : Int32} {x1 : Int32} {σ : Nat → jcell} : rB2 K n p 198 [rI x0, rI x1] σ ↔ (True) := (rB2_o (k := 198) rfl).trans ro_198
theorem ro2_199 {K : Nat → Nat} {n : Nat} {p : rP} {x0 : Int32} {x1 : Int32} {σ : Nat → jcell} : rB2 K n p 199 [rI x0, rI x1] σ ↔ (True) := (rB2_o (k := 199) rfl).trans ro_199
theorem ro2_200 {K : Nat → Nat} {n : Nat} {p : rP} {x0 : Nat} {x1 : Int32} {x2 : Int32} {x3 : Int32} {σ : Nat → jcell} : rB2 K n p 200 [rR x0, rI x1, rI x2, rI x3] σ ↔ (∃ M, rTe K n σ x0 M ∧ ((x3.toInt = 1 ∧ 0 ≤ x1.toInt ∧ M x1.toInt = x2.toInt) ∨ (x3.toInt = 0 ∧ ¬ (0 ≤ x1.toInt ∧ M x1.toInt = x2.toInt)))) := (rB2_o (k := 200) rfl).trans ro_200
theorem ro2_201 {K : Nat → Nat} {n : Nat} {p : rP} {x0 : Nat} {x1 : Int32} {x2 : Int32} {x3 : Int32} {x4 : Int32} {σ : Nat → jcell} : rB2 K n p 201 [rR x0, rI x1, rI x2, rI x3, rI x4] σ ↔ (∃ M, rTe K n σ x0 M ∧ (∀ m, rGf M x2.toInt x3.toInt x4.toInt m → rGf M x2.toInt x3.toInt (rSp x1.toInt x2.toInt x3.toInt) m)) := (rB2_o (k := 201) rfl).trans ro_201
theorem ro2_202 {K : Nat → Nat} {n : Nat} {p : rP} {x0 : Nat} {x1 : Int32} {x2 : Int32} {x3 : Int32} {x4 : Int32} {σ : Nat → jcell} : rB2 K n p 202 [rR x0, rI x1, rI x2, rI x3, rI x4] σ ↔ (∃ M, rTe K n σ x0 M ∧ (∀ m, rGf M x2.toInt x3.toInt (rSp x4.toInt x2.toInt x3.toInt) m → rGf M x2.toInt x3.toInt (rSp x1.toInt x2.toInt x3.toInt) m)) := (rB2_o (k := 202) rfl).trans ro_202
theorem ro2_203 {K : Nat → Nat} {n : Nat} {p : rP} {x0 : Nat} {x1 : Int32} {x2 : Int32} {x3 : Int32} {x4 : Int32} {σ : Nat → jcell} : rB2 K n p 203 [rR x0, rI x1, rI x2, rI x3, rI x4] σ ↔ (∃ M, rTe K n σ x0 M ∧ (rGf M x2.toInt x3.toInt (rSp x1.toInt x2.toInt x3.toInt) x4.toInt)) := (rB2_o (k := 203) rfl).trans ro_203
theorem ro2_204 {K : Nat → Nat} {n : Nat} {p : rP} {x0 : Nat} {x1 : Int32} {x2 : Int32} {x3 : Int32} {σ : Nat → jcell} : rB2 K n p 204 [rR x0, rI x1, rI x2, rI x3] σ ↔ (∃ M, rTe K n σ x0 M ∧ (x3.toInt = 0 → ¬ rAk M x1.toInt x2.toInt)) := (rB2_o (k := 204) rfl).trans ro_204
theorem ro2_205 {K : Nat → Nat} {n : Nat} {p : rP} {x0 : Nat} {x1 : Int32} {x2 : Int32} {σ : Nat → jcell} : rB2 K n p 205 [rR x0, rI x1, rI x2] σ ↔ (∃ M, rTe K n σ x0 M ∧ (¬ rP1 M x1.toInt x2.toInt (-1))) := (rB2_o (k := 205) rfl).trans ro_205
theorem ro2_206 {K : Nat → Nat} {n : Nat} {p : rP} {x0 : Nat} {x1 : Int32} {x2 : Int32} {x3 : Int32} {σ : Nat → jcell} : rB2 K n p 206 [rR x0, rI x1, rI x2, rI x3] σ ↔ (∃ M, rTe K n σ x0 M ∧ (x3.toInt = 0 → (¬ rP1 M x1.toInt x2.toInt (-1) ∧ ¬ rP1 M x1.toInt x2.toInt 1))) := (rB2_o (k := 206) rfl).trans ro_206
theorem ro2_207 {K : Nat → Nat} {n : Nat} {p : rP} {x0 : Nat} {x1 : Int32} {x2 : Int32} {x3 : Int32} {x4 : Int32} {σ : Nat → jcell} : rB2 K n p 207 [rR x0, rI x1, rI x2, rI x3, rI x4] σ ↔ (∃ M, rTe K n σ x0 M ∧ (x4.toInt = 0 → (¬ rP1 M x1.toInt x2.toInt (-1) ∧ ¬ rP1 M x1.toInt x2.toInt 1 ∧ ∀ f r, -2 ≤ f → f < x3.toInt → -2 ≤ r → r ≤ 2 → ¬ rA1 M x1.toInt x2.toInt f r))) := (rB2_o (k := 207) rfl).trans ro_207
theorem ro2_208 {K : Nat → Nat} {n : Nat} {p : rP} {x0 : Nat} {x1 : Int32} {x2 : Int32} {x3 : Int32} {x4 : Int32} {x5 : Int32} {σ : Nat → jcell} : rB2 K n p 208 [rR x0, rI x1, rI x2, rI x3, rI x4, rI x5] σ ↔ (∃ M, rTe K n σ x0 M ∧ (x5.toInt = 0 → (¬ rP1 M x1.toInt x2.toInt (-1) ∧ ¬ rP1 M x1.toInt x2.toInt 1 ∧ (∀ f r, -2 ≤ f → f < x3.toInt → -2 ≤ r → r ≤ 2 → ¬ rA1 M x1.toInt x2.toInt f r) ∧ ∀ r, -2 ≤ r → r < x4.toInt → ¬ rA1 M x1.toInt x2.toInt x3.toInt r))) := (rB2_o (k := 208) rfl).trans ro_208
theorem ro2_209 {K : Nat → Nat} {n : Nat} {p : rP} {x0 : Nat} {x1 : Int32} {x2 : Int32} {x3 : Int32} {x4 : Int32} {x5 : Int32} {σ : Nat → jcell} : rB2 K n p 209 [rR x0, rI x1, rI x2, rI x3, rI x4, rI x5] σ ↔ (∃ M, rTe K n σ x0 M ∧ (x5.toInt = 0 → (¬ rP1 M x1.toInt x2.toInt (-1) ∧ ¬ rP1 M x1.toInt x2.toInt 1 ∧ (∀ f r, -2 ≤ f → f < x3.toInt → -2 ≤ r → r ≤ 2 → ¬ rA1 M x1.toInt x2.toInt f r) ∧ (∀ r, -2 ≤ r → r < x4.toInt → ¬ rA1 M x1.toInt x2.toInt x3.toInt r) ∧ rA2 M x1.toInt x2.toInt x3.toInt x4.toInt))) := (rB2_o (k := 209) rfl).trans ro_209
theorem ro2_210 {K : Nat → Nat} {n : Nat} {p : rP} {x0 : Nat} {x1 : Int32} {x2 : Int32} {x3 : Int32} {x4 : Int32} {x5 : Int32} {σ : Nat → jcell} : rB2 K n p 210 [rR x0, rI x1, rI x2, rI x3, rI x4, rI x5] σ ↔ (∃ M, rTe K n σ x0 M ∧ (x5.toInt = 0 → (¬ rP1 M x1.toInt x2.toInt (-1) ∧ ¬ rP1 M x1.toInt x2.toInt 1 ∧ (∀ f r, -2 ≤ f → f < x3.toInt → -2 ≤ r → r ≤ 2 → ¬ rA1 M x1.toInt x2.toInt f r) ∧ ∀ r, -2 ≤ r → r < x4.toInt + 1 → ¬ rA1 M x1.toInt x2.toInt x3.toInt r))) := (rB2_o (k := 210) rfl).trans ro_210
theorem ro2_211 {K : Nat → Nat} {n : Nat} {p : rP} {x0 : Nat} {x1 : Int32} {x2 : Int32} {x3 : Int32} {x4 : Int32} {σ : Nat → jcell} : rB2 K n p 211 [rR x0, rI x1, rI x2, rI x3, rI x4] σ ↔ (∃ M, rTe K n σ x0 M ∧ (x4.toInt = 0 → (¬ rP1 M x1.toInt x2.toInt (-1) ∧ ¬ rP1 M x1.toInt x2.toInt 1 ∧ ∀ f r, -2 ≤ f → f < (x3.toInt + 1) → -2 ≤ r → r ≤ 2 → ¬ rA1 M x1.toInt x2.toInt f r))) := (rB2_o (k := 211) rfl).trans ro_211
theorem ro2_212 {K : Nat → Nat} {n : Nat} {p : rP} {x0 : Nat} {x1 : Int32} {x2 : Int32} {x3 : Int32} {σ : Nat → jcell} : rB2 K n p 212 [rR x0, rI x1, rI x2, rI x3] σ ↔ (∃ M, rTe K n σ x0 M ∧ (∀ j, 0 ≤ j → j < x2.toInt → M j = 8 * x1.toInt + 6 → (0 ≤ x3.toInt ∧ x3.toInt ≤ 63 ∧ M x3.toInt = 8 * x1.toInt + 6))) := (rB2_o (k := 212) rfl).trans ro_212
theorem ro2_213 {K : Nat → Nat} {n : Nat} {p : rP} {x0 : Nat} {x1 : Int32} {x2 : Int32} {x3 : Int32} {σ : Nat → jcell} : rB2 K n p 213 [rR x0, rI x1, rI x2, rI x3] σ ↔ (∃ M, rTe K n σ x0 M ∧ (∀ j, 0 ≤ j → j < x2.toInt + 1 → M j = 8 * x1.toInt + 6 → (0 ≤ x3.toInt ∧ x3.toInt ≤ 63 ∧ M x3.toInt = 8 * x1.toInt + 6))) := (rB2_o (k := 213) rfl).trans ro_213
theorem ro2_214 {K : Nat → Nat} {n : Nat} {p : rP} {x0 : Nat} {x1 : Int32} {x2 : Int32} {σ : Nat → jcell} : rB2 K n p 214 [rR x0, rI x1, rI x2] σ ↔ (∃ M, rTe K n σ x0 M ∧ (∀ j, 0 ≤ j → j ≤ 63 → M j = 8 * x1.toInt + 6 → (0 ≤ x2.toInt ∧ x2.toInt ≤ 63 ∧ M x2.toInt = 8 * x1.toInt + 6))) := (rB2_o (k := 214) rfl).trans ro_214
theorem ro2_215 {K : Nat → Nat} {n : Nat} {p : rP} {x0 : Nat} {x1 : Int32} {x2 : Int32} {σ : Nat → jcell} : rB2 K n p 215 [rR x0, rI x1, rI x2] σ ↔ (∃ M, rTe K n σ x0 M ∧ (x2.toInt = 0 → (∀ j, 0 ≤ j → j ≤ 63 → M j = 8 * x1.toInt + 6 → ∃ s, 0 ≤ s ∧ s ≤ 63 ∧ M s = 8 * x1.toInt + 6 ∧ ¬ rAk M s (1 - x1.toInt)))) := (rB2_o (k := 215) rfl).trans ro_215
theorem ro2_216 {K : Nat → Nat} {n : Nat} {p : rP} {x0 : Int32} {x1 : Int32} {σ : Nat → jcell} : rB2 K n p 216 [rI x0, rI x1] σ ↔ ((x0.toInt = 0 ∧ x1.toInt = -1) ∨ (¬ x0.toInt = 0 ∧ x1.toInt = x0.toInt / 8)) := (rB2_o (k := 216) rfl).trans ro_216
theorem ro2_217 {K : Nat → Nat} {n : Nat} {p : rP} {x0 : Int32} {x1 : Int32} {σ : Nat → jcell} : rB2 K n p 217 [rI x0, rI x1] σ ↔ (¬ x0.toInt % 8 = x1.toInt % 8) := (rB2_o (k := 217) rfl).trans ro_217
theorem ro2_218 {K : Nat → Nat} {n : Nat} {p : rP} {x0 : Int32} {x1 : Int32} {σ : Nat → jcell} : rB2 K n p 218 [rI x0, rI x1] σ ↔ (x1.toInt = x0.toInt % 8) := (rB2_o (k := 218) rfl).trans ro_218
theorem ro2_219 {K : Nat → Nat} {n : Nat} {p : rP} {x0 : Int32} {σ : Nat → jcell} : rB2 K n p 219 [rI x0] σ ↔ (True) := (rB2_o (k := 219) rfl).trans ro_219
theorem ro2_220 {K : Nat → Nat} {n : Nat} {p : rP} {x0 : Nat} {σ : Nat → jcell} : rB2 K n p 220 [rR x0] σ ↔ (∃ v : Int32, rOb K n σ x0 62 29 (rI v) ∧ 0 ≤ v.toInt ∧ v.toInt ≤ 1298) := (rB2_o (k := 220) rfl).trans ro_220
theorem ro2_221 {K : Nat → Nat} {n : Nat} {p : rP} {x0 : Nat} {σ : Nat → jcell} : rB2 K n p 221 [rR x0] σ ↔ (∃ g, rRo K n σ x0 62 31 84 5 g ∧ 0 ≤ (g 4).toInt ∧ (g 4).toInt ≤ 1298) := (rB2_o (k := 221) rfl).trans ro_221
theorem ro2_222 {K : Nat → Nat} {n : Nat} {p : rP} {x0 : Nat} {x1 : Int32} {x2 : Int32} {x3 : Int32} {σ : Nat → jcell} : rB2 K n p 222 [rR x0, rI x1, rI x2, rI x3] σ ↔ (∃ M, rTe K n σ x0 M ∧ (x3.toInt = 1 → ∀ j, x1.toInt ≤ j → j ≤ x2.toInt → M j = 0)) := (rB2_o (k := 222) rfl).trans ro_222
theorem ro2_223 {K : Nat → Nat} {n : Nat} {p : rP} {x0 : Nat} {x1 : Int32} {x2 : Int32} {x3 : Int32} {σ : Nat → jcell} : rB2 K n p 223 [rR x0, rI x1, rI x2, rI x3] σ ↔ (∃ M, rTe K n σ x0 M ∧ (x3.toInt = 1 → ∀ j, x1.toInt ≤ j → j < x2.toInt → M j = 0)) := (rB2_o (k := 223) rfl).trans ro_223
theorem ro2_224 {K : Nat → Nat} {n : Nat} {p : rP} {x0 : Nat} {x1 : Int32} {x2 : Int32} {x3 : Int32} {σ : Nat → jcell} : rB2 K n p 224 [rR x0, rI x1, rI x2, rI x3] σ ↔ (∃ M, rTe K n σ x0 M ∧ (x3.toInt = 1 → ∀ j, x1.toInt ≤ j → j < x2.toInt + 1 → M j = 0)) := (rB2_o (k := 224) rfl).trans ro_224
theorem ro2_225 {K : Nat → Nat} {n : Nat} {p : rP} {x0 : Int32} {x1 : Int32} {σ : Nat → jcell} : rB2 K n p 225 [rI x0, rI x1] σ ↔ (¬ x0.toInt = x1.toInt) := (rB2_o (k := 225) rfl).trans ro_225
theorem ro2_226 {K : Nat → Nat} {n : Nat} {p : rP} {x0 : Int32} {x1 : Int32} {x2 : Int32} {x3 : Int32} {σ : Nat → jcell} : rB2 K n p 226 [rI x0, rI x1, rI x2, rI x3] σ ↔ (x2.toInt = x1.toInt % 8 - x0.toInt % 8 ∧ x3.toInt = x1.toInt / 8 - x0.toInt / 8) := (rB2_o (k := 226) rfl).trans ro_226
theorem ro2_227 {K : Nat → Nat} {n : Nat} {p : rP} {x0 : Int32} {x1 : Int32} {σ : Nat → jcell} : rB2 K n p 227 [rI x0, rI x1] σ ↔ (x1.toInt = x0.toInt * x0.toInt) := (rB2_o (k := 227) rfl).trans ro_227
theorem ro2_228 {K : Nat → Nat} {n : Nat} {p : rP} {x0 : Int32} {x1 : Int32} {x2 : Int32} {σ : Nat → jcell} : rB2 K n p 228 [rI x0, rI x1, rI x2] σ ↔ (x2.toInt = x0.toInt * x0.toInt + x1.toInt * x1.toInt) := (rB2_o (k := 228) rfl).trans ro_228
theorem ro2_230 {K : Nat → Nat} {n : Nat} {p : rP} {x0 : Nat} {x1 : Int32} {σ : Nat → jcell} : rB2 K n p 230 [rR x0, rI x1] σ ↔ (∃ M, rTe K n σ x0 M ∧ (¬ rAk M x1.toInt (if x1.toInt = 4 then 1 else 0))) := (rB2_o (k := 230) rfl).trans ro_230
theorem ro2_231 {K : Nat → Nat} {n : Nat} {p : rP} {x0 : Int32} {σ : Nat → jcell} : rB2 K n p 231 [rI x0] σ ↔ (True) := (rB2_o (k := 231) rfl).trans ro_231
theorem ro2_232 {K : Nat → Nat} {n : Nat} {p : rP} {x0 : Int32} {σ : Nat → jcell} : rB2 K n p 232 [rI x0] σ ↔ (True) := (rB2_o (k := 232) rfl).trans ro_232
theorem ro2_233 {K : Nat → Nat} {n : Nat} {p : rP} {x0 : Int32} {σ : Nat → jcell} : rB2 K n p 233 [rI x0] σ ↔ (True) := (rB2_o (k := 233) rfl).trans ro_233
theorem ro2_234 {K : Nat → Nat} {n : Nat} {p : rP} {x0 : Int32} {σ : Nat → jcell} : rB2 K n p 234 [rI x0] σ ↔ (True) := (rB2_o (k := 234) rfl).trans ro_234
theorem ro2_235 {K : Nat → Nat} {n : Nat} {p : rP} {x0 : Int32} {σ : Nat → jcell} : rB2 K n p 235 [rI x0] σ ↔ (True) := (rB2_o (k := 235) rfl).trans ro_235
theorem ro2_236 {K : Nat → Nat} {n : Nat} {p : rP} {x0 : Int32} {σ : Nat → jcell} : rB2 K n p 236 [rI x0] σ ↔ (True) := (rB2_o (k := 236) rfl).trans ro_236
theorem ro2_237 {K : Nat → Nat} {n : Nat} {p : rP} {x0 : Nat} {x1 : Int32} {x2 : Int32} {σ : Nat → jcell} : rB2 K n p 237 [rR x0, rI x1, rI x2] σ ↔ (x2.toInt = 1 → ∃ g c, rRo K n σ x0 62 32 85 2048 g ∧ rOb K n σ x0 62 33 (rI c) ∧ ∃ j, 0 ≤ j ∧ j < c.toInt ∧ (g j.toNat).toInt = x1.toInt) := Iff.rfl
theorem ro2_238 {K : Nat → Nat} {n : Nat} {p : rP} {x0 : Nat} {x1 : Int32} {x2 : Int32} {σ : Nat → jcell} : rB2 K n p 238 [rR x0, rI x1, rI x2] σ ↔ (∃ C y, rTY K n σ x0 x1.toInt C y ∧ (0 ≤ x2.toInt → x2.toInt ≤ C)) := Iff.rfl
theorem ro2_241 {K : Nat → Nat} {n : Nat} {p : rP} {x0 : Nat} {x1 : Int32} {x2 : Int32} {σ : Nat → jcell} : rB2 K n p 241 [rR x0, rI x1, rI x2] σ ↔ (∃ C y, rTY K n σ x0 x1.toInt C y ∧ (0 ≤ x2.toInt ∧ x2.toInt ≤ C)) := Iff.rfl
theorem ro2_242 {K : Nat → Nat} {n : Nat} {p : rP} {x0 : Nat} {x1 : Int32} {x2 : Int32} {x3 : Int32} {σ : Nat → jcell} : rB2 K n p 242 [rR x0, rI x1, rI x2, rI x3] σ ↔ (∃ C y, rTY K n σ x0 x1.toInt C y ∧ (∃ L, rCn y.2.2.2.1 x2.toInt L ∧ (∀ c ∈ L, 1 ≤ c ∧ c ≤ C) ∧ (L.length : Int) = x3.toInt)) := Iff.rfl
theorem ro2_243 {K : Nat → Nat} {n : Nat} {p : rP} {x0 : Nat} {x1 : Int32} {x2 : Int32} {x3 : Int32} {σ : Nat → jcell} : rB2 K n p 243 [rR x0, rI x1, rI x2, rI x3] σ ↔ (∃ C y, rTY K n σ x0 x1.toInt C y ∧ (y.1 x2.toInt = x3.toInt)) := Iff.rfl
theorem ro2_245 {K : Nat → Nat} {n : Nat} {p : rP} {x0 : Nat} {x1 : Int32} {x2 : Int32} {σ : Nat → jcell} : rB2 K n p 245 [rR x0, rI x1, rI x2] σ ↔ (rSL9 K n σ x0 x1.toInt x2.toInt) := Iff.rfl
theorem ro2_246 {K : Nat → Nat} {n : Nat} {p : rP} {x0 : Nat} {x1 : Int32} {x2 : Int32} {x3 : Int32} {x4 : Int32} {σ : Nat → jcell} : rB2 K n p 246 [rR x0, rI x1, rI x2, rI x3, rI x4] σ ↔ (∃ C y, rTY K n σ x0 x1.toInt C y ∧ 0 ≤ x2.toInt ∧ x2.toInt ≤ C ∧ 0 ≤ x3.toInt ∧ rPth K n σ x0 y x2.toInt x3.toInt ∧ x4.toInt = rUa y.1 x3.toInt.toNat x2.toInt ∧ 0 ≤ x4.toInt ∧ x4.toInt ≤ C) := Iff.rfl
theorem ro2_247 {K : Nat → Nat} {n : Nat} {p : rP} {x0 : Nat} {x1 : Int32} {x2 : Int32} {x3 : Int32} {x4 : Int32} {σ : Nat → jcell} : rB2 K n p 247 [rR x0, rI x1, rI x2, rI x3, rI x4] σ ↔ (∃ C y, rTY K n σ x0 x1.toInt C y ∧ 0 ≤ x2.toInt ∧ x2.toInt ≤ C ∧ 0 ≤ x3.toInt ∧ rPth K n σ x0 y x2.toInt (x3.toInt + 1) ∧ x4.toInt = rUa y.1 x3.toInt.toNat x2.toInt ∧ 1 ≤ x4.toInt ∧ x4.toInt ≤ C) := Iff.rfl
theorem ro2_248 {K : Nat → Nat} {n : Nat} {p : rP} {x0 : Nat} {x1 : Int32} {x2 : Int32} {σ : Nat → jcell} : rB2 K n p 248 [rR x0, rI x1, rI x2] σ ↔ (0 ≤ x1.toInt ∧ ∃ g5 gm, rRo K n σ x0 62 16 74 128 g5 ∧ rRo K n σ x0 62 24 82 64 gm ∧ ∀ j, 0 ≤ j → j < x2.toInt → j ≤ 63 → (gm j.toNat).toInt = (g5 (64 * x1.toInt + j).toNat).toInt) := Iff.rfl
theorem ro2_249 {K : Nat → Nat} {n : Nat} {p : rP} {x0 : Nat} {x1 : Int32} {x2 : Int32} {σ : Nat → jcell} : rB2 K n p 249 [rR x0, rI x1, rI x2] σ ↔ (0 ≤ x1.toInt ∧ ∃ g5 gm, rRo K n σ x0 62 16 74 128 g5 ∧ rRo K n σ x0 62 24 82 64 gm ∧ ∀ j, 0 ≤ j → j < x2.toInt + 1 → j ≤ 63 → (gm j.toNat).toInt = (g5 (64 * x1.toInt + j).toNat).toInt) := Iff.rfl
theorem ro2_250 {K : Nat → Nat} {n : Nat} {p : rP} {x0 : Nat} {x1 : Int32} {x2 : Int32} {x3 : Int32} {x4 : Int32} {σ : Nat → jcell} : rB2 K n p 250 [rR x0, rI x1, rI x2, rI x3, rI x4] σ ↔ (∃ C y, rTY K n σ x0 x1.toInt C y ∧ 0 ≤ x2.toInt ∧ x2.toInt ≤ C ∧ 0 ≤ x3.toInt ∧ rPth K n σ x0 y x2.toInt x3.toInt ∧ rUa y.1 x3.toInt.toNat x2.toInt = 0 ∧ -1 ≤ x4.toInt ∧ x4.toInt < x3.toInt ∧ rTX K n σ x0 (rPo y (rUa y.1 (x4.toInt + 1).toNat x2.toInt))) := Iff.rfl
theorem ro2_251 {K : Nat → Nat} {n : Nat} {p : rP} {x0 : Nat} {x1 : Int32} {x2 : Int32} {x3 : Int32} {x4 : Int32} {σ : Nat → jcell} : rB2 K n p 251 [rR x0, rI x1, rI x2, rI x3, rI x4] σ ↔ (∃ C y, rTY K n σ x0 x1.toInt C y ∧ 0 ≤ x2.toInt ∧ x2.toInt ≤ C ∧ 0 ≤ x3.toInt ∧ rPth K n σ x0 y x2.toInt x3.toInt ∧ rUa y.1 x3.toInt.toNat x2.toInt = 0 ∧ 0 ≤ x4.toInt ∧ x4.toInt < x3.toInt ∧ rTX K n σ x0 (rPo y (rUa y.1 x4.toInt.toNat x2.toInt))) := Iff.rfl
theorem ro2_252 {K : Nat → Nat} {n : Nat} {p : rP} {x0 : Nat} {x1 : Int32} {x2 : Int32} {x3 : Int32} {x4 : Int32} {σ : Nat → jcell} : rB2 K n p 252 [rR x0, rI x1, rI x2, rI x3, rI x4] σ ↔ (∃ C y, rTY K n σ x0 x1.toInt C y ∧ 0 ≤ x2.toInt ∧ x2.toInt ≤ C ∧ 0 ≤ x3.toInt ∧ rPth K n σ x0 y x2.toInt x3.toInt ∧ rUa y.1 x3.toInt.toNat x2.toInt = 0) := Iff.rfl
theorem ro2_253 {K : Nat → Nat} {n : Nat} {p : rP} {x0 : Nat} {x1 : Int32} {x2 : Int32} {σ : Nat → jcell} : rB2 K n p 253 [rR x0, rI x1, rI x2] σ ↔ (∃ C y, rTY K n σ x0 x1.toInt C y ∧ (y.2.2.2.2.1.2.1 = x2.toInt)) := Iff.rfl
theorem ro2_254 {K : Nat → Nat} {n : Nat} {p : rP} {x0 : Nat} {x1 : Int32} {x2 : Int32} {σ : Nat → jcell} : rB2 K n p 254 [rR x0, rI x1, rI x2] σ ↔ (∃ C y, rTY K n σ x0 x1.toInt C y ∧ (y.2.2.2.2.1.2.2.1 = x2.toInt)) := Iff.rfl
theorem ro2_255 {K : Nat → Nat} {n : Nat} {p : rP} {x0 : Nat} {x1 : Int32} {x2 : Int32} {σ : Nat → jcell} : rB2 K n p 255 [rR x0, rI x1, rI x2] σ ↔ (∃ C y, rTY K n σ x0 x1.toInt C y ∧ (y.2.2.2.2.1.2.2.2 = x2.toInt)) := Iff.rfl
theorem ro2_256 {K : Nat → Nat} {n : Nat} {p : rP} {x0 : Nat} {x1 : Int32} {σ : Nat → jcell} : rB2 K n p 256 [rR x0, rI x1] σ ↔ (0 ≤ x1.toInt ∧ ∃ g, rRo K n σ x0 62 10 68 602 g ∧ (g x1.toInt.toNat).toInt = -1) := Iff.rfl
theorem ro2_257 {K : Nat → Nat} {n : Nat} {p : rP} {x0 : Nat} {x1 : Int32} {σ : Nat → jcell} : rB2 K n p 257 [rR x0, rI x1] σ ↔ (0 ≤ x1.toInt ∧ ∃ g, rRo K n σ x0 62 11 69 602 g ∧ (g x1.toInt.toNat).toInt = -1) := Iff.rfl
theorem ro2_258 {K : Nat → Nat} {n : Nat} {p : rP} {x0 : Nat} {x1 : Int32} {x2 : Int32} {x3 : Int32} {x4 : Int32} {σ : Nat → jcell} : rB2 K n p 258 [rR x0, rI x1, rI x2, rI x3, rI x4] σ ↔ (∃ y, rTy K n σ x0 x1.toInt y ∧ 0 ≤ x1.toInt ∧ 1 ≤ x4.toInt ∧ x4.toInt ≤ 300 ∧ rTr (x4.toInt - 1) y ∧ 0 ≤ x2.toInt ∧ x2.toInt ≤ x4.toInt - 1 ∧ rLm (rPo y x2.toInt) x3.toInt ∧ rGd (rMk (rPo y x2.toInt) x3.toInt)) := Iff.rfl
theorem ro2_259 {K : Nat → Nat} {n : Nat} {p : rP} {x0 : Nat} {x1 : Int32} {x2 : Int32} {x3 : Int32} {σ : Nat → jcell} : rB2 K n p 259 [rR x0, rI x1, rI x2, rI x3] σ ↔ (0 ≤ 301 * x1.toInt + x2.toInt ∧ ∃ g, rRo K n σ x0 62 8 66 602 g ∧ (g (301 * x1.toInt + x2.toInt).toNat).toInt = x3.toInt) := Iff.rfl
theorem ro2_260 {K : Nat → Nat} {n : Nat} {p : rP} {x0 : Nat} {x1 : Int32} {x2 : Int32} {x3 : Int32} {σ : Nat → jcell} : rB2 K n p 260 [rR x0, rI x1, rI x2, rI x3] σ ↔ (0 ≤ 301 * x1.toInt + x2.toInt ∧ ∃ g, rRo K n σ x0 62 9 67 602 g ∧ (g (301 * x1.toInt + x2.toInt).toNat).toInt = x3.toInt) := Iff.rfl
theorem ro2_261 {K : Nat → Nat} {n : Nat} {p : rP} {x0 : Nat} {x1 : Int32} {x2 : Int32} {σ : Nat → jcell} : rB2 K n p 261 [rR x0, rI x1, rI x2] σ ↔ (∃ y, rTy K n σ x0 x1.toInt y ∧ 0 ≤ x1.toInt ∧ rTr x2.toInt y ∧ 1 ≤ x2.toInt) := Iff.rfl
theorem ro2_262 {K : Nat → Nat} {n : Nat} {p : rP} {x0 : Nat} {x1 : Int32} {x2 : Int32} {σ : Nat → jcell} : rB2 K n p 262 [rR x0, rI x1, rI x2] σ ↔ (0 ≤ x1.toInt ∧ ∃ g, rRo K n σ x0 62 7 65 2 g ∧ (g x1.toInt.toNat).toInt = x2.toInt) := Iff.rfl
theorem ro2_263 {K : Nat → Nat} {n : Nat} {p : rP} {x0 : Nat} {x1 : Int32} {x2 : Int32} {x3 : Int32} {x4 : Int32} {σ : Nat → jcell} : rB2 K n p 263 [rR x0, rI x1, rI x2, rI x3, rI x4] σ ↔ (∃ y, rTy K n σ x0 x1.toInt y ∧ ∃ A B, rCn y.2.2.2.1 (y.2.2.1 x2.toInt) (A ++ x3.toInt :: B) ∧ (∀ c ∈ A ++ x3.toInt :: B, 1 ≤ c) ∧ (B.length : Int) = x4.toInt) := Iff.rfl
theorem ro2_264 {K : Nat → Nat} {n : Nat} {p : rP} {x0 : Nat} {x1 : Int32} {σ : Nat → jcell} : rB2 K n p 264 [rR x0, rI x1] σ ↔ (0 ≤ x1.toInt ∧ ∃ g, rRo K n σ x0 62 7 65 2 g ∧ (g x1.toInt.toNat).toInt ≤ 299) := Iff.rfl
theorem ro2_266 {K : Nat → Nat} {n : Nat} {p : rP} {x0 : Nat} {x1 : Int32} {x2 : Int32} {x3 : Int32} {σ : Nat → jcell} : rB2 K n p 266 [rR x0, rI x1, rI x2, rI x3] σ ↔ (∃ C y, rTY K n σ x0 x1.toInt C y ∧ (rLm (rPo y x2.toInt) x3.toInt ∧ rGd (rMk (rPo y x2.toInt) x3.toInt))) := Iff.rfl
theorem ro2_270 {K : Nat → Nat} {n : Nat} {p : rP} {x0 : Int32} {σ : Nat → jcell} : rB2 K n p 270 [rI x0] σ ↔ (True) := Iff.rfl
theorem ro2_271 {K : Nat → Nat} {n : Nat} {p : rP} {x0 : Int32} {σ : Nat → jcell} : rB2 K n p 271 [rI x0] σ ↔ (True) := Iff.rfl
theorem ro2_276 {K : Nat → Nat} {n : Nat} {p : rP} {x0 : Nat} {x1 : Int32} {x2 : Int32} {x3 : Int32} {σ : Nat → jcell} : rB2 K n p 276 [rR x0, rI x1, rI x2, rI x3] σ ↔ (∃ C y, rTY K n σ x0 x1.toInt C y ∧ (1 ≤ x2.toInt ∧ x2.toInt ≤ C ∧ y.2.2.1 (y.1 x2.toInt) = x3.toInt)) := Iff.rfl
theorem ro2_277 {K : Nat → Nat} {n : Nat} {p : rP} {x0 : Nat} {x1 : Int32} {x2 : Int32} {x3 : Int32} {x4 : Int32} {σ : Nat → jcell} : rB2 K n p 277 [rR x0, rI x1, rI x2, rI x3, rI x4] σ ↔ (∃ C y, rTY K n σ x0 x1.toInt C y ∧ (1 ≤ x2.toInt ∧ x2.toInt ≤ C ∧ ∃ A B D, rCn y.2.2.2.1 (y.2.2.1 (y.1 x2.toInt)) (A ++ x3.toInt :: (B ++ x2.toInt :: D)) ∧ (∀ c ∈ A ++ x3.toInt :: (B ++ x2.toInt :: D), 1 ≤ c ∧ c ≤ C) ∧ (B.length : Int) = x4.toInt)) := Iff.rfl
theorem ro2_278 {K : Nat → Nat} {n : Nat} {p : rP} {x0 : Nat} {x1 : Int32} {x2 : Int32} {x3 : Int32} {x4 : Int32} {x5 : Int32} {σ : Nat → jcell} : rB2 K n p 278 [rR x0, rI x1, rI x2, rI x3, rI x4, rI x5] σ ↔ (∃ C y nx, rTy K n σ x0 x1.toInt y ∧ rCt9 K n σ x0 x1.toInt C ∧ rTr C (y.1, y.2.1, y.2.2.1, nx, y.2.2.2.2) ∧ 1 ≤ x2.toInt ∧ x2.toInt ≤ C ∧ y.1 x2.toInt = x3.toInt ∧ y.2.2.1 x3.toInt = x4.toInt ∧ ¬ x4.toInt = x2.toInt ∧ (∃ A B, rCn nx (y.2.2.1 x3.toInt) (A ++ x5.toInt :: x2.toInt :: B) ∧ ∀ c ∈ A ++ x5.toInt :: x2.toInt :: B, 1 ≤ c ∧ c ≤ C) ∧ ∀ k, 0 ≤ k → k ≤ C → y.2.2.2.1 k = if k = x5.toInt then nx x2.toInt else nx k) := Iff.rfl
theorem ro2_279 {K : Nat → Nat} {n : Nat} {p : rP} {x0 : Nat} {x1 : Int32} {x2 : Int32} {x3 : Int32} {x4 : Int32} {x5 : Int32} {σ : Nat → jcell} : rB2 K n p 279 [rR x0, rI x1, rI x2, rI x3, rI x4, rI x5] σ ↔ (∃ C y nx, rTy K n σ x0 x1.toInt y ∧ rCt9 K n σ x0 x1.toInt C ∧ rTr C (y.1, y.2.1, y.2.2.1, nx, y.2.2.2.2) ∧ 1 ≤ x2.toInt ∧ x2.toInt ≤ C ∧ y.1 x2.toInt = x3.toInt ∧ y.2.2.1 x3.toInt = x4.toInt ∧ ¬ x4.toInt = x2.toInt ∧ (∃ A B, rCn nx (y.2.2.1 x3.toInt) (A ++ x5.toInt :: x2.toInt :: B) ∧ ∀ c ∈ A ++ x5.toInt :: x2.toInt :: B, 1 ≤ c ∧ c ≤ C) ∧ ∀ k, 0 ≤ k → k ≤ C → y.2.2.2.1 k = if k = x2.toInt then x4.toInt else if k = x5.toInt then nx x2.toInt else nx k) := Iff.rfl
theorem ro2_280 {K : Nat → Nat} {n : Nat} {p : rP} {x0 : Nat} {x1 : Int32} {σ : Nat → jcell} : rB2 K n p 280 [rR x0, rI x1] σ ↔ (0 ≤ x1.toInt ∧ (∃ g, rRo K n σ x0 62 7 65 2 g ∧ (g x1.toInt.toNat).toInt = 0) ∧ ∃ g, rRo K n σ x0 62 10 68 602 g ∧ (g (301 * x1.toInt).toNat).toInt = -1) := Iff.rfl
theorem ro2_281 {K : Nat → Nat} {n : Nat} {p : rP} {x0 : Nat} {x1 : Int32} {σ : Nat → jcell} : rB2 K n p 281 [rR x0, rI x1] σ ↔ (∃ q z, rSt9 K n σ x0 x1.toInt q z ∧ rGd q ∧ 0 ≤ z ∧ z ≤ 999 ∧ 0 ≤ q.2.2.1 ∧ q.2.2.1 ≤ 15) := Iff.rfl
theorem ro2_282_1 {K : Nat → Nat} {n : Nat} {p : rP} {x0 : Nat} {σ : Nat → jcell} : rB2 K n p 282 [rR x0] σ ↔ (∃ q, rTX K n σ x0 q ∧ rGd q) := ⟨fun h => (fun h => Or.elim h id False.elim) (show rb_282 K n [rR x0] σ from h), fun h => Or.inl (h)⟩
theorem ro2_282_2 {K : Nat → Nat} {n : Nat} {p : rP} {x0 : Nat} {x1 : Int32} {σ : Nat → jcell} : rB2 K n p 282 [rR x0, rI x1] σ ↔ (x1.toInt = 1 → ∃ q, rTX K n σ x0 q ∧ rGd q) := ⟨fun h => (fun h => Or.elim h False.elim id) (show rb_282 K n [rR x0, rI x1] σ from h), fun h => Or.inr (h)⟩
theorem ro2_283 {K : Nat → Nat} {n : Nat} {p : rP} {x0 : Nat} {x1 : Int32} {x2 : Int32} {σ : Nat → jcell} : rB2 K n p 283 [rR x0, rI x1, rI x2] σ ↔ (0 ≤ x1.toInt ∧ ∃ g5 gm, rRo K n σ x0 62 16 74 128 g5 ∧ rRo K n σ x0 62 24 82 64 gm ∧ ∀ j, 0 ≤ j → j < x2.toInt → j ≤ 63 → (g5 (64 * x1.toInt + j).toNat).toInt = (gm j.toNat).toInt) := Iff.rfl
theorem ro2_284 {K : Nat → Nat} {n : Nat} {p : rP} {x0 : Nat} {x1 : Int32} {x2 : Int32} {σ : Nat → jcell} : rB2 K n p 284 [rR x0, rI x1, rI x2] σ ↔ (0 ≤ x1.toInt ∧ ∃ g5 gm, rRo K n σ x0 62 16 74 128 g5 ∧ rRo K n σ x0 62 24 82 64 gm ∧ ∀ j, 0 ≤ j → j < x2.toInt + 1 → j ≤ 63 → (g5 (64 * x1.toInt + j).toNat).toInt = (gm j.toNat).toInt) := Iff.rfl
theorem ro2_285 {K : Nat → Nat} {n : Nat} {p : rP} {x0 : Nat} {x1 : Int32} {σ : Nat → jcell} : rB2 K n p 285 [rR x0, rI x1] σ ↔ (∃ g, rRo K n σ x0 62 24 82 64 g ∧ ∀ j, 0 ≤ j → j < x1.toInt → j ≤ 63 → (g j.toNat).toInt = 0) := Iff.rfl
theorem ro2_286 {K : Nat → Nat} {n : Nat} {p : rP} {x0 : Nat} {x1 : Int32} {σ : Nat → jcell} : rB2 K n p 286 [rR x0, rI x1] σ ↔ (∃ g, rRo K n σ x0 62 24 82 64 g ∧ ∀ j, 0 ≤ j → j < x1.toInt + 1 → j ≤ 63 → (g j.toNat).toInt = 0) := Iff.rfl
theorem ro2_287 {K : Nat → Nat} {n : Nat} {p : rP} {x0 : Nat} {x1 : Int32} {σ : Nat → jcell} : rB2 K n p 287 [rR x0, rI x1] σ ↔ (0 ≤ x1.toInt ∧ ∃ g, rRo K n σ x0 62 7 65 2 g ∧ (g x1.toInt.toNat).toInt = 0) := Iff.rfl
theorem ro2_288 {K : Nat → Nat} {n : Nat} {p : rP} {x0 : Nat} {x1 : Int32} {x2 : Int32} {σ : Nat → jcell} : rB2 K n p 288 [rR x0, rI x1, rI x2] σ ↔ (0 ≤ x1.toInt ∧ ∃ g, rRo K n σ x0 62 17 75 10 g ∧ (g (5 * x1.toInt + 0).toNat).toInt = x2.toInt) := Iff.rfl
theorem ro2_289 {K : Nat → Nat} {n : Nat} {p : rP} {x0 : Nat} {x1 : Int32} {x2 : Int32} {σ : Nat → jcell} : rB2 K n p 289 [rR x0, rI x1, rI x2] σ ↔ (0 ≤ x1.toInt ∧ ∃ g, rRo K n σ x0 62 17 75 10 g ∧ (g (5 * x1.toInt + 1).toNat).toInt = x2.toInt) := Iff.rfl
theorem ro2_290 {K : Nat → Nat} {n : Nat} {p : rP} {x0 : Nat} {x1 : Int32} {x2 : Int32} {σ : Nat → jcell} : rB2 K n p 290 [rR x0, rI x1, rI x2] σ ↔ (0 ≤ x1.toInt ∧ ∃ g, rRo K n σ x0 62 17 75 10 g ∧ (g (5 * x1.toInt + 2).toNat).toInt = x2.toInt) := Iff.rfl
theorem ro2_291 {K : Nat → Nat} {n : Nat} {p : rP} {x0 : Nat} {x1 : Int32} {x2 : Int32} {σ : Nat → jcell} : rB2 K n p 291 [rR x0, rI x1, rI x2] σ ↔ (0 ≤ x1.toInt ∧ ∃ g, rRo K n σ x0 62 17 75 10 g ∧ (g (5 * x1.toInt + 4).toNat).toInt = x2.toInt) := Iff.rfl
theorem ro2_300 {K : Nat → Nat} {n : Nat} {p : rP} {x0 : Nat} {σ : Nat → jcell} : rB2 K n p 300 [rR x0] σ ↔ (∃ M, rTe K n σ x0 M ∧ (M = rIp 0)) := Iff.rfl
theorem ro2_301 {K : Nat → Nat} {n : Nat} {p : rP} {x0 : Nat} {σ : Nat → jcell} : rB2 K n p 301 [rR x0] σ ↔ (∃ M, rTe K n σ x0 M ∧ (M = rIp 1)) := Iff.rfl
theorem ro2_302 {K : Nat → Nat} {n : Nat} {p : rP} {x0 : Nat} {σ : Nat → jcell} : rB2 K n p 302 [rR x0] σ ↔ (∃ M, rTe K n σ x0 M ∧ (M = rIp 2)) := Iff.rfl
theorem ro2_303 {K : Nat → Nat} {n : Nat} {p : rP} {x0 : Nat} {σ : Nat → jcell} : rB2 K n p 303 [rR x0] σ ↔ (∃ M, rTe K n σ x0 M ∧ (M = rIp 3)) := Iff.rfl
theorem ro2_304 {K : Nat → Nat} {n : Nat} {p : rP} {x0 : Nat} {σ : Nat → jcell} : rB2 K n p 304 [rR x0] σ ↔ (∃ M, rTe K n σ x0 M ∧ (M = rIp 4)) := Iff.rfl
theorem ro2_305 {K : Nat → Nat} {n : Nat} {p : rP} {x0 : Nat} {σ : Nat → jcell} : rB2 K n p 305 [rR x0] σ ↔ (∃ M, rTe K n σ x0 M ∧ (M = rIp 5)) := Iff.rfl
theorem ro2_306 {K : Nat → Nat} {n : Nat} {p : rP} {x0 : Nat} {σ : Nat → jcell} : rB2 K n p 306 [rR x0] σ ↔ (∃ M, rTe K n σ x0 M ∧ (M = rIp 6)) := Iff.rfl
theorem ro2_307 {K : Nat → Nat} {n : Nat} {p : rP} {x0 : Nat} {σ : Nat → jcell} : rB2 K n p 307 [rR x0] σ ↔ (∃ M, rTe K n σ x0 M ∧ (M = rIp 7)) := Iff.rfl
theorem ro2_308 {K : Nat → Nat} {n : Nat} {p : rP} {x0 : Nat} {σ : Nat → jcell} : rB2 K n p 308 [rR x0] σ ↔ (∃ M, rTe K n σ x0 M ∧ (M = rIp 8)) := Iff.rfl
theorem ro2_309 {K : Nat → Nat} {n : Nat} {p : rP} {x0 : Nat} {σ : Nat → jcell} : rB2 K n p 309 [rR x0] σ ↔ (∃ M, rTe K n σ x0 M ∧ (M = rIp 9)) := Iff.rfl
theorem ro2_310 {K : Nat → Nat} {n : Nat} {p : rP} {x0 : Nat} {σ : Nat → jcell} : rB2 K n p 310 [rR x0] σ ↔ (∃ M, rTe K n σ x0 M ∧ (M = rIp 10)) := Iff.rfl
theorem ro2_311 {K : Nat → Nat} {n : Nat} {p : rP} {x0 : Nat} {σ : Nat → jcell} : rB2 K n p 311 [rR x0] σ ↔ (∃ M, rTe K n σ x0 M ∧ (M = rIp 11)) := Iff.rfl
theorem ro2_312 {K : Nat → Nat} {n : Nat} {p : rP} {x0 : Nat} {σ : Nat → jcell} : rB2 K n p 312 [rR x0] σ ↔ (∃ M, rTe K n σ x0 M ∧ (M = rIp 12)) := Iff.rfl
theorem ro2_313 {K : Nat → Nat} {n : Nat} {p : rP} {x0 : Nat} {σ : Nat → jcell} : rB2 K n p 313 [rR x0] σ ↔ (∃ M, rTe K n σ x0 M ∧ (M = rIp 13)) := Iff.rfl
theorem ro2_314 {K : Nat → Nat} {n : Nat} {p : rP} {x0 : Nat} {σ : Nat → jcell} : rB2 K n p 314 [rR x0] σ ↔ (∃ M, rTe K n σ x0 M ∧ (M = rIp 14)) := Iff.rfl
theorem ro2_315 {K : Nat → Nat} {n : Nat} {p : rP} {x0 : Nat} {σ : Nat → jcell} : rB2 K n p 315 [rR x0] σ ↔ (∃ M, rTe K n σ x0 M ∧ (M = rIp 15)) := Iff.rfl
theorem ro2_316 {K : Nat → Nat} {n : Nat} {p : rP} {x0 : Nat} {σ : Nat → jcell} : rB2 K n p 316 [rR x0] σ ↔ (∃ M, rTe K n σ x0 M ∧ (M = rIp 16)) := Iff.rfl
theorem ro2_317 {K : Nat → Nat} {n : Nat} {p : rP} {x0 : Nat} {σ : Nat → jcell} : rB2 K n p 317 [rR x0] σ ↔ (∃ M, rTe K n σ x0 M ∧ (M = rIp 17)) := Iff.rfl
theorem ro2_318 {K : Nat → Nat} {n : Nat} {p : rP} {x0 : Nat} {σ : Nat → jcell} : rB2 K n p 318 [rR x0] σ ↔ (∃ M, rTe K n σ x0 M ∧ (M = rIp 18)) := Iff.rfl
theorem ro2_319 {K : Nat → Nat} {n : Nat} {p : rP} {x0 : Nat} {σ : Nat → jcell} : rB2 K n p 319 [rR x0] σ ↔ (∃ M, rTe K n σ x0 M ∧ (M = rIp 19)) := Iff.rfl
theorem ro2_320 {K : Nat → Nat} {n : Nat} {p : rP} {x0 : Nat} {σ : Nat → jcell} : rB2 K n p 320 [rR x0] σ ↔ (∃ M, rTe K n σ x0 M ∧ (M = rIp 20)) := Iff.rfl
theorem ro2_321 {K : Nat → Nat} {n : Nat} {p : rP} {x0 : Nat} {σ : Nat → jcell} : rB2 K n p 321 [rR x0] σ ↔ (∃ M, rTe K n σ x0 M ∧ (M = rIp 21)) := Iff.rfl
theorem ro2_322 {K : Nat → Nat} {n : Nat} {p : rP} {x0 : Nat} {σ : Nat → jcell} : rB2 K n p 322 [rR x0] σ ↔ (∃ M, rTe K n σ x0 M ∧ (M = rIp 22)) := Iff.rfl
theorem ro2_323 {K : Nat → Nat} {n : Nat} {p : rP} {x0 : Nat} {σ : Nat → jcell} : rB2 K n p 323 [rR x0] σ ↔ (∃ M, rTe K n σ x0 M ∧ (M = rIp 23)) := Iff.rfl
theorem ro2_324 {K : Nat → Nat} {n : Nat} {p : rP} {x0 : Nat} {σ : Nat → jcell} : rB2 K n p 324 [rR x0] σ ↔ (∃ M, rTe K n σ x0 M ∧ (M = rIp 24)) := Iff.rfl
theorem ro2_325 {K : Nat → Nat} {n : Nat} {p : rP} {x0 : Nat} {σ : Nat → jcell} : rB2 K n p 325 [rR x0] σ ↔ (∃ M, rTe K n σ x0 M ∧ (M = rIp 25)) := Iff.rfl
theorem ro2_326 {K : Nat → Nat} {n : Nat} {p : rP} {x0 : Nat} {σ : Nat → jcell} : rB2 K n p 326 [rR x0] σ ↔ (∃ M, rTe K n σ x0 M ∧ (M = rIp 26)) := Iff.rfl
theorem ro2_327 {K : Nat → Nat} {n : Nat} {p : rP} {x0 : Nat} {σ : Nat → jcell} : rB2 K n p 327 [rR x0] σ ↔ (∃ M, rTe K n σ x0 M ∧ (M = rIp 27)) := Iff.rfl
theorem ro2_328 {K : Nat → Nat} {n : Nat} {p : rP} {x0 : Nat} {σ : Nat → jcell} : rB2 K n p 328 [rR x0] σ ↔ (∃ M, rTe K n σ x0 M ∧ (M = rIp 28)) := Iff.rfl
theorem ro2_329 {K : Nat → Nat} {n : Nat} {p : rP} {x0 : Nat} {σ : Nat → jcell} : rB2 K n p 329 [rR x0] σ ↔ (∃ M, rTe K n σ x0 M ∧ (M = rIp 29)) := Iff.rfl
theorem ro2_330 {K : Nat → Nat} {n : Nat} {p : rP} {x0 : Nat} {σ : Nat → jcell} : rB2 K n p 330 [rR x0] σ ↔ (∃ M, rTe K n σ x0 M ∧ (M = rIp 30)) := Iff.rfl
theorem ro2_331 {K : Nat → Nat} {n : Nat} {p : rP} {x0 : Nat} {σ : Nat → jcell} : rB2 K n p 331 [rR x0] σ ↔ (∃ M, rTe K n σ x0 M ∧ (M = rIp 31)) := Iff.rfl
theorem ro2_332 {K : Nat → Nat} {n : Nat} {p : rP} {x0 : Nat} {σ : Nat → jcell} : rB2 K n p 332 [rR x0] σ ↔ (∃ M, rTe K n σ x0 M ∧ (M = rIp 32)) := Iff.rfl
theorem ro2_333 {K : Nat → Nat} {n : Nat} {p : rP} {x0 : Nat} {x1 : Int32} {σ : Nat → jcell} : rB2 K n p 333 [rR x0, rI x1] σ ↔ (∃ g t e, rVl K n σ x0 g ∧ rOb K n σ x0 62 38 (rI t) ∧ rOb K n σ x0 62 39 (rI e) ∧ x1.toInt = (if t.toInt < e.toInt then (g t.toInt.toNat).toInt else 0)) := Iff.rfl
theorem ro2_334 {K : Nat → Nat} {n : Nat} {p : rP} {x0 : Nat} {σ : Nat → jcell} : rB2 K n p 334 [rR x0] σ ↔ (∃ M, rTe K n σ x0 M ∧ (rVal M)) := Iff.rfl
theorem ro2_335_1 {K : Nat → Nat} {n : Nat} {p : rP} {x0 : Nat} {σ : Nat → jcell} : rB2 K n p 335 [rR x0] σ ↔ (∃ M, rTe K n σ x0 M ∧ (rCnt M 6 64 = 1)) := ⟨fun h => (fun h => Or.elim h id False.elim) (show rb_335 K n [rR x0] σ from h), fun h => Or.inl (h)⟩
theorem ro2_335_4 {K : Nat → Nat} {n : Nat} {p : rP} {x0 : Nat} {x1 : Int32} {x2 : Int32} {x3 : Int32} {σ : Nat → jcell} : rB2 K n p 335 [rR x0, rI x1, rI x2, rI x3] σ ↔ (∃ M, rTe K n σ x0 M ∧ (x3.toInt = rCnt M x1.toInt x2.toInt.toNat)) := ⟨fun h => (fun h => Or.elim h False.elim id) (show rb_335 K n [rR x0, rI x1, rI x2, rI x3] σ from h), fun h => Or.inr (h)⟩
theorem ro2_336_1 {K : Nat → Nat} {n : Nat} {p : rP} {x0 : Nat} {σ : Nat → jcell} : rB2 K n p 336 [rR x0] σ ↔ (∃ M, rTe K n σ x0 M ∧ (rCnt M 6 64 = 1 ∧ rCnt M 14 64 = 1)) := ⟨fun h => (fun h => Or.elim h id False.elim) (show rb_336 K n [rR x0] σ from h), fun h => Or.inl (h)⟩
theorem ro2_336_4 {K : Nat → Nat} {n : Nat} {p : rP} {x0 : Nat} {x1 : Int32} {x2 : Int32} {x3 : Int32} {σ : Nat → jcell} : rB2 K n p 336 [rR x0, rI x1, rI x2, rI x3] σ ↔ (∃ M, rTe K n σ x0 M ∧ (x3.toInt = rCnt M x1.toInt (x2.toInt + 1).toNat)) := ⟨fun h => (fun h => Or.elim h False.elim id) (show rb_336 K n [rR x0, rI x1, rI x2, rI x3] σ from h), fun h => Or.inr (h)⟩
theorem ro2_337 {K : Nat → Nat} {n : Nat} {p : rP} {x0 : Nat} {x1 : Int32} {x2 : Int32} {σ : Nat → jcell} : rB2 K n p 337 [rR x0, rI x1, rI x2] σ ↔ (∃ M, rTe K n σ x0 M ∧ (x2.toInt = rCnt M x1.toInt 64)) := Iff.rfl
theorem ro2_338 {K : Nat → Nat} {n : Nat} {p : rP} {x0 : Nat} {x1 : Int32} {σ : Nat → jcell} : rB2 K n p 338 [rR x0, rI x1] σ ↔ (x1.toInt = 1 → ∃ M v, rTe K n σ x0 M ∧ rOb K n σ x0 62 25 (rI v) ∧ 0 ≤ v.toInt ∧ v.toInt ≤ 1 ∧ ∀ j, 0 ≤ j → j ≤ 63 → M j = 8 * (1 - v.toInt) + 6 → ∃ s, 0 ≤ s ∧ s ≤ 63 ∧ M s = 8 * (1 - v.toInt) + 6 ∧ ¬ rAk M s v.toInt) := Iff.rfl
theorem ro2_339 {K : Nat → Nat} {n : Nat} {p : rP} {x0 : Nat} {x1 : Int32} {σ : Nat → jcell} : rB2 K n p 339 [rR x0, rI x1] σ ↔ (x1.toInt = 1 → ∃ M v P, rTe K n σ x0 M ∧ rOb K n σ x0 62 25 (rI v) ∧ rOb K n σ x0 62 27 (rI P) ∧ 0 ≤ P.toInt ∧ P.toInt ≤ 63 ∧ M P.toInt = 0 ∧ ((v.toInt = 0 ∧ P.toInt / 8 = 5) ∨ (v.toInt = 1 ∧ P.toInt / 8 = 2))) := Iff.rfl
theorem ro2_340 {K : Nat → Nat} {n : Nat} {p : rP} {x0 : Nat} {x1 : Int32} {σ : Nat → jcell} : rB2 K n p 340 [rR x0, rI x1] σ ↔ (x1.toInt = 1 → ∃ M v P, rTe K n σ x0 M ∧ rOb K n σ x0 62 25 (rI v) ∧ rOb K n σ x0 62 27 (rI P) ∧ rPs (M, v.toInt, 0, P.toInt)) := Iff.rfl
theorem ro2_341 {K : Nat → Nat} {n : Nat} {p : rP} {x0 : Int32} {x1 : Int32} {σ : Nat → jcell} : rB2 K n p 341 [rI x0, rI x1] σ ↔ (x1.toInt = if x0.toInt = 66 then 3 else if x0.toInt = 75 then 6 else if x0.toInt = 78 then 2 else if x0.toInt = 80 then 1 else if x0.toInt = 81 then 5 else if x0.toInt = 82 then 4 else 0) := Iff.rfl
theorem ro2_400 {K : Nat → Nat} {n : Nat} {p : rP} {x0 : Nat} {σ : Nat → jcell} : rB2 K n p 400 [rR x0] σ ↔ (p.2 = none ∧ rTX K n σ x0 p.1) := (rB2_o (k := 400) rfl).trans ro_400
theorem ro2_401 {K : Nat → Nat} {n : Nat} {p : rP} {x0 : Nat} {σ : Nat → jcell} : rB2 K n p 401 [rR x0] σ ↔ (p.2 = none ∧ rTKP K n σ x0 p.1) := (rB2_o (k := 401) rfl).trans ro_401
theorem ro2_402 {K : Nat → Nat} {n : Nat} {p : rP} {x0 : Nat} {x1 : Int32} {σ : Nat → jcell} : rB2 K n p 402 [rR x0, rI x1] σ ↔ (rKI K n σ x0 30 83 x1.toInt p.1.1) := (rB2_o (k := 402) rfl).trans ro_402
theorem ro2_403 {K : Nat → Nat} {n : Nat} {p : rP} {x0 : Nat} {x1 : Int32} {σ : Nat → jcell} : rB2 K n p 403 [rR x0, rI x1] σ ↔ (rKI K n σ x0 30 83 (x1.toInt + 1) p.1.1) := (rB2_o (k := 403) rfl).trans ro_403
theorem ro2_404 {K : Nat → Nat} {n : Nat} {p : rP} {x0 : Nat} {x1 : Int32} {σ : Nat → jcell} : rB2 K n p 404 [rR x0, rI x1] σ ↔ (rKI K n σ x0 24 82 x1.toInt p.1.1) := (rB2_o (k := 404) rfl).trans ro_404
theorem ro2_405 {K : Nat → Nat} {n : Nat} {p : rP} {x0 : Nat} {x1 : Int32} {σ : Nat → jcell} : rB2 K n p 405 [rR x0, rI x1] σ ↔ (rKI K n σ x0 24 82 (x1.toInt + 1) p.1.1) := (rB2_o (k := 405) rfl).trans ro_405
theorem ro2_406 {K : Nat → Nat} {n : Nat} {p : rP} {x0 : Nat} {x1 : Int32} {σ : Nat → jcell} : rB2 K n p 406 [rR x0, rI x1] σ ↔ (∃ M, rTe K n σ x0 M ∧ (p.2 = none ∧ M = rV0 p.1 x1.toInt)) := (rB2_o (k := 406) rfl).trans ro_406
theorem ro2_407 {K : Nat → Nat} {n : Nat} {p : rP} {x0 : Nat} {x1 : Int32} {σ : Nat → jcell} : rB2 K n p 407 [rR x0, rI x1] σ ↔ (∃ M, rTe K n σ x0 M ∧ (p.2 = none ∧ M = rV1 p.1 x1.toInt)) := (rB2_o (k := 407) rfl).trans ro_407
theorem ro2_408 {K : Nat → Nat} {n : Nat} {p : rP} {x0 : Nat} {x1 : Int32} {σ : Nat → jcell} : rB2 K n p 408 [rR x0, rI x1] σ ↔ (∃ M, rTe K n σ x0 M ∧ (p.2 = none ∧ M = rV2 p.1 x1.toInt)) := (rB2_o (k := 408) rfl).trans ro_408
theorem ro2_409 {K : Nat → Nat} {n : Nat} {p : rP} {x0 : Nat} {x1 : Int32} {σ : Nat → jcell} : rB2 K n p 409 [rR x0, rI x1] σ ↔ (∃ M, rTe K n σ x0 M ∧ (p.2 = none ∧ M = rV3 p.1 x1.toInt)) := (rB2_o (k := 409) rfl).trans ro_409
theorem ro2_410 {K : Nat → Nat} {n : Nat} {p : rP} {x0 : Nat} {x1 : Int32} {σ : Nat → jcell} : rB2 K n p 410 [rR x0, rI x1] σ ↔ (∃ M, rTe K n σ x0 M ∧ (p.2 = none ∧ M = rV1d p.1 x1.toInt)) := (rB2_o (k := 410) rfl).trans ro_410
theorem ro2_411 {K : Nat → Nat} {n : Nat} {p : rP} {x0 : Nat} {x1 : Int32} {σ : Nat → jcell} : rB2 K n p 411 [rR x0, rI x1] σ ↔ (p.2 = none ∧ rTX K n σ x0 (rVk p.1 x1.toInt)) := (rB2_o (k := 411) rfl).trans ro_411
theorem ro2_412 {K : Nat → Nat} {n : Nat} {p : rP} {x0 : Int32} {x1 : Int32} {σ : Nat → jcell} : rB2 K n p 412 [rI x0, rI x1] σ ↔ (x1.toInt = p.1.1 (rFr x0.toInt)) := (rB2_o (k := 412) rfl).trans ro_412
theorem ro2_413 {K : Nat → Nat} {n : Nat} {p : rP} {x0 : Int32} {x1 : Int32} {σ : Nat → jcell} : rB2 K n p 413 [rI x0, rI x1] σ ↔ ((x1.toInt = 1 ∧ p.1.1 (rFr x0.toInt) % 8 = 1) ∨ (x1.toInt = 0 ∧ ¬ p.1.1 (rFr x0.toInt) % 8 = 1)) := (rB2_o (k := 413) rfl).trans ro_413
theorem ro2_414 {K : Nat → Nat} {n : Nat} {p : rP} {x0 : Int32} {x1 : Int32} {σ : Nat → jcell} : rB2 K n p 414 [rI x0, rI x1] σ ↔ (x1.toInt = rAn (rAn p.1.2.2.1 (rLo (rFr x0.toInt))) (rLo (rTo x0.toInt))) := (rB2_o (k := 414) rfl).trans ro_414
theorem ro2_415 {K : Nat → Nat} {n : Nat} {p : rP} {x0 : Int32} {x1 : Int32} {σ : Nat → jcell} : rB2 K n p 415 [rI x0, rI x1] σ ↔ (x1.toInt = rVp p.1 x0.toInt) := (rB2_o (k := 415) rfl).trans ro_415
theorem ro2_416 {K : Nat → Nat} {n : Nat} {p : rP} {x0 : Int32} {σ : Nat → jcell} : rB2 K n p 416 [rI x0] σ ↔ (¬ rNbr (rV3 p.1 x0.toInt) (rTo x0.toInt) (-1) (1 + 8 * (1 - p.1.2.1))) := (rB2_o (k := 416) rfl).trans ro_416
theorem ro2_417 {K : Nat → Nat} {n : Nat} {p : rP} {x0 : Int32} {σ : Nat → jcell} : rB2 K n p 417 [rI x0] σ ↔ (p.2 = none ∧ rZ p.1.1 ∧ x0.toInt = p.1.2.1) := (rB2_o (k := 417) rfl).trans ro_417
theorem ro2_418 {K : Nat → Nat} {n : Nat} {p : rP} {x0 : Int32} {σ : Nat → jcell} : rB2 K n p 418 [rI x0] σ ↔ (x0.toInt = p.1.2.2.1) := (rB2_o (k := 418) rfl).trans ro_418
theorem ro2_419 {K : Nat → Nat} {n : Nat} {p : rP} {x0 : Int32} {σ : Nat → jcell} : rB2 K n p 419 [rI x0] σ ↔ (x0.toInt = p.1.2.2.2) := (rB2_o (k := 419) rfl).trans ro_419
theorem ro2_420 {K : Nat → Nat} {n : Nat} {p : rP} {x0 : Nat} {σ : Nat → jcell} : rB2 K n p 420 [rR x0] σ ↔ (p.2 = none ∧ rZ p.1.1 ∧ ∃ g, rRo K n σ x0 62 31 84 5 g ∧ (g 0).toInt = p.1.2.1) := (rB2_o (k := 420) rfl).trans ro_420
theorem ro2_421 {K : Nat → Nat} {n : Nat} {p : rP} {x0 : Nat} {σ : Nat → jcell} : rB2 K n p 421 [rR x0] σ ↔ (p.2 = none ∧ rZ p.1.1 ∧ ∃ g, rRo K n σ x0 62 31 84 5 g ∧ (g 1).toInt = p.1.2.2.1) := (rB2_o (k := 421) rfl).trans ro_421
theorem ro2_422 {K : Nat → Nat} {n : Nat} {p : rP} {x0 : Nat} {σ : Nat → jcell} : rB2 K n p 422 [rR x0] σ ↔ (p.2 = none ∧ rZ p.1.1 ∧ ∃ g, rRo K n σ x0 62 31 84 5 g ∧ (g 2).toInt = p.1.2.2.2) := (rB2_o (k := 422) rfl).trans ro_422
theorem ro2_423 {K : Nat → Nat} {n : Nat} {p : rP} {x0 : Int32} {x1 : Int32} {σ : Nat → jcell} : rB2 K n p 423 [rI x0, rI x1] σ ↔ (p.1.1 (rFr x0.toInt) % 8 = 6 ∧ rFr x0.toInt % 8 = 4 ∧ rTo x0.toInt % 8 = x1.toInt ∧ (x1.toInt = 6 ∨ x1.toInt = 2)) := (rB2_o (k := 423) rfl).trans ro_423
theorem ro2_424 {K : Nat → Nat} {n : Nat} {p : rP} {x0 : Int32} {σ : Nat → jcell} : rB2 K n p 424 [rI x0] σ ↔ (¬ rVc p.1 x0.toInt) := (rB2_o (k := 424) rfl).trans ro_424
theorem ro2_425 {K : Nat → Nat} {n : Nat} {p : rP} {x0 : Int32} {x1 : Int32} {σ : Nat → jcell} : rB2 K n p 425 [rI x0, rI x1] σ ↔ (x1.toInt = rAn p.1.2.2.1 (rLo (rFr x0.toInt))) := (rB2_o (k := 425) rfl).trans ro_425
theorem ro2_426 {K : Nat → Nat} {n : Nat} {p : rP} {x0 : Int32} {x1 : Int32} {σ : Nat → jcell} : rB2 K n p 426 [rI x0, rI x1] σ ↔ (x1.toInt = 1 → rSaf p.1 x0.toInt) := (rB2_o (k := 426) rfl).trans ro_426
theorem ro2_427 {K : Nat → Nat} {n : Nat} {p : rP} {x0 : Int32} {x1 : Int32} {x2 : Int32} {σ : Nat → jcell} : rB2 K n p 427 [rI x0, rI x1, rI x2] σ ↔ (x2.toInt = 1 → rPG p.1 x0.toInt x1.toInt) := (rB2_o (k := 427) rfl).trans ro_427
theorem ro2_428 {K : Nat → Nat} {n : Nat} {p : rP} {x0 : Int32} {x1 : Int32} {σ : Nat → jcell} : rB2 K n p 428 [rI x0, rI x1] σ ↔ (x1.toInt = 1 → rTmc p.1 x0.toInt) := (rB2_o (k := 428) rfl).trans ro_428
theorem ro2_429 {K : Nat → Nat} {n : Nat} {p : rP} {x0 : Int32} {x1 : Int32} {x2 : Int32} {σ : Nat → jcell} : rB2 K n p 429 [rI x0, rI x1, rI x2] σ ↔ (x2.toInt = 1 → rOwn p.1 x0.toInt ∧ ¬ rOwn p.1 x1.toInt ∧ rGO p.1 x0.toInt x1.toInt ∧ 0 ≤ p.1.2.1 ∧ p.1.2.1 ≤ 1) := (rB2_o (k := 429) rfl).trans ro_429
theorem ro2_430 {K : Nat → Nat} {n : Nat} {p : rP} {x0 : Int32} {σ : Nat → jcell} : rB2 K n p 430 [rI x0] σ ↔ (rOwn p.1 x0.toInt ∧ 0 ≤ p.1.2.1 ∧ p.1.2.1 ≤ 1) := (rB2_o (k := 430) rfl).trans ro_430
theorem ro2_431 {K : Nat → Nat} {n : Nat} {p : rP} {x0 : Int32} {σ : Nat → jcell} : rB2 K n p 431 [rI x0] σ ↔ (¬ rOwn p.1 x0.toInt) := (rB2_o (k := 431) rfl).trans ro_431
theorem ro2_432 {K : Nat → Nat} {n : Nat} {p : rP} {x0 : Int32} {x1 : Int32} {σ : Nat → jcell} : rB2 K n p 432 [rI x0, rI x1] σ ↔ (rGd p.1 ∧ x1.toInt = p.1.1 x0.toInt % 8) := (rB2_o (k := 432) rfl).trans ro_432
theorem ro2_433 {K : Nat → Nat} {n : Nat} {p : rP} {x0 : Int32} {x1 : Int32} {x2 : Int32} {x3 : Int32} {x4 : Int32} {σ : Nat → jcell} : rB2 K n p 433 [rI x0, rI x1, rI x2, rI x3, rI x4] σ ↔ (rRy p.1.1 x0.toInt x1.toInt x2.toInt x3.toInt x4.toInt) := (rB2_o (k := 433) rfl).trans ro_433
theorem ro2_434 {K : Nat → Nat} {n : Nat} {p : rP} {x0 : Int32} {x1 : Int32} {x2 : Int32} {x3 : Int32} {x4 : Int32} {σ : Nat → jcell} : rB2 K n p 434 [rI x0, rI x1, rI x2, rI x3, rI x4] σ ↔ (rRy p.1.1 x0.toInt x1.toInt x2.toInt x3.toInt x4.toInt ∧ p.1.1 x4.toInt = 0) := (rB2_o (k := 434) rfl).trans ro_434
theorem ro2_435 {K : Nat → Nat} {n : Nat} {p : rP} {x0 : Int32} {x1 : Int32} {σ : Nat → jcell} : rB2 K n p 435 [rI x0, rI x1] σ ↔ (x1.toInt ≤ 31 * x0.toInt) := (rB2_o (k := 435) rfl).trans ro_435
theorem ro2_436 {K : Nat → Nat} {n : Nat} {p : rP} {x0 : Int32} {x1 : Int32} {x2 : Int32} {σ : Nat → jcell} : rB2 K n p 436 [rI x0, rI x1, rI x2] σ ↔ (x2.toInt ≤ 31 * x0.toInt + rSm (p.1.1 x0.toInt % 8) x0.toInt x1.toInt.toNat) := (rB2_o (k := 436) rfl).trans ro_436
theorem ro2_437 {K : Nat → Nat} {n : Nat} {p : rP} {x0 : Int32} {x1 : Int32} {x2 : Int32} {x3 : Int32} {σ : Nat → jcell} : rB2 K n p 437 [rI x0, rI x1, rI x2, rI x3] σ ↔ (rTJ p.1 x0.toInt x1.toInt x2.toInt x3.toInt) := (rB2_o (k := 437) rfl).trans ro_437
theorem ro2_438 {K : Nat → Nat} {n : Nat} {p : rP} {x0 : Nat} {x1 : Int32} {σ : Nat → jcell} : rB2 K n p 438 [rR x0, rI x1] σ ↔ (x1.toInt ≤ 2048 ∧ rTL K n σ x0 x1.toInt p.1) := (rB2_o (k := 438) rfl).trans ro_438
theorem ro2_439 {K : Nat → Nat} {n : Nat} {p : rP} {x0 : Nat} {x1 : Int32} {σ : Nat → jcell} : rB2 K n p 439 [rR x0, rI x1] σ ↔ (x1.toInt ≤ 2048 ∧ rTL K n σ x0 (x1.toInt + 1) p.1) := (rB2_o (k := 439) rfl).trans ro_439
theorem ro2_440 {K : Nat → Nat} {n : Nat} {p : rP} {x0 : Int32} {x1 : Int32} {x2 : Int32} {σ : Nat → jcell} : rB2 K n p 440 [rI x0, rI x1, rI x2] σ ↔ ((x2.toInt = 1 ∧ rLs p.1 x0.toInt x1.toInt) ∨ (x2.toInt = 0 ∧ ¬ rLs p.1 x0.toInt x1.toInt)) := (rB2_o (k := 440) rfl).trans ro_440
theorem ro2_441 {K : Nat → Nat} {n : Nat} {p : rP} {x0 : Int32} {x1 : Int32} {x2 : Int32} {σ : Nat → jcell} : rB2 K n p 441 [rI x0, rI x1, rI x2] σ ↔ (x2.toInt ≤ 31 * x0.toInt + rSm (p.1.1 x0.toInt % 8) x0.toInt (x1.toInt + 1).toNat) := (rB2_o (k := 441) rfl).trans ro_441
theorem ro2_443 {K : Nat → Nat} {n : Nat} {p : rP} {x0 : Int32} {x1 : Int32} {x2 : Int32} {x3 : Int32} {σ : Nat → jcell} : rB2 K n p 443 [rI x0, rI x1, rI x2, rI x3] σ ↔ (rTJ p.1 x0.toInt x1.toInt (x2.toInt + 1) x3.toInt) := (rB2_o (k := 443) rfl).trans ro_443
theorem ro2_444 {K : Nat → Nat} {n : Nat} {p : rP} {x0 : Int32} {x1 : Int32} {σ : Nat → jcell} : rB2 K n p 444 [rI x0, rI x1] σ ↔ (x1.toInt = 1 → rRgt p.1 x0.toInt) := (rB2_o (k := 444) rfl).trans ro_444
theorem ro2_445 {K : Nat → Nat} {n : Nat} {p : rP} {x0 : Int32} {x1 : Int32} {x2 : Int32} {σ : Nat → jcell} : rB2 K n p 445 [rI x0, rI x1, rI x2] σ ↔ (rSl (p.1.1 x0.toInt % 8) x1.toInt x2.toInt) := (rB2_o (k := 445) rfl).trans ro_445
theorem ro2_446 {K : Nat → Nat} {n : Nat} {p : rP} {x0 : Int32} {x1 : Int32} {x2 : Int32} {σ : Nat → jcell} : rB2 K n p 446 [rI x0, rI x1, rI x2] σ ↔ (x2.toInt = 1 → rSaf p.1 (x0.toInt + 64 * x1.toInt)) := (rB2_o (k := 446) rfl).trans ro_446
theorem ro2_447 {K : Nat → Nat} {n : Nat} {p : rP} {x0 : Int32} {x1 : Int32} {σ : Nat → jcell} : rB2 K n p 447 [rI x0, rI x1] σ ↔ (rOwn p.1 x0.toInt ∧ ¬ rOwn p.1 x1.toInt ∧ rGO p.1 x0.toInt x1.toInt ∧ 0 ≤ p.1.2.1 ∧ p.1.2.1 ≤ 1) := (rB2_o (k := 447) rfl).trans ro_447
theorem ro2_448 {K : Nat → Nat} {n : Nat} {p : rP} {x0 : Int32} {x1 : Int32} {σ : Nat → jcell} : rB2 K n p 448 [rI x0, rI x1] σ ↔ (x1.toInt ≤ 31 * (x0.toInt + 1)) := (rB2_o (k := 448) rfl).trans ro_448
theorem ro2_449_3 {K : Nat → Nat} {n : Nat} {p : rP} {x0 : Nat} {x1 : Int32} {x2 : Int32} {σ : Nat → jcell} : rB2 K n p 449 [rR x0, rI x1, rI x2] σ ↔ (p.2 = none ∧ ∃ C y, rTY K n σ x0 x1.toInt C y ∧ 0 ≤ x2.toInt ∧ x2.toInt ≤ C ∧ p.1 = rPo y x2.toInt) := ⟨fun h => (fun h => Or.elim h id False.elim) (show rb_449 K n p [rR x0, rI x1, rI x2] σ from h), fun h => Or.inl (h)⟩
theorem ro2_449_5 {K : Nat → Nat} {n : Nat} {p : rP} {x0 : Nat} {x1 : Int32} {x2 : Int32} {x3 : Int32} {x4 : Int32} {σ : Nat → jcell} : rB2 K n p 449 [rR x0, rI x1, rI x2, rI x3, rI x4] σ ↔ (p.2 = none ∧ ∃ C y, rTY K n σ x0 x1.toInt C y ∧ 0 ≤ x2.toInt ∧ x2.toInt ≤ C ∧ 0 ≤ x3.toInt ∧ rPth K n σ x0 y x2.toInt x3.toInt ∧ rUa y.1 x3.toInt.toNat x2.toInt = 0 ∧ 0 ≤ x4.toInt ∧ x4.toInt < x3.toInt ∧ p.1 = rPo y (rUa y.1 (x4.toInt + 1).toNat x2.toInt)) := ⟨fun h => (fun h => Or.elim h False.elim id) (show rb_449 K n p [rR x0, rI x1, rI x2, rI x3, rI x4] σ from h), fun h => Or.inr (h)⟩

