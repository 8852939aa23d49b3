/-! THE LAW: its loop, out of the calls -/
theorem lg_r (x : Int64) : lg_cmp x x = 0 := by
  unfold lg_cmp
  rw [if_neg (by rw [gt_iff_lt, Int64.lt_iff_toInt_lt]; omega), if_pos rfl]
theorem lw_0 (hop : OpI 64 [.ref 0, .null] 126 [.ref 86, .null]) {I : Nat → Nat → Int32} {J : Nat → Nat → Int64} {Q : Option Value → Sto → Prop} {k L B : Nat} {xs : Nat → Int32} (hk : 4 * k + 4 ≤ L) (hL : L ≤ 256) (hR : Rel I J B) (hB : B ≤ 4000) (e9 : I 999 = fun _ => nI L) (e1 : I 1000 = xs) (ih : ∀ I2 J2, Rel I2 J2 (B + 60) → I2 999 = I 999 → I2 1000 = I 1000 → Rn 211 18 [.ref 1000, .ref 0, .ref 86, .int (Int32.ofNat (4 * k + 4))] [] (Sg I2 J2) Q) : Rn 211 192 [.ref 1000, .ref 0, .ref 86, .int (Int32.ofNat (4 * k))] [] (Sg I J) Q := by
  have e9n : (nI L).toNatClampNeg = L := o_tn (by omega)
  simp (disch := omega) only [u211_192, u211_193, kL_s, kLt, la_0, la_86, true_and, o_al, o_tn, o_inb, e9, e1, e9n]
  refine Ca_imp (hop I J B hR hB) ?_
  rintro r σ ⟨x, I1, J1, rfl, rfl, a9, a1, hm⟩
  rw [e9] at a9
  rw [e1] at a1
  simp only [Option.toList, List.cons_append, List.nil_append]
  simp (disch := omega) only [u211_196, u211_197, kL_s, kLt, la_0, la_86, true_and, o_al, o_tn, o_inb, a9, a1, e9n]
  refine Ca_imp hm ?_
  rintro r σ ⟨I2, J2, rfl, rfl, b9, b1, hR2⟩
  simp only [Option.toList, List.cons_append, List.nil_append]
  simp only [u211_200, u211_203, u211_204, lg_r, if_true, u211_1122, o_al]
  exact (u211_1125 ..).mpr (ih I2 J2 hR2 b9 b1)
theorem lw_1 (hop : ∀ a b : Int32, OpI 65 [.ref 0, .int a, .int b, .null] 128 [.ref 86, .int a, .int b, .null]) {I : Nat → Nat → Int32} {J : Nat → Nat → Int64} {Q : Option Value → Sto → Prop} {k L B : Nat} {xs : Nat → Int32} (hk : 4 * k + 4 ≤ L) (hL : L ≤ 256) (hR : Rel I J B) (hB : B ≤ 4000) (e9 : I 999 = fun _ => nI L) (e1 : I 1000 = xs) (ih : ∀ I2 J2, Rel I2 J2 (B + 60) → I2 999 = I 999 → I2 1000 = I 1000 → Rn 211 18 [.ref 1000, .ref 0, .ref 86, .int (Int32.ofNat (4 * k + 4))] [] (Sg I2 J2) Q) : Rn 211 205 [.ref 1000, .ref 0, .ref 86, .int (Int32.ofNat (4 * k))] [] (Sg I J) Q := by
  have e9n : (nI L).toNatClampNeg = L := o_tn (by omega)
  simp (disch := omega) only [u211_205, u211_206, u211_207, u211_208, u211_209, u211_210, u211_211, u211_212, u211_213, u211_214, u211_215, u211_216, kL_s, kLt, la_0, la_86, true_and, o_al, o_tn, o_inb, e9, e1, e9n, show 4 * k + 1 < L by omega, show 4 * k + 2 < L by omega]
  refine Ca_imp (hop _ _ I J B hR hB) ?_
  rintro r σ ⟨x, I1, J1, rfl, rfl, a9, a1, hm⟩
  rw [e9] at a9
  rw [e1] at a1
  simp only [Option.toList, List.cons_append, List.nil_append]
  simp (disch := omega) only [u211_219, u211_220, u211_221, u211_222, u211_223, u211_224, u211_225, u211_226, u211_227, u211_228, u211_229, u211_230, kL_s, kLt, la_0, la_86, true_and, o_al, o_tn, o_inb, a9, a1, e9n, show 4 * k + 1 < L by omega, show 4 * k + 2 < L by omega]
  refine Ca_imp hm ?_
  rintro r σ ⟨I2, J2, rfl, rfl, b9, b1, hR2⟩
  simp only [Option.toList, List.cons_append, List.nil_append]
  simp only [u211_233, u211_236, u211_237, lg_r, if_true, u211_1122, o_al]
  exact (u211_1125 ..).mpr (ih I2 J2 hR2 b9 b1)
theorem lw_2 (hop : ∀ a : Int32, OpI 66 [.ref 0, .int a] 129 [.ref 86, .int a]) {I : Nat → Nat → Int32} {J : Nat → Nat → Int64} {Q : Option Value → Sto → Prop} {k L B : Nat} {xs : Nat → Int32} (hk : 4 * k + 4 ≤ L) (hL : L ≤ 256) (hR : Rel I J B) (hB : B ≤ 4000) (e9 : I 999 = fun _ => nI L) (e1 : I 1000 = xs) (ih : ∀ I2 J2, Rel I2 J2 (B + 60) → I2 999 = I 999 → I2 1000 = I 1000 → Rn 211 18 [.ref 1000, .ref 0, .ref 86, .int (Int32.ofNat (4 * k + 4))] [] (Sg I2 J2) Q) : Rn 211 238 [.ref 1000, .ref 0, .ref 86, .int (Int32.ofNat (4 * k))] [] (Sg I J) Q := by
  have e9n : (nI L).toNatClampNeg = L := o_tn (by omega)
  simp (disch := omega) only [u211_238, u211_239, u211_240, u211_241, u211_242, u211_243, u211_244, kL_s, kLt, la_0, la_86, true_and, o_al, o_tn, o_inb, e9, e1, e9n, show 4 * k + 1 < L by omega]
  refine Ca_imp (hop _ I J B hR hB) ?_
  rintro r σ ⟨x, I1, J1, rfl, rfl, a9, a1, hm⟩
  rw [e9] at a9
  rw [e1] at a1
  simp only [Option.toList, List.cons_append, List.nil_append]
  simp (disch := omega) only [u211_247, u211_248, u211_249, u211_250, u211_251, u211_252, u211_253, kL_s, kLt, la_0, la_86, true_and, o_al, o_tn, o_inb, a9, a1, e9n, show 4 * k + 1 < L by omega]
  refine Ca_imp hm ?_
  rintro r σ ⟨I2, J2, rfl, rfl, b9, b1, hR2⟩
  simp only [Option.toList, List.cons_append, List.nil_append]
  simp only [u211_256, u211_259, u211_260, lg_r, if_true, u211_1122, o_al]
  exact (u211_1125 ..).mpr (ih I2 J2 hR2 b9 b1)
theorem lw_3 (hop : ∀ a b c : Int32, OpI 67 [.ref 0, .int a, .int b, .int c] 131 [.ref 86, .int a, .int b, .int c]) {I : Nat → Nat → Int32} {J : Nat → Nat → Int64} {Q : Option Value → Sto → Prop} {k L B : Nat} {xs : Nat → Int32} (hk : 4 * k + 4 ≤ L) (hL : L ≤ 256) (hR : Rel I J B) (hB : B ≤ 4000) (e9 : I 999 = fun _ => nI L) (e1 : I 1000 = xs) (ih : ∀ I2 J2, Rel I2 J2 (B + 60) → I2 999 = I 999 → I2 1000 = I 1000 → Rn 211 18 [.ref 1000, .ref 0, .ref 86, .int (Int32.ofNat (4 * k + 4))] [] (Sg I2 J2) Q) : Rn 211 261 [.ref 1000, .ref 0, .ref 86, .int (Int32.ofNat (4 * k))] [] (Sg I J) Q := by
  have e9n : (nI L).toNatClampNeg = L := o_tn (by omega)
  simp (disch := omega) only [u211_261, u211_262, u211_263, u211_264, u211_265, u211_266, u211_267, u211_268, u211_269, u211_270, u211_271, u211_272, u211_273, u211_274, u211_275, u211_276, u211_277, kL_s, kLt, la_0, la_86, true_and, o_al, o_tn, o_inb, e9, e1, e9n, show 4 * k + 1 < L by omega, show 4 * k + 2 < L by omega, show 4 * k + 3 < L by omega]
  refine Ca_imp (hop _ _ _ I J B hR hB) ?_
  rintro r σ ⟨x, I1, J1, rfl, rfl, a9, a1, hm⟩
  rw [e9] at a9
  rw [e1] at a1
  simp only [Option.toList, List.cons_append, List.nil_append]
  simp (disch := omega) only [u211_280, u211_281, u211_282, u211_283, u211_284, u211_285, u211_286, u211_287, u211_288, u211_289, u211_290, u211_291, u211_292, u211_293, u211_294, u211_295, u211_296, kL_s, kLt, la_0, la_86, true_and, o_al, o_tn, o_inb, a9, a1, e9n, show 4 * k + 1 < L by omega, show 4 * k + 2 < L by omega, show 4 * k + 3 < L by omega]
  refine Ca_imp hm ?_
  rintro r σ ⟨I2, J2, rfl, rfl, b9, b1, hR2⟩
  simp only [Option.toList, List.cons_append, List.nil_append]
  simp only [u211_299, u211_302, u211_303, lg_r, if_true, u211_1122, o_al]
  exact (u211_1125 ..).mpr (ih I2 J2 hR2 b9 b1)
theorem lw_4 (hop : ∀ a b : Int32, OpI 68 [.ref 0, .int a, .int b] 133 [.ref 86, .int a, .int b]) {I : Nat → Nat → Int32} {J : Nat → Nat → Int64} {Q : Option Value → Sto → Prop} {k L B : Nat} {xs : Nat → Int32} (hk : 4 * k + 4 ≤ L) (hL : L ≤ 256) (hR : Rel I J B) (hB : B ≤ 4000) (e9 : I 999 = fun _ => nI L) (e1 : I 1000 = xs) (ih : ∀ I2 J2, Rel I2 J2 (B + 60) → I2 999 = I 999 → I2 1000 = I 1000 → Rn 211 18 [.ref 1000, .ref 0, .ref 86, .int (Int32.ofNat (4 * k + 4))] [] (Sg I2 J2) Q) : Rn 211 304 [.ref 1000, .ref 0, .ref 86, .int (Int32.ofNat (4 * k))] [] (Sg I J) Q := by
  have e9n : (nI L).toNatClampNeg = L := o_tn (by omega)
  simp (disch := omega) only [u211_304, u211_305, u211_306, u211_307, u211_308, u211_309, u211_310, u211_311, u211_312, u211_313, u211_314, u211_315, kL_s, kLt, la_0, la_86, true_and, o_al, o_tn, o_inb, e9, e1, e9n, show 4 * k + 1 < L by omega, show 4 * k + 2 < L by omega]
  refine Ca_imp (hop _ _ I J B hR hB) ?_
  rintro r σ ⟨x, I1, J1, rfl, rfl, a9, a1, hm⟩
  rw [e9] at a9
  rw [e1] at a1
  simp only [Option.toList, List.cons_append, List.nil_append]
  simp (disch := omega) only [u211_318, u211_319, u211_320, u211_321, u211_322, u211_323, u211_324, u211_325, u211_326, u211_327, u211_328, u211_329, kL_s, kLt, la_0, la_86, true_and, o_al, o_tn, o_inb, a9, a1, e9n, show 4 * k + 1 < L by omega, show 4 * k + 2 < L by omega]
  refine Ca_imp hm ?_
  rintro r σ ⟨I2, J2, rfl, rfl, b9, b1, hR2⟩
  simp only [Option.toList, List.cons_append, List.nil_append]
  simp only [u211_332, u211_335, u211_336, lg_r, if_true, u211_1122, o_al]
  exact (u211_1125 ..).mpr (ih I2 J2 hR2 b9 b1)
theorem lw_5 (hop : OpI 69 [.ref 0] 134 [.ref 86, .null]) {I : Nat → Nat → Int32} {J : Nat → Nat → Int64} {Q : Option Value → Sto → Prop} {k L B : Nat} {xs : Nat → Int32} (hk : 4 * k + 4 ≤ L) (hL : L ≤ 256) (hR : Rel I J B) (hB : B ≤ 4000) (e9 : I 999 = fun _ => nI L) (e1 : I 1000 = xs) (ih : ∀ I2 J2, Rel I2 J2 (B + 60) → I2 999 = I 999 → I2 1000 = I 1000 → Rn 211 18 [.ref 1000, .ref 0, .ref 86, .int (Int32.ofNat (4 * k + 4))] [] (Sg I2 J2) Q) : Rn 211 337 [.ref 1000, .ref 0, .ref 86, .int (Int32.ofNat (4 * k))] [] (Sg I J) Q := by
  have e9n : (nI L).toNatClampNeg = L := o_tn (by omega)
  simp (disch := omega) only [u211_337, u211_338, kL_s, kLt, la_0, la_86, true_and, o_al, o_tn, o_inb, e9, e1, e9n]
  refine Ca_imp (hop I J B hR hB) ?_
  rintro r σ ⟨x, I1, J1, rfl, rfl, a9, a1, hm⟩
  rw [e9] at a9
  rw [e1] at a1
  simp only [Option.toList, List.cons_append, List.nil_append]
  simp (disch := omega) only [u211_341, u211_342, kL_s, kLt, la_0, la_86, true_and, o_al, o_tn, o_inb, a9, a1, e9n]
  refine Ca_imp hm ?_
  rintro r σ ⟨I2, J2, rfl, rfl, b9, b1, hR2⟩
  simp only [Option.toList, List.cons_append, List.nil_append]
  simp only [u211_345, u211_348, u211_349, lg_r, if_true, u211_1122, o_al]
  exact (u211_1125 ..).mpr (ih I2 J2 hR2 b9 b1)
theorem lw_6 (hop : ∀ a : Int32, OpI 70 [.ref 0, .int a] 173 [.ref 86, .int a]) {I : Nat → Nat → Int32} {J : Nat → Nat → Int64} {Q : Option Value → Sto → Prop} {k L B : Nat} {xs : Nat → Int32} (hk : 4 * k + 4 ≤ L) (hL : L ≤ 256) (hR : Rel I J B) (hB : B ≤ 4000) (e9 : I 999 = fun _ => nI L) (e1 : I 1000 = xs) (ih : ∀ I2 J2, Rel I2 J2 (B + 60) → I2 999 = I 999 → I2 1000 = I 1000 → Rn 211 18 [.ref 1000, .ref 0, .ref 86, .int (Int32.ofNat (4 * k + 4))] [] (Sg I2 J2) Q) : Rn 211 350 [.ref 1000, .ref 0, .ref 86, .int (Int32.ofNat (4 * k))] [] (Sg I J) Q := by
  have e9n : (nI L).toNatClampNeg = L := o_tn (by omega)
  simp (disch := omega) only [u211_350, u211_351, u211_352, u211_353, u211_354, u211_355, u211_356, kL_s, kLt, la_0, la_86, true_and, o_al, o_tn, o_inb, e9, e1, e9n, show 4 * k + 1 < L by omega]
  refine Ca_imp (hop _ I J B hR hB) ?_
  rintro r σ ⟨x, I1, J1, rfl, rfl, a9, a1, hm⟩
  rw [e9] at a9
  rw [e1] at a1
  simp only [Option.toList, List.cons_append, List.nil_append]
  simp (disch := omega) only [u211_359, u211_360, u211_361, u211_362, u211_363, u211_364, u211_365, kL_s, kLt, la_0, la_86, true_and, o_al, o_tn, o_inb, a9, a1, e9n, show 4 * k + 1 < L by omega]
  refine Ca_imp hm ?_
  rintro r σ ⟨I2, J2, rfl, rfl, b9, b1, hR2⟩
  simp only [Option.toList, List.cons_append, List.nil_append]
  simp only [u211_368, u211_371, u211_372, lg_r, if_true, u211_1122, o_al]
  exact (u211_1125 ..).mpr (ih I2 J2 hR2 b9 b1)
theorem lw_7 (hop : OpI 71 [.ref 0] 174 [.ref 86, .null]) {I : Nat → Nat → Int32} {J : Nat → Nat → Int64} {Q : Option Value → Sto → Prop} {k L B : Nat} {xs : Nat → Int32} (hk : 4 * k + 4 ≤ L) (hL : L ≤ 256) (hR : Rel I J B) (hB : B ≤ 4000) (e9 : I 999 = fun _ => nI L) (e1 : I 1000 = xs) (ih : ∀ I2 J2, Rel I2 J2 (B + 60) → I2 999 = I 999 → I2 1000 = I 1000 → Rn 211 18 [.ref 1000, .ref 0, .ref 86, .int (Int32.ofNat (4 * k + 4))] [] (Sg I2 J2) Q) : Rn 211 373 [.ref 1000, .ref 0, .ref 86, .int (Int32.ofNat (4 * k))] [] (Sg I J) Q := by
  have e9n : (nI L).toNatClampNeg = L := o_tn (by omega)
  simp (disch := omega) only [u211_373, u211_374, kL_s, kLt, la_0, la_86, true_and, o_al, o_tn, o_inb, e9, e1, e9n]
  refine Ca_imp (hop I J B hR hB) ?_
  rintro r σ ⟨x, I1, J1, rfl, rfl, a9, a1, hm⟩
  rw [e9] at a9
  rw [e1] at a1
  simp only [Option.toList, List.cons_append, List.nil_append]
  simp (disch := omega) only [u211_377, u211_378, kL_s, kLt, la_0, la_86, true_and, o_al, o_tn, o_inb, a9, a1, e9n]
  refine Ca_imp hm ?_
  rintro r σ ⟨I2, J2, rfl, rfl, b9, b1, hR2⟩
  simp only [Option.toList, List.cons_append, List.nil_append]
  simp only [u211_381, u211_384, u211_385, lg_r, if_true, u211_1122, o_al]
  exact (u211_1125 ..).mpr (ih I2 J2 hR2 b9 b1)
theorem lw_8 (hop : OpI 72 [.ref 0, .null] 186 [.ref 86, .null, .null]) {I : Nat → Nat → Int32} {J : Nat → Nat → Int64} {Q : Option Value → Sto → Prop} {k L B : Nat} {xs : Nat → Int32} (hk : 4 * k + 4 ≤ L) (hL : L ≤ 256) (hR : Rel I J B) (hB : B ≤ 4000) (e9 : I 999 = fun _ => nI L) (e1 : I 1000 = xs) (ih : ∀ I2 J2, Rel I2 J2 (B + 60) → I2 999 = I 999 → I2 1000 = I 1000 → Rn 211 18 [.ref 1000, .ref 0, .ref 86, .int (Int32.ofNat (4 * k + 4))] [] (Sg I2 J2) Q) : Rn 211 386 [.ref 1000, .ref 0, .ref 86, .int (Int32.ofNat (4 * k))] [] (Sg I J) Q := by
  have e9n : (nI L).toNatClampNeg = L := o_tn (by omega)
  simp (disch := omega) only [u211_386, u211_387, kL_s, kLt, la_0, la_86, true_and, o_al, o_tn, o_inb, e9, e1, e9n]
  refine Ca_imp (hop I J B hR hB) ?_
  rintro r σ ⟨x, I1, J1, rfl, rfl, a9, a1, hm⟩
  rw [e9] at a9
  rw [e1] at a1
  simp only [Option.toList, List.cons_append, List.nil_append]
  simp (disch := omega) only [u211_390, u211_391, kL_s, kLt, la_0, la_86, true_and, o_al, o_tn, o_inb, a9, a1, e9n]
  refine Ca_imp hm ?_
  rintro r σ ⟨I2, J2, rfl, rfl, b9, b1, hR2⟩
  simp only [Option.toList, List.cons_append, List.nil_append]
  simp only [u211_394, u211_397, u211_398, lg_r, if_true, u211_1122, o_al]
  exact (u211_1125 ..).mpr (ih I2 J2 hR2 b9 b1)
theorem lw_9 (hop : ∀ a : Int32, OpI 73 [.ref 0, .int a, .null] 142 [.ref 86, .int a, .null, .null]) {I : Nat → Nat → Int32} {J : Nat → Nat → Int64} {Q : Option Value → Sto → Prop} {k L B : Nat} {xs : Nat → Int32} (hk : 4 * k + 4 ≤ L) (hL : L ≤ 256) (hR : Rel I J B) (hB : B ≤ 4000) (e9 : I 999 = fun _ => nI L) (e1 : I 1000 = xs) (ih : ∀ I2 J2, Rel I2 J2 (B + 60) → I2 999 = I 999 → I2 1000 = I 1000 → Rn 211 18 [.ref 1000, .ref 0, .ref 86, .int (Int32.ofNat (4 * k + 4))] [] (Sg I2 J2) Q) : Rn 211 399 [.ref 1000, .ref 0, .ref 86, .int (Int32.ofNat (4 * k))] [] (Sg I J) Q := by
  have e9n : (nI L).toNatClampNeg = L := o_tn (by omega)
  simp (disch := omega) only [u211_399, u211_400, u211_401, u211_402, u211_403, u211_404, u211_405, kL_s, kLt, la_0, la_86, true_and, o_al, o_tn, o_inb, e9, e1, e9n, show 4 * k + 1 < L by omega]
  refine Ca_imp (hop _ I J B hR hB) ?_
  rintro r σ ⟨x, I1, J1, rfl, rfl, a9, a1, hm⟩
  rw [e9] at a9
  rw [e1] at a1
  simp only [Option.toList, List.cons_append, List.nil_append]
  simp (disch := omega) only [u211_408, u211_409, u211_410, u211_411, u211_412, u211_413, u211_414, kL_s, kLt, la_0, la_86, true_and, o_al, o_tn, o_inb, a9, a1, e9n, show 4 * k + 1 < L by omega]
  refine Ca_imp hm ?_
  rintro r σ ⟨I2, J2, rfl, rfl, b9, b1, hR2⟩
  simp only [Option.toList, List.cons_append, List.nil_append]
  simp only [u211_417, u211_420, u211_421, lg_r, if_true, u211_1122, o_al]
  exact (u211_1125 ..).mpr (ih I2 J2 hR2 b9 b1)
theorem lw_10 (hop : OpI 74 [.ref 0] 143 [.ref 86, .null, .null]) {I : Nat → Nat → Int32} {J : Nat → Nat → Int64} {Q : Option Value → Sto → Prop} {k L B : Nat} {xs : Nat → Int32} (hk : 4 * k + 4 ≤ L) (hL : L ≤ 256) (hR : Rel I J B) (hB : B ≤ 4000) (e9 : I 999 = fun _ => nI L) (e1 : I 1000 = xs) (ih : ∀ I2 J2, Rel I2 J2 (B + 60) → I2 999 = I 999 → I2 1000 = I 1000 → Rn 211 18 [.ref 1000, .ref 0, .ref 86, .int (Int32.ofNat (4 * k + 4))] [] (Sg I2 J2) Q) : Rn 211 422 [.ref 1000, .ref 0, .ref 86, .int (Int32.ofNat (4 * k))] [] (Sg I J) Q := by
  have e9n : (nI L).toNatClampNeg = L := o_tn (by omega)
  simp (disch := omega) only [u211_422, u211_423, kL_s, kLt, la_0, la_86, true_and, o_al, o_tn, o_inb, e9, e1, e9n]
  refine Ca_imp (hop I J B hR hB) ?_
  rintro r σ ⟨x, I1, J1, rfl, rfl, a9, a1, hm⟩
  rw [e9] at a9
  rw [e1] at a1
  simp only [Option.toList, List.cons_append, List.nil_append]
  simp (disch := omega) only [u211_426, u211_427, kL_s, kLt, la_0, la_86, true_and, o_al, o_tn, o_inb, a9, a1, e9n]
  refine Ca_imp hm ?_
  rintro r σ ⟨I2, J2, rfl, rfl, b9, b1, hR2⟩
  simp only [Option.toList, List.cons_append, List.nil_append]
  simp only [u211_430, u211_433, u211_434, lg_r, if_true, u211_1122, o_al]
  exact (u211_1125 ..).mpr (ih I2 J2 hR2 b9 b1)
theorem lw_11 (hop : ∀ a b : Int32, OpI 75 [.ref 0, .int a, .int b] 144 [.ref 86, .int a, .int b, .null, .null, .null]) {I : Nat → Nat → Int32} {J : Nat → Nat → Int64} {Q : Option Value → Sto → Prop} {k L B : Nat} {xs : Nat → Int32} (hk : 4 * k + 4 ≤ L) (hL : L ≤ 256) (hR : Rel I J B) (hB : B ≤ 4000) (e9 : I 999 = fun _ => nI L) (e1 : I 1000 = xs) (ih : ∀ I2 J2, Rel I2 J2 (B + 60) → I2 999 = I 999 → I2 1000 = I 1000 → Rn 211 18 [.ref 1000, .ref 0, .ref 86, .int (Int32.ofNat (4 * k + 4))] [] (Sg I2 J2) Q) : Rn 211 435 [.ref 1000, .ref 0, .ref 86, .int (Int32.ofNat (4 * k))] [] (Sg I J) Q := by
  have e9n : (nI L).toNatClampNeg = L := o_tn (by omega)
  simp (disch := omega) only [u211_435, u211_436, u211_437, u211_438, u211_439, u211_440, u211_441, u211_442, u211_443, u211_444, u211_445, u211_446, kL_s, kLt, la_0, la_86, true_and, o_al, o_tn, o_inb, e9, e1, e9n, show 4 * k + 1 < L by omega, show 4 * k + 2 < L by omega]
  refine Ca_imp (hop _ _ I J B hR hB) ?_
  rintro r σ ⟨x, I1, J1, rfl, rfl, a9, a1, hm⟩
  rw [e9] at a9
  rw [e1] at a1
  simp only [Option.toList, List.cons_append, List.nil_append]
  simp (disch := omega) only [u211_449, u211_450, u211_451, u211_452, u211_453, u211_454, u211_455, u211_456, u211_457, u211_458, u211_459, u211_460, kL_s, kLt, la_0, la_86, true_and, o_al, o_tn, o_inb, a9, a1, e9n, show 4 * k + 1 < L by omega, show 4 * k + 2 < L by omega]
  refine Ca_imp hm ?_
  rintro r σ ⟨I2, J2, rfl, rfl, b9, b1, hR2⟩
  simp only [Option.toList, List.cons_append, List.nil_append]
  simp only [u211_463, u211_466, u211_467, lg_r, if_true, u211_1122, o_al]
  exact (u211_1125 ..).mpr (ih I2 J2 hR2 b9 b1)
theorem lw_12 (hop : ∀ a b : Int32, OpI 76 [.ref 0, .int a, .int b, .null] 145 [.ref 86, .int a, .int b, .null]) {I : Nat → Nat → Int32} {J : Nat → Nat → Int64} {Q : Option Value → Sto → Prop} {k L B : Nat} {xs : Nat → Int32} (hk : 4 * k + 4 ≤ L) (hL : L ≤ 256) (hR : Rel I J B) (hB : B ≤ 4000) (e9 : I 999 = fun _ => nI L) (e1 : I 1000 = xs) (ih : ∀ I2 J2, Rel I2 J2 (B + 60) → I2 999 = I 999 → I2 1000 = I 1000 → Rn 211 18 [.ref 1000, .ref 0, .ref 86, .int (Int32.ofNat (4 * k + 4))] [] (Sg I2 J2) Q) : Rn 211 468 [.ref 1000, .ref 0, .ref 86, .int (Int32.ofNat (4 * k))] [] (Sg I J) Q := by
  have e9n : (nI L).toNatClampNeg = L := o_tn (by omega)
  simp (disch := omega) only [u211_468, u211_469, u211_470, u211_471, u211_472, u211_473, u211_474, u211_475, u211_476, u211_477, u211_478, u211_479, kL_s, kLt, la_0, la_86, true_and, o_al, o_tn, o_inb, e9, e1, e9n, show 4 * k + 1 < L by omega, show 4 * k + 2 < L by omega]
  refine Ca_imp (hop _ _ I J B hR hB) ?_
  rintro r σ ⟨x, I1, J1, rfl, rfl, a9, a1, hm⟩
  rw [e9] at a9
  rw [e1] at a1
  simp only [Option.toList, List.cons_append, List.nil_append]
  simp (disch := omega) only [u211_482, u211_483, u211_484, u211_485, u211_486, u211_487, u211_488, u211_489, u211_490, u211_491, u211_492, u211_493, kL_s, kLt, la_0, la_86, true_and, o_al, o_tn, o_inb, a9, a1, e9n, show 4 * k + 1 < L by omega, show 4 * k + 2 < L by omega]
  refine Ca_imp hm ?_
  rintro r σ ⟨I2, J2, rfl, rfl, b9, b1, hR2⟩
  simp only [Option.toList, List.cons_append, List.nil_append]
  simp only [u211_496, u211_499, u211_500, lg_r, if_true, u211_1122, o_al]
  exact (u211_1125 ..).mpr (ih I2 J2 hR2 b9 b1)
theorem lw_13 (hop : ∀ a b : Int32, OpI 77 [.ref 0, .int a, .int b] 147 [.ref 86, .int a, .int b]) {I : Nat → Nat → Int32} {J : Nat → Nat → Int64} {Q : Option Value → Sto → Prop} {k L B : Nat} {xs : Nat → Int32} (hk : 4 * k + 4 ≤ L) (hL : L ≤ 256) (hR : Rel I J B) (hB : B ≤ 4000) (e9 : I 999 = fun _ => nI L) (e1 : I 1000 = xs) (ih : ∀ I2 J2, Rel I2 J2 (B + 60) → I2 999 = I 999 → I2 1000 = I 1000 → Rn 211 18 [.ref 1000, .ref 0, .ref 86, .int (Int32.ofNat (4 * k + 4))] [] (Sg I2 J2) Q) : Rn 211 501 [.ref 1000, .ref 0, .ref 86, .int (Int32.ofNat (4 * k))] [] (Sg I J) Q := by
  have e9n : (nI L).toNatClampNeg = L := o_tn (by omega)
  simp (disch := omega) only [u211_501, u211_502, u211_503, u211_504, u211_505, u211_506, u211_507, u211_508, u211_509, u211_510, u211_511, u211_512, kL_s, kLt, la_0, la_86, true_and, o_al, o_tn, o_inb, e9, e1, e9n, show 4 * k + 1 < L by omega, show 4 * k + 2 < L by omega]
  refine Ca_imp (hop _ _ I J B hR hB) ?_
  rintro r σ ⟨x, I1, J1, rfl, rfl, a9, a1, hm⟩
  rw [e9] at a9
  rw [e1] at a1
  simp only [Option.toList, List.cons_append, List.nil_append]
  simp (disch := omega) only [u211_515, u211_516, u211_517, u211_518, u211_519, u211_520, u211_521, u211_522, u211_523, u211_524, u211_525, u211_526, kL_s, kLt, la_0, la_86, true_and, o_al, o_tn, o_inb, a9, a1, e9n, show 4 * k + 1 < L by omega, show 4 * k + 2 < L by omega]
  refine Ca_imp hm ?_
  rintro r σ ⟨I2, J2, rfl, rfl, b9, b1, hR2⟩
  simp only [Option.toList, List.cons_append, List.nil_append]
  simp only [u211_529, u211_532, u211_533, lg_r, if_true, u211_1122, o_al]
  exact (u211_1125 ..).mpr (ih I2 J2 hR2 b9 b1)
theorem lw_14 (hop : ∀ a : Int32, OpI 78 [.ref 0, .int a] 148 [.ref 86, .int a, .null, .null]) {I : Nat → Nat → Int32} {J : Nat → Nat → Int64} {Q : Option Value → Sto → Prop} {k L B : Nat} {xs : Nat → Int32} (hk : 4 * k + 4 ≤ L) (hL : L ≤ 256) (hR : Rel I J B) (hB : B ≤ 4000) (e9 : I 999 = fun _ => nI L) (e1 : I 1000 = xs) (ih : ∀ I2 J2, Rel I2 J2 (B + 60) → I2 999 = I 999 → I2 1000 = I 1000 → Rn 211 18 [.ref 1000, .ref 0, .ref 86, .int (Int32.ofNat (4 * k + 4))] [] (Sg I2 J2) Q) : Rn 211 534 [.ref 1000, .ref 0, .ref 86, .int (Int32.ofNat (4 * k))] [] (Sg I J) Q := by
  have e9n : (nI L).toNatClampNeg = L := o_tn (by omega)
  simp (disch := omega) only [u211_534, u211_535, u211_536, u211_537, u211_538, u211_539, u211_540, kL_s, kLt, la_0, la_86, true_and, o_al, o_tn, o_inb, e9, e1, e9n, show 4 * k + 1 < L by omega]
  refine Ca_imp (hop _ I J B hR hB) ?_
  rintro r σ ⟨x, I1, J1, rfl, rfl, a9, a1, hm⟩
  rw [e9] at a9
  rw [e1] at a1
  simp only [Option.toList, List.cons_append, List.nil_append]
  simp (disch := omega) only [u211_543, u211_544, u211_545, u211_546, u211_547, u211_548, u211_549, kL_s, kLt, la_0, la_86, true_and, o_al, o_tn, o_inb, a9, a1, e9n, show 4 * k + 1 < L by omega]
  refine Ca_imp hm ?_
  rintro r σ ⟨I2, J2, rfl, rfl, b9, b1, hR2⟩
  simp only [Option.toList, List.cons_append, List.nil_append]
  simp only [u211_552, u211_555, u211_556, lg_r, if_true, u211_1122, o_al]
  exact (u211_1125 ..).mpr (ih I2 J2 hR2 b9 b1)
theorem lw_15 (hop : ∀ a : Int32, OpI 79 [.ref 0, .int a] 151 [.ref 86, .int a]) {I : Nat → Nat → Int32} {J : Nat → Nat → Int64} {Q : Option Value → Sto → Prop} {k L B : Nat} {xs : Nat → Int32} (hk : 4 * k + 4 ≤ L) (hL : L ≤ 256) (hR : Rel I J B) (hB : B ≤ 4000) (e9 : I 999 = fun _ => nI L) (e1 : I 1000 = xs) (ih : ∀ I2 J2, Rel I2 J2 (B + 60) → I2 999 = I 999 → I2 1000 = I 1000 → Rn 211 18 [.ref 1000, .ref 0, .ref 86, .int (Int32.ofNat (4 * k + 4))] [] (Sg I2 J2) Q) : Rn 211 557 [.ref 1000, .ref 0, .ref 86, .int (Int32.ofNat (4 * k))] [] (Sg I J) Q := by
  have e9n : (nI L).toNatClampNeg = L := o_tn (by omega)
  simp (disch := omega) only [u211_557, u211_558, u211_559, u211_560, u211_561, u211_562, u211_563, kL_s, kLt, la_0, la_86, true_and, o_al, o_tn, o_inb, e9, e1, e9n, show 4 * k + 1 < L by omega]
  refine Ca_imp (hop _ I J B hR hB) ?_
  rintro r σ ⟨x, I1, J1, rfl, rfl, a9, a1, hm⟩
  rw [e9] at a9
  rw [e1] at a1
  simp only [Option.toList, List.cons_append, List.nil_append]
  simp (disch := omega) only [u211_566, u211_567, u211_568, u211_569, u211_570, u211_571, u211_572, kL_s, kLt, la_0, la_86, true_and, o_al, o_tn, o_inb, a9, a1, e9n, show 4 * k + 1 < L by omega]
  refine Ca_imp hm ?_
  rintro r σ ⟨I2, J2, rfl, rfl, b9, b1, hR2⟩
  simp only [Option.toList, List.cons_append, List.nil_append]
  simp only [u211_575, u211_578, u211_579, lg_r, if_true, u211_1122, o_al]
  exact (u211_1125 ..).mpr (ih I2 J2 hR2 b9 b1)
theorem lw_16 (hop : ∀ a : Int32, OpI 80 [.ref 0, .int a, .null, .null] 152 [.ref 86, .int a, .null, .null]) {I : Nat → Nat → Int32} {J : Nat → Nat → Int64} {Q : Option Value → Sto → Prop} {k L B : Nat} {xs : Nat → Int32} (hk : 4 * k + 4 ≤ L) (hL : L ≤ 256) (hR : Rel I J B) (hB : B ≤ 4000) (e9 : I 999 = fun _ => nI L) (e1 : I 1000 = xs) (ih : ∀ I2 J2, Rel I2 J2 (B + 60) → I2 999 = I 999 → I2 1000 = I 1000 → Rn 211 18 [.ref 1000, .ref 0, .ref 86, .int (Int32.ofNat (4 * k + 4))] [] (Sg I2 J2) Q) : Rn 211 580 [.ref 1000, .ref 0, .ref 86, .int (Int32.ofNat (4 * k))] [] (Sg I J) Q := by
  have e9n : (nI L).toNatClampNeg = L := o_tn (by omega)
  simp (disch := omega) only [u211_580, u211_581, u211_582, u211_583, u211_584, u211_585, u211_586, kL_s, kLt, la_0, la_86, true_and, o_al, o_tn, o_inb, e9, e1, e9n, show 4 * k + 1 < L by omega]
  refine Ca_imp (hop _ I J B hR hB) ?_
  rintro r σ ⟨x, I1, J1, rfl, rfl, a9, a1, hm⟩
  rw [e9] at a9
  rw [e1] at a1
  simp only [Option.toList, List.cons_append, List.nil_append]
  simp (disch := omega) only [u211_589, u211_590, u211_591, u211_592, u211_593, u211_594, u211_595, kL_s, kLt, la_0, la_86, true_and, o_al, o_tn, o_inb, a9, a1, e9n, show 4 * k + 1 < L by omega]
  refine Ca_imp hm ?_
  rintro r σ ⟨I2, J2, rfl, rfl, b9, b1, hR2⟩
  simp only [Option.toList, List.cons_append, List.nil_append]
  simp only [u211_598, u211_601, u211_602, lg_r, if_true, u211_1122, o_al]
  exact (u211_1125 ..).mpr (ih I2 J2 hR2 b9 b1)
theorem lw_17 (hop : ∀ a : Int32, OpI 81 [.ref 0, .int a, .null, .null, .null, .null] 154 [.ref 86, .int a, .null, .null]) {I : Nat → Nat → Int32} {J : Nat → Nat → Int64} {Q : Option Value → Sto → Prop} {k L B : Nat} {xs : Nat → Int32} (hk : 4 * k + 4 ≤ L) (hL : L ≤ 256) (hR : Rel I J B) (hB : B ≤ 4000) (e9 : I 999 = fun _ => nI L) (e1 : I 1000 = xs) (ih : ∀ I2 J2, Rel I2 J2 (B + 60) → I2 999 = I 999 → I2 1000 = I 1000 → Rn 211 18 [.ref 1000, .ref 0, .ref 86, .int (Int32.ofNat (4 * k + 4))] [] (Sg I2 J2) Q) : Rn 211 603 [.ref 1000, .ref 0, .ref 86, .int (Int32.ofNat (4 * k))] [] (Sg I J) Q := by
  have e9n : (nI L).toNatClampNeg = L := o_tn (by omega)
  simp (disch := omega) only [u211_603, u211_604, u211_605, u211_606, u211_607, u211_608, u211_609, kL_s, kLt, la_0, la_86, true_and, o_al, o_tn, o_inb, e9, e1, e9n, show 4 * k + 1 < L by omega]
  refine Ca_imp (hop _ I J B hR hB) ?_
  rintro r σ ⟨x, I1, J1, rfl, rfl, a9, a1, hm⟩
  rw [e9] at a9
  rw [e1] at a1
  simp only [Option.toList, List.cons_append, List.nil_append]
  simp (disch := omega) only [u211_612, u211_613, u211_614, u211_615, u211_616, u211_617, u211_618, kL_s, kLt, la_0, la_86, true_and, o_al, o_tn, o_inb, a9, a1, e9n, show 4 * k + 1 < L by omega]
  refine Ca_imp hm ?_
  rintro r σ ⟨I2, J2, rfl, rfl, b9, b1, hR2⟩
  simp only [Option.toList, List.cons_append, List.nil_append]
  simp only [u211_621, u211_624, u211_625, lg_r, if_true, u211_1122, o_al]
  exact (u211_1125 ..).mpr (ih I2 J2 hR2 b9 b1)
theorem lw_18 (hop : ∀ a b : Int32, OpI 82 [.ref 0, .int a, .int b, .null, .null, .null] 155 [.ref 86, .int a, .int b, .null, .null, .null]) {I : Nat → Nat → Int32} {J : Nat → Nat → Int64} {Q : Option Value → Sto → Prop} {k L B : Nat} {xs : Nat → Int32} (hk : 4 * k + 4 ≤ L) (hL : L ≤ 256) (hR : Rel I J B) (hB : B ≤ 4000) (e9 : I 999 = fun _ => nI L) (e1 : I 1000 = xs) (ih : ∀ I2 J2, Rel I2 J2 (B + 60) → I2 999 = I 999 → I2 1000 = I 1000 → Rn 211 18 [.ref 1000, .ref 0, .ref 86, .int (Int32.ofNat (4 * k + 4))] [] (Sg I2 J2) Q) : Rn 211 626 [.ref 1000, .ref 0, .ref 86, .int (Int32.ofNat (4 * k))] [] (Sg I J) Q := by
  have e9n : (nI L).toNatClampNeg = L := o_tn (by omega)
  simp (disch := omega) only [u211_626, u211_627, u211_628, u211_629, u211_630, u211_631, u211_632, u211_633, u211_634, u211_635, u211_636, u211_637, kL_s, kLt, la_0, la_86, true_and, o_al, o_tn, o_inb, e9, e1, e9n, show 4 * k + 1 < L by omega, show 4 * k + 2 < L by omega]
  refine Ca_imp (hop _ _ I J B hR hB) ?_
  rintro r σ ⟨x, I1, J1, rfl, rfl, a9, a1, hm⟩
  rw [e9] at a9
  rw [e1] at a1
  simp only [Option.toList, List.cons_append, List.nil_append]
  simp (disch := omega) only [u211_640, u211_641, u211_642, u211_643, u211_644, u211_645, u211_646, u211_647, u211_648, u211_649, u211_650, u211_651, kL_s, kLt, la_0, la_86, true_and, o_al, o_tn, o_inb, a9, a1, e9n, show 4 * k + 1 < L by omega, show 4 * k + 2 < L by omega]
  refine Ca_imp hm ?_
  rintro r σ ⟨I2, J2, rfl, rfl, b9, b1, hR2⟩
  simp only [Option.toList, List.cons_append, List.nil_append]
  simp only [u211_654, u211_657, u211_658, lg_r, if_true, u211_1122, o_al]
  exact (u211_1125 ..).mpr (ih I2 J2 hR2 b9 b1)
theorem lw_19 (hop : ∀ a b c : Int32, OpI 83 [.ref 0, .int a, .int b, .int c, .null, .null, .null, .null] 157 [.ref 86, .int a, .int b, .int c, .null, .null, .null]) {I : Nat → Nat → Int32} {J : Nat → Nat → Int64} {Q : Option Value → Sto → Prop} {k L B : Nat} {xs : Nat → Int32} (hk : 4 * k + 4 ≤ L) (hL : L ≤ 256) (hR : Rel I J B) (hB : B ≤ 4000) (e9 : I 999 = fun _ => nI L) (e1 : I 1000 = xs) (ih : ∀ I2 J2, Rel I2 J2 (B + 60) → I2 999 = I 999 → I2 1000 = I 1000 → Rn 211 18 [.ref 1000, .ref 0, .ref 86, .int (Int32.ofNat (4 * k + 4))] [] (Sg I2 J2) Q) : Rn 211 659 [.ref 1000, .ref 0, .ref 86, .int (Int32.ofNat (4 * k))] [] (Sg I J) Q := by
  have e9n : (nI L).toNatClampNeg = L := o_tn (by omega)
  simp (disch := omega) only [u211_659, u211_660, u211_661, u211_662, u211_663, u211_664, u211_665, u211_666, u211_667, u211_668, u211_669, u211_670, u211_671, u211_672, u211_673, u211_674, u211_675, kL_s, kLt, la_0, la_86, true_and, o_al, o_tn, o_inb, e9, e1, e9n, show 4 * k + 1 < L by omega, show 4 * k + 2 < L by omega, show 4 * k + 3 < L by omega]
  refine Ca_imp (hop _ _ _ I J B hR hB) ?_
  rintro r σ ⟨x, I1, J1, rfl, rfl, a9, a1, hm⟩
  rw [e9] at a9
  rw [e1] at a1
  simp only [Option.toList, List.cons_append, List.nil_append]
  simp (disch := omega) only [u211_678, u211_679, u211_680, u211_681, u211_682, u211_683, u211_684, u211_685, u211_686, u211_687, u211_688, u211_689, u211_690, u211_691, u211_692, u211_693, u211_694, kL_s, kLt, la_0, la_86, true_and, o_al, o_tn, o_inb, a9, a1, e9n, show 4 * k + 1 < L by omega, show 4 * k + 2 < L by omega, show 4 * k + 3 < L by omega]
  refine Ca_imp hm ?_
  rintro r σ ⟨I2, J2, rfl, rfl, b9, b1, hR2⟩
  simp only [Option.toList, List.cons_append, List.nil_append]
  simp only [u211_697, u211_700, u211_701, lg_r, if_true, u211_1122, o_al]
  exact (u211_1125 ..).mpr (ih I2 J2 hR2 b9 b1)
theorem lw_20 (hop : ∀ a : Int32, OpI 84 [.ref 0, .int a, .null, .null] 158 [.ref 86, .int a, .null, .null]) {I : Nat → Nat → Int32} {J : Nat → Nat → Int64} {Q : Option Value → Sto → Prop} {k L B : Nat} {xs : Nat → Int32} (hk : 4 * k + 4 ≤ L) (hL : L ≤ 256) (hR : Rel I J B) (hB : B ≤ 4000) (e9 : I 999 = fun _ => nI L) (e1 : I 1000 = xs) (ih : ∀ I2 J2, Rel I2 J2 (B + 60) → I2 999 = I 999 → I2 1000 = I 1000 → Rn 211 18 [.ref 1000, .ref 0, .ref 86, .int (Int32.ofNat (4 * k + 4))] [] (Sg I2 J2) Q) : Rn 211 702 [.ref 1000, .ref 0, .ref 86, .int (Int32.ofNat (4 * k))] [] (Sg I J) Q := by
  have e9n : (nI L).toNatClampNeg = L := o_tn (by omega)
  simp (disch := omega) only [u211_702, u211_703, u211_704, u211_705, u211_706, u211_707, u211_708, kL_s, kLt, la_0, la_86, true_and, o_al, o_tn, o_inb, e9, e1, e9n, show 4 * k + 1 < L by omega]
  refine Ca_imp (hop _ I J B hR hB) ?_
  rintro r σ ⟨x, I1, J1, rfl, rfl, a9, a1, hm⟩
  rw [e9] at a9
  rw [e1] at a1
  simp only [Option.toList, List.cons_append, List.nil_append]
  simp (disch := omega) only [u211_711, u211_712, u211_713, u211_714, u211_715, u211_716, u211_717, kL_s, kLt, la_0, la_86, true_and, o_al, o_tn, o_inb, a9, a1, e9n, show 4 * k + 1 < L by omega]
  refine Ca_imp hm ?_
  rintro r σ ⟨I2, J2, rfl, rfl, b9, b1, hR2⟩
  simp only [Option.toList, List.cons_append, List.nil_append]
  simp only [u211_720, u211_723, u211_724, lg_r, if_true, u211_1122, o_al]
  exact (u211_1125 ..).mpr (ih I2 J2 hR2 b9 b1)
theorem lw_21 (hop : ∀ a b : Int32, OpI 85 [.ref 0, .int a, .int b, .null, .null] 159 [.ref 86, .int a, .int b, .null, .null, .null]) {I : Nat → Nat → Int32} {J : Nat → Nat → Int64} {Q : Option Value → Sto → Prop} {k L B : Nat} {xs : Nat → Int32} (hk : 4 * k + 4 ≤ L) (hL : L ≤ 256) (hR : Rel I J B) (hB : B ≤ 4000) (e9 : I 999 = fun _ => nI L) (e1 : I 1000 = xs) (ih : ∀ I2 J2, Rel I2 J2 (B + 60) → I2 999 = I 999 → I2 1000 = I 1000 → Rn 211 18 [.ref 1000, .ref 0, .ref 86, .int (Int32.ofNat (4 * k + 4))] [] (Sg I2 J2) Q) : Rn 211 725 [.ref 1000, .ref 0, .ref 86, .int (Int32.ofNat (4 * k))] [] (Sg I J) Q := by
  have e9n : (nI L).toNatClampNeg = L := o_tn (by omega)
  simp (disch := omega) only [u211_725, u211_726, u211_727, u211_728, u211_729, u211_730, u211_731, u211_732, u211_733, u211_734, u211_735, u211_736, kL_s, kLt, la_0, la_86, true_and, o_al, o_tn, o_inb, e9, e1, e9n, show 4 * k + 1 < L by omega, show 4 * k + 2 < L by omega]
  refine Ca_imp (hop _ _ I J B hR hB) ?_
  rintro r σ ⟨x, I1, J1, rfl, rfl, a9, a1, hm⟩
  rw [e9] at a9
  rw [e1] at a1
  simp only [Option.toList, List.cons_append, List.nil_append]
  simp (disch := omega) only [u211_739, u211_740, u211_741, u211_742, u211_743, u211_744, u211_745, u211_746, u211_747, u211_748, u211_749, u211_750, kL_s, kLt, la_0, la_86, true_and, o_al, o_tn, o_inb, a9, a1, e9n, show 4 * k + 1 < L by omega, show 4 * k + 2 < L by omega]
  refine Ca_imp hm ?_
  rintro r σ ⟨I2, J2, rfl, rfl, b9, b1, hR2⟩
  simp only [Option.toList, List.cons_append, List.nil_append]
  simp only [u211_753, u211_756, u211_757, lg_r, if_true, u211_1122, o_al]
  exact (u211_1125 ..).mpr (ih I2 J2 hR2 b9 b1)
theorem lw_22 (hop : OpI 86 [.ref 0, .null] 161 [.ref 86, .null]) {I : Nat → Nat → Int32} {J : Nat → Nat → Int64} {Q : Option Value → Sto → Prop} {k L B : Nat} {xs : Nat → Int32} (hk : 4 * k + 4 ≤ L) (hL : L ≤ 256) (hR : Rel I J B) (hB : B ≤ 4000) (e9 : I 999 = fun _ => nI L) (e1 : I 1000 = xs) (ih : ∀ I2 J2, Rel I2 J2 (B + 60) → I2 999 = I 999 → I2 1000 = I 1000 → Rn 211 18 [.ref 1000, .ref 0, .ref 86, .int (Int32.ofNat (4 * k + 4))] [] (Sg I2 J2) Q) : Rn 211 758 [.ref 1000, .ref 0, .ref 86, .int (Int32.ofNat (4 * k))] [] (Sg I J) Q := by
  have e9n : (nI L).toNatClampNeg = L := o_tn (by omega)
  simp (disch := omega) only [u211_758, u211_759, kL_s, kLt, la_0, la_86, true_and, o_al, o_tn, o_inb, e9, e1, e9n]
  refine Ca_imp (hop I J B hR hB) ?_
  rintro r σ ⟨x, I1, J1, rfl, rfl, a9, a1, hm⟩
  rw [e9] at a9
  rw [e1] at a1
  simp only [Option.toList, List.cons_append, List.nil_append]
  simp (disch := omega) only [u211_762, u211_763, kL_s, kLt, la_0, la_86, true_and, o_al, o_tn, o_inb, a9, a1, e9n]
  refine Ca_imp hm ?_
  rintro r σ ⟨I2, J2, rfl, rfl, b9, b1, hR2⟩
  simp only [Option.toList, List.cons_append, List.nil_append]
  simp only [u211_766, u211_769, u211_770, lg_r, if_true, u211_1122, o_al]
  exact (u211_1125 ..).mpr (ih I2 J2 hR2 b9 b1)
theorem lw_23 (hop : ∀ a b c : Int32, OpI 87 [.ref 0, .int a, .int b, .int c] 162 [.ref 86, .int a, .int b, .int c, .null]) {I : Nat → Nat → Int32} {J : Nat → Nat → Int64} {Q : Option Value → Sto → Prop} {k L B : Nat} {xs : Nat → Int32} (hk : 4 * k + 4 ≤ L) (hL : L ≤ 256) (hR : Rel I J B) (hB : B ≤ 4000) (e9 : I 999 = fun _ => nI L) (e1 : I 1000 = xs) (ih : ∀ I2 J2, Rel I2 J2 (B + 60) → I2 999 = I 999 → I2 1000 = I 1000 → Rn 211 18 [.ref 1000, .ref 0, .ref 86, .int (Int32.ofNat (4 * k + 4))] [] (Sg I2 J2) Q) : Rn 211 771 [.ref 1000, .ref 0, .ref 86, .int (Int32.ofNat (4 * k))] [] (Sg I J) Q := by
  have e9n : (nI L).toNatClampNeg = L := o_tn (by omega)
  simp (disch := omega) only [u211_771, u211_772, u211_773, u211_774, u211_775, u211_776, u211_777, u211_778, u211_779, u211_780, u211_781, u211_782, u211_783, u211_784, u211_785, u211_786, u211_787, kL_s, kLt, la_0, la_86, true_and, o_al, o_tn, o_inb, e9, e1, e9n, show 4 * k + 1 < L by omega, show 4 * k + 2 < L by omega, show 4 * k + 3 < L by omega]
  refine Ca_imp (hop _ _ _ I J B hR hB) ?_
  rintro r σ ⟨x, I1, J1, rfl, rfl, a9, a1, hm⟩
  rw [e9] at a9
  rw [e1] at a1
  simp only [Option.toList, List.cons_append, List.nil_append]
  simp (disch := omega) only [u211_790, u211_791, u211_792, u211_793, u211_794, u211_795, u211_796, u211_797, u211_798, u211_799, u211_800, u211_801, u211_802, u211_803, u211_804, u211_805, u211_806, kL_s, kLt, la_0, la_86, true_and, o_al, o_tn, o_inb, a9, a1, e9n, show 4 * k + 1 < L by omega, show 4 * k + 2 < L by omega, show 4 * k + 3 < L by omega]
  refine Ca_imp hm ?_
  rintro r σ ⟨I2, J2, rfl, rfl, b9, b1, hR2⟩
  simp only [Option.toList, List.cons_append, List.nil_append]
  simp only [u211_809, u211_812, u211_813, lg_r, if_true, u211_1122, o_al]
  exact (u211_1125 ..).mpr (ih I2 J2 hR2 b9 b1)
theorem lw_24 (hop : OpI 88 [.ref 0] 163 [.ref 86, .null]) {I : Nat → Nat → Int32} {J : Nat → Nat → Int64} {Q : Option Value → Sto → Prop} {k L B : Nat} {xs : Nat → Int32} (hk : 4 * k + 4 ≤ L) (hL : L ≤ 256) (hR : Rel I J B) (hB : B ≤ 4000) (e9 : I 999 = fun _ => nI L) (e1 : I 1000 = xs) (ih : ∀ I2 J2, Rel I2 J2 (B + 60) → I2 999 = I 999 → I2 1000 = I 1000 → Rn 211 18 [.ref 1000, .ref 0, .ref 86, .int (Int32.ofNat (4 * k + 4))] [] (Sg I2 J2) Q) : Rn 211 814 [.ref 1000, .ref 0, .ref 86, .int (Int32.ofNat (4 * k))] [] (Sg I J) Q := by
  have e9n : (nI L).toNatClampNeg = L := o_tn (by omega)
  simp (disch := omega) only [u211_814, u211_815, kL_s, kLt, la_0, la_86, true_and, o_al, o_tn, o_inb, e9, e1, e9n]
  refine Ca_imp (hop I J B hR hB) ?_
  rintro r σ ⟨x, I1, J1, rfl, rfl, a9, a1, hm⟩
  rw [e9] at a9
  rw [e1] at a1
  simp only [Option.toList, List.cons_append, List.nil_append]
  simp (disch := omega) only [u211_818, u211_819, kL_s, kLt, la_0, la_86, true_and, o_al, o_tn, o_inb, a9, a1, e9n]
  refine Ca_imp hm ?_
  rintro r σ ⟨I2, J2, rfl, rfl, b9, b1, hR2⟩
  simp only [Option.toList, List.cons_append, List.nil_append]
  simp only [u211_822, u211_825, u211_826, lg_r, if_true, u211_1122, o_al]
  exact (u211_1125 ..).mpr (ih I2 J2 hR2 b9 b1)
theorem lw_25 (hop : ∀ a : Int32, OpI 89 [.ref 0, .int a] 166 [.ref 86, .int a]) {I : Nat → Nat → Int32} {J : Nat → Nat → Int64} {Q : Option Value → Sto → Prop} {k L B : Nat} {xs : Nat → Int32} (hk : 4 * k + 4 ≤ L) (hL : L ≤ 256) (hR : Rel I J B) (hB : B ≤ 4000) (e9 : I 999 = fun _ => nI L) (e1 : I 1000 = xs) (ih : ∀ I2 J2, Rel I2 J2 (B + 60) → I2 999 = I 999 → I2 1000 = I 1000 → Rn 211 18 [.ref 1000, .ref 0, .ref 86, .int (Int32.ofNat (4 * k + 4))] [] (Sg I2 J2) Q) : Rn 211 827 [.ref 1000, .ref 0, .ref 86, .int (Int32.ofNat (4 * k))] [] (Sg I J) Q := by
  have e9n : (nI L).toNatClampNeg = L := o_tn (by omega)
  simp (disch := omega) only [u211_827, u211_828, u211_829, u211_830, u211_831, u211_832, u211_833, kL_s, kLt, la_0, la_86, true_and, o_al, o_tn, o_inb, e9, e1, e9n, show 4 * k + 1 < L by omega]
  refine Ca_imp (hop _ I J B hR hB) ?_
  rintro r σ ⟨x, I1, J1, rfl, rfl, a9, a1, hm⟩
  rw [e9] at a9
  rw [e1] at a1
  simp only [Option.toList, List.cons_append, List.nil_append]
  simp (disch := omega) only [u211_836, u211_837, u211_838, u211_839, u211_840, u211_841, u211_842, kL_s, kLt, la_0, la_86, true_and, o_al, o_tn, o_inb, a9, a1, e9n, show 4 * k + 1 < L by omega]
  refine Ca_imp hm ?_
  rintro r σ ⟨I2, J2, rfl, rfl, b9, b1, hR2⟩
  simp only [Option.toList, List.cons_append, List.nil_append]
  simp only [u211_845, u211_848, u211_849, lg_r, if_true, u211_1122, o_al]
  exact (u211_1125 ..).mpr (ih I2 J2 hR2 b9 b1)
theorem lw_26 (hop : ∀ a b : Int32, OpI 90 [.ref 0, .int a, .int b, .null, .null, .null, .null, .null] 168 [.ref 86, .int a, .int b, .null, .null, .null, .null, .null]) {I : Nat → Nat → Int32} {J : Nat → Nat → Int64} {Q : Option Value → Sto → Prop} {k L B : Nat} {xs : Nat → Int32} (hk : 4 * k + 4 ≤ L) (hL : L ≤ 256) (hR : Rel I J B) (hB : B ≤ 4000) (e9 : I 999 = fun _ => nI L) (e1 : I 1000 = xs) (ih : ∀ I2 J2, Rel I2 J2 (B + 60) → I2 999 = I 999 → I2 1000 = I 1000 → Rn 211 18 [.ref 1000, .ref 0, .ref 86, .int (Int32.ofNat (4 * k + 4))] [] (Sg I2 J2) Q) : Rn 211 850 [.ref 1000, .ref 0, .ref 86, .int (Int32.ofNat (4 * k))] [] (Sg I J) Q := by
  have e9n : (nI L).toNatClampNeg = L := o_tn (by omega)
  simp (disch := omega) only [u211_850, u211_851, u211_852, u211_853, u211_854, u211_855, u211_856, u211_857, u211_858, u211_859, u211_860, u211_861, kL_s, kLt, la_0, la_86, true_and, o_al, o_tn, o_inb, e9, e1, e9n, show 4 * k + 1 < L by omega, show 4 * k + 2 < L by omega]
  refine Ca_imp (hop _ _ I J B hR hB) ?_
  rintro r σ ⟨x, I1, J1, rfl, rfl, a9, a1, hm⟩
  rw [e9] at a9
  rw [e1] at a1
  simp only [Option.toList, List.cons_append, List.nil_append]
  simp (disch := omega) only [u211_864, u211_865, u211_866, u211_867, u211_868, u211_869, u211_870, u211_871, u211_872, u211_873, u211_874, u211_875, kL_s, kLt, la_0, la_86, true_and, o_al, o_tn, o_inb, a9, a1, e9n, show 4 * k + 1 < L by omega, show 4 * k + 2 < L by omega]
  refine Ca_imp hm ?_
  rintro r σ ⟨I2, J2, rfl, rfl, b9, b1, hR2⟩
  simp only [Option.toList, List.cons_append, List.nil_append]
  simp only [u211_878, u211_881, u211_882, lg_r, if_true, u211_1122, o_al]
  exact (u211_1125 ..).mpr (ih I2 J2 hR2 b9 b1)
theorem lw_27 (hop : ∀ a : Int32, OpI 91 [.ref 0, .int a] 169 [.ref 86, .int a, .null, .null]) {I : Nat → Nat → Int32} {J : Nat → Nat → Int64} {Q : Option Value → Sto → Prop} {k L B : Nat} {xs : Nat → Int32} (hk : 4 * k + 4 ≤ L) (hL : L ≤ 256) (hR : Rel I J B) (hB : B ≤ 4000) (e9 : I 999 = fun _ => nI L) (e1 : I 1000 = xs) (ih : ∀ I2 J2, Rel I2 J2 (B + 60) → I2 999 = I 999 → I2 1000 = I 1000 → Rn 211 18 [.ref 1000, .ref 0, .ref 86, .int (Int32.ofNat (4 * k + 4))] [] (Sg I2 J2) Q) : Rn 211 883 [.ref 1000, .ref 0, .ref 86, .int (Int32.ofNat (4 * k))] [] (Sg I J) Q := by
  have e9n : (nI L).toNatClampNeg = L := o_tn (by omega)
  simp (disch := omega) only [u211_883, u211_884, u211_885, u211_886, u211_887, u211_888, u211_889, kL_s, kLt, la_0, la_86, true_and, o_al, o_tn, o_inb, e9, e1, e9n, show 4 * k + 1 < L by omega]
  refine Ca_imp (hop _ I J B hR hB) ?_
  rintro r σ ⟨x, I1, J1, rfl, rfl, a9, a1, hm⟩
  rw [e9] at a9
  rw [e1] at a1
  simp only [Option.toList, List.cons_append, List.nil_append]
  simp (disch := omega) only [u211_892, u211_893, u211_894, u211_895, u211_896, u211_897, u211_898, kL_s, kLt, la_0, la_86, true_and, o_al, o_tn, o_inb, a9, a1, e9n, show 4 * k + 1 < L by omega]
  refine Ca_imp hm ?_
  rintro r σ ⟨I2, J2, rfl, rfl, b9, b1, hR2⟩
  simp only [Option.toList, List.cons_append, List.nil_append]
  simp only [u211_901, u211_904, u211_905, lg_r, if_true, u211_1122, o_al]
  exact (u211_1125 ..).mpr (ih I2 J2 hR2 b9 b1)
theorem lw_28 (hop : ∀ a b c : Int32, OpI 92 [.ref 0, .int a, .int b, .int c, .null, .null, .null, .null] 171 [.ref 86, .int a, .int b, .int c, .null, .null, .null, .null, .null, .null, .null, .null]) {I : Nat → Nat → Int32} {J : Nat → Nat → Int64} {Q : Option Value → Sto → Prop} {k L B : Nat} {xs : Nat → Int32} (hk : 4 * k + 4 ≤ L) (hL : L ≤ 256) (hR : Rel I J B) (hB : B ≤ 4000) (e9 : I 999 = fun _ => nI L) (e1 : I 1000 = xs) (ih : ∀ I2 J2, Rel I2 J2 (B + 60) → I2 999 = I 999 → I2 1000 = I 1000 → Rn 211 18 [.ref 1000, .ref 0, .ref 86, .int (Int32.ofNat (4 * k + 4))] [] (Sg I2 J2) Q) : Rn 211 906 [.ref 1000, .ref 0, .ref 86, .int (Int32.ofNat (4 * k))] [] (Sg I J) Q := by
  have e9n : (nI L).toNatClampNeg = L := o_tn (by omega)
  simp (disch := omega) only [u211_906, u211_907, u211_908, u211_909, u211_910, u211_911, u211_912, u211_913, u211_914, u211_915, u211_916, u211_917, u211_918, u211_919, u211_920, u211_921, u211_922, kL_s, kLt, la_0, la_86, true_and, o_al, o_tn, o_inb, e9, e1, e9n, show 4 * k + 1 < L by omega, show 4 * k + 2 < L by omega, show 4 * k + 3 < L by omega]
  refine Ca_imp (hop _ _ _ I J B hR hB) ?_
  rintro r σ ⟨x, I1, J1, rfl, rfl, a9, a1, hm⟩
  rw [e9] at a9
  rw [e1] at a1
  simp only [Option.toList, List.cons_append, List.nil_append]
  simp (disch := omega) only [u211_925, u211_926, u211_927, u211_928, u211_929, u211_930, u211_931, u211_932, u211_933, u211_934, u211_935, u211_936, u211_937, u211_938, u211_939, u211_940, u211_941, kL_s, kLt, la_0, la_86, true_and, o_al, o_tn, o_inb, a9, a1, e9n, show 4 * k + 1 < L by omega, show 4 * k + 2 < L by omega, show 4 * k + 3 < L by omega]
  refine Ca_imp hm ?_
  rintro r σ ⟨I2, J2, rfl, rfl, b9, b1, hR2⟩
  simp only [Option.toList, List.cons_append, List.nil_append]
  simp only [u211_944, u211_947, u211_948, lg_r, if_true, u211_1122, o_al]
  exact (u211_1125 ..).mpr (ih I2 J2 hR2 b9 b1)
theorem lw_29 (hop : ∀ a b c : Int32, OpI 93 [.ref 0, .int a, .int b, .int c, .null, .null, .null, .null, .null] 172 [.ref 86, .int a, .int b, .int c, .null, .null, .null, .null, .null]) {I : Nat → Nat → Int32} {J : Nat → Nat → Int64} {Q : Option Value → Sto → Prop} {k L B : Nat} {xs : Nat → Int32} (hk : 4 * k + 4 ≤ L) (hL : L ≤ 256) (hR : Rel I J B) (hB : B ≤ 4000) (e9 : I 999 = fun _ => nI L) (e1 : I 1000 = xs) (ih : ∀ I2 J2, Rel I2 J2 (B + 60) → I2 999 = I 999 → I2 1000 = I 1000 → Rn 211 18 [.ref 1000, .ref 0, .ref 86, .int (Int32.ofNat (4 * k + 4))] [] (Sg I2 J2) Q) : Rn 211 949 [.ref 1000, .ref 0, .ref 86, .int (Int32.ofNat (4 * k))] [] (Sg I J) Q := by
  have e9n : (nI L).toNatClampNeg = L := o_tn (by omega)
  simp (disch := omega) only [u211_949, u211_950, u211_951, u211_952, u211_953, u211_954, u211_955, u211_956, u211_957, u211_958, u211_959, u211_960, u211_961, u211_962, u211_963, u211_964, u211_965, kL_s, kLt, la_0, la_86, true_and, o_al, o_tn, o_inb, e9, e1, e9n, show 4 * k + 1 < L by omega, show 4 * k + 2 < L by omega, show 4 * k + 3 < L by omega]
  refine Ca_imp (hop _ _ _ I J B hR hB) ?_
  rintro r σ ⟨x, I1, J1, rfl, rfl, a9, a1, hm⟩
  rw [e9] at a9
  rw [e1] at a1
  simp only [Option.toList, List.cons_append, List.nil_append]
  simp (disch := omega) only [u211_968, u211_969, u211_970, u211_971, u211_972, u211_973, u211_974, u211_975, u211_976, u211_977, u211_978, u211_979, u211_980, u211_981, u211_982, u211_983, u211_984, kL_s, kLt, la_0, la_86, true_and, o_al, o_tn, o_inb, a9, a1, e9n, show 4 * k + 1 < L by omega, show 4 * k + 2 < L by omega, show 4 * k + 3 < L by omega]
  refine Ca_imp hm ?_
  rintro r σ ⟨I2, J2, rfl, rfl, b9, b1, hR2⟩
  simp only [Option.toList, List.cons_append, List.nil_append]
  simp only [u211_987, u211_990, u211_991, lg_r, if_true, u211_1122, o_al]
  exact (u211_1125 ..).mpr (ih I2 J2 hR2 b9 b1)
theorem lw_30 (hop : ∀ a : Int32, OpL 94 [.ref 0, .int a] 187 [.ref 86, .int a]) {I : Nat → Nat → Int32} {J : Nat → Nat → Int64} {Q : Option Value → Sto → Prop} {k L B : Nat} {xs : Nat → Int32} (hk : 4 * k + 4 ≤ L) (hL : L ≤ 256) (hR : Rel I J B) (hB : B ≤ 4000) (e9 : I 999 = fun _ => nI L) (e1 : I 1000 = xs) (ih : ∀ I2 J2, Rel I2 J2 (B + 60) → I2 999 = I 999 → I2 1000 = I 1000 → Rn 211 18 [.ref 1000, .ref 0, .ref 86, .int (Int32.ofNat (4 * k + 4))] [] (Sg I2 J2) Q) : Rn 211 992 [.ref 1000, .ref 0, .ref 86, .int (Int32.ofNat (4 * k))] [] (Sg I J) Q := by
  have e9n : (nI L).toNatClampNeg = L := o_tn (by omega)
  simp (disch := omega) only [u211_992, u211_993, u211_994, u211_995, u211_996, u211_997, u211_998, kL_s, kLt, la_0, la_86, true_and, o_al, o_tn, o_inb, e9, e1, e9n, show 4 * k + 1 < L by omega]
  refine Ca_imp (hop _ I J B hR hB) ?_
  rintro r σ ⟨x, I1, J1, rfl, rfl, a9, a1, hm⟩
  rw [e9] at a9
  rw [e1] at a1
  simp only [Option.toList, List.cons_append, List.nil_append]
  simp (disch := omega) only [u211_1001, u211_1002, u211_1003, u211_1004, u211_1005, u211_1006, u211_1007, kL_s, kLt, la_0, la_86, true_and, o_al, o_tn, o_inb, a9, a1, e9n, show 4 * k + 1 < L by omega]
  refine Ca_imp hm ?_
  rintro r σ ⟨I2, J2, rfl, rfl, b9, b1, hR2⟩
  simp only [Option.toList, List.cons_append, List.nil_append]
  simp only [u211_1010, u211_1011, u211_1014, u211_1015, lg_r, if_true, u211_1122, o_al]
  exact (u211_1125 ..).mpr (ih I2 J2 hR2 b9 b1)
theorem lw_31 (hop : ∀ a : Int32, OpI 95 [.ref 0, .int a] 188 [.ref 86, .int a, .null]) {I : Nat → Nat → Int32} {J : Nat → Nat → Int64} {Q : Option Value → Sto → Prop} {k L B : Nat} {xs : Nat → Int32} (hk : 4 * k + 4 ≤ L) (hL : L ≤ 256) (hR : Rel I J B) (hB : B ≤ 4000) (e9 : I 999 = fun _ => nI L) (e1 : I 1000 = xs) (ih : ∀ I2 J2, Rel I2 J2 (B + 60) → I2 999 = I 999 → I2 1000 = I 1000 → Rn 211 18 [.ref 1000, .ref 0, .ref 86, .int (Int32.ofNat (4 * k + 4))] [] (Sg I2 J2) Q) : Rn 211 1016 [.ref 1000, .ref 0, .ref 86, .int (Int32.ofNat (4 * k))] [] (Sg I J) Q := by
  have e9n : (nI L).toNatClampNeg = L := o_tn (by omega)
  simp (disch := omega) only [u211_1016, u211_1017, u211_1018, u211_1019, u211_1020, u211_1021, u211_1022, kL_s, kLt, la_0, la_86, true_and, o_al, o_tn, o_inb, e9, e1, e9n, show 4 * k + 1 < L by omega]
  refine Ca_imp (hop _ I J B hR hB) ?_
  rintro r σ ⟨x, I1, J1, rfl, rfl, a9, a1, hm⟩
  rw [e9] at a9
  rw [e1] at a1
  simp only [Option.toList, List.cons_append, List.nil_append]
  simp (disch := omega) only [u211_1025, u211_1026, u211_1027, u211_1028, u211_1029, u211_1030, u211_1031, kL_s, kLt, la_0, la_86, true_and, o_al, o_tn, o_inb, a9, a1, e9n, show 4 * k + 1 < L by omega]
  refine Ca_imp hm ?_
  rintro r σ ⟨I2, J2, rfl, rfl, b9, b1, hR2⟩
  simp only [Option.toList, List.cons_append, List.nil_append]
  simp only [u211_1034, u211_1037, u211_1038, lg_r, if_true, u211_1122, o_al]
  exact (u211_1125 ..).mpr (ih I2 J2 hR2 b9 b1)
theorem lw_32 (hop : ∀ a : Int32, OpI 96 [.ref 0, .int a] 189 [.ref 86, .int a, .null]) {I : Nat → Nat → Int32} {J : Nat → Nat → Int64} {Q : Option Value → Sto → Prop} {k L B : Nat} {xs : Nat → Int32} (hk : 4 * k + 4 ≤ L) (hL : L ≤ 256) (hR : Rel I J B) (hB : B ≤ 4000) (e9 : I 999 = fun _ => nI L) (e1 : I 1000 = xs) (ih : ∀ I2 J2, Rel I2 J2 (B + 60) → I2 999 = I 999 → I2 1000 = I 1000 → Rn 211 18 [.ref 1000, .ref 0, .ref 86, .int (Int32.ofNat (4 * k + 4))] [] (Sg I2 J2) Q) : Rn 211 1039 [.ref 1000, .ref 0, .ref 86, .int (Int32.ofNat (4 * k))] [] (Sg I J) Q := by
  have e9n : (nI L).toNatClampNeg = L := o_tn (by omega)
  simp (disch := omega) only [u211_1039, u211_1040, u211_1041, u211_1042, u211_1043, u211_1044, u211_1045, kL_s, kLt, la_0, la_86, true_and, o_al, o_tn, o_inb, e9, e1, e9n, show 4 * k + 1 < L by omega]
  refine Ca_imp (hop _ I J B hR hB) ?_
  rintro r σ ⟨x, I1, J1, rfl, rfl, a9, a1, hm⟩
  rw [e9] at a9
  rw [e1] at a1
  simp only [Option.toList, List.cons_append, List.nil_append]
  simp (disch := omega) only [u211_1048, u211_1049, u211_1050, u211_1051, u211_1052, u211_1053, u211_1054, kL_s, kLt, la_0, la_86, true_and, o_al, o_tn, o_inb, a9, a1, e9n, show 4 * k + 1 < L by omega]
  refine Ca_imp hm ?_
  rintro r σ ⟨I2, J2, rfl, rfl, b9, b1, hR2⟩
  simp only [Option.toList, List.cons_append, List.nil_append]
  simp only [u211_1057, u211_1060, u211_1061, lg_r, if_true, u211_1122, o_al]
  exact (u211_1125 ..).mpr (ih I2 J2 hR2 b9 b1)
theorem lw_33 (hop : ∀ a : Int32, OpI 97 [.ref 0, .int a] 190 [.ref 86, .int a]) {I : Nat → Nat → Int32} {J : Nat → Nat → Int64} {Q : Option Value → Sto → Prop} {k L B : Nat} {xs : Nat → Int32} (hk : 4 * k + 4 ≤ L) (hL : L ≤ 256) (hR : Rel I J B) (hB : B ≤ 4000) (e9 : I 999 = fun _ => nI L) (e1 : I 1000 = xs) (ih : ∀ I2 J2, Rel I2 J2 (B + 60) → I2 999 = I 999 → I2 1000 = I 1000 → Rn 211 18 [.ref 1000, .ref 0, .ref 86, .int (Int32.ofNat (4 * k + 4))] [] (Sg I2 J2) Q) : Rn 211 1062 [.ref 1000, .ref 0, .ref 86, .int (Int32.ofNat (4 * k))] [] (Sg I J) Q := by
  have e9n : (nI L).toNatClampNeg = L := o_tn (by omega)
  simp (disch := omega) only [u211_1062, u211_1063, u211_1064, u211_1065, u211_1066, u211_1067, u211_1068, kL_s, kLt, la_0, la_86, true_and, o_al, o_tn, o_inb, e9, e1, e9n, show 4 * k + 1 < L by omega]
  refine Ca_imp (hop _ I J B hR hB) ?_
  rintro r σ ⟨x, I1, J1, rfl, rfl, a9, a1, hm⟩
  rw [e9] at a9
  rw [e1] at a1
  simp only [Option.toList, List.cons_append, List.nil_append]
  simp (disch := omega) only [u211_1071, u211_1072, u211_1073, u211_1074, u211_1075, u211_1076, u211_1077, kL_s, kLt, la_0, la_86, true_and, o_al, o_tn, o_inb, a9, a1, e9n, show 4 * k + 1 < L by omega]
  refine Ca_imp hm ?_
  rintro r σ ⟨I2, J2, rfl, rfl, b9, b1, hR2⟩
  simp only [Option.toList, List.cons_append, List.nil_append]
  simp only [u211_1080, u211_1083, u211_1084, lg_r, if_true, u211_1122, o_al]
  exact (u211_1125 ..).mpr (ih I2 J2 hR2 b9 b1)
theorem lw_34 (hop : ∀ a : Int32, OpI 98 [.ref 0, .int a] 193 [.ref 86, .int a]) {I : Nat → Nat → Int32} {J : Nat → Nat → Int64} {Q : Option Value → Sto → Prop} {k L B : Nat} {xs : Nat → Int32} (hk : 4 * k + 4 ≤ L) (hL : L ≤ 256) (hR : Rel I J B) (hB : B ≤ 4000) (e9 : I 999 = fun _ => nI L) (e1 : I 1000 = xs) (ih : ∀ I2 J2, Rel I2 J2 (B + 60) → I2 999 = I 999 → I2 1000 = I 1000 → Rn 211 18 [.ref 1000, .ref 0, .ref 86, .int (Int32.ofNat (4 * k + 4))] [] (Sg I2 J2) Q) : Rn 211 1085 [.ref 1000, .ref 0, .ref 86, .int (Int32.ofNat (4 * k))] [] (Sg I J) Q := by
  have e9n : (nI L).toNatClampNeg = L := o_tn (by omega)
  simp (disch := omega) only [u211_1085, u211_1086, u211_1087, u211_1088, u211_1089, u211_1090, u211_1091, kL_s, kLt, la_0, la_86, true_and, o_al, o_tn, o_inb, e9, e1, e9n, show 4 * k + 1 < L by omega]
  refine Ca_imp (hop _ I J B hR hB) ?_
  rintro r σ ⟨x, I1, J1, rfl, rfl, a9, a1, hm⟩
  rw [e9] at a9
  rw [e1] at a1
  simp only [Option.toList, List.cons_append, List.nil_append]
  simp (disch := omega) only [u211_1094, u211_1095, u211_1096, u211_1097, u211_1098, u211_1099, u211_1100, kL_s, kLt, la_0, la_86, true_and, o_al, o_tn, o_inb, a9, a1, e9n, show 4 * k + 1 < L by omega]
  refine Ca_imp hm ?_
  rintro r σ ⟨I2, J2, rfl, rfl, b9, b1, hR2⟩
  simp only [Option.toList, List.cons_append, List.nil_append]
  simp only [u211_1103, u211_1106, u211_1107, lg_r, if_true, u211_1122, o_al]
  exact (u211_1125 ..).mpr (ih I2 J2 hR2 b9 b1)
theorem lw_35 (hop : OpL 99 [.ref 0, .null, .null, .null] 195 [.ref 86, .null, .null, .null]) {I : Nat → Nat → Int32} {J : Nat → Nat → Int64} {Q : Option Value → Sto → Prop} {k L B : Nat} {xs : Nat → Int32} (hk : 4 * k + 4 ≤ L) (hL : L ≤ 256) (hR : Rel I J B) (hB : B ≤ 4000) (e9 : I 999 = fun _ => nI L) (e1 : I 1000 = xs) (ih : ∀ I2 J2, Rel I2 J2 (B + 60) → I2 999 = I 999 → I2 1000 = I 1000 → Rn 211 18 [.ref 1000, .ref 0, .ref 86, .int (Int32.ofNat (4 * k + 4))] [] (Sg I2 J2) Q) : Rn 211 1108 [.ref 1000, .ref 0, .ref 86, .int (Int32.ofNat (4 * k))] [] (Sg I J) Q := by
  have e9n : (nI L).toNatClampNeg = L := o_tn (by omega)
  simp (disch := omega) only [u211_1108, u211_1109, kL_s, kLt, la_0, la_86, true_and, o_al, o_tn, o_inb, e9, e1, e9n]
  refine Ca_imp (hop I J B hR hB) ?_
  rintro r σ ⟨x, I1, J1, rfl, rfl, a9, a1, hm⟩
  rw [e9] at a9
  rw [e1] at a1
  simp only [Option.toList, List.cons_append, List.nil_append]
  simp (disch := omega) only [u211_1112, u211_1113, kL_s, kLt, la_0, la_86, true_and, o_al, o_tn, o_inb, a9, a1, e9n]
  refine Ca_imp hm ?_
  rintro r σ ⟨I2, J2, rfl, rfl, b9, b1, hR2⟩
  simp only [Option.toList, List.cons_append, List.nil_append]
  simp only [u211_1116, u211_1117, u211_1120, u211_1121, lg_r, if_true, u211_1122, o_al]
  exact (u211_1125 ..).mpr (ih I2 J2 hR2 b9 b1)
theorem lw_all (h0 : OpI 64 [.ref 0, .null] 126 [.ref 86, .null]) (h1 : ∀ a b : Int32, OpI 65 [.ref 0, .int a, .int b, .null] 128 [.ref 86, .int a, .int b, .null]) (h2 : ∀ a : Int32, OpI 66 [.ref 0, .int a] 129 [.ref 86, .int a]) (h3 : ∀ a b c : Int32, OpI 67 [.ref 0, .int a, .int b, .int c] 131 [.ref 86, .int a, .int b, .int c]) (h4 : ∀ a b : Int32, OpI 68 [.ref 0, .int a, .int b] 133 [.ref 86, .int a, .int b]) (h5 : OpI 69 [.ref 0] 134 [.ref 86, .null]) (h6 : ∀ a : Int32, OpI 70 [.ref 0, .int a] 173 [.ref 86, .int a]) (h7 : OpI 71 [.ref 0] 174 [.ref 86, .null]) (h8 : OpI 72 [.ref 0, .null] 186 [.ref 86, .null, .null]) (h9 : ∀ a : Int32, OpI 73 [.ref 0, .int a, .null] 142 [.ref 86, .int a, .null, .null]) (h10 : OpI 74 [.ref 0] 143 [.ref 86, .null, .null]) (h11 : ∀ a b : Int32, OpI 75 [.ref 0, .int a, .int b] 144 [.ref 86, .int a, .int b, .null, .null, .null]) (h12 : ∀ a b : Int32, OpI 76 [.ref 0, .int a, .int b, .null] 145 [.ref 86, .int a, .int b, .null]) (h13 : ∀ a b : Int32, OpI 77 [.ref 0, .int a, .int b] 147 [.ref 86, .int a, .int b]) (h14 : ∀ a : Int32, OpI 78 [.ref 0, .int a] 148 [.ref 86, .int a, .null, .null]) (h15 : ∀ a : Int32, OpI 79 [.ref 0, .int a] 151 [.ref 86, .int a]) (h16 : ∀ a : Int32, OpI 80 [.ref 0, .int a, .null, .null] 152 [.ref 86, .int a, .null, .null]) (h17 : ∀ a : Int32, OpI 81 [.ref 0, .int a, .null, .null, .null, .null] 154 [.ref 86, .int a, .null, .null]) (h18 : ∀ a b : Int32, OpI 82 [.ref 0, .int a, .int b, .null, .null, .null] 155 [.ref 86, .int a, .int b, .null, .null, .null]) (h19 : ∀ a b c : Int32, OpI 83 [.ref 0, .int a, .int b, .int c, .null, .null, .null, .null] 157 [.ref 86, .int a, .int b, .int c, .null, .null, .null]) (h20 : ∀ a : Int32, OpI 84 [.ref 0, .int a, .null, .null] 158 [.ref 86, .int a, .null, .null]) (h21 : ∀ a b : Int32, OpI 85 [.ref 0, .int a, .int b, .null, .null] 159 [.ref 86, .int a, .int b, .null, .null, .null]) (h22 : OpI 86 [.ref 0, .null] 161 [.ref 86, .null]) (h23 : ∀ a b c : Int32, OpI 87 [.ref 0, .int a, .int b, .int c] 162 [.ref 86, .int a, .int b, .int c, .null]) (h24 : OpI 88 [.ref 0] 163 [.ref 86, .null]) (h25 : ∀ a : Int32, OpI 89 [.ref 0, .int a] 166 [.ref 86, .int a]) (h26 : ∀ a b : Int32, OpI 90 [.ref 0, .int a, .int b, .null, .null, .null, .null, .null] 168 [.ref 86, .int a, .int b, .null, .null, .null, .null, .null]) (h27 : ∀ a : Int32, OpI 91 [.ref 0, .int a] 169 [.ref 86, .int a, .null, .null]) (h28 : ∀ a b c : Int32, OpI 92 [.ref 0, .int a, .int b, .int c, .null, .null, .null, .null] 171 [.ref 86, .int a, .int b, .int c, .null, .null, .null, .null, .null, .null, .null, .null]) (h29 : ∀ a b c : Int32, OpI 93 [.ref 0, .int a, .int b, .int c, .null, .null, .null, .null, .null] 172 [.ref 86, .int a, .int b, .int c, .null, .null, .null, .null, .null]) (h30 : ∀ a : Int32, OpL 94 [.ref 0, .int a] 187 [.ref 86, .int a]) (h31 : ∀ a : Int32, OpI 95 [.ref 0, .int a] 188 [.ref 86, .int a, .null]) (h32 : ∀ a : Int32, OpI 96 [.ref 0, .int a] 189 [.ref 86, .int a, .null]) (h33 : ∀ a : Int32, OpI 97 [.ref 0, .int a] 190 [.ref 86, .int a]) (h34 : ∀ a : Int32, OpI 98 [.ref 0, .int a] 193 [.ref 86, .int a]) (h35 : OpL 99 [.ref 0, .null, .null, .null] 195 [.ref 86, .null, .null, .null]) {L : Nat} {xs : Nat → Int32} {Q : Option Value → Sto → Prop} (hL : L ≤ 256) (hQ : ∀ I J, Q (some (.int 1)) (Sg I J)) : ∀ (d k B : Nat) (I : Nat → Nat → Int32) (J : Nat → Nat → Int64), 4 * k + 4 * d ≤ L → L < 4 * k + 4 * d + 4 → Rel I J B → B ≤ 60 * k → I 999 = (fun _ => nI L) → I 1000 = xs → Rn 211 18 [.ref 1000, .ref 0, .ref 86, .int (Int32.ofNat (4 * k))] [] (Sg I J) Q := by
  intro d
  induction d with
  | zero =>
    intro k B I J g1 g2 hR hB e9 e1
    have e3 : nI L - 4 < Int32.ofNat (4 * k) := by
      rw [Int32.lt_iff_toInt_lt, Int32.toInt_sub, show (nI L).toInt = L from Int32.toInt_ofNat_of_lt (by omega), Int32.toInt_ofNat_of_lt (by omega)]
      have a1 : (4 : Int32).toInt = 4 := rfl
      rw [a1, Int.bmod_eq_of_le (by omega) (by omega)]
      omega
    simp (disch := omega) only [u211_18, u211_19, u211_20, u211_21, u211_22, u211_23, kL_s, true_and, e9, e3, if_true, u211_1128, u211_1129]
    exact ⟨Or.inr trivial, hQ I J⟩
  | succ d ih =>
    intro k B I J g1 g2 hR hB e9 e1
    have e3 : ¬ nI L - 4 < Int32.ofNat (4 * k) := by
      rw [Int32.lt_iff_toInt_lt, Int32.toInt_sub, show (nI L).toInt = L from Int32.toInt_ofNat_of_lt (by omega), Int32.toInt_ofNat_of_lt (by omega)]
      have a1 : (4 : Int32).toInt = 4 := rfl
      rw [a1, Int.bmod_eq_of_le (by omega) (by omega)]
      omega
    have e9n : (nI L).toNatClampNeg = L := o_tn (by omega)
    have hk : 4 * k + 4 ≤ L := by omega
    have hB2 : B ≤ 4000 := by omega
    have ih2 : ∀ I2 J2, Rel I2 J2 (B + 60) → I2 999 = I 999 → I2 1000 = I 1000 → Rn 211 18 [.ref 1000, .ref 0, .ref 86, .int (Int32.ofNat (4 * k + 4))] [] (Sg I2 J2) Q := by
      intro I2 J2 hR2 b9 b1
      exact ih (k + 1) (B + 60) I2 J2 (by omega) (by omega) hR2 (by omega) (by rw [b9, e9]) (by rw [b1, e1])
    simp (disch := omega) only [u211_18, u211_19, u211_20, u211_21, u211_22, u211_23, u211_26, u211_27, u211_28, u211_29, u211_31, kL_s, true_and, e9, e1, e3, if_false, o_tn, o_inb, e9n, show 4 * k < L by omega]
    generalize xs (4 * k) &&& 63 = z
    by_cases hz : z.toInt < 0 ∨ 35 < z.toInt
    · rw [u211_32 z hz]
      simp only [u211_1122, o_al]
      exact (u211_1125 ..).mpr (ih2 I J (Rel_le hR (by omega)) rfl rfl)
    · obtain ⟨j, hj, rfl⟩ : ∃ j, j ≤ 35 ∧ z = Int32.ofNat j := by
        refine o_in (m := 35) ?_ ?_ (by omega)
        · rw [Int32.le_iff_toInt_le]; have a1 : (0 : Int32).toInt = 0 := rfl; omega
        · rw [Int32.le_iff_toInt_le]; have a1 : (Int32.ofNat 35).toInt = 35 := rfl; omega
      clear hz
      obtain rfl | rfl | rfl | rfl | rfl | rfl | rfl | rfl | rfl | rfl | rfl | rfl | rfl | rfl | rfl | rfl | rfl | rfl | rfl | rfl | rfl | rfl | rfl | rfl | rfl | rfl | rfl | rfl | rfl | rfl | rfl | rfl | rfl | rfl | rfl | rfl : j = 0 ∨ j = 1 ∨ j = 2 ∨ j = 3 ∨ j = 4 ∨ j = 5 ∨ j = 6 ∨ j = 7 ∨ j = 8 ∨ j = 9 ∨ j = 10 ∨ j = 11 ∨ j = 12 ∨ j = 13 ∨ j = 14 ∨ j = 15 ∨ j = 16 ∨ j = 17 ∨ j = 18 ∨ j = 19 ∨ j = 20 ∨ j = 21 ∨ j = 22 ∨ j = 23 ∨ j = 24 ∨ j = 25 ∨ j = 26 ∨ j = 27 ∨ j = 28 ∨ j = 29 ∨ j = 30 ∨ j = 31 ∨ j = 32 ∨ j = 33 ∨ j = 34 ∨ j = 35 := by omega
      · exact (u211_32_0 ..).mpr (lw_0 h0 hk hL hR hB2 e9 e1 ih2)
      · exact (u211_32_1 ..).mpr (lw_1 h1 hk hL hR hB2 e9 e1 ih2)
      · exact (u211_32_2 ..).mpr (lw_2 h2 hk hL hR hB2 e9 e1 ih2)
      · exact (u211_32_3 ..).mpr (lw_3 h3 hk hL hR hB2 e9 e1 ih2)
      · exact (u211_32_4 ..).mpr (lw_4 h4 hk hL hR hB2 e9 e1 ih2)
      · exact (u211_32_5 ..).mpr (lw_5 h5 hk hL hR hB2 e9 e1 ih2)
      · exact (u211_32_6 ..).mpr (lw_6 h6 hk hL hR hB2 e9 e1 ih2)
      · exact (u211_32_7 ..).mpr (lw_7 h7 hk hL hR hB2 e9 e1 ih2)
      · exact (u211_32_8 ..).mpr (lw_8 h8 hk hL hR hB2 e9 e1 ih2)
      · exact (u211_32_9 ..).mpr (lw_9 h9 hk hL hR hB2 e9 e1 ih2)
      · exact (u211_32_10 ..).mpr (lw_10 h10 hk hL hR hB2 e9 e1 ih2)
      · exact (u211_32_11 ..).mpr (lw_11 h11 hk hL hR hB2 e9 e1 ih2)
      · exact (u211_32_12 ..).mpr (lw_12 h12 hk hL hR hB2 e9 e1 ih2)
      · exact (u211_32_13 ..).mpr (lw_13 h13 hk hL hR hB2 e9 e1 ih2)
      · exact (u211_32_14 ..).mpr (lw_14 h14 hk hL hR hB2 e9 e1 ih2)
      · exact (u211_32_15 ..).mpr (lw_15 h15 hk hL hR hB2 e9 e1 ih2)
      · exact (u211_32_16 ..).mpr (lw_16 h16 hk hL hR hB2 e9 e1 ih2)
      · exact (u211_32_17 ..).mpr (lw_17 h17 hk hL hR hB2 e9 e1 ih2)
      · exact (u211_32_18 ..).mpr (lw_18 h18 hk hL hR hB2 e9 e1 ih2)
      · exact (u211_32_19 ..).mpr (lw_19 h19 hk hL hR hB2 e9 e1 ih2)
      · exact (u211_32_20 ..).mpr (lw_20 h20 hk hL hR hB2 e9 e1 ih2)
      · exact (u211_32_21 ..).mpr (lw_21 h21 hk hL hR hB2 e9 e1 ih2)
      · exact (u211_32_22 ..).mpr (lw_22 h22 hk hL hR hB2 e9 e1 ih2)
      · exact (u211_32_23 ..).mpr (lw_23 h23 hk hL hR hB2 e9 e1 ih2)
      · exact (u211_32_24 ..).mpr (lw_24 h24 hk hL hR hB2 e9 e1 ih2)
      · exact (u211_32_25 ..).mpr (lw_25 h25 hk hL hR hB2 e9 e1 ih2)
      · exact (u211_32_26 ..).mpr (lw_26 h26 hk hL hR hB2 e9 e1 ih2)
      · exact (u211_32_27 ..).mpr (lw_27 h27 hk hL hR hB2 e9 e1 ih2)
      · exact (u211_32_28 ..).mpr (lw_28 h28 hk hL hR hB2 e9 e1 ih2)
      · exact (u211_32_29 ..).mpr (lw_29 h29 hk hL hR hB2 e9 e1 ih2)
      · exact (u211_32_30 ..).mpr (lw_30 h30 hk hL hR hB2 e9 e1 ih2)
      · exact (u211_32_31 ..).mpr (lw_31 h31 hk hL hR hB2 e9 e1 ih2)
      · exact (u211_32_32 ..).mpr (lw_32 h32 hk hL hR hB2 e9 e1 ih2)
      · exact (u211_32_33 ..).mpr (lw_33 h33 hk hL hR hB2 e9 e1 ih2)
      · exact (u211_32_34 ..).mpr (lw_34 h34 hk hL hR hB2 e9 e1 ih2)
      · exact (u211_32_35 ..).mpr (lw_35 h35 hk hL hR hB2 e9 e1 ih2)
