/-! THE CLASS, 3: tables, past, years, valleys: what is kept and taken -/
theorem z0 : ¬ (0 : Int32) < 0 := by decide
theorem z8 : ¬ (8 : Int32) < 0 := by decide
theorem z18 : ¬ (18 : Int32) < 0 := by decide
theorem z64 : ¬ (64 : Int32) < 0 := by decide
section KEEP
variable {m pc : Nat} {ls st : Vs} {σ : Sto} {I : Nat → Nat → Int32} {J : Nat → Nat → Int64} {Q : Option Value → Sto → Prop}
theorem c29 (t : Nat) (ht : isT t) : Ca 29 [.ref t] (Sg I J) m pc ls st Q ↔ Rn m pc ls (.int (bi (¬ I t 1 < 6)) :: st) (Sg I J) Q := Ca_of (r := some (.int (bi (¬ I t 1 < 6)))) (fun Q h => by
  obtain ⟨f1, f2, f3, f4, f5, f6⟩ := isT_f ht
  simp only [u29_0, u29_1, u29_4, u29_6, u29_9, u29_10, u29_13, u29_14, f1, f5, true_and]
  unfold bi at h
  by_cases h1 : I t 1 < 6 <;> simp [h1] at h ⊢ <;> exact h)
theorem c30 (t : Nat) (ht : isT t) (k : Int32) : Ca 30 [.ref t, .int k] (Sg I J) m pc ls st Q ↔ Rn m pc ls (.int (bi (0 ≤ k ∧ k < I t 1)) :: st) (Sg I J) Q := Ca_of (r := some (.int (bi (0 ≤ k ∧ k < I t 1)))) (fun Q h => by
  obtain ⟨f1, f2, f3, f4, f5, f6⟩ := isT_f ht
  simp only [u30_0, u30_1, u30_4, u30_5, u30_6, u30_9, u30_12, u30_13, u30_16, u30_17, f1, f5, true_and]
  unfold bi at h
  simp only [← Int32.not_lt] at h ⊢
  by_cases h1 : k < 0 <;> by_cases h2 : k < I t 1 <;> simp [h1, h2] at h ⊢ <;> exact h)
theorem c31 (t : Nat) (ht : isT t) : Ca 31 [.ref t] (Sg I J) m pc ls st Q ↔ Rn m pc ls (.int (1 <<< (I t 1 &&& 31) - 1) :: st) (Sg I J) Q := Ca_of (r := some (.int (1 <<< (I t 1 &&& 31) - 1))) (fun Q h => by
  obtain ⟨f1, f2, f3, f4, f5, f6⟩ := isT_f ht
  simp only [u31_0, u31_1, u31_2, u31_5, u31_6, u31_7, u31_8, f1, f5, true_and]
  exact h)
theorem c32 (t : Nat) (ht : isT t) (n : Nat) (hn : n < 6) (en : I t 1 = Int32.ofNat n) (a b c : Int32) : Ca 32 [.ref t, .int a, .int b, .int c, .null] (Sg I J) m pc ls st Q ↔ Rn m pc ls (.int (Int32.ofNat n) :: st) (Sg (va_up (va_up I (t + 1) (upd (upd (upd (I (t + 1)) (n * 3) a) (n * 3 + 1) b) (n * 3 + 2) c)) t (upd (I t) 1 (Int32.ofNat (n + 1)))) J) Q := Ca_of (r := some (.int (Int32.ofNat n))) (fun Q h => by
  obtain ⟨f1, f2, f3, f4, f5, f6⟩ := isT_f ht
  have e0 : bi (¬ n < 6) = 0 := by
    rw [bi_0]
    omega
  simp (disch := first | assumption | omega | decide | exact la_87 | exact la_88 | exact la_90 | exact la_91 | exact la_92 | exact la_93 | exact la_94 | exact la_95 | exact la_96 | exact la_97 | exact la_98 | exact la_99 | exact la_10 | exact la_23 | exact la_77 | exact la_78) only [u32_0, u32_1, u32_4, u32_7, u32_8, u32_9, u32_10, u32_13, u32_14, u32_15, u32_17, u32_18, u32_21, u32_23, u32_24, u32_25, u32_26, u32_29, u32_31, u32_32, u32_33, u32_34, u32_35, u32_36, u32_39, u32_41, u32_42, u32_43, u32_44, u32_45, u32_46, u32_47, u32_50, u32_51, u32_52, u32_55, u32_56, u32_59, u32_60, u32_61, c29 t ht, e0, if_true, f1, f2, f3, f4, f5, f6, true_and, en, o_aa, o_al, o_la, o_mm, o_ml, o_lm, o_ss, o_sl, o_ls, o_tn, o_tl, o_lt, o_ltl, o_llt, o_le, o_lel, o_lle, o_eq, o_eql, o_leq, o_inb, o_inl, o_neg, show n * 3 < 18 by omega, show n * 3 + 1 < 18 by omega, show n * 3 + 2 < 18 by omega, wI_d, up_s, up_o, up_u, ud_s, ud_o, Nat.add_sub_cancel]
  exact h)
theorem c33 (t : Nat) (ht : isT t) : Ca 33 [.ref t, .null] (Sg I J) m pc ls st Q ↔ Rn m pc ls (.int (I t 1) :: st) (Sg (va_up I t (upd (I t) 1 0)) J) Q := Ca_of (r := some (.int (I t 1))) (fun Q h => by
  obtain ⟨f1, f2, f3, f4, f5, f6⟩ := isT_f ht
  simp only [u33_0, u33_1, u33_4, u33_5, u33_6, u33_7, u33_10, u33_11, f1, f5, true_and, wI_d]
  exact h)
theorem c36 (t : Nat) (ht : isT t) (r c x : Int32) : Ca 36 [.ref t, .int r, .int c, .int x] (Sg I J) m pc ls st Q ↔ inb (r * 3 + c) 18 ∧ Rn m pc ls st (Sg (va_up I (t + 1) (upd (I (t + 1)) (r * 3 + c).toNatClampNeg x)) J) Q := by
  obtain ⟨f1, f2, f3, f4, f5, f6⟩ := isT_f ht
  unfold Ca
  simp only [u36_0, u36_1, u36_4, u36_5, u36_6, u36_7, u36_8, u36_9, u36_10, u36_11, f1, f2, f3, f4, f5, f6, true_and, wI_d]
  rfl
theorem ne_TA {t u : Nat} (ht : isT t) (hu : isT u) : ¬ u = t + 1 := by
  rintro rfl
  have h1 := hu.2.1
  have h2 := ht.2.2.2
  rw [h2] at h1
  exact absurd h1 (by decide)
theorem c34 (t u : Nat) (ht : isT t) (hu : isT u) : Ca 34 [.ref t, .ref u] (Sg I J) m pc ls st Q ↔ Rn m pc ls st (Sg (va_up (va_up I (t + 1) (va_cpy (I (u + 1)) (I (t + 1)) 0 0 18)) t (upd (I t) 1 (I u 1))) J) Q := Ca_of (r := none) (fun Q h => by
  obtain ⟨f1, f2, f3, f4, f5, f6⟩ := isT_f ht
  obtain ⟨g1, g2, g3, g4, g5, g6⟩ := isT_f hu
  have hne := ne_TA ht hu
  simp (disch := first | assumption | omega | decide | exact la_87 | exact la_88 | exact la_90 | exact la_91 | exact la_92 | exact la_93 | exact la_94 | exact la_95 | exact la_96 | exact la_97 | exact la_98 | exact la_99 | exact la_10 | exact la_23 | exact la_77 | exact la_78) only [u34_0, u34_1, u34_4, u34_5, u34_6, u34_9, u34_10, u34_12, u34_15, u34_16, u34_17, u34_20, u34_23, f1, f2, f3, f4, f5, f6, g1, g2, g3, g4, g5, g6, true_and, and_self, z0, z18, not_false_eq_true, o_tl, Nat.zero_add, Nat.le_refl, wI_d, up_s, up_o]
  exact h)
theorem ne_YA {t u : Nat} (ht : isY t) (hu : isY u) : ¬ u = t + 1 := by
  rintro rfl
  have h1 := hu.2.1
  have h2 := ht.2.2.2
  rw [h2] at h1
  exact absurd h1 (by decide)
theorem c54 (y u : Nat) (hy : isY y) (hu : isY u) (hyu : ¬ u = y) : Ca 54 [.ref y, .ref u] (Sg I J) m pc ls st Q ↔ Rn m pc ls st (Sg (va_up (va_up I (y + 1) (va_cpy (I (u + 1)) (I (y + 1)) 0 0 8)) y (upd (upd (I y) 1 (I u 1)) 2 (I u 2))) J) Q := Ca_of (r := none) (fun Q h => by
  obtain ⟨f1, f2, f3, f4, f5, f6⟩ := isY_f hy
  obtain ⟨g1, g2, g3, g4, g5, g6⟩ := isY_f hu
  have hne := ne_YA hy hu
  simp (disch := first | assumption | omega | decide | exact la_87 | exact la_88 | exact la_90 | exact la_91 | exact la_92 | exact la_93 | exact la_94 | exact la_95 | exact la_96 | exact la_97 | exact la_98 | exact la_99 | exact la_10 | exact la_23 | exact la_77 | exact la_78) only [u54_0, u54_1, u54_4, u54_5, u54_6, u54_9, u54_10, u54_12, u54_15, u54_16, u54_17, u54_20, u54_23, u54_24, u54_25, u54_28, u54_31, f1, f2, f3, f4, f5, f6, g1, g2, g3, g4, g5, g6, true_and, and_self, z0, z8, not_false_eq_true, o_tl, Nat.zero_add, Nat.le_refl, wI_d, up_s, up_o, up_u]
  exact h)
/-- a row filled with x below k -/
def fil (W : Nat → Int32) (x : Int32) (k : Nat) : Nat → Int32 := fun j => if j < k then x else W j
theorem fil_0 (W : Nat → Int32) (x : Int32) : fil W x 0 = W := by
  funext j
  simp [fil]
theorem fil_s (W : Nat → Int32) (x : Int32) (k : Nat) : upd (fil W x k) k x = fil W x (k + 1) := by
  funext j
  show (if j = k then x else if j < k then x else W j) = if j < k + 1 then x else W j
  by_cases h : j = k
  · subst h; simp
  · by_cases h2 : j < k
    · rw [if_neg h, if_pos h2, if_pos (by omega)]
    · rw [if_neg h, if_neg h2, if_neg (by omega)]
theorem c209 (y : Nat) (hy : isY y) (x : Int32) : Ca 209 [.ref (y + 1), .int x, .null, .null] (Sg I J) m pc ls st Q ↔ Rn m pc ls st (Sg (va_up I (y + 1) (fil (I (y + 1)) x 8)) J) Q := Ca_of (r := none) (fun Q h => by
  obtain ⟨f1, f2, f3, f4, f5, f6⟩ := isY_f hy
  simp (disch := first | assumption | omega | decide | exact la_87 | exact la_88 | exact la_90 | exact la_91 | exact la_92 | exact la_93 | exact la_94 | exact la_95 | exact la_96 | exact la_97 | exact la_98 | exact la_99 | exact la_10 | exact la_23 | exact la_77 | exact la_78) only [u209_0, u209_1, u209_2, u209_3, u209_4, f2, f3, f6, true_and]
  refine Rn_fr (n := 8) (X := Unit) (fun k _ => [.ref (y + 1), .int x, .int (Int32.ofNat k), .int 8]) (fun k _ => Sg (va_up I (y + 1) (fil (I (y + 1)) x k)) J) () rfl (by rw [fil_0, up_i]) ?_ ?_
  · intro k hk _ ih
    have hnk : ¬ 8 ≤ k := by omega
    have ih := ih ()
    simp (disch := first | assumption | omega | decide | exact la_87 | exact la_88 | exact la_90 | exact la_91 | exact la_92 | exact la_93 | exact la_94 | exact la_95 | exact la_96 | exact la_97 | exact la_98 | exact la_99 | exact la_10 | exact la_23 | exact la_77 | exact la_78) only [u209_5, u209_6, u209_7, u209_10, u209_11, u209_12, u209_13, u209_14, u209_20, f2, f3, f6, hk, hnk, if_false, true_and, wI_d, up_s, up_u, fil_s, o_aa, o_al, o_la, o_mm, o_ml, o_lm, o_ss, o_sl, o_ls, o_tn, o_tl, o_lt, o_ltl, o_llt, o_le, o_lel, o_lle, o_eq, o_eql, o_leq, o_inb, o_inl, o_neg]
    exact (u209_17 ..).mpr ih
  · intro _
    simp (disch := first | assumption | omega | decide | exact la_87 | exact la_88 | exact la_90 | exact la_91 | exact la_92 | exact la_93 | exact la_94 | exact la_95 | exact la_96 | exact la_97 | exact la_98 | exact la_99 | exact la_10 | exact la_23 | exact la_77 | exact la_78) only [u209_5, u209_6, u209_7, u209_10, u209_11, u209_12, u209_13, u209_14, u209_20, o_aa, o_al, o_la, o_mm, o_ml, o_lm, o_ss, o_sl, o_ls, o_tn, o_tl, o_lt, o_ltl, o_llt, o_le, o_lel, o_lle, o_eq, o_eql, o_leq, o_inb, o_inl, o_neg, Nat.le_refl, if_true]
    exact h)
theorem c53 (y : Nat) (hy : isY y) : Ca 53 [.ref y] (Sg I J) m pc ls st Q ↔ Rn m pc ls st (Sg (va_up (va_up I (y + 1) (fil (I (y + 1)) 7 8)) y (upd (upd (I y) 1 0) 2 0)) J) Q := Ca_of (r := none) (fun Q h => by
  obtain ⟨f1, f2, f3, f4, f5, f6⟩ := isY_f hy
  simp (disch := first | assumption | omega | decide | exact la_87 | exact la_88 | exact la_90 | exact la_91 | exact la_92 | exact la_93 | exact la_94 | exact la_95 | exact la_96 | exact la_97 | exact la_98 | exact la_99 | exact la_10 | exact la_23 | exact la_77 | exact la_78) only [u53_0, u53_1, u53_4, u53_6, u53_9, u53_10, u53_11, u53_14, u53_15, u53_16, u53_19, c209 y hy, f1, f4, f5, true_and, wI_d, up_s, up_u, up_o]
  exact h)
theorem isP_f {p : Nat} (h : isP p) : kA p 4 ∧ kA (p + 1) 20 ∧ kA (p + 2) 20 ∧ kA (p + 3) 20 ∧ (tg (p + 1)).2 = 64 ∧ (tg (p + 2)).2 = 8 ∧ (tg (p + 3)).2 = 8 ∧ rf p 0 = p + 1 ∧ rf p 1 = p + 2 ∧ rf p 2 = p + 3 ∧ kL p ∧ kL (p + 1) ∧ kL (p + 2) ∧ kL (p + 3) := by
  obtain ⟨h0, h1, r0, r1, r2, a1, a2, a3⟩ := h
  exact ⟨⟨by omega, h1⟩, ⟨by omega, by rw [a1]⟩, ⟨by omega, by rw [a2]⟩, ⟨by omega, by rw [a3]⟩, by rw [a1], by rw [a2], by rw [a3], r0, r1, r2, Or.inl (by omega), Or.inl (by omega), Or.inl (by omega), Or.inl (by omega)⟩
theorem c9 (p : Nat) (hp : isP p) : Ca 9 [.ref p] (Sg I J) m pc ls st Q ↔ Rn m pc ls st (Sg (va_up I p (upd (I p) 4 0)) J) Q := Ca_of (r := none) (fun Q h => by
  obtain ⟨f1, f2, f3, f4, f5, f6, f7, f8, f9, f10, f11, -⟩ := isP_f hp
  simp only [u9_0, u9_1, u9_2, u9_5, f1, f11, true_and, wI_d]
  exact h)
theorem c42 (v : Nat) (hv : isV v) : Ca 42 [.ref v] (Sg I J) m pc ls st Q ↔ Rn m pc ls st (Sg (va_up (va_up (va_up (va_up (va_up (va_up I (v + 2) (fil (I (v + 2)) 7 8)) (v + 1) (upd (upd (I (v + 1)) 1 0) 2 0)) (v + 3) (upd (I (v + 3)) 1 0)) (v + 5) (upd (I (v + 5)) 1 0)) (v + 7) (upd (I (v + 7)) 1 0)) (v + 9) (upd (I (v + 9)) 4 0)) J) Q := Ca_of (r := none) (fun Q h => by
  obtain ⟨f1, f2, hy, ht1, ht2, ht3, hp, ⟨y1, y2, y3, y4, y5, y6⟩, ⟨t1, t2, t3, t4, t5, t6⟩, ⟨w1, w2, w3, w4, w5, w6⟩, ⟨m1, m2, m3, m4, m5, m6⟩, r0, r1, r2, r3, r4, r5⟩ := isV_f hv
  have p1 := (isP_f hp).1
  simp (disch := first | assumption | omega | decide | exact la_87 | exact la_88 | exact la_90 | exact la_91 | exact la_92 | exact la_93 | exact la_94 | exact la_95 | exact la_96 | exact la_97 | exact la_98 | exact la_99 | exact la_10 | exact la_23 | exact la_77 | exact la_78) only [u42_0, u42_1, u42_4, u42_7, u42_8, u42_11, u42_14, u42_15, u42_16, u42_19, u42_22, u42_23, u42_24, u42_27, u42_30, u42_31, u42_32, u42_35, u42_38, c53 _ hy, c33 _ ht1, c33 _ ht2, c33 _ ht3, c9 _ hp, f1, f2, r1, r2, r3, r4, r5, y1, t1, w1, m1, p1, true_and, up_o]
  exact h)
abbrev tk_21_8 (I : Nat → Nat → Int32) : Nat → Nat → Int32 := va_up (va_up (va_up (va_up (va_up (va_up (va_up (va_up I 23 (va_cpy (I 10) (I 23) 0 0 8)) 22 (upd (upd (I 22) 1 (I 9 1)) 2 (I 9 2))) 25 (va_cpy (I 12) (I 25) 0 0 18)) 24 (upd (I 24) 1 (I 11 1))) 27 (va_cpy (I 14) (I 27) 0 0 18)) 26 (upd (I 26) 1 (I 13 1))) 29 (va_cpy (I 16) (I 29) 0 0 18)) 28 (upd (I 28) 1 (I 15 1))
theorem c43_21_8 : Ca 43 [.ref 21, .ref 8] (Sg I J) m pc ls st Q ↔ Rn m pc ls st (Sg (tk_21_8 I) J) Q := Ca_of (r := none) (fun Q h => by
  simp (disch := decide) only [u43_0, u43_1, u43_4, u43_5, u43_8, u43_11, u43_12, u43_15, u43_16, u43_19, u43_22, u43_23, u43_26, u43_27, u43_30, u43_33, u43_34, u43_37, u43_38, u43_41, u43_44, c54 22 9 lisY_22 lisY_9 (by decide), c34 24 11 lisT_24 lisT_11, c34 26 13 lisT_26 lisT_13, c34 28 15 lisT_28 lisT_15, la_21, la_8, la_22, la_24, la_26, la_28, lr_21_1, lr_21_2, lr_21_3, lr_21_4, lr_8_1, lr_8_2, lr_8_3, lr_8_4, kLt, true_and, up_o, Nat.reduceAdd]
  exact h)
abbrev tk_35_8 (I : Nat → Nat → Int32) : Nat → Nat → Int32 := va_up (va_up (va_up (va_up (va_up (va_up (va_up (va_up I 37 (va_cpy (I 10) (I 37) 0 0 8)) 36 (upd (upd (I 36) 1 (I 9 1)) 2 (I 9 2))) 39 (va_cpy (I 12) (I 39) 0 0 18)) 38 (upd (I 38) 1 (I 11 1))) 41 (va_cpy (I 14) (I 41) 0 0 18)) 40 (upd (I 40) 1 (I 13 1))) 43 (va_cpy (I 16) (I 43) 0 0 18)) 42 (upd (I 42) 1 (I 15 1))
theorem c43_35_8 : Ca 43 [.ref 35, .ref 8] (Sg I J) m pc ls st Q ↔ Rn m pc ls st (Sg (tk_35_8 I) J) Q := Ca_of (r := none) (fun Q h => by
  simp (disch := decide) only [u43_0, u43_1, u43_4, u43_5, u43_8, u43_11, u43_12, u43_15, u43_16, u43_19, u43_22, u43_23, u43_26, u43_27, u43_30, u43_33, u43_34, u43_37, u43_38, u43_41, u43_44, c54 36 9 lisY_36 lisY_9 (by decide), c34 38 11 lisT_38 lisT_11, c34 40 13 lisT_40 lisT_13, c34 42 15 lisT_42 lisT_15, la_35, la_8, la_36, la_38, la_40, la_42, lr_35_1, lr_35_2, lr_35_3, lr_35_4, lr_8_1, lr_8_2, lr_8_3, lr_8_4, kLt, true_and, up_o, Nat.reduceAdd]
  exact h)
abbrev tk_48_8 (I : Nat → Nat → Int32) : Nat → Nat → Int32 := va_up (va_up (va_up (va_up (va_up (va_up (va_up (va_up I 50 (va_cpy (I 10) (I 50) 0 0 8)) 49 (upd (upd (I 49) 1 (I 9 1)) 2 (I 9 2))) 52 (va_cpy (I 12) (I 52) 0 0 18)) 51 (upd (I 51) 1 (I 11 1))) 54 (va_cpy (I 14) (I 54) 0 0 18)) 53 (upd (I 53) 1 (I 13 1))) 56 (va_cpy (I 16) (I 56) 0 0 18)) 55 (upd (I 55) 1 (I 15 1))
theorem c43_48_8 : Ca 43 [.ref 48, .ref 8] (Sg I J) m pc ls st Q ↔ Rn m pc ls st (Sg (tk_48_8 I) J) Q := Ca_of (r := none) (fun Q h => by
  simp (disch := decide) only [u43_0, u43_1, u43_4, u43_5, u43_8, u43_11, u43_12, u43_15, u43_16, u43_19, u43_22, u43_23, u43_26, u43_27, u43_30, u43_33, u43_34, u43_37, u43_38, u43_41, u43_44, c54 49 9 lisY_49 lisY_9 (by decide), c34 51 11 lisT_51 lisT_11, c34 53 13 lisT_53 lisT_13, c34 55 15 lisT_55 lisT_15, la_48, la_8, la_49, la_51, la_53, la_55, lr_48_1, lr_48_2, lr_48_3, lr_48_4, lr_8_1, lr_8_2, lr_8_3, lr_8_4, kLt, true_and, up_o, Nat.reduceAdd]
  exact h)
abbrev tk_8_35 (I : Nat → Nat → Int32) : Nat → Nat → Int32 := va_up (va_up (va_up (va_up (va_up (va_up (va_up (va_up I 10 (va_cpy (I 37) (I 10) 0 0 8)) 9 (upd (upd (I 9) 1 (I 36 1)) 2 (I 36 2))) 12 (va_cpy (I 39) (I 12) 0 0 18)) 11 (upd (I 11) 1 (I 38 1))) 14 (va_cpy (I 41) (I 14) 0 0 18)) 13 (upd (I 13) 1 (I 40 1))) 16 (va_cpy (I 43) (I 16) 0 0 18)) 15 (upd (I 15) 1 (I 42 1))
theorem c43_8_35 : Ca 43 [.ref 8, .ref 35] (Sg I J) m pc ls st Q ↔ Rn m pc ls st (Sg (tk_8_35 I) J) Q := Ca_of (r := none) (fun Q h => by
  simp (disch := decide) only [u43_0, u43_1, u43_4, u43_5, u43_8, u43_11, u43_12, u43_15, u43_16, u43_19, u43_22, u43_23, u43_26, u43_27, u43_30, u43_33, u43_34, u43_37, u43_38, u43_41, u43_44, c54 9 36 lisY_9 lisY_36 (by decide), c34 11 38 lisT_11 lisT_38, c34 13 40 lisT_13 lisT_40, c34 15 42 lisT_15 lisT_42, la_8, la_35, la_9, la_11, la_13, la_15, lr_8_1, lr_8_2, lr_8_3, lr_8_4, lr_35_1, lr_35_2, lr_35_3, lr_35_4, kLt, true_and, up_o, Nat.reduceAdd]
  exact h)
abbrev tk_8_48 (I : Nat → Nat → Int32) : Nat → Nat → Int32 := va_up (va_up (va_up (va_up (va_up (va_up (va_up (va_up I 10 (va_cpy (I 50) (I 10) 0 0 8)) 9 (upd (upd (I 9) 1 (I 49 1)) 2 (I 49 2))) 12 (va_cpy (I 52) (I 12) 0 0 18)) 11 (upd (I 11) 1 (I 51 1))) 14 (va_cpy (I 54) (I 14) 0 0 18)) 13 (upd (I 13) 1 (I 53 1))) 16 (va_cpy (I 56) (I 16) 0 0 18)) 15 (upd (I 15) 1 (I 55 1))
theorem c43_8_48 : Ca 43 [.ref 8, .ref 48] (Sg I J) m pc ls st Q ↔ Rn m pc ls st (Sg (tk_8_48 I) J) Q := Ca_of (r := none) (fun Q h => by
  simp (disch := decide) only [u43_0, u43_1, u43_4, u43_5, u43_8, u43_11, u43_12, u43_15, u43_16, u43_19, u43_22, u43_23, u43_26, u43_27, u43_30, u43_33, u43_34, u43_37, u43_38, u43_41, u43_44, c54 9 49 lisY_9 lisY_49 (by decide), c34 11 51 lisT_11 lisT_51, c34 13 53 lisT_13 lisT_53, c34 15 55 lisT_15 lisT_55, la_8, la_48, la_9, la_11, la_13, la_15, lr_8_1, lr_8_2, lr_8_3, lr_8_4, lr_48_1, lr_48_2, lr_48_3, lr_48_4, kLt, true_and, up_o, Nat.reduceAdd]
  exact h)
abbrev tk_8_63 (I : Nat → Nat → Int32) : Nat → Nat → Int32 := va_up (va_up (va_up (va_up (va_up (va_up (va_up (va_up I 10 (va_cpy (I 65) (I 10) 0 0 8)) 9 (upd (upd (I 9) 1 (I 64 1)) 2 (I 64 2))) 12 (va_cpy (I 67) (I 12) 0 0 18)) 11 (upd (I 11) 1 (I 66 1))) 14 (va_cpy (I 69) (I 14) 0 0 18)) 13 (upd (I 13) 1 (I 68 1))) 16 (va_cpy (I 71) (I 16) 0 0 18)) 15 (upd (I 15) 1 (I 70 1))
theorem c43_8_63 : Ca 43 [.ref 8, .ref 63] (Sg I J) m pc ls st Q ↔ Rn m pc ls st (Sg (tk_8_63 I) J) Q := Ca_of (r := none) (fun Q h => by
  simp (disch := decide) only [u43_0, u43_1, u43_4, u43_5, u43_8, u43_11, u43_12, u43_15, u43_16, u43_19, u43_22, u43_23, u43_26, u43_27, u43_30, u43_33, u43_34, u43_37, u43_38, u43_41, u43_44, c54 9 64 lisY_9 lisY_64 (by decide), c34 11 66 lisT_11 lisT_66, c34 13 68 lisT_13 lisT_68, c34 15 70 lisT_15 lisT_70, la_8, la_63, la_9, la_11, la_13, la_15, lr_8_1, lr_8_2, lr_8_3, lr_8_4, lr_63_1, lr_63_2, lr_63_3, lr_63_4, kLt, true_and, up_o, Nat.reduceAdd]
  exact h)
end KEEP
