/-! REFUSALS, ranges -/
section REF
variable {m pc : Nat} {ls st : Vs} {σ : Sto} {I : Nat → Nat → Int32} {J : Nat → Nat → Int64} {Q : Option Value → Sto → Prop}
theorem c100 (x lo hi : Int32) : Ca 100 [.int x, .int lo, .int hi] σ m pc ls st Q ↔ Rn m pc ls (.int (bi (lo ≤ x ∧ x ≤ hi)) :: st) σ Q := Ca_of (r := some (.int (bi (lo ≤ x ∧ x ≤ hi)))) (fun Q h => by
  simp only [u100_0, u100_1, u100_2, u100_5, u100_6, u100_7, u100_10, u100_11, u100_14, u100_15]
  unfold bi at h
  simp only [← Int32.not_lt] at h ⊢
  by_cases h1 : x < lo <;> by_cases h2 : hi < x <;> simp [h1, h2] at h ⊢ <;> exact h)
theorem c101 (x : Int32) : Ca 101 [.int x] (Sg I J) m pc ls st Q ↔ Rn m pc ls (.int (bi (0 ≤ x ∧ x ≤ 7)) :: st) (Sg I J) Q := Ca_of (r := some (.int (bi (0 ≤ x ∧ x ≤ 7)))) (fun Q h => by
  simp only [u101_0, u101_1, u101_2, u101_4, u101_7, c100, bi_1, true_and]
  exact h)
abbrev bdI (I : Nat → Nat → Int32) : Nat → Nat → Int32 := va_up I 0 (upd (I 0) 9 (I 0 9 + 1))
abbrev noI (I : Nat → Nat → Int32) : Nat → Nat → Int32 := va_up I 0 (upd (I 0) 10 (I 0 10 + 1))
abbrev fuI (I : Nat → Nat → Int32) : Nat → Nat → Int32 := va_up I 0 (upd (I 0) 11 (I 0 11 + 1))
abbrev bdM (I : Nat → Nat → Int32) : Nat → Nat → Int32 := va_up I 90 (upd (I 90) 0 (I 90 0 + 1))
abbrev noM (I : Nat → Nat → Int32) : Nat → Nat → Int32 := va_up I 90 (upd (I 90) 1 (I 90 1 + 1))
abbrev fuM (I : Nat → Nat → Int32) : Nat → Nat → Int32 := va_up I 90 (upd (I 90) 2 (I 90 2 + 1))
theorem c103b : Ca 103 [.ref 0, .int (-2)] (Sg I J) m pc ls st Q ↔ Rn m pc ls (.int (-2) :: st) (Sg (bdI I) J) Q := Ca_of (r := some (.int (-2))) (fun Q h => by
  simp (disch := decide) only [u103_0, u103_1, u103_3, u103_6, u103_7, u103_8, u103_11, u103_12, u103_13, u103_16, u103_19, u103_20, u103_22, u103_25, u103_26, u103_27, u103_30, u103_31, u103_32, u103_35, u103_38, u103_39, u103_40, u103_43, u103_44, u103_45, u103_48, u103_49, la_0, kLt, true_and, show ¬ ¬ (-2 : Int32) = -2 by decide, if_false, wI_d]
  exact h)
theorem c103n : Ca 103 [.ref 0, .int (-3)] (Sg I J) m pc ls st Q ↔ Rn m pc ls (.int (-3) :: st) (Sg (noI I) J) Q := Ca_of (r := some (.int (-3))) (fun Q h => by
  simp (disch := decide) only [u103_0, u103_1, u103_3, u103_6, u103_7, u103_8, u103_11, u103_12, u103_13, u103_16, u103_19, u103_20, u103_22, u103_25, u103_26, u103_27, u103_30, u103_31, u103_32, u103_35, u103_38, u103_39, u103_40, u103_43, u103_44, u103_45, u103_48, u103_49, la_0, kLt, true_and, show (¬ (-3 : Int32) = -2) = True by decide, show (¬ (-3 : Int32) = -3) = False by decide, if_true, if_false, wI_d]
  exact h)
theorem c103f : Ca 103 [.ref 0, .int (-4)] (Sg I J) m pc ls st Q ↔ Rn m pc ls (.int (-4) :: st) (Sg (fuI I) J) Q := Ca_of (r := some (.int (-4))) (fun Q h => by
  simp (disch := decide) only [u103_0, u103_1, u103_3, u103_6, u103_7, u103_8, u103_11, u103_12, u103_13, u103_16, u103_19, u103_20, u103_22, u103_25, u103_26, u103_27, u103_30, u103_31, u103_32, u103_35, u103_38, u103_39, u103_40, u103_43, u103_44, u103_45, u103_48, u103_49, la_0, kLt, true_and, show (¬ (-4 : Int32) = -2) = True by decide, show (¬ (-4 : Int32) = -3) = True by decide, if_true, if_false, wI_d]
  exact h)
theorem c114 (t : Int32) : Ca 114 [.ref 86, .int t] (Sg I J) m pc ls st Q ↔ Rn m pc ls (.int t :: st) (Sg (bdM I) J) Q := Ca_of (r := some (.int t)) (fun Q h => by
  simp (disch := first | assumption | omega | decide | exact la_87 | exact la_88 | exact la_90 | exact la_91 | exact la_92 | exact la_93 | exact la_94 | exact la_95 | exact la_96 | exact la_97 | exact la_98 | exact la_99 | exact la_10 | exact la_23 | exact la_77 | exact la_78) only [u114_0, u114_1, u114_4, u114_5, u114_6, u114_7, u114_8, u114_9, u114_10, u114_11, la_86, la_90, lt_90, lr_86_3, kLt, true_and, o_aa, o_al, o_la, o_mm, o_ml, o_lm, o_ss, o_sl, o_ls, o_tn, o_tl, o_lt, o_ltl, o_llt, o_le, o_lel, o_lle, o_eq, o_eql, o_leq, o_inb, o_inl, o_neg, Nat.reduceLT, wI_d]
  exact h)
theorem c115 : Ca 115 [.ref 86] (Sg I J) m pc ls st Q ↔ Rn m pc ls (.int (-3) :: st) (Sg (noM I) J) Q := Ca_of (r := some (.int (-3))) (fun Q h => by
  simp (disch := first | assumption | omega | decide | exact la_87 | exact la_88 | exact la_90 | exact la_91 | exact la_92 | exact la_93 | exact la_94 | exact la_95 | exact la_96 | exact la_97 | exact la_98 | exact la_99 | exact la_10 | exact la_23 | exact la_77 | exact la_78) only [u115_0, u115_1, u115_4, u115_5, u115_6, u115_7, u115_8, u115_9, u115_10, u115_12, la_86, la_90, lt_90, lr_86_3, kLt, true_and, o_aa, o_al, o_la, o_mm, o_ml, o_lm, o_ss, o_sl, o_ls, o_tn, o_tl, o_lt, o_ltl, o_llt, o_le, o_lel, o_lle, o_eq, o_eql, o_leq, o_inb, o_inl, o_neg, Nat.reduceLT, wI_d]
  exact h)
theorem c116 : Ca 116 [.ref 86] (Sg I J) m pc ls st Q ↔ Rn m pc ls (.int (-4) :: st) (Sg (fuM I) J) Q := Ca_of (r := some (.int (-4))) (fun Q h => by
  simp (disch := first | assumption | omega | decide | exact la_87 | exact la_88 | exact la_90 | exact la_91 | exact la_92 | exact la_93 | exact la_94 | exact la_95 | exact la_96 | exact la_97 | exact la_98 | exact la_99 | exact la_10 | exact la_23 | exact la_77 | exact la_78) only [u116_0, u116_1, u116_4, u116_5, u116_6, u116_7, u116_8, u116_9, u116_10, u116_12, la_86, la_90, lt_90, lr_86_3, kLt, true_and, o_aa, o_al, o_la, o_mm, o_ml, o_lm, o_ss, o_sl, o_ls, o_tn, o_tl, o_lt, o_ltl, o_llt, o_le, o_lel, o_lle, o_eq, o_eql, o_leq, o_inb, o_inl, o_neg, Nat.reduceLT, wI_d]
  exact h)
theorem Rel_090 {I' : Nat → Nat → Int32} {B : Nat} (h : Rel I J B) (h1 : ∀ a, ¬ a = 0 → ¬ a = 90 → I' a = I a) (h2 : I' 0 9 = I' 90 0 ∧ I' 0 10 = I' 90 1 ∧ I' 0 11 = I' 90 2) : Rel I' J (B + 60) := by
  obtain ⟨a, b, c, ⟨z, hz, d1, d2, d3⟩, e, f1, f2, f3⟩ := h
  refine ⟨VR_le (VR_eq a (fun q _ _ => h1 q (by omega) (by omega)) (fun k _ => by rw [h1 87 (by omega) (by omega)])) (by omega), KR_le (KR_eq (by omega) b (fun q _ _ => h1 q (by omega) (by omega)) (h1 88 (by omega) (by omega)) (h1 89 (by omega) (by omega))) (by omega), KR_le (KR_eq (by omega) c (fun q _ _ => h1 q (by omega) (by omega)) (h1 88 (by omega) (by omega)) (h1 89 (by omega) (by omega))) (by omega), ⟨z, hz, ?_, ?_, ?_⟩, e, h2.1, h2.2.1, h2.2.2⟩
  · rw [h1 62 (by omega) (by omega)]; exact d1
  · rw [h1 86 (by omega) (by omega)]; exact d2
  · rw [h1 76 (by omega) (by omega), h1 97 (by omega) (by omega)]; exact d3
theorem Rel_bad {B : Nat} (h : Rel I J B) : Rel (bdM (bdI I)) J (B + 60) := Rel_090 h (fun a h1 h2 => (up_o _ _ h2).trans (up_o _ _ h1)) (by
  have := h.2.2.2.2.2
  simp (disch := decide) only [bdM, bdI, noM, noI, fuM, fuI, up_s, up_o, ud_s, ud_o, this, and_self])
theorem Rel_no {B : Nat} (h : Rel I J B) : Rel (noM (noI I)) J (B + 60) := Rel_090 h (fun a h1 h2 => (up_o _ _ h2).trans (up_o _ _ h1)) (by
  have := h.2.2.2.2.2
  simp (disch := decide) only [bdM, bdI, noM, noI, fuM, fuI, up_s, up_o, ud_s, ud_o, this, and_self])
theorem Rel_full {B : Nat} (h : Rel I J B) : Rel (fuM (fuI I)) J (B + 60) := Rel_090 h (fun a h1 h2 => (up_o _ _ h2).trans (up_o _ _ h1)) (by
  have := h.2.2.2.2.2
  simp (disch := decide) only [bdM, bdI, noM, noI, fuM, fuI, up_s, up_o, ud_s, ud_o, this, and_self])
theorem fin_bad' {B : Nat} (h : Rel I J B) : ∃ I2 J2, Sg (bdM (bdI I)) J = Sg I2 J2 ∧ I2 999 = I 999 ∧ I2 1000 = I 1000 ∧ Rel I2 J2 (B + 60) := ⟨_, _, rfl, (up_o _ _ (by decide)).trans (up_o _ _ (by decide)), (up_o _ _ (by decide)).trans (up_o _ _ (by decide)), Rel_bad h⟩
theorem fin_bad {B : Nat} {x : Int32} (h : Rel I J B) : ∃ I2 J2, some (Value.int x) = some (.int x) ∧ Sg (bdM (bdI I)) J = Sg I2 J2 ∧ I2 999 = I 999 ∧ I2 1000 = I 1000 ∧ Rel I2 J2 (B + 60) := ⟨_, _, rfl, rfl, (up_o _ _ (by decide)).trans (up_o _ _ (by decide)), (up_o _ _ (by decide)).trans (up_o _ _ (by decide)), Rel_bad h⟩
theorem fin_no' {B : Nat} (h : Rel I J B) : ∃ I2 J2, Sg (noM (noI I)) J = Sg I2 J2 ∧ I2 999 = I 999 ∧ I2 1000 = I 1000 ∧ Rel I2 J2 (B + 60) := ⟨_, _, rfl, (up_o _ _ (by decide)).trans (up_o _ _ (by decide)), (up_o _ _ (by decide)).trans (up_o _ _ (by decide)), Rel_no h⟩
theorem fin_no {B : Nat} {x : Int32} (h : Rel I J B) : ∃ I2 J2, some (Value.int x) = some (.int x) ∧ Sg (noM (noI I)) J = Sg I2 J2 ∧ I2 999 = I 999 ∧ I2 1000 = I 1000 ∧ Rel I2 J2 (B + 60) := ⟨_, _, rfl, rfl, (up_o _ _ (by decide)).trans (up_o _ _ (by decide)), (up_o _ _ (by decide)).trans (up_o _ _ (by decide)), Rel_no h⟩
theorem fin_full' {B : Nat} (h : Rel I J B) : ∃ I2 J2, Sg (fuM (fuI I)) J = Sg I2 J2 ∧ I2 999 = I 999 ∧ I2 1000 = I 1000 ∧ Rel I2 J2 (B + 60) := ⟨_, _, rfl, (up_o _ _ (by decide)).trans (up_o _ _ (by decide)), (up_o _ _ (by decide)).trans (up_o _ _ (by decide)), Rel_full h⟩
theorem fin_full {B : Nat} {x : Int32} (h : Rel I J B) : ∃ I2 J2, some (Value.int x) = some (.int x) ∧ Sg (fuM (fuI I)) J = Sg I2 J2 ∧ I2 999 = I 999 ∧ I2 1000 = I 1000 ∧ Rel I2 J2 (B + 60) := ⟨_, _, rfl, rfl, (up_o _ _ (by decide)).trans (up_o _ _ (by decide)), (up_o _ _ (by decide)).trans (up_o _ _ (by decide)), Rel_full h⟩
theorem fin_same {B : Nat} {x y : Int32} (h : Rel I J B) (hx : y = x) : ∃ I2 J2, some (Value.int y) = some (.int x) ∧ Sg I J = Sg I2 J2 ∧ I2 999 = I 999 ∧ I2 1000 = I 1000 ∧ Rel I2 J2 (B + 60) := ⟨I, J, by rw [hx], rfl, rfl, rfl, Rel_le h (by omega)⟩
end REF
theorem out_of {x : Int32} {n : Nat} (hn : n < 2147483648) (h : ¬ (0 ≤ x ∧ x ≤ Int32.ofNat n)) : x.toInt < 0 ∨ (n : Int) < x.toInt := by
  rw [Int32.le_iff_toInt_le, Int32.le_iff_toInt_le, Int32.toInt_ofNat_of_lt hn] at h
  have a1 : (0 : Int32).toInt = 0 := rfl
  omega
/-! the calls: first ones -/
theorem op33 (a : Int32) : OpI 97 [.ref 0, .int a] 190 [.ref 86, .int a] := by
  intro I J B hR hB
  have hR0 := hR.2.2.2.2.2
  by_cases h : 0 ≤ a ∧ a ≤ 2
  · obtain ⟨k, hk, rfl⟩ := o_in (m := 2) h.1 h.2 (by omega)
    obtain rfl | rfl | rfl : k = 0 ∨ k = 1 ∨ k = 2 := by omega
    · rw [show Int32.ofNat 0 = 0 from rfl]
      simp (disch := decide) only [u97_0, u97_1_0, u97_1_1, u97_1_2, u97_1, u97_28, u97_29, u97_32, u97_33, u97_34, u97_37, u97_38, u97_39, u97_42, u97_43, u97_44, u97_46, u97_49, u97_50, u97_51, la_0, kLt, true_and]
      refine ⟨_, _, _, rfl, rfl, rfl, rfl, ?_⟩
      simp (disch := first | assumption | omega | decide | exact la_87 | exact la_88 | exact la_90 | exact la_91 | exact la_92 | exact la_93 | exact la_94 | exact la_95 | exact la_96 | exact la_97 | exact la_98 | exact la_99 | exact la_10 | exact la_23 | exact la_77 | exact la_78) only [u190_0, u190_1, u190_2, u190_3, u190_6, u190_9, u190_12, u190_13, u190_16, u190_17, u190_18, u190_21, u190_22, u190_23, u190_26, c113n, bi_0, show ¬ ¬ ((0 : Int32) ≤ 0 ∧ (0 : Int32) ≤ 2) by decide, if_false, la_86, la_90, lt_90, lr_86_3, kLt, true_and, o_aa, o_al, o_la, o_mm, o_ml, o_lm, o_ss, o_sl, o_ls, o_tn, o_tl, o_lt, o_ltl, o_llt, o_le, o_lel, o_lle, o_eq, o_eql, o_leq, o_inb, o_inl, o_neg, Nat.reduceLT]
      exact fin_same hR hR0.1.symm
    · rw [show Int32.ofNat 1 = 1 from rfl]
      simp (disch := decide) only [u97_0, u97_1_0, u97_1_1, u97_1_2, u97_1, u97_28, u97_29, u97_32, u97_33, u97_34, u97_37, u97_38, u97_39, u97_42, u97_43, u97_44, u97_46, u97_49, u97_50, u97_51, la_0, kLt, true_and]
      refine ⟨_, _, _, rfl, rfl, rfl, rfl, ?_⟩
      simp (disch := first | assumption | omega | decide | exact la_87 | exact la_88 | exact la_90 | exact la_91 | exact la_92 | exact la_93 | exact la_94 | exact la_95 | exact la_96 | exact la_97 | exact la_98 | exact la_99 | exact la_10 | exact la_23 | exact la_77 | exact la_78) only [u190_0, u190_1, u190_2, u190_3, u190_6, u190_9, u190_12, u190_13, u190_16, u190_17, u190_18, u190_21, u190_22, u190_23, u190_26, c113n, bi_0, show ¬ ¬ ((0 : Int32) ≤ 1 ∧ (1 : Int32) ≤ 2) by decide, if_false, la_86, la_90, lt_90, lr_86_3, kLt, true_and, o_aa, o_al, o_la, o_mm, o_ml, o_lm, o_ss, o_sl, o_ls, o_tn, o_tl, o_lt, o_ltl, o_llt, o_le, o_lel, o_lle, o_eq, o_eql, o_leq, o_inb, o_inl, o_neg, Nat.reduceLT]
      exact fin_same hR hR0.2.1.symm
    · rw [show Int32.ofNat 2 = 2 from rfl]
      simp (disch := decide) only [u97_0, u97_1_0, u97_1_1, u97_1_2, u97_1, u97_28, u97_29, u97_32, u97_33, u97_34, u97_37, u97_38, u97_39, u97_42, u97_43, u97_44, u97_46, u97_49, u97_50, u97_51, la_0, kLt, true_and]
      refine ⟨_, _, _, rfl, rfl, rfl, rfl, ?_⟩
      simp (disch := first | assumption | omega | decide | exact la_87 | exact la_88 | exact la_90 | exact la_91 | exact la_92 | exact la_93 | exact la_94 | exact la_95 | exact la_96 | exact la_97 | exact la_98 | exact la_99 | exact la_10 | exact la_23 | exact la_77 | exact la_78) only [u190_0, u190_1, u190_2, u190_3, u190_6, u190_9, u190_12, u190_13, u190_16, u190_17, u190_18, u190_21, u190_22, u190_23, u190_26, c113n, bi_0, show ¬ ¬ ((0 : Int32) ≤ 2 ∧ (2 : Int32) ≤ 2) by decide, if_false, la_86, la_90, lt_90, lr_86_3, kLt, true_and, o_aa, o_al, o_la, o_mm, o_ml, o_lm, o_ss, o_sl, o_ls, o_tn, o_tl, o_lt, o_ltl, o_llt, o_le, o_lel, o_lle, o_eq, o_eql, o_leq, o_inb, o_inl, o_neg, Nat.reduceLT]
      exact fin_same hR hR0.2.2.symm
  · have h2 : a.toInt < 0 ∨ 2 < a.toInt := out_of (n := 2) (by omega) h
    simp (disch := decide) only [u97_0, u97_1 a h2, u97_28, u97_29, u97_32, u97_33, u97_34, u97_37, u97_38, u97_39, u97_42, u97_43, u97_44, u97_46, u97_49, u97_50, u97_51, c103b, la_0, kLt, true_and]
    refine ⟨_, _, _, rfl, rfl, up_o _ _ (by decide), up_o _ _ (by decide), ?_⟩
    simp (disch := first | assumption | omega | decide | exact la_87 | exact la_88 | exact la_90 | exact la_91 | exact la_92 | exact la_93 | exact la_94 | exact la_95 | exact la_96 | exact la_97 | exact la_98 | exact la_99 | exact la_10 | exact la_23 | exact la_77 | exact la_78) only [u190_0, u190_1, u190_2, u190_3, u190_6, u190_9, u190_12, u190_13, u190_16, u190_17, u190_18, u190_21, u190_22, u190_23, u190_26, c113n, c114, bi_0, h, not_false_eq_true, if_true, la_86, kLt, true_and]
    exact fin_bad' hR
theorem op5 : OpI 69 [.ref 0] 134 [.ref 86, .null] := by
  intro I J B hR hB
  have hR0 := hR
  obtain ⟨⟨a, ⟨n, hn, b1, b2, b3⟩, c, d, e⟩, -⟩ := hR0
  simp (disch := decide) only [u69_0, u69_1, u69_4, u69_7, u69_10, c33 13 lisT_13, la_0, la_8, la_13, lr_0_0, lr_8_3, kLt, true_and]
  refine ⟨_, _, _, rfl, rfl, ?_, ?_, ?_⟩
  · rw [up_o _ _ (by decide)]
  · rw [up_o _ _ (by decide)]
  simp (disch := first | assumption | omega | decide | exact la_87 | exact la_88 | exact la_90 | exact la_91 | exact la_92 | exact la_93 | exact la_94 | exact la_95 | exact la_96 | exact la_97 | exact la_98 | exact la_99 | exact la_10 | exact la_23 | exact la_77 | exact la_78) only [u134_0, u134_1, u134_4, u134_5, u134_6, u134_9, u134_10, u134_11, u134_12, u134_13, c120, la_86, la_87, lt_87, lr_86_0, kLt, true_and, o_aa, o_al, o_la, o_mm, o_ml, o_lm, o_ss, o_sl, o_ls, o_tn, o_tl, o_lt, o_ltl, o_llt, o_le, o_lel, o_lle, o_eq, o_eql, o_leq, o_inb, o_inl, o_neg, Nat.reduceLT, wI_d, up_o]
  refine ⟨_, _, ?_, rfl, ?_, ?_, ?_⟩
  · rw [b1, b2]
  · rw [up_o _ _ (by decide), up_o _ _ (by decide)]
  · rw [up_o _ _ (by decide), up_o _ _ (by decide)]
  · refine Rel_now hR (by omega) ?_ (fun q h1 h2 h3 h4 h5 => by rw [up_o _ _ (by omega), up_o _ _ (by omega)]) (by rw [up_o _ _ (by decide), up_o _ _ (by decide)]) (by rw [up_o _ _ (by decide), up_o _ _ (by decide)]) ⟨rfl, rfl, rfl, rfl⟩
    unfold VR
    simp (disch := decide) only [up_s, up_o, Nat.reduceAdd]
    exact ⟨VT_M a (fun k hk => ud_o _ _ (by omega)), ⟨0, by omega, ud_s .., ud_s .., fun k hk => absurd hk (by omega)⟩, VM_M c (fun k hk => ud_o _ _ (by omega)), VY_M d (fun k hk => ud_o _ _ (by omega)) (by omega), VP_M e (fun k hk => ud_o _ _ (by omega)) (by omega)⟩
theorem op24 : OpI 88 [.ref 0] 163 [.ref 86, .null] := by
  intro I J B hR hB
  have hR0 := hR
  obtain ⟨⟨a, b, ⟨n, hn, c1, c2, c3⟩, d, e⟩, -⟩ := hR0
  simp (disch := decide) only [u88_0, u88_1, u88_4, u88_7, u88_10, c33 15 lisT_15, la_0, la_8, la_15, lr_0_0, lr_8_4, kLt, true_and]
  refine ⟨_, _, _, rfl, rfl, up_o _ _ (by decide), up_o _ _ (by decide), ?_⟩
  simp (disch := first | assumption | omega | decide | exact la_87 | exact la_88 | exact la_90 | exact la_91 | exact la_92 | exact la_93 | exact la_94 | exact la_95 | exact la_96 | exact la_97 | exact la_98 | exact la_99 | exact la_10 | exact la_23 | exact la_77 | exact la_78) only [u163_0, u163_1, u163_4, u163_5, u163_6, u163_7, u163_8, u163_11, u163_12, u163_13, u163_14, u163_15, la_86, la_87, lt_87, lr_86_0, kLt, true_and, o_aa, o_al, o_la, o_mm, o_ml, o_lm, o_ss, o_sl, o_ls, o_tn, o_tl, o_lt, o_ltl, o_llt, o_le, o_lel, o_lle, o_eq, o_eql, o_leq, o_inb, o_inl, o_neg, Nat.reduceLT, wI_d, up_o]
  refine ⟨_, _, ?_, rfl, (up_o _ _ (by decide)).trans (up_o _ _ (by decide)), (up_o _ _ (by decide)).trans (up_o _ _ (by decide)), ?_⟩
  · rw [c1, c2]
  · refine Rel_now hR (by omega) ?_ (fun q h1 h2 h3 h4 h5 => by rw [up_o _ _ (by omega), up_o _ _ (by omega)]) (by rw [up_o _ _ (by decide), up_o _ _ (by decide)]) (by rw [up_o _ _ (by decide), up_o _ _ (by decide)]) ⟨rfl, rfl, rfl, rfl⟩
    unfold VR
    simp (disch := decide) only [up_s, up_o, Nat.reduceAdd]
    exact ⟨VT_M a (fun k hk => ud_o _ _ (by omega)), VW_M b (fun k hk => ud_o _ _ (by omega)), ⟨0, by omega, ud_s .., ud_s .., fun k hk => absurd hk (by omega)⟩, VY_M d (fun k hk => ud_o _ _ (by omega)) (by omega), VP_M e (fun k hk => ud_o _ _ (by omega)) (by omega)⟩
/-- a change of the text alone -/
theorem Rel_txt {I I' : Nat → Nat → Int32} {J : Nat → Nat → Int64} {B : Nat} (h : Rel I J B) (h1 : ∀ a, ¬ a = 62 → ¬ a = 76 → ¬ a = 86 → ¬ a = 97 → I' a = I a) (h2 : XR I') : Rel I' J (B + 60) := by
  obtain ⟨a, b, c, d, e, f1, f2, f3⟩ := h
  refine ⟨VR_le (VR_eq a (fun q _ _ => h1 q (by omega) (by omega) (by omega) (by omega)) (fun k _ => by rw [h1 87 (by omega) (by omega) (by omega) (by omega)])) (by omega), KR_le (KR_eq (by omega) b (fun q _ _ => h1 q (by omega) (by omega) (by omega) (by omega)) (h1 88 (by omega) (by omega) (by omega) (by omega)) (h1 89 (by omega) (by omega) (by omega) (by omega))) (by omega), KR_le (KR_eq (by omega) c (fun q _ _ => h1 q (by omega) (by omega) (by omega) (by omega)) (h1 88 (by omega) (by omega) (by omega) (by omega)) (h1 89 (by omega) (by omega) (by omega) (by omega))) (by omega), h2, e, ?_, ?_, ?_⟩
  all_goals rw [h1 0 (by omega) (by omega) (by omega) (by omega), h1 90 (by omega) (by omega) (by omega) (by omega)]; assumption
theorem op7 : OpI 71 [.ref 0] 174 [.ref 86, .null] := by
  intro I J B hR hB
  obtain ⟨z, hz, d1, d2, d3⟩ := hR.2.2.2.1
  simp (disch := decide) only [u71_0, u71_1, u71_4, u71_7, Ca, u18_0, u18_1, u18_4, u18_5, u18_6, u18_7, u18_10, u18_11, la_0, la_62, lr_0_4, kLt, true_and, Option.toList, List.cons_append, List.nil_append, wI_d]
  refine ⟨_, _, _, rfl, rfl, up_o _ _ (by decide), up_o _ _ (by decide), ?_⟩
  simp (disch := decide) only [u174_0, u174_1, u174_4, u174_5, u174_6, u174_7, u174_10, u174_11, la_86, kLt, true_and, wI_d, up_o]
  refine ⟨_, _, ?_, rfl, (up_o _ _ (by decide)).trans (up_o _ _ (by decide)), (up_o _ _ (by decide)).trans (up_o _ _ (by decide)), ?_⟩
  · rw [d1, d2]
  · refine Rel_txt hR (fun q h1 h2 h3 h4 => by rw [up_o _ _ (by omega), up_o _ _ (by omega)]) ⟨0, by omega, ?_, ?_, fun k hk => absurd hk (by omega)⟩
    · rw [up_o _ _ (by decide), up_s]; exact ud_s ..
    · rw [up_s]; exact ud_s ..
