/-! THE CALL: of -/
section OF
variable {I : Nat → Nat → Int32} {J : Nat → Nat → Int64} {Q : Option Value → Sto → Prop}
theorem of_t (n : Nat) (hn : n ≤ 6) (e0 : I 87 0 = Int32.ofNat n) (a : Int32) (h : ∀ x, Rn 144 119 [.ref 86, .int a, .int 2, .int (rw3 (fun j => I 87 (14 + 3 * j + 2)) a n), .int (Int32.ofNat 6), x] [] (Sg I J) Q) (x : Value) : Rn 144 31 [.ref 86, .int a, .int 2, .int 0, .int 0, x] [] (Sg I J) Q := by
  refine Rn_fr (n := 6) (X := Value) (fun k x => [.ref 86, .int a, .int 2, .int (rw3 (fun j => I 87 (14 + 3 * j + 2)) a (min k n)), .int (Int32.ofNat k), x]) (fun k _ => Sg I J) x ?_ rfl ?_ ?_
  · show _ = ([.ref 86, .int a, .int 2, .int (rw3 (fun j => I 87 (14 + 3 * j + 2)) a (min 0 n)), .int (Int32.ofNat 0), x] : Vs)
    rw [Nat.zero_min]
    rfl
  · intro k hk x ih
    have hnk : ¬ 6 ≤ k := by omega
    by_cases hkn : k < n
    · have h1 : ¬ n ≤ k := by omega
      simp only [Nat.min_eq_left (show k + 1 ≤ n by omega), rw3_s] at ih
      simp (disch := first | assumption | omega | decide | exact la_87 | exact la_88 | exact la_90 | exact la_91 | exact la_92 | exact la_93 | exact la_94 | exact la_95 | exact la_96 | exact la_97 | exact la_98 | exact la_99 | exact la_10 | exact la_23 | exact la_77 | exact la_78 | exact la_18 | exact la_19 | exact la_20) only [u144_31, u144_33, u144_35, u144_38, u144_39, u144_40, u144_43, u144_45, u144_46, u144_49, u144_52, u144_53, u144_55, u144_56, u144_59, u144_60, u144_63, u144_64, u144_67, u144_68, u144_71, u144_73, u144_74, u144_77, u144_80, u144_81, u144_83, u144_86, u144_87, u144_90, u144_91, u144_94, u144_95, u144_97, u144_98, u144_100, u144_103, u144_104, u144_106, u144_107, u144_110, u144_111, u144_112, u144_113, c119, c123, e0, Nat.min_eq_left (show k ≤ n by omega), la_86, kLt, true_and, o_aa, o_al, o_la, o_mm, o_ml, o_lm, o_ss, o_sl, o_ls, o_tn, o_tl, o_lt, o_ltl, o_llt, o_le, o_lel, o_lle, o_eq, o_eql, o_leq, o_inb, o_inl, o_neg, hnk, h1, not_true, if_false, show 14 + 3 * k + 2 < 142 by omega, show ¬ (1 : Int32) = 0 by decide, if_true, Int32.or_zero]
      by_cases hc : I 87 (14 + 3 * k + 2) = a
      · rw [if_pos hc] at ih
        simp only [hc, not_true, if_false]
        exact (u144_116 ..).mpr (ih _)
      · rw [if_neg hc] at ih
        simp only [hc, not_false_eq_true, if_true]
        exact (u144_116 ..).mpr (ih _)
    · have h1 : n ≤ k := by omega
      simp only [Nat.min_eq_right (show n ≤ k + 1 by omega)] at ih
      simp (disch := first | assumption | omega | decide | exact la_87 | exact la_88 | exact la_90 | exact la_91 | exact la_92 | exact la_93 | exact la_94 | exact la_95 | exact la_96 | exact la_97 | exact la_98 | exact la_99 | exact la_10 | exact la_23 | exact la_77 | exact la_78 | exact la_18 | exact la_19 | exact la_20) only [u144_31, u144_33, u144_35, u144_38, u144_39, u144_40, u144_43, u144_45, u144_46, u144_49, u144_52, u144_53, u144_55, u144_56, u144_59, u144_60, u144_63, u144_64, u144_67, u144_68, u144_71, u144_73, u144_74, u144_77, u144_80, u144_81, u144_83, u144_86, u144_87, u144_90, u144_91, u144_94, u144_95, u144_97, u144_98, u144_100, u144_103, u144_104, u144_106, u144_107, u144_110, u144_111, u144_112, u144_113, c119, e0, Nat.min_eq_right h1, la_86, kLt, true_and, o_aa, o_al, o_la, o_mm, o_ml, o_lm, o_ss, o_sl, o_ls, o_tn, o_tl, o_lt, o_ltl, o_llt, o_le, o_lel, o_lle, o_eq, o_eql, o_leq, o_inb, o_inl, o_neg, hnk, h1, not_true, if_false, if_true, Int32.or_zero]
      exact (u144_116 ..).mpr (ih _)
  · intro x
    simp (disch := first | assumption | omega | decide | exact la_87 | exact la_88 | exact la_90 | exact la_91 | exact la_92 | exact la_93 | exact la_94 | exact la_95 | exact la_96 | exact la_97 | exact la_98 | exact la_99 | exact la_10 | exact la_23 | exact la_77 | exact la_78 | exact la_18 | exact la_19 | exact la_20) only [u144_31, u144_33, u144_35, o_aa, o_al, o_la, o_mm, o_ml, o_lm, o_ss, o_sl, o_ls, o_tn, o_tl, o_lt, o_ltl, o_llt, o_le, o_lel, o_lle, o_eq, o_eql, o_leq, o_inb, o_inl, o_neg, Nat.le_refl, if_true, Nat.min_eq_right hn]
    exact h x
theorem of_w (n : Nat) (hn : n ≤ 6) (e0 : I 87 1 = Int32.ofNat n) (a b : Int32) (hb : ¬ b = 2) (h : ∀ x, Rn 144 119 [.ref 86, .int a, .int b, .int (rw3 (fun j => I 87 (32 + 2 * j)) a n), .int (Int32.ofNat 6), x] [] (Sg I J) Q) (x : Value) : Rn 144 31 [.ref 86, .int a, .int b, .int 0, .int 0, x] [] (Sg I J) Q := by
  refine Rn_fr (n := 6) (X := Value) (fun k x => [.ref 86, .int a, .int b, .int (rw3 (fun j => I 87 (32 + 2 * j)) a (min k n)), .int (Int32.ofNat k), x]) (fun k _ => Sg I J) x ?_ rfl ?_ ?_
  · show _ = ([.ref 86, .int a, .int b, .int (rw3 (fun j => I 87 (32 + 2 * j)) a (min 0 n)), .int (Int32.ofNat 0), x] : Vs)
    rw [Nat.zero_min]
    rfl
  · intro k hk x ih
    have hnk : ¬ 6 ≤ k := by omega
    by_cases hkn : k < n
    · have h1 : ¬ n ≤ k := by omega
      simp only [Nat.min_eq_left (show k + 1 ≤ n by omega), rw3_s] at ih
      simp (disch := first | assumption | omega | decide | exact la_87 | exact la_88 | exact la_90 | exact la_91 | exact la_92 | exact la_93 | exact la_94 | exact la_95 | exact la_96 | exact la_97 | exact la_98 | exact la_99 | exact la_10 | exact la_23 | exact la_77 | exact la_78 | exact la_18 | exact la_19 | exact la_20) only [u144_31, u144_33, u144_35, u144_38, u144_39, u144_40, u144_43, u144_45, u144_46, u144_49, u144_52, u144_53, u144_55, u144_56, u144_59, u144_60, u144_63, u144_64, u144_67, u144_68, u144_71, u144_73, u144_74, u144_77, u144_80, u144_81, u144_83, u144_86, u144_87, u144_90, u144_91, u144_94, u144_95, u144_97, u144_98, u144_100, u144_103, u144_104, u144_106, u144_107, u144_110, u144_111, u144_112, u144_113, c120, c124, e0, hb, not_false_eq_true, Nat.min_eq_left (show k ≤ n by omega), la_86, kLt, true_and, o_aa, o_al, o_la, o_mm, o_ml, o_lm, o_ss, o_sl, o_ls, o_tn, o_tl, o_lt, o_ltl, o_llt, o_le, o_lel, o_lle, o_eq, o_eql, o_leq, o_inb, o_inl, o_neg, hnk, h1, not_true, if_false, show 32 + 2 * k < 142 by omega, show ¬ (1 : Int32) = 0 by decide, if_true, Int32.or_zero]
      by_cases hc : I 87 (32 + 2 * k) = a
      · rw [if_pos hc] at ih
        simp only [hc, not_true, if_false]
        exact (u144_116 ..).mpr (ih _)
      · rw [if_neg hc] at ih
        simp only [hc, not_false_eq_true, if_true]
        exact (u144_116 ..).mpr (ih _)
    · have h1 : n ≤ k := by omega
      simp only [Nat.min_eq_right (show n ≤ k + 1 by omega)] at ih
      simp (disch := first | assumption | omega | decide | exact la_87 | exact la_88 | exact la_90 | exact la_91 | exact la_92 | exact la_93 | exact la_94 | exact la_95 | exact la_96 | exact la_97 | exact la_98 | exact la_99 | exact la_10 | exact la_23 | exact la_77 | exact la_78 | exact la_18 | exact la_19 | exact la_20) only [u144_31, u144_33, u144_35, u144_38, u144_39, u144_40, u144_43, u144_45, u144_46, u144_49, u144_52, u144_53, u144_55, u144_56, u144_59, u144_60, u144_63, u144_64, u144_67, u144_68, u144_71, u144_73, u144_74, u144_77, u144_80, u144_81, u144_83, u144_86, u144_87, u144_90, u144_91, u144_94, u144_95, u144_97, u144_98, u144_100, u144_103, u144_104, u144_106, u144_107, u144_110, u144_111, u144_112, u144_113, c120, e0, hb, not_false_eq_true, Nat.min_eq_right h1, la_86, kLt, true_and, o_aa, o_al, o_la, o_mm, o_ml, o_lm, o_ss, o_sl, o_ls, o_tn, o_tl, o_lt, o_ltl, o_llt, o_le, o_lel, o_lle, o_eq, o_eql, o_leq, o_inb, o_inl, o_neg, hnk, h1, not_true, if_false, if_true, Int32.or_zero]
      exact (u144_116 ..).mpr (ih _)
  · intro x
    simp (disch := first | assumption | omega | decide | exact la_87 | exact la_88 | exact la_90 | exact la_91 | exact la_92 | exact la_93 | exact la_94 | exact la_95 | exact la_96 | exact la_97 | exact la_98 | exact la_99 | exact la_10 | exact la_23 | exact la_77 | exact la_78 | exact la_18 | exact la_19 | exact la_20) only [u144_31, u144_33, u144_35, o_aa, o_al, o_la, o_mm, o_ml, o_lm, o_ss, o_sl, o_ls, o_tn, o_tl, o_lt, o_ltl, o_llt, o_le, o_lel, o_lle, o_eq, o_eql, o_leq, o_inb, o_inl, o_neg, Nat.le_refl, if_true, Nat.min_eq_right hn]
    exact h x
end OF
theorem op11 (a b : Int32) : OpI 75 [.ref 0, .int a, .int b] 144 [.ref 86, .int a, .int b, .null, .null, .null] := by
  intro I J B hR hB
  have hR0 := hR
  obtain ⟨⟨⟨n, hn, a1, a2, a3⟩, ⟨n2, hn2, b1, b2, b3⟩, rc, rd, re⟩, -⟩ := hR0
  obtain ⟨-, -, w1⟩ := rd
  by_cases h1 : 0 ≤ a ∧ a ≤ 7
  · by_cases h2 : 0 ≤ b ∧ b ≤ 3
    · obtain ⟨s, hs, rfl⟩ := o_in (m := 7) h1.1 h1.2 (by omega)
      obtain ⟨q, hq, rfl⟩ := o_in (m := 3) h2.1 h2.2 (by omega)
      have hs8 : s < 8 := by omega
      obtain ⟨w, hw, e1, e2⟩ := w1 s hs8
      have e1' : I 10 s = Int32.ofNat w := e1
      have hA : ∀ (pc : Nat) (ls st : Vs) (Q : Option Value → Sto → Prop), Ca 37 [.ref 11, .int 2, .int (Int32.ofNat s), .null, .null] (Sg I J) 75 pc ls st Q ↔ Rn 75 pc ls (.int (rw3 (fun j => I 12 (j * 3 + 2)) (Int32.ofNat s) n) :: st) (Sg I J) Q := fun pc ls st Q => c37 11 lisT_11 n 2 hn (by omega) a1 (Int32.ofNat s)
      have hC : ∀ (pc : Nat) (ls st : Vs) (Q : Option Value → Sto → Prop), Ca 37 [.ref 13, .int 0, .int (Int32.ofNat s), .null, .null] (Sg I J) 75 pc ls st Q ↔ Rn 75 pc ls (.int (rw3 (fun j => I 14 (j * 3 + 0)) (Int32.ofNat s) n2) :: st) (Sg I J) Q := fun pc ls st Q => c37 13 lisT_13 n2 0 hn2 (by omega) b1 (Int32.ofNat s)
      obtain rfl | rfl | rfl | rfl : q = 0 ∨ q = 1 ∨ q = 2 ∨ q = 3 := by omega
      · rw [show Int32.ofNat 0 = 0 from rfl] at *
        simp (disch := first | assumption | omega | decide | exact la_87 | exact la_88 | exact la_90 | exact la_91 | exact la_92 | exact la_93 | exact la_94 | exact la_95 | exact la_96 | exact la_97 | exact la_98 | exact la_99 | exact la_10 | exact la_23 | exact la_77 | exact la_78 | exact la_18 | exact la_19 | exact la_20) only [u75_0, u75_1, u75_4, u75_7, u75_8, u75_9, u75_10, u75_13, u75_16, u75_17, u75_19, u75_22, u75_23, u75_24_0, u75_52, u75_53, u75_56, u75_59, u75_62, u75_63, u75_64, u75_65, u75_66, u75_69, u75_72, u75_75, u75_76, u75_77, u75_80, u75_81, u75_84, u75_85, u75_86, u75_87, u75_90, u75_93, u75_94, u75_95, u75_98, u75_99, u75_100, u75_103, u75_106, u75_107, u75_108, u75_111, c101, c100, bi_0, h1, h2, la_0, la_8, la_9, la_10, lt_10, lr_0_0, lr_8_1, lr_9_0, kLt, true_and, not_true, not_false_eq_true, if_true, if_false, o_aa, o_al, o_la, o_mm, o_ml, o_lm, o_ss, o_sl, o_ls, o_tn, o_tl, o_lt, o_ltl, o_llt, o_le, o_lel, o_lle, o_eq, o_eql, o_leq, o_inb, o_inl, o_neg, hs8]
        refine ⟨_, _, _, rfl, rfl, rfl, rfl, ?_⟩
        simp (disch := first | assumption | omega | decide | exact la_87 | exact la_88 | exact la_90 | exact la_91 | exact la_92 | exact la_93 | exact la_94 | exact la_95 | exact la_96 | exact la_97 | exact la_98 | exact la_99 | exact la_10 | exact la_23 | exact la_77 | exact la_78 | exact la_18 | exact la_19 | exact la_20) only [u144_0, u144_1, u144_4, u144_7, u144_8, u144_9, u144_10, u144_13, u144_16, u144_19, u144_20, u144_22, u144_25, u144_26, u144_27, u144_28, u144_29, c122, c113n, bi_0, h1, h2, not_true, not_false_eq_true, if_true, if_false]
        refine of_w n2 hn2 b2 _ _ (by decide) (fun x => ?_) .null
        simp (disch := first | assumption | omega | decide | exact la_87 | exact la_88 | exact la_90 | exact la_91 | exact la_92 | exact la_93 | exact la_94 | exact la_95 | exact la_96 | exact la_97 | exact la_98 | exact la_99 | exact la_10 | exact la_23 | exact la_77 | exact la_78 | exact la_18 | exact la_19 | exact la_20) only [u144_119, u144_120, u144_123, u144_124, u144_125, u144_126, u144_127, u144_129, u144_130, u144_133, u144_135, u144_138, u144_139, u144_140, u144_143, u144_145, u144_148, u144_149, u144_152, u144_153, u144_156, u144_157, la_86, la_87, lt_87, lr_86_0, kLt, true_and, not_true, if_false, o_aa, o_al, o_la, o_mm, o_ml, o_lm, o_ss, o_sl, o_ls, o_tn, o_tl, o_lt, o_ltl, o_llt, o_le, o_lel, o_lle, o_eq, o_eql, o_leq, o_inb, o_inl, o_neg, show 5 + s < 142 by omega]
        exact fin_same hR (e2.trans e1.symm)
      · rw [show Int32.ofNat 1 = 1 from rfl] at *
        simp (disch := first | assumption | omega | decide | exact la_87 | exact la_88 | exact la_90 | exact la_91 | exact la_92 | exact la_93 | exact la_94 | exact la_95 | exact la_96 | exact la_97 | exact la_98 | exact la_99 | exact la_10 | exact la_23 | exact la_77 | exact la_78 | exact la_18 | exact la_19 | exact la_20) only [u75_0, u75_1, u75_4, u75_7, u75_8, u75_9, u75_10, u75_13, u75_16, u75_17, u75_19, u75_22, u75_23, u75_24_1, u75_52, u75_53, u75_56, u75_59, u75_62, u75_63, u75_64, u75_65, u75_66, u75_69, u75_72, u75_75, u75_76, u75_77, u75_80, u75_81, u75_84, u75_85, u75_86, u75_87, u75_90, u75_93, u75_94, u75_95, u75_98, u75_99, u75_100, u75_103, u75_106, u75_107, u75_108, u75_111, c101, c100, bi_0, h1, h2, la_0, la_8, la_9, la_10, lt_10, lr_0_0, lr_8_1, lr_9_0, kLt, true_and, not_true, not_false_eq_true, if_true, if_false, o_aa, o_al, o_la, o_mm, o_ml, o_lm, o_ss, o_sl, o_ls, o_tn, o_tl, o_lt, o_ltl, o_llt, o_le, o_lel, o_lle, o_eq, o_eql, o_leq, o_inb, o_inl, o_neg, hs8, e1']
        by_cases h0 : w = 0
        all_goals
          simp only [h0, not_true, not_false_eq_true, if_true, if_false]
          refine ⟨_, _, _, rfl, rfl, rfl, rfl, ?_⟩
          simp (disch := first | assumption | omega | decide | exact la_87 | exact la_88 | exact la_90 | exact la_91 | exact la_92 | exact la_93 | exact la_94 | exact la_95 | exact la_96 | exact la_97 | exact la_98 | exact la_99 | exact la_10 | exact la_23 | exact la_77 | exact la_78 | exact la_18 | exact la_19 | exact la_20) only [u144_0, u144_1, u144_4, u144_7, u144_8, u144_9, u144_10, u144_13, u144_16, u144_19, u144_20, u144_22, u144_25, u144_26, u144_27, u144_28, u144_29, c122, c113n, bi_0, h1, h2, not_true, not_false_eq_true, if_true, if_false]
          refine of_w n2 hn2 b2 _ _ (by decide) (fun x => ?_) .null
          simp (disch := first | assumption | omega | decide | exact la_87 | exact la_88 | exact la_90 | exact la_91 | exact la_92 | exact la_93 | exact la_94 | exact la_95 | exact la_96 | exact la_97 | exact la_98 | exact la_99 | exact la_10 | exact la_23 | exact la_77 | exact la_78 | exact la_18 | exact la_19 | exact la_20) only [u144_119, u144_120, u144_123, u144_124, u144_125, u144_126, u144_127, u144_129, u144_130, u144_133, u144_135, u144_138, u144_139, u144_140, u144_143, u144_145, u144_148, u144_149, u144_152, u144_153, u144_156, u144_157, la_86, la_87, lt_87, lr_86_0, kLt, true_and, not_true, not_false_eq_true, if_true, if_false, o_aa, o_al, o_la, o_mm, o_ml, o_lm, o_ss, o_sl, o_ls, o_tn, o_tl, o_lt, o_ltl, o_llt, o_le, o_lel, o_lle, o_eq, o_eql, o_leq, o_inb, o_inl, o_neg, show 5 + s < 142 by omega, e2, h0, show ¬ (1 : Int32) = 0 by decide]
          have hfin := fin_same (x := 0) (y := 0) hR rfl
          simpa only [true_and] using hfin
      · rw [show Int32.ofNat 2 = 2 from rfl] at *
        simp (disch := first | assumption | omega | decide | exact la_87 | exact la_88 | exact la_90 | exact la_91 | exact la_92 | exact la_93 | exact la_94 | exact la_95 | exact la_96 | exact la_97 | exact la_98 | exact la_99 | exact la_10 | exact la_23 | exact la_77 | exact la_78 | exact la_18 | exact la_19 | exact la_20) only [u75_0, u75_1, u75_4, u75_7, u75_8, u75_9, u75_10, u75_13, u75_16, u75_17, u75_19, u75_22, u75_23, u75_24_2, u75_52, u75_53, u75_56, u75_59, u75_62, u75_63, u75_64, u75_65, u75_66, u75_69, u75_72, u75_75, u75_76, u75_77, u75_80, u75_81, u75_84, u75_85, u75_86, u75_87, u75_90, u75_93, u75_94, u75_95, u75_98, u75_99, u75_100, u75_103, u75_106, u75_107, u75_108, u75_111, c101, c100, hA, bi_0, h1, h2, la_0, la_8, la_11, lr_0_0, lr_8_2, kLt, true_and, not_true, not_false_eq_true, if_true, if_false]
        refine ⟨_, _, _, rfl, rfl, rfl, rfl, ?_⟩
        simp (disch := first | assumption | omega | decide | exact la_87 | exact la_88 | exact la_90 | exact la_91 | exact la_92 | exact la_93 | exact la_94 | exact la_95 | exact la_96 | exact la_97 | exact la_98 | exact la_99 | exact la_10 | exact la_23 | exact la_77 | exact la_78 | exact la_18 | exact la_19 | exact la_20) only [u144_0, u144_1, u144_4, u144_7, u144_8, u144_9, u144_10, u144_13, u144_16, u144_19, u144_20, u144_22, u144_25, u144_26, u144_27, u144_28, u144_29, c122, c113n, bi_0, h1, h2, not_true, not_false_eq_true, if_true, if_false]
        refine of_t n hn a2 _ (fun x => ?_) .null
        simp (disch := first | assumption | omega | decide | exact la_87 | exact la_88 | exact la_90 | exact la_91 | exact la_92 | exact la_93 | exact la_94 | exact la_95 | exact la_96 | exact la_97 | exact la_98 | exact la_99 | exact la_10 | exact la_23 | exact la_77 | exact la_78 | exact la_18 | exact la_19 | exact la_20) only [u144_119, u144_120, u144_123, u144_124, u144_125, u144_126, u144_127, u144_129, u144_130, u144_133, u144_135, u144_138, u144_139, u144_140, u144_143, u144_145, u144_148, u144_149, u144_152, u144_153, u144_156, u144_157, la_86, la_87, lt_87, lr_86_0, kLt, true_and, not_true, not_false_eq_true, if_true, if_false, o_aa, o_al, o_la, o_mm, o_ml, o_lm, o_ss, o_sl, o_ls, o_tn, o_tl, o_lt, o_ltl, o_llt, o_le, o_lel, o_lle, o_eq, o_eql, o_leq, o_inb, o_inl, o_neg, show 5 + s < 142 by omega, show ¬ (2 : Int32) = 0 by decide, show ¬ (2 : Int32) = 1 by decide]
        refine fin_same hR (rw3_eq (n := n) _ (fun j hj => ?_) n (Nat.le_refl _))
        obtain ⟨-, -, ⟨t, ht, s1, s2⟩⟩ := a3 j hj
        exact s2.trans s1.symm
      · simp (disch := first | assumption | omega | decide | exact la_87 | exact la_88 | exact la_90 | exact la_91 | exact la_92 | exact la_93 | exact la_94 | exact la_95 | exact la_96 | exact la_97 | exact la_98 | exact la_99 | exact la_10 | exact la_23 | exact la_77 | exact la_78 | exact la_18 | exact la_19 | exact la_20) only [u75_0, u75_1, u75_4, u75_7, u75_8, u75_9, u75_10, u75_13, u75_16, u75_17, u75_19, u75_22, u75_23, u75_24 (Int32.ofNat 3) (Or.inr (by decide)), u75_52, u75_53, u75_56, u75_59, u75_62, u75_63, u75_64, u75_65, u75_66, u75_69, u75_72, u75_75, u75_76, u75_77, u75_80, u75_81, u75_84, u75_85, u75_86, u75_87, u75_90, u75_93, u75_94, u75_95, u75_98, u75_99, u75_100, u75_103, u75_106, u75_107, u75_108, u75_111, c101, c100, hC, bi_0, h1, h2, la_0, la_8, la_13, lr_0_0, lr_8_3, kLt, true_and, not_true, not_false_eq_true, if_true, if_false]
        refine ⟨_, _, _, rfl, rfl, rfl, rfl, ?_⟩
        simp (disch := first | assumption | omega | decide | exact la_87 | exact la_88 | exact la_90 | exact la_91 | exact la_92 | exact la_93 | exact la_94 | exact la_95 | exact la_96 | exact la_97 | exact la_98 | exact la_99 | exact la_10 | exact la_23 | exact la_77 | exact la_78 | exact la_18 | exact la_19 | exact la_20) only [u144_0, u144_1, u144_4, u144_7, u144_8, u144_9, u144_10, u144_13, u144_16, u144_19, u144_20, u144_22, u144_25, u144_26, u144_27, u144_28, u144_29, c122, c113n, bi_0, h1, h2, not_true, not_false_eq_true, if_true, if_false]
        refine of_w n2 hn2 b2 _ _ (by decide) (fun x => ?_) .null
        simp (disch := first | assumption | omega | decide | exact la_87 | exact la_88 | exact la_90 | exact la_91 | exact la_92 | exact la_93 | exact la_94 | exact la_95 | exact la_96 | exact la_97 | exact la_98 | exact la_99 | exact la_10 | exact la_23 | exact la_77 | exact la_78 | exact la_18 | exact la_19 | exact la_20) only [u144_119, u144_120, u144_123, u144_124, u144_125, u144_126, u144_127, u144_129, u144_130, u144_133, u144_135, u144_138, u144_139, u144_140, u144_143, u144_145, u144_148, u144_149, u144_152, u144_153, u144_156, u144_157, la_86, la_87, lt_87, lr_86_0, kLt, true_and, not_true, not_false_eq_true, if_true, if_false, o_aa, o_al, o_la, o_mm, o_ml, o_lm, o_ss, o_sl, o_ls, o_tn, o_tl, o_lt, o_ltl, o_llt, o_le, o_lel, o_lle, o_eq, o_eql, o_leq, o_inb, o_inl, o_neg, show 5 + s < 142 by omega, show ¬ (3 : Nat) = 0 by decide, show ¬ (3 : Nat) = 1 by decide]
        refine fin_same hR (rw3_eq (n := n2) _ (fun j hj => ?_) n2 (Nat.le_refl _))
        obtain ⟨⟨t, ht, s1, s2⟩, -⟩ := b3 j hj
        exact s2.trans s1.symm
    · simp (disch := decide) only [u75_0, u75_1, u75_4, u75_7, u75_8, u75_9, u75_10, u75_13, u75_16, u75_17, u75_19, u75_22, c101, c100, c103b, bi_0, h1, h2, la_0, kLt, true_and, not_true, not_false_eq_true, if_true, if_false]
      refine ⟨_, _, _, rfl, rfl, up_o _ _ (by decide), up_o _ _ (by decide), ?_⟩
      simp (disch := first | assumption | omega | decide | exact la_87 | exact la_88 | exact la_90 | exact la_91 | exact la_92 | exact la_93 | exact la_94 | exact la_95 | exact la_96 | exact la_97 | exact la_98 | exact la_99 | exact la_10 | exact la_23 | exact la_77 | exact la_78 | exact la_18 | exact la_19 | exact la_20) only [u144_0, u144_1, u144_4, u144_7, u144_8, u144_9, u144_10, u144_13, u144_16, u144_19, u144_20, u144_22, u144_25, c122, c113n, c114, bi_0, h1, h2, la_86, kLt, true_and, not_true, not_false_eq_true, if_true, if_false]
      exact fin_bad' hR
  · simp (disch := decide) only [u75_0, u75_1, u75_4, u75_7, u75_8, u75_9, u75_10, u75_13, u75_16, u75_17, u75_19, u75_22, c101, c103b, bi_0, h1, la_0, kLt, true_and, not_true, not_false_eq_true, if_true, if_false]
    refine ⟨_, _, _, rfl, rfl, up_o _ _ (by decide), up_o _ _ (by decide), ?_⟩
    simp (disch := first | assumption | omega | decide | exact la_87 | exact la_88 | exact la_90 | exact la_91 | exact la_92 | exact la_93 | exact la_94 | exact la_95 | exact la_96 | exact la_97 | exact la_98 | exact la_99 | exact la_10 | exact la_23 | exact la_77 | exact la_78 | exact la_18 | exact la_19 | exact la_20) only [u144_0, u144_1, u144_4, u144_7, u144_8, u144_9, u144_10, u144_13, u144_16, u144_19, u144_20, u144_22, u144_25, c122, c114, bi_0, h1, la_86, kLt, true_and, not_true, not_false_eq_true, if_true, if_false]
    exact fin_bad' hR
