/-! THE CALLS: when, about -/
theorem wn_i {n : Nat} (hn : n ≤ 6) (x : Int32) : (-1 ≤ x ∧ x ≤ Int32.ofNat n - 1) ↔ (x = -1 ∨ (0 ≤ x ∧ x < Int32.ofNat n)) := by
  rw [Int32.le_iff_toInt_le, Int32.le_iff_toInt_le, Int32.le_iff_toInt_le, Int32.lt_iff_toInt_lt, ← Int32.toInt_inj, Int32.toInt_sub, Int32.toInt_ofNat_of_lt (by omega)]
  have a1 : (0 : Int32).toInt = 0 := rfl
  have a2 : (1 : Int32).toInt = 1 := rfl
  have a3 : (-1 : Int32).toInt = -1 := rfl
  rw [a1, a2, a3, Int.bmod_eq_of_le (by omega) (by omega)]
  omega
theorem bd_87 (I : Nat → Nat → Int32) : bdI I 87 = I 87 := up_o _ _ (by decide)
theorem op16 (a : Int32) : OpI 80 [.ref 0, .int a, .null, .null] 152 [.ref 86, .int a, .null, .null] := by
  intro I J B hR hB
  have hR0 := hR
  obtain ⟨⟨⟨n, hT⟩, ⟨n2, hW⟩, rc, rd, re⟩, -⟩ := hR0
  have hTn : VTn (I 11) (I 12) (I 87) n := hT
  have hWn : VWn (I 13) (I 14) (I 87) n2 := hW
  have b1 : I 13 1 = Int32.ofNat n2 := hWn.2.1
  have b2 : I 87 1 = Int32.ofNat n2 := hWn.2.2.1
  have rd0 := rd
  obtain ⟨⟨T, hTB, t1, t2⟩, -⟩ := rd0
  have e64 : (-1 : Int64) = (-1 : Int32).toInt64 := by decide
  have hin : ∀ {Q : Option Value → Sto → Prop} {I1 : Nat → Nat → Int32}, I1 87 1 = Int32.ofNat n2 → (Rn 152 0 [.ref 86, .int a, .null, .null] [] (Sg I1 J) Q ↔ Rn 152 15 [.ref 86, .int a, .null, .null] [.int (bi (a = -1 ∨ (0 ≤ a ∧ a < Int32.ofNat n2)))] (Sg I1 J) Q) := by
    intro Q I1 h
    simp (disch := decide) only [u152_0, u152_1, u152_2, u152_5, u152_6, u152_9, u152_10, u152_11, u152_12, c120, h, la_86, kLt, true_and]
    rw [e64, c113i, bi_c (wn_i hWn.1 a)]
  have hps : ∀ k, psI (tk_21_8 I) 21 (-1) n k 87 1 = Int32.ofNat n2 := fun k => by rw [ah_hm _ _ _ _ 87 (by omega)]; exact b2
  by_cases h1 : a = -1
  · subst h1
    simp (disch := decide) only [u80_0, u80_1, u80_2, u80_5, u80_6, u80_9, u80_12, u80_13, u80_16, u80_19, u80_20, u80_22, u80_25, u80_26, u80_28, u80_29, u80_30, u80_31, u80_34, u80_35, u80_38, u80_41, u80_44, u80_47, u80_48, u80_49, u80_50, u80_51, u80_52, u80_55, u80_56, u80_59, u80_62, u80_63, c31 13 lisT_13, c43_21_8, la_0, la_8, la_13, la_21, lr_0_0, lr_0_1, lr_8_3, kLt, true_and, if_true, if_false, not_true, b1]
    rw [← ps_0 (tk_21_8 I) 21 (-1) n]
    refine wh_c (-1) _ (Tm_tk hTn) (Wm_tk hWn) 61 0 (by omega) (fun k' => ?_)
    refine ⟨_, _, _, rfl, rfl, ah_hm _ _ _ _ _ (by decide), ah_hm _ _ _ _ _ (by decide), ?_⟩
    rw [hin (hps k')]
    simp (disch := decide) only [u152_15, u152_18, u152_19, u152_21, u152_24, u152_25, u152_26, u152_27, u152_30, u152_31, u152_34, u152_37, u152_38, u152_39, u152_40, c150, bi_0, hps k', la_86, kLt, true_and, true_or, not_true, not_false_eq_true, if_true, if_false]
    exact wh_fin (-1) _ hR hB hTn hWn rd hTB t2 k'
  · by_cases h2 : 0 ≤ a ∧ a < Int32.ofNat n2
    · simp (disch := decide) only [u80_0, u80_1, u80_2, u80_5, u80_6, u80_9, u80_12, u80_13, u80_16, u80_19, u80_20, u80_22, u80_25, u80_26, u80_28, u80_29, u80_30, u80_31, u80_34, u80_35, u80_38, u80_41, u80_44, u80_47, u80_48, u80_49, u80_50, u80_51, u80_52, u80_55, u80_56, u80_59, u80_62, u80_63, c30 13 lisT_13, c43_21_8, bi_0, h1, h2, la_0, la_8, la_13, la_21, lr_0_0, lr_0_1, lr_8_3, kLt, true_and, not_true, not_false_eq_true, if_true, if_false, b1]
      rw [← ps_0 (tk_21_8 I) 21 (-1) n]
      refine wh_c a _ (Tm_tk hTn) (Wm_tk hWn) 61 0 (by omega) (fun k' => ?_)
      refine ⟨_, _, _, rfl, rfl, ah_hm _ _ _ _ _ (by decide), ah_hm _ _ _ _ _ (by decide), ?_⟩
      rw [hin (hps k')]
      simp (disch := decide) only [u152_15, u152_18, u152_19, u152_21, u152_24, u152_25, u152_26, u152_27, u152_30, u152_31, u152_34, u152_37, u152_38, u152_39, u152_40, bi_0, h1, h2, or_true, la_86, kLt, true_and, not_true, not_false_eq_true, if_true, if_false]
      exact wh_fin a _ hR hB hTn hWn rd hTB t2 k'
    · simp (disch := decide) only [u80_0, u80_1, u80_2, u80_5, u80_6, u80_9, u80_12, u80_13, u80_16, u80_19, u80_20, u80_22, u80_25, u80_26, u80_28, c30 13 lisT_13, c103b, bi_0, h1, h2, la_0, la_8, la_13, lr_0_0, lr_8_3, kLt, true_and, not_true, not_false_eq_true, if_true, if_false, b1]
      refine ⟨_, _, _, rfl, rfl, up_o _ _ (by decide), up_o _ _ (by decide), ?_⟩
      rw [hin (by rw [bd_87]; exact b2)]
      simp (disch := decide) only [u152_15, u152_18, u152_19, u152_21, u152_24, c114, bi_0, h1, h2, or_self, la_86, kLt, true_and, not_true, not_false_eq_true, if_true, if_false]
      exact fin_bad' hR
theorem op12 (a b : Int32) : OpI 76 [.ref 0, .int a, .int b, .null] 145 [.ref 86, .int a, .int b, .null] := by
  intro I J B hR hB
  have hR0 := hR
  obtain ⟨⟨⟨n, hT⟩, rb, rc, rd, re⟩, -⟩ := hR0
  have hTn : VTn (I 11) (I 12) (I 87) n := hT
  obtain ⟨hn, a1, a2, a3⟩ := hT
  obtain ⟨⟨T, hTB, t1, t2⟩, p1, w1⟩ := rd
  have c121' := fun (I1 : Nat → Nat → Int32) (h : I1 87 0 = Int32.ofNat n) (pc : Nat) (ls st : Vs) (Q : Option Value → Sto → Prop) (x : Int32) => @c121 145 pc ls st I1 J Q n hn h x
  by_cases h1 : 0 ≤ a ∧ a < Int32.ofNat n
  · by_cases h2 : 0 ≤ b ∧ b ≤ 4
    · obtain ⟨k, hk, rfl⟩ := o_in (m := n) h1.1 (Int32.le_of_lt h1.2) (by omega)
      have hkn : k < n := by
        have := h1.2
        rwa [o_lt (by omega) (by omega)] at this
      obtain ⟨q, hq, rfl⟩ := o_in (m := 4) h2.1 h2.2 (by omega)
      obtain ⟨⟨c, hc, c1, c2⟩, ⟨S, hS, hS9, S1, S2⟩, ⟨s, hs, s1, s2⟩⟩ := a3 k hkn
      have hk6 : k < 6 := by omega
      by_cases h3 : q < 3
      · have hnq : ¬ 3 ≤ q := by omega
        simp (disch := first | assumption | omega | decide | exact la_87 | exact la_88 | exact la_90 | exact la_91 | exact la_92 | exact la_93 | exact la_94 | exact la_95 | exact la_96 | exact la_97 | exact la_98 | exact la_99 | exact la_10 | exact la_23 | exact la_77 | exact la_78 | exact la_18 | exact la_19 | exact la_20) only [u76_0, u76_1, u76_4, u76_7, u76_8, u76_11, u76_14, u76_15, u76_16, u76_17, u76_20, u76_23, u76_24, u76_26, u76_29, u76_30, u76_32, u76_33, u76_34, u76_35, u76_38, u76_39, u76_42, u76_45, u76_46, u76_47, u76_50, c30 11 lisT_11, c100, c35 11 lisT_11, bi_0, a1, h1, h2, la_0, la_8, la_11, lr_0_0, lr_8_2, kLt, true_and, not_true, not_false_eq_true, if_true, if_false, o_aa, o_al, o_la, o_mm, o_ml, o_lm, o_ss, o_sl, o_ls, o_tn, o_tl, o_lt, o_ltl, o_llt, o_le, o_lel, o_lle, o_eq, o_eql, o_leq, o_inb, o_inl, o_neg, hnq, show k * 3 + q < 18 by omega]
        refine ⟨_, _, _, rfl, rfl, rfl, rfl, ?_⟩
        simp (disch := first | assumption | omega | decide | exact la_87 | exact la_88 | exact la_90 | exact la_91 | exact la_92 | exact la_93 | exact la_94 | exact la_95 | exact la_96 | exact la_97 | exact la_98 | exact la_99 | exact la_10 | exact la_23 | exact la_77 | exact la_78 | exact la_18 | exact la_19 | exact la_20) only [u145_0, u145_1, u145_2, u145_5, u145_8, u145_9, u145_10, u145_11, u145_14, u145_17, u145_20, u145_21, u145_23, u145_26, u145_27, u145_28, u145_29, u145_32, u145_33, u145_34, u145_35, u145_38, c121' I a2, c113n, c123, bi_0, h1, h2, la_86, kLt, true_and, not_true, not_false_eq_true, if_true, if_false, o_aa, o_al, o_la, o_mm, o_ml, o_lm, o_ss, o_sl, o_ls, o_tn, o_tl, o_lt, o_ltl, o_llt, o_le, o_lel, o_lle, o_eq, o_eql, o_leq, o_inb, o_inl, o_neg, hnq, show 14 + 3 * k + q < 142 by omega]
        refine fin_same hR ?_
        obtain rfl | rfl | rfl : q = 0 ∨ q = 1 ∨ q = 2 := by omega
        · exact c2.trans c1.symm
        · exact S2.trans S1.symm
        · exact s2.trans s1.symm
      · have hsr : src (I 9 1) (I 9 2) (Int32.ofNat s) = src (lhI I n 86 7) (lhI I n 86 8) (Int32.ofNat s) := by
          simp (disch := decide) only [lhI, up_o, up_s, ud_s, ud_o]
          rw [show I 9 1 = I 87 13 from p1, show I 9 2 = I 87 2 from t1.trans t2.symm]
        have hl93 : lhI I n 93 k = Int32.ofNat s := by simp only [lhI, up_s]; rw [cpf_i _ _ hkn]; exact s2
        have hl92 : lhI I n 92 k = Int32.ofNat c := by simp (disch := decide) only [lhI, up_o, up_s]; rw [cpf_i _ _ hkn]; exact c2
        have hl87 : lhI I n 87 (14 + 3 * k + 1) = Int32.ofNat S := by rw [lh_87]; exact S2
        have hl8 : lhI I n 86 8 = Int32.ofNat T := by simp (disch := decide) only [lhI, up_o, up_s, ud_s]; exact t2
        have hl91 : ∀ j, j < 8 → lhI I n 91 j = I 10 j := by
          intro j hj
          obtain ⟨w, hw, q1, q2⟩ := w1 j hj
          simp (disch := decide) only [lhI, up_o, up_s]
          rw [cpf_i _ _ hj, q2]
          exact q1.symm
        have c1' : I 12 (k * 3) = Int32.ofNat c := c1
        have s1' : I 12 (k * 3 + 2) = Int32.ofNat s := s1
        have S1' : I 12 (k * 3 + 1) = Int32.ofNat S := S1
        have t1' : I 9 2 = Int32.ofNat T := t1
        obtain rfl | rfl : q = 3 ∨ q = 4 := by omega
        · simp (disch := first | assumption | omega | decide | exact la_87 | exact la_88 | exact la_90 | exact la_91 | exact la_92 | exact la_93 | exact la_94 | exact la_95 | exact la_96 | exact la_97 | exact la_98 | exact la_99 | exact la_10 | exact la_23 | exact la_77 | exact la_78 | exact la_18 | exact la_19 | exact la_20) only [u76_0, u76_1, u76_4, u76_7, u76_8, u76_11, u76_14, u76_15, u76_16, u76_17, u76_20, u76_23, u76_24, u76_26, u76_29, u76_30, u76_32, u76_33, u76_34, u76_35, u76_38, u76_39, u76_42, u76_45, u76_46, u76_47, u76_50, u76_51, u76_52, u76_55, u76_56, u76_59, u76_60, u76_61, u76_62, u76_65, u76_66, u76_67, u76_68, u76_69, u76_72, u76_73, u76_76, u76_77, u76_80, u76_81, u76_82, u76_85, c30 11 lisT_11, c100, c44 8 lisV_8 k hk6, bi_0, a1, h1, h2, la_0, la_8, la_11, lr_0_0, lr_8_2, kLt, true_and, not_true, not_false_eq_true, if_true, if_false, o_aa, o_al, o_la, o_mm, o_ml, o_lm, o_ss, o_sl, o_ls, o_tn, o_tl, o_lt, o_ltl, o_llt, o_le, o_lel, o_lle, o_eq, o_eql, o_leq, o_inb, o_inl, o_neg, Nat.le_refl, s1', Nat.reduceAdd]
          refine ⟨_, _, _, rfl, rfl, rfl, rfl, ?_⟩
          simp (disch := first | assumption | omega | decide | exact la_87 | exact la_88 | exact la_90 | exact la_91 | exact la_92 | exact la_93 | exact la_94 | exact la_95 | exact la_96 | exact la_97 | exact la_98 | exact la_99 | exact la_10 | exact la_23 | exact la_77 | exact la_78 | exact la_18 | exact la_19 | exact la_20) only [u145_0, u145_1, u145_2, u145_5, u145_8, u145_9, u145_10, u145_11, u145_14, u145_17, u145_20, u145_21, u145_23, u145_26, u145_27, u145_28, u145_29, u145_32, u145_33, u145_34, u145_35, u145_38, u145_39, u145_40, u145_43, u145_44, u145_45, u145_48, u145_49, u145_50, u145_53, u145_54, u145_55, u145_56, u145_59, u145_60, u145_63, u145_64, u145_65, u145_68, u145_69, u145_72, u145_73, u145_74, u145_77, u145_78, u145_79, u145_80, u145_81, u145_82, u145_85, u145_86, u145_89, u145_90, u145_93, u145_94, u145_95, u145_96, u145_97, u145_100, u145_101, u145_102, u145_105, c121' I a2, c113n, c135 n hn a2, c136, bi_0, h1, h2, la_86, la_93, lt_93, lr_86_10, kLt, true_and, not_true, not_false_eq_true, if_true, if_false, o_aa, o_al, o_la, o_mm, o_ml, o_lm, o_ss, o_sl, o_ls, o_tn, o_tl, o_lt, o_ltl, o_llt, o_le, o_lel, o_lle, o_eq, o_eql, o_leq, o_inb, o_inl, o_neg, Nat.le_refl, hk6, hl93]
          exact fin_sc hR (Sc_lh I n) hsr.symm
        · by_cases hsq : src (I 9 1) (I 9 2) (Int32.ofNat s) = -1
          · simp (disch := first | assumption | omega | decide | exact la_87 | exact la_88 | exact la_90 | exact la_91 | exact la_92 | exact la_93 | exact la_94 | exact la_95 | exact la_96 | exact la_97 | exact la_98 | exact la_99 | exact la_10 | exact la_23 | exact la_77 | exact la_78 | exact la_18 | exact la_19 | exact la_20) only [u76_0, u76_1, u76_4, u76_7, u76_8, u76_11, u76_14, u76_15, u76_16, u76_17, u76_20, u76_23, u76_24, u76_26, u76_29, u76_30, u76_32, u76_33, u76_34, u76_35, u76_38, u76_39, u76_42, u76_45, u76_46, u76_47, u76_50, u76_51, u76_52, u76_55, u76_56, u76_59, u76_60, u76_61, u76_62, u76_65, u76_66, u76_67, u76_68, u76_69, u76_72, u76_73, u76_76, u76_77, u76_80, u76_81, u76_82, u76_85, c30 11 lisT_11, c100, c44 8 lisV_8 k hk6, bi_0, a1, h1, h2, la_0, la_8, la_11, lr_0_0, lr_8_2, kLt, true_and, not_true, not_false_eq_true, if_true, if_false, o_aa, o_al, o_la, o_mm, o_ml, o_lm, o_ss, o_sl, o_ls, o_tn, o_tl, o_lt, o_ltl, o_llt, o_le, o_lel, o_lle, o_eq, o_eql, o_leq, o_inb, o_inl, o_neg, show 3 ≤ 4 by decide, show ¬ 4 = 3 by decide, s1', hsq, Nat.reduceAdd]
            refine ⟨_, _, _, rfl, rfl, rfl, rfl, ?_⟩
            rw [hsr] at hsq
            simp (disch := first | assumption | omega | decide | exact la_87 | exact la_88 | exact la_90 | exact la_91 | exact la_92 | exact la_93 | exact la_94 | exact la_95 | exact la_96 | exact la_97 | exact la_98 | exact la_99 | exact la_10 | exact la_23 | exact la_77 | exact la_78 | exact la_18 | exact la_19 | exact la_20) only [u145_0, u145_1, u145_2, u145_5, u145_8, u145_9, u145_10, u145_11, u145_14, u145_17, u145_20, u145_21, u145_23, u145_26, u145_27, u145_28, u145_29, u145_32, u145_33, u145_34, u145_35, u145_38, u145_39, u145_40, u145_43, u145_44, u145_45, u145_48, u145_49, u145_50, u145_53, u145_54, u145_55, u145_56, u145_59, u145_60, u145_63, u145_64, u145_65, u145_68, u145_69, u145_72, u145_73, u145_74, u145_77, u145_78, u145_79, u145_80, u145_81, u145_82, u145_85, u145_86, u145_89, u145_90, u145_93, u145_94, u145_95, u145_96, u145_97, u145_100, u145_101, u145_102, u145_105, c121' I a2, c113n, c135 n hn a2, c136, bi_0, h1, h2, la_86, la_93, lt_93, lr_86_10, kLt, true_and, not_true, not_false_eq_true, if_true, if_false, o_aa, o_al, o_la, o_mm, o_ml, o_lm, o_ss, o_sl, o_ls, o_tn, o_tl, o_lt, o_ltl, o_llt, o_le, o_lel, o_lle, o_eq, o_eql, o_leq, o_inb, o_inl, o_neg, show 3 ≤ 4 by decide, show ¬ 4 = 3 by decide, hk6, hl93, hsq]
            have hfin := fin_sc (x := 0) (y := 0) hR (Sc_lh I n) rfl
            simpa only [true_and] using hfin
          · obtain ⟨o, ho, eo, hos⟩ := src_ok _ _ hs hsq
            have hno : ¬ Int32.ofNat o = -1 := by rw [← eo]; exact hsq
            simp (disch := first | assumption | omega | decide | exact la_87 | exact la_88 | exact la_90 | exact la_91 | exact la_92 | exact la_93 | exact la_94 | exact la_95 | exact la_96 | exact la_97 | exact la_98 | exact la_99 | exact la_10 | exact la_23 | exact la_77 | exact la_78 | exact la_18 | exact la_19 | exact la_20) only [u76_0, u76_1, u76_4, u76_7, u76_8, u76_11, u76_14, u76_15, u76_16, u76_17, u76_20, u76_23, u76_24, u76_26, u76_29, u76_30, u76_32, u76_33, u76_34, u76_35, u76_38, u76_39, u76_42, u76_45, u76_46, u76_47, u76_50, u76_51, u76_52, u76_55, u76_56, u76_59, u76_60, u76_61, u76_62, u76_65, u76_66, u76_67, u76_68, u76_69, u76_72, u76_73, u76_76, u76_77, u76_80, u76_81, u76_82, u76_85, c30 11 lisT_11, c100, c44 8 lisV_8 k hk6, c45 8 lisV_8 k o s c hk6 ho hs hc s1 c1, bi_0, a1, h1, h2, la_0, la_8, la_11, lr_0_0, lr_8_2, kLt, true_and, not_true, not_false_eq_true, if_true, if_false, o_aa, o_al, o_la, o_mm, o_ml, o_lm, o_ss, o_sl, o_ls, o_tn, o_tl, o_lt, o_ltl, o_llt, o_le, o_lel, o_lle, o_eq, o_eql, o_leq, o_inb, o_inl, o_neg, show 3 ≤ 4 by decide, show ¬ 4 = 3 by decide, s1', eo, hno, Nat.reduceAdd]
            refine ⟨_, _, _, rfl, rfl, rfl, rfl, ?_⟩
            rw [hsr] at eo
            simp (disch := first | assumption | omega | decide | exact la_87 | exact la_88 | exact la_90 | exact la_91 | exact la_92 | exact la_93 | exact la_94 | exact la_95 | exact la_96 | exact la_97 | exact la_98 | exact la_99 | exact la_10 | exact la_23 | exact la_77 | exact la_78 | exact la_18 | exact la_19 | exact la_20) only [u145_0, u145_1, u145_2, u145_5, u145_8, u145_9, u145_10, u145_11, u145_14, u145_17, u145_20, u145_21, u145_23, u145_26, u145_27, u145_28, u145_29, u145_32, u145_33, u145_34, u145_35, u145_38, u145_39, u145_40, u145_43, u145_44, u145_45, u145_48, u145_49, u145_50, u145_53, u145_54, u145_55, u145_56, u145_59, u145_60, u145_63, u145_64, u145_65, u145_68, u145_69, u145_72, u145_73, u145_74, u145_77, u145_78, u145_79, u145_80, u145_81, u145_82, u145_85, u145_86, u145_89, u145_90, u145_93, u145_94, u145_95, u145_96, u145_97, u145_100, u145_101, u145_102, u145_105, c121' I a2, c113n, c135 n hn a2, c136, c123, c137 c S T hc hS9 (by omega) hl8, bi_0, h1, h2, la_86, la_91, lt_91, la_92, lt_92, la_93, lt_93, lr_86_6, lr_86_9, lr_86_10, kLt, true_and, not_true, not_false_eq_true, if_true, if_false, o_aa, o_al, o_la, o_mm, o_ml, o_lm, o_ss, o_sl, o_ls, o_tn, o_tl, o_lt, o_ltl, o_llt, o_le, o_lel, o_lle, o_eq, o_eql, o_leq, o_inb, o_inl, o_neg, show 3 ≤ 4 by decide, show ¬ 4 = 3 by decide, hk6, hl92, hl93, hl87, show 14 + 3 * k + 1 < 142 by omega, hs, ho, eo, hno]
            refine fin_sc hR (Sc_lh I n) ?_
            rw [hl91 s hs, hl91 o ho, hl8, S1', t1']
    · simp (disch := decide) only [u76_0, u76_1, u76_4, u76_7, u76_8, u76_11, u76_14, u76_15, u76_16, u76_17, u76_20, u76_23, u76_24, u76_26, u76_29, u76_30, u76_32, c30 11 lisT_11, c100, c103b, bi_0, a1, h1, h2, la_0, la_8, la_11, lr_0_0, lr_8_2, kLt, true_and, not_true, not_false_eq_true, if_true, if_false]
      refine ⟨_, _, _, rfl, rfl, up_o _ _ (by decide), up_o _ _ (by decide), ?_⟩
      simp (disch := first | assumption | omega | decide | exact la_87 | exact la_88 | exact la_90 | exact la_91 | exact la_92 | exact la_93 | exact la_94 | exact la_95 | exact la_96 | exact la_97 | exact la_98 | exact la_99 | exact la_10 | exact la_23 | exact la_77 | exact la_78 | exact la_18 | exact la_19 | exact la_20) only [u145_0, u145_1, u145_2, u145_5, u145_8, u145_9, u145_10, u145_11, u145_14, u145_17, u145_20, u145_21, u145_23, u145_26, c121' (bdI I) (by rw [bd_87]; exact a2), c113n, c114, bi_0, h1, h2, la_86, kLt, true_and, not_true, not_false_eq_true, if_true, if_false]
      exact fin_bad' hR
  · simp (disch := decide) only [u76_0, u76_1, u76_4, u76_7, u76_8, u76_11, u76_14, u76_15, u76_16, u76_17, u76_20, u76_23, u76_24, u76_26, u76_29, u76_30, u76_32, c30 11 lisT_11, c103b, bi_0, a1, h1, la_0, la_8, la_11, lr_0_0, lr_8_2, kLt, true_and, not_true, not_false_eq_true, if_true, if_false]
    refine ⟨_, _, _, rfl, rfl, up_o _ _ (by decide), up_o _ _ (by decide), ?_⟩
    simp (disch := first | assumption | omega | decide | exact la_87 | exact la_88 | exact la_90 | exact la_91 | exact la_92 | exact la_93 | exact la_94 | exact la_95 | exact la_96 | exact la_97 | exact la_98 | exact la_99 | exact la_10 | exact la_23 | exact la_77 | exact la_78 | exact la_18 | exact la_19 | exact la_20) only [u145_0, u145_1, u145_2, u145_5, u145_8, u145_9, u145_10, u145_11, u145_14, u145_17, u145_20, u145_21, u145_23, u145_26, c121' (bdI I) (by rw [bd_87]; exact a2), c114, bi_0, h1, la_86, kLt, true_and, not_true, not_false_eq_true, if_true, if_false]
    exact fin_bad' hR
