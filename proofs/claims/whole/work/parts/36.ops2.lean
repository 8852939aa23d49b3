/-! THE CALLS: measured, team, valley, part, type -/
theorem op23 (a b c : Int32) : OpI 87 [.ref 0, .int a, .int b, .int c] 162 [.ref 86, .int a, .int b, .int c, .null] := by
  intro I J B hR hB
  have hR0 := hR
  obtain ⟨⟨ra, rb, ⟨n, hn, b1, b2, b3⟩, rd, re⟩, -⟩ := hR0
  by_cases h1 : 0 ≤ a ∧ a ≤ 20
  · by_cases h2 : 0 ≤ b ∧ b ≤ 7
    · by_cases h3 : 0 ≤ c ∧ c ≤ 99
      · obtain ⟨s, hs, rfl⟩ := o_in (m := 7) h2.1 h2.2 (by omega)
        obtain ⟨t, ht, rfl⟩ := o_in (m := 20) h1.1 h1.2 (by omega)
        by_cases h6 : n = 6
        · subst h6
          simp (disch := first | assumption | omega | decide | exact la_87 | exact la_88 | exact la_90 | exact la_91 | exact la_92 | exact la_93 | exact la_94 | exact la_95 | exact la_96 | exact la_97 | exact la_98 | exact la_99 | exact la_10 | exact la_23 | exact la_77 | exact la_78) only [u87_0, u87_1, u87_2, u87_4, u87_7, u87_10, u87_11, u87_14, u87_17, u87_18, u87_19, u87_21, u87_24, u87_27, u87_28, u87_30, u87_33, u87_34, u87_35, u87_38, u87_41, u87_44, u87_47, u87_48, u87_50, u87_53, u87_54, u87_55, u87_58, u87_61, u87_62, u87_63, u87_64, u87_67, u87_68, u87_69, u87_72, u87_75, u87_78, c101, c100, c29 15 lisT_15, c103f, bi_0, b1, h1, h2, h3, not_true, not_false_eq_true, if_true, if_false, la_0, la_8, la_15, lr_0_0, lr_8_4, kLt, true_and, o_aa, o_al, o_la, o_mm, o_ml, o_lm, o_ss, o_sl, o_ls, o_tn, o_tl, o_lt, o_ltl, o_llt, o_le, o_lel, o_lle, o_eq, o_eql, o_leq, o_inb, o_inl, o_neg, Nat.lt_irrefl]
          refine ⟨_, _, _, rfl, rfl, up_o _ _ (by decide), up_o _ _ (by decide), ?_⟩
          simp (disch := first | assumption | omega | decide | exact la_87 | exact la_88 | exact la_90 | exact la_91 | exact la_92 | exact la_93 | exact la_94 | exact la_95 | exact la_96 | exact la_97 | exact la_98 | exact la_99 | exact la_10 | exact la_23 | exact la_77 | exact la_78) only [u162_0, u162_1, u162_4, u162_7, u162_8, u162_11, u162_14, u162_15, u162_16, u162_17, u162_20, u162_23, u162_26, u162_27, u162_29, u162_32, u162_33, u162_34, u162_37, u162_38, u162_39, u162_41, u162_44, u162_45, u162_48, u162_49, u162_51, u162_52, u162_53, u162_56, u162_57, u162_58, u162_59, u162_60, u162_62, u162_63, u162_66, u162_68, u162_69, u162_70, u162_71, u162_74, u162_76, u162_77, u162_78, u162_79, u162_80, u162_81, u162_84, u162_86, u162_87, u162_88, u162_89, u162_90, u162_91, u162_94, u162_95, u162_96, u162_97, u162_98, u162_99, u162_100, u162_101, u162_104, u162_105, u162_106, c122, c113n, c153, c116, bi_0, b2, h1, h2, h3, not_true, not_false_eq_true, if_true, if_false, la_86, la_87, lt_87, lr_86_0, kLt, true_and, up_o, o_aa, o_al, o_la, o_mm, o_ml, o_lm, o_ss, o_sl, o_ls, o_tn, o_tl, o_lt, o_ltl, o_llt, o_le, o_lel, o_lle, o_eq, o_eql, o_leq, o_inb, o_inl, o_neg, Nat.reduceLT]
          exact fin_full' hR
        · have hn6 : n < 6 := by omega
          simp (disch := first | assumption | omega | decide | exact la_87 | exact la_88 | exact la_90 | exact la_91 | exact la_92 | exact la_93 | exact la_94 | exact la_95 | exact la_96 | exact la_97 | exact la_98 | exact la_99 | exact la_10 | exact la_23 | exact la_77 | exact la_78) only [u87_0, u87_1, u87_2, u87_4, u87_7, u87_10, u87_11, u87_14, u87_17, u87_18, u87_19, u87_21, u87_24, u87_27, u87_28, u87_30, u87_33, u87_34, u87_35, u87_38, u87_41, u87_44, u87_47, u87_48, u87_50, u87_53, u87_54, u87_55, u87_58, u87_61, u87_62, u87_63, u87_64, u87_67, u87_68, u87_69, u87_72, u87_75, u87_78, c101, c100, c29 15 lisT_15, c32 15 lisT_15 n hn6 b1, bi_0, b1, h1, h2, h3, hn6, not_true, not_false_eq_true, if_true, if_false, la_0, la_8, la_15, lr_0_0, lr_8_4, kLt, true_and, o_aa, o_al, o_la, o_mm, o_ml, o_lm, o_ss, o_sl, o_ls, o_tn, o_tl, o_lt, o_ltl, o_llt, o_le, o_lel, o_lle, o_eq, o_eql, o_leq, o_inb, o_inl, o_neg, up_s, ud_s]
          refine ⟨_, _, _, rfl, rfl, (up_o _ _ (by decide)).trans (up_o _ _ (by decide)), (up_o _ _ (by decide)).trans (up_o _ _ (by decide)), ?_⟩
          simp (disch := first | assumption | omega | decide | exact la_87 | exact la_88 | exact la_90 | exact la_91 | exact la_92 | exact la_93 | exact la_94 | exact la_95 | exact la_96 | exact la_97 | exact la_98 | exact la_99 | exact la_10 | exact la_23 | exact la_77 | exact la_78) only [u162_0, u162_1, u162_4, u162_7, u162_8, u162_11, u162_14, u162_15, u162_16, u162_17, u162_20, u162_23, u162_26, u162_27, u162_29, u162_32, u162_33, u162_34, u162_37, u162_38, u162_39, u162_41, u162_44, u162_45, u162_48, u162_49, u162_51, u162_52, u162_53, u162_56, u162_57, u162_58, u162_59, u162_60, u162_62, u162_63, u162_66, u162_68, u162_69, u162_70, u162_71, u162_74, u162_76, u162_77, u162_78, u162_79, u162_80, u162_81, u162_84, u162_86, u162_87, u162_88, u162_89, u162_90, u162_91, u162_94, u162_95, u162_96, u162_97, u162_98, u162_99, u162_100, u162_101, u162_104, u162_105, u162_106, c122, c113n, c153, bi_0, b2, h6, h1, h2, h3, not_true, not_false_eq_true, if_true, if_false, la_86, la_87, lt_87, lr_86_0, kLt, true_and, up_o, up_s, up_u, ud_s, ud_o, wI_d, o_aa, o_al, o_la, o_mm, o_ml, o_lm, o_ss, o_sl, o_ls, o_tn, o_tl, o_lt, o_ltl, o_llt, o_le, o_lel, o_lle, o_eq, o_eql, o_leq, o_inb, o_inl, o_neg, Nat.reduceLT, show 44 + 3 * n < 142 by omega, show 44 + 3 * n + 1 < 142 by omega, show 44 + 3 * n + 2 < 142 by omega]
          refine ⟨_, _, rfl, ?_, ?_, ?_⟩
          · simp (disch := decide) only [up_o]
          · simp (disch := decide) only [up_o]
          · refine Rel_now hR (by omega) ?_ (fun q g1 g2 g3 g4 g5 => by rw [up_o _ _ (by omega), up_o _ _ (by omega), up_o _ _ (by omega)]) (by simp (disch := decide) only [up_o]) (by simp (disch := decide) only [up_o]) ⟨rfl, rfl, rfl, rfl⟩
            unfold VR
            simp (disch := decide) only [up_s, up_o, Nat.reduceAdd]
            refine ⟨VT_M ra (fun k hk => ?_), VW_M rb (fun k hk => ?_), ⟨n + 1, by omega, ud_s .., ud_s .., fun k hk => ?_⟩, VY_M rd (fun k hk => ?_) (by omega), VP_M re (fun k hk => ?_) (by omega)⟩
            · rw [ud_o _ _ (by omega), ud_o _ _ (by omega), ud_o _ _ (by omega), ud_o _ _ (by omega)]
            · rw [ud_o _ _ (by omega), ud_o _ _ (by omega), ud_o _ _ (by omega), ud_o _ _ (by omega)]
            · by_cases hkn : k = n
              · subst hkn
                refine ⟨⟨t, by omega, ?_, ?_⟩, ⟨s, by omega, ?_, ?_⟩, ?_⟩ <;> simp (disch := omega) only [ud_o, ud_s]
              · simp (disch := omega) only [ud_o]
                exact b3 k (by omega)
            · rw [ud_o _ _ (by omega), ud_o _ _ (by omega), ud_o _ _ (by omega), ud_o _ _ (by omega)]
            · rw [ud_o _ _ (by omega), ud_o _ _ (by omega), ud_o _ _ (by omega), ud_o _ _ (by omega)]
      · simp (disch := decide) only [u87_0, u87_1, u87_2, u87_4, u87_7, u87_10, u87_11, u87_14, u87_17, u87_18, u87_19, u87_21, u87_24, u87_27, u87_28, u87_30, u87_33, u87_34, u87_35, u87_38, u87_41, u87_44, u87_47, u87_48, u87_50, u87_53, u87_54, u87_55, u87_58, u87_61, u87_62, u87_63, u87_64, u87_67, u87_68, u87_69, u87_72, u87_75, u87_78, c101, c100, c103b, bi_0, h1, h2, h3, not_true, not_false_eq_true, if_true, if_false, la_0, kLt, true_and]
        refine ⟨_, _, _, rfl, rfl, up_o _ _ (by decide), up_o _ _ (by decide), ?_⟩
        simp (disch := first | assumption | omega | decide | exact la_87 | exact la_88 | exact la_90 | exact la_91 | exact la_92 | exact la_93 | exact la_94 | exact la_95 | exact la_96 | exact la_97 | exact la_98 | exact la_99 | exact la_10 | exact la_23 | exact la_77 | exact la_78) only [u162_0, u162_1, u162_4, u162_7, u162_8, u162_11, u162_14, u162_15, u162_16, u162_17, u162_20, u162_23, u162_26, u162_27, u162_29, u162_32, u162_33, u162_34, u162_37, u162_38, u162_39, u162_41, u162_44, u162_45, u162_48, u162_49, u162_51, u162_52, u162_53, u162_56, u162_57, u162_58, u162_59, u162_60, u162_62, u162_63, u162_66, u162_68, u162_69, u162_70, u162_71, u162_74, u162_76, u162_77, u162_78, u162_79, u162_80, u162_81, u162_84, u162_86, u162_87, u162_88, u162_89, u162_90, u162_91, u162_94, u162_95, u162_96, u162_97, u162_98, u162_99, u162_100, u162_101, u162_104, u162_105, u162_106, c122, c113n, c153, c114, bi_0, h1, h2, h3, not_true, not_false_eq_true, if_true, if_false, la_86, kLt, true_and]
        exact fin_bad' hR
    · simp (disch := decide) only [u87_0, u87_1, u87_2, u87_4, u87_7, u87_10, u87_11, u87_14, u87_17, u87_18, u87_19, u87_21, u87_24, u87_27, u87_28, u87_30, u87_33, u87_34, u87_35, u87_38, u87_41, u87_44, u87_47, u87_48, u87_50, u87_53, u87_54, u87_55, u87_58, u87_61, u87_62, u87_63, u87_64, u87_67, u87_68, u87_69, u87_72, u87_75, u87_78, c101, c100, c103b, bi_0, h1, h2, not_true, not_false_eq_true, if_true, if_false, la_0, kLt, true_and]
      refine ⟨_, _, _, rfl, rfl, up_o _ _ (by decide), up_o _ _ (by decide), ?_⟩
      simp (disch := first | assumption | omega | decide | exact la_87 | exact la_88 | exact la_90 | exact la_91 | exact la_92 | exact la_93 | exact la_94 | exact la_95 | exact la_96 | exact la_97 | exact la_98 | exact la_99 | exact la_10 | exact la_23 | exact la_77 | exact la_78) only [u162_0, u162_1, u162_4, u162_7, u162_8, u162_11, u162_14, u162_15, u162_16, u162_17, u162_20, u162_23, u162_26, u162_27, u162_29, u162_32, u162_33, u162_34, u162_37, u162_38, u162_39, u162_41, u162_44, u162_45, u162_48, u162_49, u162_51, u162_52, u162_53, u162_56, u162_57, u162_58, u162_59, u162_60, u162_62, u162_63, u162_66, u162_68, u162_69, u162_70, u162_71, u162_74, u162_76, u162_77, u162_78, u162_79, u162_80, u162_81, u162_84, u162_86, u162_87, u162_88, u162_89, u162_90, u162_91, u162_94, u162_95, u162_96, u162_97, u162_98, u162_99, u162_100, u162_101, u162_104, u162_105, u162_106, c122, c113n, c153, c114, bi_0, h1, h2, not_true, not_false_eq_true, if_true, if_false, la_86, kLt, true_and]
      exact fin_bad' hR
  · simp (disch := decide) only [u87_0, u87_1, u87_2, u87_4, u87_7, u87_10, u87_11, u87_14, u87_17, u87_18, u87_19, u87_21, u87_24, u87_27, u87_28, u87_30, u87_33, u87_34, u87_35, u87_38, u87_41, u87_44, u87_47, u87_48, u87_50, u87_53, u87_54, u87_55, u87_58, u87_61, u87_62, u87_63, u87_64, u87_67, u87_68, u87_69, u87_72, u87_75, u87_78, c101, c100, c103b, bi_0, h1, not_true, not_false_eq_true, if_true, if_false, la_0, kLt, true_and]
    refine ⟨_, _, _, rfl, rfl, up_o _ _ (by decide), up_o _ _ (by decide), ?_⟩
    simp (disch := first | assumption | omega | decide | exact la_87 | exact la_88 | exact la_90 | exact la_91 | exact la_92 | exact la_93 | exact la_94 | exact la_95 | exact la_96 | exact la_97 | exact la_98 | exact la_99 | exact la_10 | exact la_23 | exact la_77 | exact la_78) only [u162_0, u162_1, u162_4, u162_7, u162_8, u162_11, u162_14, u162_15, u162_16, u162_17, u162_20, u162_23, u162_26, u162_27, u162_29, u162_32, u162_33, u162_34, u162_37, u162_38, u162_39, u162_41, u162_44, u162_45, u162_48, u162_49, u162_51, u162_52, u162_53, u162_56, u162_57, u162_58, u162_59, u162_60, u162_62, u162_63, u162_66, u162_68, u162_69, u162_70, u162_71, u162_74, u162_76, u162_77, u162_78, u162_79, u162_80, u162_81, u162_84, u162_86, u162_87, u162_88, u162_89, u162_90, u162_91, u162_94, u162_95, u162_96, u162_97, u162_98, u162_99, u162_100, u162_101, u162_104, u162_105, u162_106, c122, c113n, c153, c114, bi_0, h1, not_true, not_false_eq_true, if_true, if_false, la_86, kLt, true_and]
    exact fin_bad' hR
theorem op3 (a b c : Int32) : OpI 67 [.ref 0, .int a, .int b, .int c] 131 [.ref 86, .int a, .int b, .int c] := by
  intro I J B hR hB
  have hR0 := hR
  obtain ⟨⟨⟨n, hn, b1, b2, b3⟩, rb, rc, rd, re⟩, -⟩ := hR0
  by_cases h1 : 0 ≤ a ∧ a ≤ 5
  · by_cases h2 : 1 ≤ b ∧ b ≤ 9
    · by_cases h3 : 0 ≤ c ∧ c ≤ 7
      · obtain ⟨s, hs, rfl⟩ := o_in (m := 7) h3.1 h3.2 (by omega)
        obtain ⟨t, ht, rfl⟩ := o_in (m := 5) h1.1 h1.2 (by omega)
        obtain ⟨w, hw, rfl⟩ := o_in (m := 9) (Int32.le_trans (show (0 : Int32) ≤ 1 by decide) h2.1) h2.2 (by omega)
        have hw1 : 1 ≤ w := by
          have := h2.1
          rw [show (1 : Int32) = Int32.ofNat 1 from rfl, o_le (by omega) (by omega)] at this
          exact this
        by_cases h6 : n = 6
        · subst h6
          simp (disch := first | assumption | omega | decide | exact la_87 | exact la_88 | exact la_90 | exact la_91 | exact la_92 | exact la_93 | exact la_94 | exact la_95 | exact la_96 | exact la_97 | exact la_98 | exact la_99 | exact la_10 | exact la_23 | exact la_77 | exact la_78) only [u67_0, u67_1, u67_2, u67_3, u67_6, u67_9, u67_10, u67_11, u67_13, u67_16, u67_19, u67_20, u67_23, u67_26, u67_27, u67_29, u67_32, u67_33, u67_34, u67_37, u67_40, u67_43, u67_46, u67_47, u67_49, u67_52, u67_53, u67_54, u67_57, u67_60, u67_63, u67_64, u67_67, u67_70, u67_71, u67_72, u67_73, u67_76, c101, c100, c29 11 lisT_11, c103f, bi_0, b1, h1, h2, h3, not_true, not_false_eq_true, if_true, if_false, la_0, la_8, la_11, lr_0_0, lr_8_2, kLt, true_and, o_aa, o_al, o_la, o_mm, o_ml, o_lm, o_ss, o_sl, o_ls, o_tn, o_tl, o_lt, o_ltl, o_llt, o_le, o_lel, o_lle, o_eq, o_eql, o_leq, o_inb, o_inl, o_neg, Nat.lt_irrefl]
          refine ⟨_, _, _, rfl, rfl, up_o _ _ (by decide), up_o _ _ (by decide), ?_⟩
          simp (disch := first | assumption | omega | decide | exact la_87 | exact la_88 | exact la_90 | exact la_91 | exact la_92 | exact la_93 | exact la_94 | exact la_95 | exact la_96 | exact la_97 | exact la_98 | exact la_99 | exact la_10 | exact la_23 | exact la_77 | exact la_78) only [u131_0, u131_1, u131_2, u131_3, u131_6, u131_9, u131_12, u131_13, u131_14, u131_15, u131_18, u131_21, u131_24, u131_25, u131_28, u131_31, u131_32, u131_34, u131_37, u131_38, u131_39, u131_42, u131_44, u131_47, u131_48, u131_51, u131_52, u131_53, u131_56, u131_57, u131_58, u131_59, u131_62, u131_63, u131_66, u131_67, u131_68, u131_69, u131_70, u131_73, u131_74, u131_75, c122, c113n, c119, c116, bi_0, b2, h1, h2, h3, not_true, not_false_eq_true, if_true, if_false, la_86, kLt, true_and, up_o, o_aa, o_al, o_la, o_mm, o_ml, o_lm, o_ss, o_sl, o_ls, o_tn, o_tl, o_lt, o_ltl, o_llt, o_le, o_lel, o_lle, o_eq, o_eql, o_leq, o_inb, o_inl, o_neg]
          exact fin_full' hR
        · have hn6 : n < 6 := by omega
          have b1' : (va_up I 17 (upd (I 17) 4 0)) 11 1 = Int32.ofNat n := by rw [up_o _ _ (by decide)]; exact b1
          simp (disch := first | assumption | omega | decide | exact la_87 | exact la_88 | exact la_90 | exact la_91 | exact la_92 | exact la_93 | exact la_94 | exact la_95 | exact la_96 | exact la_97 | exact la_98 | exact la_99 | exact la_10 | exact la_23 | exact la_77 | exact la_78) only [u67_0, u67_1, u67_2, u67_3, u67_6, u67_9, u67_10, u67_11, u67_13, u67_16, u67_19, u67_20, u67_23, u67_26, u67_27, u67_29, u67_32, u67_33, u67_34, u67_37, u67_40, u67_43, u67_46, u67_47, u67_49, u67_52, u67_53, u67_54, u67_57, u67_60, u67_63, u67_64, u67_67, u67_70, u67_71, u67_72, u67_73, u67_76, c101, c100, c29 11 lisT_11, c9 17 lisP_17, c32 11 lisT_11 n hn6 b1', bi_0, b1, h1, h2, h3, hn6, not_true, not_false_eq_true, if_true, if_false, la_0, la_8, la_11, la_17, lr_0_0, lr_8_2, lr_8_5, kLt, true_and, o_aa, o_al, o_la, o_mm, o_ml, o_lm, o_ss, o_sl, o_ls, o_tn, o_tl, o_lt, o_ltl, o_llt, o_le, o_lel, o_lle, o_eq, o_eql, o_leq, o_inb, o_inl, o_neg, up_s, ud_s]
          refine ⟨_, _, _, rfl, rfl, ?_, ?_, ?_⟩
          · simp (disch := decide) only [up_o, Nat.reduceAdd]
          · simp (disch := decide) only [up_o, Nat.reduceAdd]
          simp (disch := decide) only [up_o, Nat.reduceAdd]
          have e1 : (va_up (va_up (va_up I 17 (upd (I 17) 4 0)) 12 (upd (upd (upd (I 12) (n * 3) (Int32.ofNat t)) (n * 3 + 1) (Int32.ofNat w)) (n * 3 + 2) (Int32.ofNat s))) 11 (upd (I 11) 1 (Int32.ofNat (n + 1)))) 87 0 = Int32.ofNat n := by
            simp (disch := decide) only [up_o]; exact b2
          simp (disch := first | assumption | omega | decide | exact la_87 | exact la_88 | exact la_90 | exact la_91 | exact la_92 | exact la_93 | exact la_94 | exact la_95 | exact la_96 | exact la_97 | exact la_98 | exact la_99 | exact la_10 | exact la_23 | exact la_77 | exact la_78) only [u131_0, u131_1, u131_2, u131_3, u131_6, u131_9, u131_12, u131_13, u131_14, u131_15, u131_18, u131_21, u131_24, u131_25, u131_28, u131_31, u131_32, u131_34, u131_37, u131_38, u131_39, u131_42, u131_44, u131_47, u131_48, u131_51, u131_52, u131_53, u131_56, u131_57, u131_58, u131_59, u131_62, u131_63, u131_66, u131_67, u131_68, u131_69, u131_70, u131_73, u131_74, u131_75, c122, c113n, c119, c130 87 la_87 (by decide) n hn6 e1, bi_0, e1, h6, h1, h2, h3, not_true, not_false_eq_true, if_true, if_false, la_86, la_87, lt_87, lr_86_0, kLt, true_and, up_o, up_s, up_u, ud_s, ud_o, wI_d, o_aa, o_al, o_la, o_mm, o_ml, o_lm, o_ss, o_sl, o_ls, o_tn, o_tl, o_lt, o_ltl, o_llt, o_le, o_lel, o_lle, o_eq, o_eql, o_leq, o_inb, o_inl, o_neg, Nat.add_sub_cancel, Nat.reduceLT]
          refine ⟨_, _, rfl, ?_, ?_, ?_⟩
          · simp (disch := decide) only [up_o]
          · simp (disch := decide) only [up_o]
          · refine Rel_now hR (by omega) ?_ (fun q g1 g2 g3 g4 g5 => by rw [up_o _ _ (by omega), up_o _ _ (by omega), up_o _ _ (by omega), up_o _ _ (by omega)]) (by simp (disch := decide) only [up_o]) (by simp (disch := decide) only [up_o]) ⟨rfl, rfl, rfl, rfl⟩
            unfold VR
            simp (disch := decide) only [up_s, up_o, Nat.reduceAdd]
            obtain ⟨o, u, ho, hu, f1, f2, f3, f4⟩ := re
            refine ⟨⟨n + 1, by omega, ud_s .., by rw [ud_o _ _ (by omega), ud_s], fun k hk => ?_⟩, VW_M rb (fun k hk => ?_), VM_M rc (fun k hk => ?_), VY_M rd (fun k hk => ?_) (by omega), ⟨o, 0, ho, by omega, by rw [ud_o _ _ (by omega)]; exact f1, ud_s .., ud_s .., fun k hk => absurd hk (by omega)⟩⟩
            · by_cases hkn : k = n
              · subst hkn
                refine ⟨⟨t, by omega, ?_, ?_⟩, ⟨w, hw1, by omega, ?_, ?_⟩, ⟨s, by omega, ?_, ?_⟩⟩ <;> simp (disch := omega) only [ud_o, ud_s]
              · simp (disch := omega) only [ud_o]
                exact b3 k (by omega)
            · simp (disch := omega) only [ud_o]
            · simp (disch := omega) only [ud_o]
            · simp (disch := omega) only [ud_o]
      · simp (disch := decide) only [u67_0, u67_1, u67_2, u67_3, u67_6, u67_9, u67_10, u67_11, u67_13, u67_16, u67_19, u67_20, u67_23, u67_26, u67_27, u67_29, u67_32, u67_33, u67_34, u67_37, u67_40, u67_43, u67_46, u67_47, u67_49, u67_52, u67_53, u67_54, u67_57, u67_60, u67_63, u67_64, u67_67, u67_70, u67_71, u67_72, u67_73, u67_76, c101, c100, c103b, bi_0, h1, h2, h3, not_true, not_false_eq_true, if_true, if_false, la_0, kLt, true_and]
        refine ⟨_, _, _, rfl, rfl, up_o _ _ (by decide), up_o _ _ (by decide), ?_⟩
        simp (disch := first | assumption | omega | decide | exact la_87 | exact la_88 | exact la_90 | exact la_91 | exact la_92 | exact la_93 | exact la_94 | exact la_95 | exact la_96 | exact la_97 | exact la_98 | exact la_99 | exact la_10 | exact la_23 | exact la_77 | exact la_78) only [u131_0, u131_1, u131_2, u131_3, u131_6, u131_9, u131_12, u131_13, u131_14, u131_15, u131_18, u131_21, u131_24, u131_25, u131_28, u131_31, u131_32, u131_34, u131_37, u131_38, u131_39, u131_42, u131_44, u131_47, u131_48, u131_51, u131_52, u131_53, u131_56, u131_57, u131_58, u131_59, u131_62, u131_63, u131_66, u131_67, u131_68, u131_69, u131_70, u131_73, u131_74, u131_75, c122, c113n, c114, bi_0, h1, h2, h3, not_true, not_false_eq_true, if_true, if_false, la_86, kLt, true_and]
        exact fin_bad' hR
    · simp (disch := decide) only [u67_0, u67_1, u67_2, u67_3, u67_6, u67_9, u67_10, u67_11, u67_13, u67_16, u67_19, u67_20, u67_23, u67_26, u67_27, u67_29, u67_32, u67_33, u67_34, u67_37, u67_40, u67_43, u67_46, u67_47, u67_49, u67_52, u67_53, u67_54, u67_57, u67_60, u67_63, u67_64, u67_67, u67_70, u67_71, u67_72, u67_73, u67_76, c101, c100, c103b, bi_0, h1, h2, not_true, not_false_eq_true, if_true, if_false, la_0, kLt, true_and]
      refine ⟨_, _, _, rfl, rfl, up_o _ _ (by decide), up_o _ _ (by decide), ?_⟩
      simp (disch := first | assumption | omega | decide | exact la_87 | exact la_88 | exact la_90 | exact la_91 | exact la_92 | exact la_93 | exact la_94 | exact la_95 | exact la_96 | exact la_97 | exact la_98 | exact la_99 | exact la_10 | exact la_23 | exact la_77 | exact la_78) only [u131_0, u131_1, u131_2, u131_3, u131_6, u131_9, u131_12, u131_13, u131_14, u131_15, u131_18, u131_21, u131_24, u131_25, u131_28, u131_31, u131_32, u131_34, u131_37, u131_38, u131_39, u131_42, u131_44, u131_47, u131_48, u131_51, u131_52, u131_53, u131_56, u131_57, u131_58, u131_59, u131_62, u131_63, u131_66, u131_67, u131_68, u131_69, u131_70, u131_73, u131_74, u131_75, c122, c113n, c114, bi_0, h1, h2, not_true, not_false_eq_true, if_true, if_false, la_86, kLt, true_and]
      exact fin_bad' hR
  · simp (disch := decide) only [u67_0, u67_1, u67_2, u67_3, u67_6, u67_9, u67_10, u67_11, u67_13, u67_16, u67_19, u67_20, u67_23, u67_26, u67_27, u67_29, u67_32, u67_33, u67_34, u67_37, u67_40, u67_43, u67_46, u67_47, u67_49, u67_52, u67_53, u67_54, u67_57, u67_60, u67_63, u67_64, u67_67, u67_70, u67_71, u67_72, u67_73, u67_76, c101, c100, c103b, bi_0, h1, not_true, not_false_eq_true, if_true, if_false, la_0, kLt, true_and]
    refine ⟨_, _, _, rfl, rfl, up_o _ _ (by decide), up_o _ _ (by decide), ?_⟩
    simp (disch := first | assumption | omega | decide | exact la_87 | exact la_88 | exact la_90 | exact la_91 | exact la_92 | exact la_93 | exact la_94 | exact la_95 | exact la_96 | exact la_97 | exact la_98 | exact la_99 | exact la_10 | exact la_23 | exact la_77 | exact la_78) only [u131_0, u131_1, u131_2, u131_3, u131_6, u131_9, u131_12, u131_13, u131_14, u131_15, u131_18, u131_21, u131_24, u131_25, u131_28, u131_31, u131_32, u131_34, u131_37, u131_38, u131_39, u131_42, u131_44, u131_47, u131_48, u131_51, u131_52, u131_53, u131_56, u131_57, u131_58, u131_59, u131_62, u131_63, u131_66, u131_67, u131_68, u131_69, u131_70, u131_73, u131_74, u131_75, c122, c113n, c114, bi_0, h1, not_true, not_false_eq_true, if_true, if_false, la_86, kLt, true_and]
    exact fin_bad' hR
theorem op30 (a : Int32) : OpL 94 [.ref 0, .int a] 187 [.ref 86, .int a] := by
  intro I J B hR hB
  have hJ := hR.2.2.2.2.1
  by_cases h : 0 ≤ a ∧ a ≤ 1
  · obtain ⟨k, hk, rfl⟩ := o_in (m := 1) h.1 h.2 (by omega)
    obtain rfl | rfl : k = 0 ∨ k = 1 := by omega
    · rw [show Int32.ofNat 0 = 0 from rfl] at *
      simp (disch := decide) only [u94_0, u94_1, u94_2, u94_3, u94_6, u94_9, u94_10, u94_12, u94_15, u94_16, u94_17, u94_18, u94_21, u94_22, u94_25, u94_28, u94_29, u94_32, c100, bi_0, h, not_true, not_false_eq_true, if_true, if_false, la_0, kLt, true_and]
      refine ⟨_, _, _, rfl, rfl, rfl, rfl, ?_⟩
      simp (disch := decide) only [u187_0, u187_1, u187_4, u187_5, u187_8, u187_11, u187_12, u187_13, u187_16, u187_17, u187_20, u187_23, u187_24, u187_26, u187_29, u187_30, not_true, not_false_eq_true, if_true, if_false, la_86, kLt, true_and]
      exact ⟨I, J, by rw [hJ.1], rfl, rfl, rfl, Rel_le hR (by omega)⟩
    · rw [show Int32.ofNat 1 = 1 from rfl] at *
      simp (disch := decide) only [u94_0, u94_1, u94_2, u94_3, u94_6, u94_9, u94_10, u94_12, u94_15, u94_16, u94_17, u94_18, u94_21, u94_22, u94_25, u94_28, u94_29, u94_32, c100, bi_0, h, not_true, not_false_eq_true, if_true, if_false, la_0, kLt, true_and, show ¬ (1 : Int32) = 0 by decide]
      refine ⟨_, _, _, rfl, rfl, rfl, rfl, ?_⟩
      simp (disch := decide) only [u187_0, u187_1, u187_4, u187_5, u187_8, u187_11, u187_12, u187_13, u187_16, u187_17, u187_20, u187_23, u187_24, u187_26, u187_29, u187_30, not_true, not_false_eq_true, if_true, if_false, la_86, kLt, true_and, show ¬ (1 : Int32) = 0 by decide]
      exact ⟨I, J, by rw [hJ.2], rfl, rfl, rfl, Rel_le hR (by omega)⟩
  · have h0 : ¬ a = 0 := by rintro rfl; exact h (by decide)
    have h1 : ¬ a = 1 := by rintro rfl; exact h (by decide)
    simp (disch := decide) only [u94_0, u94_1, u94_2, u94_3, u94_6, u94_9, u94_10, u94_12, u94_15, u94_16, u94_17, u94_18, u94_21, u94_22, u94_25, u94_28, u94_29, u94_32, c100, c103b, bi_0, h, not_true, not_false_eq_true, if_true, if_false, la_0, kLt, true_and]
    refine ⟨_, _, _, rfl, rfl, up_o _ _ (by decide), up_o _ _ (by decide), ?_⟩
    simp (disch := decide) only [u187_0, u187_1, u187_4, u187_5, u187_8, u187_11, u187_12, u187_13, u187_16, u187_17, u187_20, u187_23, u187_24, u187_26, u187_29, u187_30, c114, h0, h1, not_true, not_false_eq_true, if_true, if_false, la_86, kLt, true_and]
    exact fin_bad' hR
theorem nar_b {c : Nat} (h : c < 128) : vp_nar .byte (Int32.ofNat c).toInt8.toInt32 = Int32.ofNat c := by
  have : ∀ c, c < 128 → vp_nar .byte (Int32.ofNat c).toInt8.toInt32 = Int32.ofNat c := by decide +kernel
  exact this c h
theorem op6 (a : Int32) : OpI 70 [.ref 0, .int a] 173 [.ref 86, .int a] := by
  intro I J B hR hB
  obtain ⟨z, hz, d1, d2, d3⟩ := hR.2.2.2.1
  have c16 : ∀ {m pc ls st Q}, Ca 16 [.ref 62] (Sg I J) m pc ls st Q ↔ Rn m pc ls (.int (bi (¬ z < 150)) :: st) (Sg I J) Q := Ca_of (r := some (.int (bi (¬ z < 150)))) (fun Q h => by
    simp (disch := first | assumption | omega | decide | exact la_87 | exact la_88 | exact la_90 | exact la_91 | exact la_92 | exact la_93 | exact la_94 | exact la_95 | exact la_96 | exact la_97 | exact la_98 | exact la_99 | exact la_10 | exact la_23 | exact la_77 | exact la_78) only [u16_0, u16_1, u16_4, u16_7, u16_10, u16_11, u16_14, u16_15, la_62, kLt, true_and, d1, o_aa, o_al, o_la, o_mm, o_ml, o_lm, o_ss, o_sl, o_ls, o_tn, o_tl, o_lt, o_ltl, o_llt, o_le, o_lel, o_lle, o_eq, o_eql, o_leq, o_inb, o_inl, o_neg]
    unfold bi at h
    by_cases h1 : z < 150 <;> simp [h1] at h ⊢ <;> exact h)
  by_cases h : 0 ≤ a ∧ a ≤ 127
  · obtain ⟨c, hc, rfl⟩ := o_in (m := 127) h.1 h.2 (by omega)
    by_cases h6 : z = 150
    · subst h6
      simp (disch := first | assumption | omega | decide | exact la_87 | exact la_88 | exact la_90 | exact la_91 | exact la_92 | exact la_93 | exact la_94 | exact la_95 | exact la_96 | exact la_97 | exact la_98 | exact la_99 | exact la_10 | exact la_23 | exact la_77 | exact la_78) only [u70_0, u70_1, u70_2, u70_4, u70_7, u70_10, u70_11, u70_13, u70_16, u70_17, u70_18, u70_21, u70_24, u70_27, u70_28, u70_30, u70_33, u70_34, u70_35, u70_38, u70_39, u70_42, c100, c16, c103f, bi_0, h, not_true, not_false_eq_true, if_true, if_false, la_0, la_62, lr_0_4, kLt, true_and, Nat.lt_irrefl]
      refine ⟨_, _, _, rfl, rfl, up_o _ _ (by decide), up_o _ _ (by decide), ?_⟩
      simp (disch := first | assumption | omega | decide | exact la_87 | exact la_88 | exact la_90 | exact la_91 | exact la_92 | exact la_93 | exact la_94 | exact la_95 | exact la_96 | exact la_97 | exact la_98 | exact la_99 | exact la_10 | exact la_23 | exact la_77 | exact la_78) only [u173_0, u173_1, u173_2, u173_3, u173_6, u173_9, u173_12, u173_13, u173_15, u173_18, u173_19, u173_20, u173_23, u173_26, u173_29, u173_30, u173_33, u173_34, u173_35, u173_38, u173_39, u173_42, u173_43, u173_44, u173_45, u173_46, u173_49, u173_50, u173_51, u173_54, u173_55, u173_58, c113n, c116, bi_0, d2, h, not_true, not_false_eq_true, if_true, if_false, la_86, kLt, true_and, up_o, o_aa, o_al, o_la, o_mm, o_ml, o_lm, o_ss, o_sl, o_ls, o_tn, o_tl, o_lt, o_ltl, o_llt, o_le, o_lel, o_lle, o_eq, o_eql, o_leq, o_inb, o_inl, o_neg]
      exact fin_full' hR
    · have hz6 : z < 150 := by omega
      simp (disch := first | assumption | omega | decide | exact la_87 | exact la_88 | exact la_90 | exact la_91 | exact la_92 | exact la_93 | exact la_94 | exact la_95 | exact la_96 | exact la_97 | exact la_98 | exact la_99 | exact la_10 | exact la_23 | exact la_77 | exact la_78) only [u70_0, u70_1, u70_2, u70_4, u70_7, u70_10, u70_11, u70_13, u70_16, u70_17, u70_18, u70_21, u70_24, u70_27, u70_28, u70_30, u70_33, u70_34, u70_35, u70_38, u70_39, u70_42, c100, c16, bi_0, h, hz6, not_true, not_false_eq_true, if_true, if_false, la_0, la_62, lr_0_4, kLt, true_and]
      unfold Ca
      simp (disch := first | assumption | omega | decide | exact la_87 | exact la_88 | exact la_90 | exact la_91 | exact la_92 | exact la_93 | exact la_94 | exact la_95 | exact la_96 | exact la_97 | exact la_98 | exact la_99 | exact la_10 | exact la_23 | exact la_77 | exact la_78) only [u17_0, u17_1, u17_4, u17_7, u17_8, u17_11, u17_12, u17_15, u17_16, c16, bi_0, hz6, not_true, not_false_eq_true, if_true, if_false, la_62, lr_62_1, kLt, true_and, d1]
      rw [(u17_17 _ _ _ _ _ _ _ _).1 la_76]
      simp (disch := first | assumption | omega | decide | exact la_87 | exact la_88 | exact la_90 | exact la_91 | exact la_92 | exact la_93 | exact la_94 | exact la_95 | exact la_96 | exact la_97 | exact la_98 | exact la_99 | exact la_10 | exact la_23 | exact la_77 | exact la_78) only [u17_18, u17_19, u17_20, u17_23, u17_24, u17_25, u17_28, u17_29, u17_32, lt_76, hz6, nar_b (show c < 128 by omega), la_62, kLt, true_and, d1, wI_d, up_o, up_s, ud_s, o_aa, o_al, o_la, o_mm, o_ml, o_lm, o_ss, o_sl, o_ls, o_tn, o_tl, o_lt, o_ltl, o_llt, o_le, o_lel, o_lle, o_eq, o_eql, o_leq, o_inb, o_inl, o_neg, u70_42, Option.toList, List.cons_append, List.nil_append]
      refine ⟨_, _, _, rfl, rfl, ?_, ?_, ?_⟩
      · simp (disch := decide) only [up_o]
      · simp (disch := decide) only [up_o]
      simp (disch := first | assumption | omega | decide | exact la_87 | exact la_88 | exact la_90 | exact la_91 | exact la_92 | exact la_93 | exact la_94 | exact la_95 | exact la_96 | exact la_97 | exact la_98 | exact la_99 | exact la_10 | exact la_23 | exact la_77 | exact la_78) only [u173_0, u173_1, u173_2, u173_3, u173_6, u173_9, u173_12, u173_13, u173_15, u173_18, u173_19, u173_20, u173_23, u173_26, u173_29, u173_30, u173_33, u173_34, u173_35, u173_38, u173_39, u173_42, u173_43, u173_44, u173_45, u173_46, u173_49, u173_50, u173_51, u173_54, u173_55, u173_58, c113n, bi_0, d2, h, h6, not_true, not_false_eq_true, if_true, if_false, la_86, la_97, lt_97, lr_86_14, kLt, true_and, up_o, up_s, ud_s, wI_d, o_aa, o_al, o_la, o_mm, o_ml, o_lm, o_ss, o_sl, o_ls, o_tn, o_tl, o_lt, o_ltl, o_llt, o_le, o_lel, o_lle, o_eq, o_eql, o_leq, o_inb, o_inl, o_neg, hz6]
      refine ⟨_, _, rfl, ?_, ?_, ?_⟩
      · simp (disch := decide) only [up_o]
      · simp (disch := decide) only [up_o]
      · refine Rel_txt hR (fun q h1 h2 h3 h4 => by rw [up_o _ _ (by omega), up_o _ _ (by omega), up_o _ _ (by omega), up_o _ _ (by omega)]) ⟨z + 1, by omega, ?_, ?_, fun k hk => ?_⟩
        · simp (disch := decide) only [up_o, up_s, ud_s]
        · simp (disch := decide) only [up_o, up_s, ud_s]
        · simp (disch := decide) only [up_o, up_s]
          by_cases hkz : k = z
          · subst hkz
            exact ⟨c, by omega, ud_s .., ud_s ..⟩
          · rw [ud_o _ _ hkz, ud_o _ _ hkz]
            exact d3 k (by omega)
  · simp (disch := decide) only [u70_0, u70_1, u70_2, u70_4, u70_7, u70_10, u70_11, u70_13, u70_16, u70_17, u70_18, u70_21, u70_24, u70_27, u70_28, u70_30, u70_33, u70_34, u70_35, u70_38, u70_39, u70_42, c100, c103b, bi_0, h, not_true, not_false_eq_true, if_true, if_false, la_0, kLt, true_and]
    refine ⟨_, _, _, rfl, rfl, up_o _ _ (by decide), up_o _ _ (by decide), ?_⟩
    simp (disch := first | assumption | omega | decide | exact la_87 | exact la_88 | exact la_90 | exact la_91 | exact la_92 | exact la_93 | exact la_94 | exact la_95 | exact la_96 | exact la_97 | exact la_98 | exact la_99 | exact la_10 | exact la_23 | exact la_77 | exact la_78) only [u173_0, u173_1, u173_2, u173_3, u173_6, u173_9, u173_12, u173_13, u173_15, u173_18, u173_19, u173_20, u173_23, u173_26, u173_29, u173_30, u173_33, u173_34, u173_35, u173_38, u173_39, u173_42, u173_43, u173_44, u173_45, u173_46, u173_49, u173_50, u173_51, u173_54, u173_55, u173_58, c113n, c114, bi_0, h, not_true, not_false_eq_true, if_true, if_false, la_86, kLt, true_and]
    exact fin_bad' hR
