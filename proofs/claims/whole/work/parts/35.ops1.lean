/-! THE CALLS: work, measured, team, part -/
section LAY
variable {m pc : Nat} {ls st : Vs} {I : Nat → Nat → Int32} {J : Nat → Nat → Int64} {Q : Option Value → Sto → Prop}
theorem c132 (a : Nat) (ha : kA a 20) (hl : 62 ≤ (tg a).2) (n : Nat) (hn : n < 6) (en : I a 1 = Int32.ofNat n) (s w : Int32) : Ca 132 [.ref a, .int s, .int w] (Sg I J) m pc ls st Q ↔ Rn m pc ls st (Sg (va_up I a (upd (upd (upd (I a) (32 + 2 * n) s) (32 + 2 * n + 1) w) 1 (Int32.ofNat (n + 1)))) J) Q := Ca_of (r := none) (fun Q h => by
  have hL : kL a := Or.inl (Nat.lt_trans ha.1 (by omega))
  have h1 : 1 < (tg a).2 := by omega
  have h2 : 32 + 2 * n < (tg a).2 := by omega
  have h3 : 32 + 2 * n + 1 < (tg a).2 := by omega
  simp (disch := first | assumption | omega | decide | exact la_87 | exact la_88 | exact la_90 | exact la_91 | exact la_92 | exact la_93 | exact la_94 | exact la_95 | exact la_96 | exact la_97 | exact la_98 | exact la_99 | exact la_10 | exact la_23 | exact la_77 | exact la_78) only [u132_0, u132_1, u132_3, u132_4, u132_5, u132_6, u132_7, u132_8, u132_9, u132_10, u132_11, u132_12, u132_14, u132_15, u132_16, u132_17, u132_18, u132_19, u132_20, u132_21, u132_22, u132_23, u132_24, u132_25, u132_26, u132_27, u132_28, u132_29, u132_30, u132_31, ha, hL, true_and, en, o_aa, o_al, o_la, o_mm, o_ml, o_lm, o_ss, o_sl, o_ls, o_tn, o_tl, o_lt, o_ltl, o_llt, o_le, o_lel, o_lle, o_eq, o_eql, o_leq, o_inb, o_inl, o_neg, h1, h2, h3, wI_d, up_s, up_u, ud_o]
  exact h)
theorem c130 (a : Nat) (ha : kA a 20) (hl : 62 ≤ (tg a).2) (n : Nat) (hn : n < 6) (en : I a 0 = Int32.ofNat n) (x y z : Int32) : Ca 130 [.ref a, .int x, .int y, .int z, .null] (Sg I J) m pc ls st Q ↔ Rn m pc ls st (Sg (va_up I a (upd (upd (upd (upd (I a) (14 + 3 * n) x) (14 + 3 * n + 1) y) (14 + 3 * n + 2) z) 0 (Int32.ofNat (n + 1)))) J) Q := Ca_of (r := none) (fun Q h => by
  have hL : kL a := Or.inl (Nat.lt_trans ha.1 (by omega))
  have h1 : 0 < (tg a).2 := by omega
  have h2 : 14 + 3 * n < (tg a).2 := by omega
  have h3 : 14 + 3 * n + 1 < (tg a).2 := by omega
  have h4 : 14 + 3 * n + 2 < (tg a).2 := by omega
  simp (disch := first | assumption | omega | decide | exact la_87 | exact la_88 | exact la_90 | exact la_91 | exact la_92 | exact la_93 | exact la_94 | exact la_95 | exact la_96 | exact la_97 | exact la_98 | exact la_99 | exact la_10 | exact la_23 | exact la_77 | exact la_78) only [u130_0, u130_2, u130_3, u130_4, u130_5, u130_6, u130_7, u130_8, u130_10, u130_11, u130_13, u130_14, u130_15, u130_16, u130_17, u130_18, u130_20, u130_21, u130_22, u130_23, u130_24, u130_25, u130_27, u130_28, u130_29, u130_30, u130_31, u130_32, u130_33, u130_34, u130_35, u130_36, u130_37, u130_38, ha, hL, true_and, en, o_aa, o_al, o_la, o_mm, o_ml, o_lm, o_ss, o_sl, o_ls, o_tn, o_tl, o_lt, o_ltl, o_llt, o_le, o_lel, o_lle, o_eq, o_eql, o_leq, o_inb, o_inl, o_neg, h1, h2, h3, h4, wI_d, up_s, up_u, ud_o, Nat.add_zero]
  exact h)
theorem c153 (x : Int32) : Ca 153 [.int x] (Sg I J) m pc ls st Q ↔ Rn m pc ls (.int (bi (0 ≤ x ∧ x ≤ 20)) :: st) (Sg I J) Q := by
  unfold Ca
  simp (disch := first | assumption | omega | decide | exact la_87 | exact la_88 | exact la_90 | exact la_91 | exact la_92 | exact la_93 | exact la_94 | exact la_95 | exact la_96 | exact la_97 | exact la_98 | exact la_99 | exact la_10 | exact la_23 | exact la_77 | exact la_78) only [u153_0, u153_1, u153_2, u153_3, u153_6, u153_9, c113n, bi_1, true_and]
  rfl
end LAY
theorem op4 (a b : Int32) : OpI 68 [.ref 0, .int a, .int b] 133 [.ref 86, .int a, .int b] := by
  intro I J B hR hB
  have hR0 := hR
  obtain ⟨⟨ra, ⟨n, hn, b1, b2, b3⟩, rc, rd, re⟩, -⟩ := hR0
  by_cases h1 : 0 ≤ a ∧ a ≤ 7
  · by_cases h2 : 1 ≤ b ∧ b ≤ 60
    · obtain ⟨s, hs, rfl⟩ := o_in (m := 7) h1.1 h1.2 (by omega)
      by_cases h6 : n = 6
      · subst h6
        simp (disch := first | assumption | omega | decide | exact la_87 | exact la_88 | exact la_90 | exact la_91 | exact la_92 | exact la_93 | exact la_94 | exact la_95 | exact la_96 | exact la_97 | exact la_98 | exact la_99 | exact la_10 | exact la_23 | exact la_77 | exact la_78) only [u68_0, u68_1, u68_4, u68_7, u68_8, u68_9, u68_11, u68_14, u68_17, u68_18, u68_20, u68_23, u68_24, u68_25, u68_28, u68_31, u68_34, u68_37, u68_38, u68_40, u68_43, u68_44, u68_45, u68_48, u68_51, u68_52, u68_53, u68_54, u68_57, c101, c100, c29 13 lisT_13, c103f, bi_0, b1, h1, h2, not_true, not_false_eq_true, if_true, if_false, la_0, la_8, la_13, lr_0_0, lr_8_3, kLt, true_and, o_aa, o_al, o_la, o_mm, o_ml, o_lm, o_ss, o_sl, o_ls, o_tn, o_tl, o_lt, o_ltl, o_llt, o_le, o_lel, o_lle, o_eq, o_eql, o_leq, o_inb, o_inl, o_neg, Nat.lt_irrefl]
        refine ⟨_, _, _, rfl, rfl, up_o _ _ (by decide), up_o _ _ (by decide), ?_⟩
        simp (disch := first | assumption | omega | decide | exact la_87 | exact la_88 | exact la_90 | exact la_91 | exact la_92 | exact la_93 | exact la_94 | exact la_95 | exact la_96 | exact la_97 | exact la_98 | exact la_99 | exact la_10 | exact la_23 | exact la_77 | exact la_78) only [u133_0, u133_1, u133_4, u133_7, u133_8, u133_9, u133_10, u133_13, u133_16, u133_19, u133_20, u133_22, u133_25, u133_26, u133_27, u133_30, u133_32, u133_35, u133_36, u133_39, u133_40, u133_41, u133_44, u133_45, u133_46, u133_49, u133_50, u133_53, u133_54, u133_55, c122, c113n, c120, c116, bi_0, b2, h1, h2, not_true, not_false_eq_true, if_true, if_false, la_86, kLt, true_and, up_o, o_aa, o_al, o_la, o_mm, o_ml, o_lm, o_ss, o_sl, o_ls, o_tn, o_tl, o_lt, o_ltl, o_llt, o_le, o_lel, o_lle, o_eq, o_eql, o_leq, o_inb, o_inl, o_neg]
        exact fin_full' hR
      · have hn6 : n < 6 := by omega
        simp (disch := first | assumption | omega | decide | exact la_87 | exact la_88 | exact la_90 | exact la_91 | exact la_92 | exact la_93 | exact la_94 | exact la_95 | exact la_96 | exact la_97 | exact la_98 | exact la_99 | exact la_10 | exact la_23 | exact la_77 | exact la_78) only [u68_0, u68_1, u68_4, u68_7, u68_8, u68_9, u68_11, u68_14, u68_17, u68_18, u68_20, u68_23, u68_24, u68_25, u68_28, u68_31, u68_34, u68_37, u68_38, u68_40, u68_43, u68_44, u68_45, u68_48, u68_51, u68_52, u68_53, u68_54, u68_57, c101, c100, c29 13 lisT_13, c32 13 lisT_13 n hn6 b1, bi_0, b1, h1, h2, hn6, not_true, not_false_eq_true, if_true, if_false, la_0, la_8, la_13, lr_0_0, lr_8_3, kLt, true_and, o_aa, o_al, o_la, o_mm, o_ml, o_lm, o_ss, o_sl, o_ls, o_tn, o_tl, o_lt, o_ltl, o_llt, o_le, o_lel, o_lle, o_eq, o_eql, o_leq, o_inb, o_inl, o_neg]
        refine ⟨_, _, _, rfl, rfl, (up_o _ _ (by decide)).trans (up_o _ _ (by decide)), (up_o _ _ (by decide)).trans (up_o _ _ (by decide)), ?_⟩
        have e1 : (va_up (va_up I (13 + 1) (upd (upd (upd (I (13 + 1)) (n * 3) (Int32.ofNat s)) (n * 3 + 1) b) (n * 3 + 2) 0)) 13 (upd (I 13) 1 (Int32.ofNat (n + 1)))) 87 1 = Int32.ofNat n := by
          rw [up_o _ _ (by decide), up_o _ _ (by decide)]; exact b2
        simp (disch := first | assumption | omega | decide | exact la_87 | exact la_88 | exact la_90 | exact la_91 | exact la_92 | exact la_93 | exact la_94 | exact la_95 | exact la_96 | exact la_97 | exact la_98 | exact la_99 | exact la_10 | exact la_23 | exact la_77 | exact la_78) only [u133_0, u133_1, u133_4, u133_7, u133_8, u133_9, u133_10, u133_13, u133_16, u133_19, u133_20, u133_22, u133_25, u133_26, u133_27, u133_30, u133_32, u133_35, u133_36, u133_39, u133_40, u133_41, u133_44, u133_45, u133_46, u133_49, u133_50, u133_53, u133_54, u133_55, c122, c113n, c120, c132 87 la_87 (by decide) n hn6 e1, bi_0, e1, h6, h1, h2, not_true, not_false_eq_true, if_true, if_false, la_86, lr_86_0, kLt, true_and, up_o, up_s, ud_s, o_aa, o_al, o_la, o_mm, o_ml, o_lm, o_ss, o_sl, o_ls, o_tn, o_tl, o_lt, o_ltl, o_llt, o_le, o_lel, o_lle, o_eq, o_eql, o_leq, o_inb, o_inl, o_neg, Nat.add_sub_cancel]
        refine ⟨_, _, rfl, ?_, ?_, ?_⟩
        · simp (disch := decide) only [up_o]
        · simp (disch := decide) only [up_o]
        · refine Rel_now hR (by omega) ?_ (fun q g1 g2 g3 g4 g5 => by rw [up_o _ _ (by omega), up_o _ _ (by omega), up_o _ _ (by omega)]) (by simp (disch := decide) only [up_o]) (by simp (disch := decide) only [up_o]) ⟨rfl, rfl, rfl, rfl⟩
          unfold VR
          simp (disch := decide) only [up_s, up_o, Nat.reduceAdd]
          refine ⟨VT_M ra (fun k hk => ?_), ⟨n + 1, by omega, ud_s .., ud_s .., fun k hk => ?_⟩, VM_M rc (fun k hk => ?_), VY_M rd (fun k hk => ?_) (by omega), VP_M re (fun k hk => ?_) (by omega)⟩
          · rw [ud_o _ _ (by omega), ud_o _ _ (by omega), ud_o _ _ (by omega)]
          · by_cases hkn : k = n
            · subst hkn
              refine ⟨⟨s, by omega, ?_, ?_⟩, ?_⟩
              · rw [ud_o _ _ (by omega), ud_o _ _ (by omega), ud_s]
              · rw [ud_o _ _ (by omega), ud_o _ _ (by omega), ud_s]
              · rw [ud_o _ _ (by omega), ud_s, ud_o _ _ (by omega), ud_s]
            · rw [ud_o _ _ (by omega), ud_o _ _ (by omega), ud_o _ _ (by omega), ud_o _ _ (by omega), ud_o _ _ (by omega), ud_o _ _ (by omega), ud_o _ _ (by omega), ud_o _ _ (by omega), ud_o _ _ (by omega), ud_o _ _ (by omega), ud_o _ _ (by omega), ud_o _ _ (by omega)]
              exact b3 k (by omega)
          · rw [ud_o _ _ (by omega), ud_o _ _ (by omega), ud_o _ _ (by omega)]
          · rw [ud_o _ _ (by omega), ud_o _ _ (by omega), ud_o _ _ (by omega)]
          · rw [ud_o _ _ (by omega), ud_o _ _ (by omega), ud_o _ _ (by omega)]
    · simp (disch := decide) only [u68_0, u68_1, u68_4, u68_7, u68_8, u68_9, u68_11, u68_14, u68_17, u68_18, u68_20, u68_23, u68_24, u68_25, u68_28, u68_31, u68_34, u68_37, u68_38, u68_40, u68_43, u68_44, u68_45, u68_48, u68_51, u68_52, u68_53, u68_54, u68_57, c101, c100, c103b, bi_0, h1, h2, not_true, not_false_eq_true, if_true, if_false, la_0, kLt, true_and]
      refine ⟨_, _, _, rfl, rfl, up_o _ _ (by decide), up_o _ _ (by decide), ?_⟩
      simp (disch := first | assumption | omega | decide | exact la_87 | exact la_88 | exact la_90 | exact la_91 | exact la_92 | exact la_93 | exact la_94 | exact la_95 | exact la_96 | exact la_97 | exact la_98 | exact la_99 | exact la_10 | exact la_23 | exact la_77 | exact la_78) only [u133_0, u133_1, u133_4, u133_7, u133_8, u133_9, u133_10, u133_13, u133_16, u133_19, u133_20, u133_22, u133_25, u133_26, u133_27, u133_30, u133_32, u133_35, u133_36, u133_39, u133_40, u133_41, u133_44, u133_45, u133_46, u133_49, u133_50, u133_53, u133_54, u133_55, c122, c113n, c114, bi_0, h1, h2, not_true, not_false_eq_true, if_true, if_false, la_86, kLt, true_and]
      exact fin_bad' hR
  · simp (disch := decide) only [u68_0, u68_1, u68_4, u68_7, u68_8, u68_9, u68_11, u68_14, u68_17, u68_18, u68_20, u68_23, u68_24, u68_25, u68_28, u68_31, u68_34, u68_37, u68_38, u68_40, u68_43, u68_44, u68_45, u68_48, u68_51, u68_52, u68_53, u68_54, u68_57, c101, c100, c103b, bi_0, h1, not_true, not_false_eq_true, if_true, if_false, la_0, kLt, true_and]
    refine ⟨_, _, _, rfl, rfl, up_o _ _ (by decide), up_o _ _ (by decide), ?_⟩
    simp (disch := first | assumption | omega | decide | exact la_87 | exact la_88 | exact la_90 | exact la_91 | exact la_92 | exact la_93 | exact la_94 | exact la_95 | exact la_96 | exact la_97 | exact la_98 | exact la_99 | exact la_10 | exact la_23 | exact la_77 | exact la_78) only [u133_0, u133_1, u133_4, u133_7, u133_8, u133_9, u133_10, u133_13, u133_16, u133_19, u133_20, u133_22, u133_25, u133_26, u133_27, u133_30, u133_32, u133_35, u133_36, u133_39, u133_40, u133_41, u133_44, u133_45, u133_46, u133_49, u133_50, u133_53, u133_54, u133_55, c122, c113n, c114, bi_0, h1, not_true, not_false_eq_true, if_true, if_false, la_86, kLt, true_and]
    exact fin_bad' hR
