/-! THE CALLS: folded, done -/
abbrev VWn (R C M : Nat → Int32) (n : Nat) : Prop := n ≤ 6 ∧ R 1 = Int32.ofNat n ∧ M 1 = Int32.ofNat n ∧ ∀ k, k < n → (∃ s, s < 8 ∧ C (k * 3) = Int32.ofNat s ∧ M (32 + 2 * k) = Int32.ofNat s) ∧ C (k * 3 + 1) = M (32 + 2 * k + 1)
theorem Wm_tk {I : Nat → Nat → Int32} {M : Nat → Int32} {n : Nat} (h : VWn (I 13) (I 14) M n) : Wm (tk_21_8 I) 21 n := by
  obtain ⟨hn, a1, a2, a3⟩ := h
  refine ⟨hn, ?_, fun k hk => ?_⟩
  · simp (disch := decide) only [tk_21_8, up_o, up_s, ud_s, Nat.reduceAdd]; exact a1
  · obtain ⟨⟨s, hs, s1, s2⟩, -⟩ := a3 k hk
    refine ⟨s, hs, ?_⟩
    simp (disch := decide) only [tk_21_8, up_o, up_s, Nat.reduceAdd]
    rw [sb_cpy0 (by omega)]; exact s1
theorem Wm_ps {I : Nat → Nat → Int32} {n2 : Nat} (h : Wm I 21 n2) (who : Int32) (n M : Nat) : Wm (psI I 21 who n M) 21 n2 := by
  obtain ⟨hn, a1, a2⟩ := h
  refine ⟨hn, ?_, fun k hk => ?_⟩
  · simp (disch := decide) only [psI, up_o, Nat.reduceAdd]; exact a1
  · simp (disch := decide) only [psI, up_o, Nat.reduceAdd]; exact a2 k hk
theorem ps_23 (I : Nat → Nat → Int32) (who : Int32) (n M : Nat) : psI I 21 who n M 23 = gsV I 21 who n M := by
  simp (disch := decide) only [psI, up_o, up_s, Nat.reduceAdd]
theorem pm_91 (I : Nat → Nat → Int32) (who : Int32) (n M : Nat) : pmI I who n M 91 = gsM I who n M := by
  simp (disch := decide) only [pmI, up_o, up_s]
theorem pm_87 (I : Nat → Nat → Int32) (who : Int32) (n M : Nat) : pmI I who n M 87 = I 87 := by
  simp (disch := decide) only [pmI, up_o]
theorem lh_87 (I : Nat → Nat → Int32) (n : Nat) : lhI I n 87 = I 87 := by
  simp (disch := decide) only [lhI, up_o]
theorem ah_hm (I : Nat → Nat → Int32) (who : Int32) (n M : Nat) : ∀ q, 86 ≤ q → psI (tk_21_8 I) 21 who n M q = I q := by
  intro q hq
  simp (disch := omega) only [psI, tk_21_8, up_o]
/-- works of the trial and of the reference: the same are done -/
theorem dn_eq {I S1 S2 : Nat → Nat → Int32} {n2 : Nat} (h : VWn (I 13) (I 14) (I 87) n2) (h27 : S1 27 = tk_21_8 I 27) (h87 : S2 87 = I 87) (hW : ∀ j, j < 8 → S1 23 j = S2 91 j) : dnM S2 n2 = dnV S1 21 n2 := by
  obtain ⟨hn, a1, a2, a3⟩ := h
  refine dnb_eq (n := n2) (fun j hj => (hW j hj).symm) (fun k hk => ?_) n2 (Nat.le_refl _)
  obtain ⟨⟨s, hs, s1, s2⟩, e⟩ := a3 k hk
  refine ⟨?_, s, hs, ?_, ?_⟩
  · show S2 87 (32 + 2 * k + 1) = S1 27 (k * 3 + 1)
    rw [h27, h87]
    simp (disch := decide) only [tk_21_8, up_o, up_s]
    rw [sb_cpy0 (by omega), e]
  · show S2 87 (32 + 2 * k) = _
    rw [h87, s2]
  · show S1 27 (k * 3) = _
    rw [h27]
    simp (disch := decide) only [tk_21_8, up_o, up_s]
    rw [sb_cpy0 (by omega), s1]
theorem op15 (a : Int32) : OpI 79 [.ref 0, .int a] 151 [.ref 86, .int a] := by
  intro I J B hR hB
  have hR0 := hR
  obtain ⟨⟨⟨n, hT⟩, ⟨n2, hW⟩, rc, rd, re⟩, -⟩ := hR0
  have hTn : VTn (I 11) (I 12) (I 87) n := hT
  have hWn : VWn (I 13) (I 14) (I 87) n2 := hW
  obtain ⟨hn, a1, a2, a3⟩ := hT
  obtain ⟨hn2, b1, b2, b3⟩ := hW
  have rd0 := rd
  obtain ⟨⟨T, hTB, t1, t2⟩, -⟩ := rd0
  by_cases h1 : 0 ≤ a ∧ a ≤ 60
  · obtain ⟨M, hM, rfl⟩ := o_in (m := 60) h1.1 h1.2 (by omega)
    simp (disch := first | assumption | omega | decide | exact la_87 | exact la_88 | exact la_90 | exact la_91 | exact la_92 | exact la_93 | exact la_94 | exact la_95 | exact la_96 | exact la_97 | exact la_98 | exact la_99 | exact la_10 | exact la_23 | exact la_77 | exact la_78 | exact la_18 | exact la_19 | exact la_20) only [u79_0, u79_1, u79_2, u79_4, u79_7, u79_10, u79_11, u79_13, u79_16, u79_17, u79_18, u79_19, u79_22, u79_25, c100, c105 n M hTn (by omega), c48 21 n2 lisV_21 (Wm_ps (Wm_tk hWn) (-1) n M), bi_0, h1, not_true, not_false_eq_true, if_true, if_false, la_0, la_21, kLt, true_and]
    refine ⟨_, _, _, rfl, rfl, ah_hm _ _ _ _ _ (by decide), ah_hm _ _ _ _ _ (by decide), ?_⟩
    have hm := ah_hm I (-1) n M
    have hS := (Sc_tk I).tr (Sc_ps (tk_21_8 I) (-1) n M)
    have hx := ps_23 (tk_21_8 I) (-1) n M
    have hz : psI (tk_21_8 I) 21 (-1) n M 27 = tk_21_8 I 27 := by simp (disch := decide) only [psI, up_o, Nat.reduceAdd]
    generalize psI (tk_21_8 I) 21 (-1) n M = I1 at hm hS hx hz ⊢
    have g0 : I1 87 0 = Int32.ofNat n := by rw [hm 87 (by omega)]; exact a2
    have g1 : lhI I1 n 87 0 = Int32.ofNat n := by rw [lh_87]; exact g0
    have g2 : pmI (lhI I1 n) (1 <<< (Int32.ofNat n &&& 31) - 1) n M 87 = I 87 := by rw [pm_87, lh_87, hm 87 (by omega)]
    have g3 : pmI (lhI I1 n) (1 <<< (Int32.ofNat n &&& 31) - 1) n M 87 1 = Int32.ofNat n2 := by rw [g2]; exact b2
    have g4 : ∀ k, k < n2 → ∃ s, s < 8 ∧ pmI (lhI I1 n) (1 <<< (Int32.ofNat n &&& 31) - 1) n M 87 (32 + 2 * k) = Int32.ofNat s := by
      intro k hk
      obtain ⟨⟨s, hs, s1, s2⟩, -⟩ := b3 k hk
      exact ⟨s, hs, by rw [g2]; exact s2⟩
    simp (disch := first | assumption | omega | decide | exact la_87 | exact la_88 | exact la_90 | exact la_91 | exact la_92 | exact la_93 | exact la_94 | exact la_95 | exact la_96 | exact la_97 | exact la_98 | exact la_99 | exact la_10 | exact la_23 | exact la_77 | exact la_78 | exact la_18 | exact la_19 | exact la_20) only [u151_0, u151_1, u151_2, u151_5, u151_8, u151_9, u151_11, u151_14, u151_15, u151_16, u151_19, u151_20, u151_21, u151_22, u151_25, u151_28, u151_29, u151_32, c146, c135 n hn g0, c140, g1, c141 (1 <<< (Int32.ofNat n &&& 31) - 1) n T M (Hm_lh hTn t2 (hm 87 (by omega))) (by omega) (by omega), c149 n2 hn2 g3 g4, bi_0, h1, not_true, not_false_eq_true, if_true, if_false, la_86, kLt, true_and]
    refine fin_sc hR ((hS.tr (Sc_lh I1 n)).tr (Sc_pm _ _ n M)) (dn_eq hWn hz g2 (fun j hj => ?_))
    rw [hx, pm_91]
    exact jn hTn rd (hm 87 (by omega)) (fun k hk => bit_a n hn k hk) M j hj
  · simp (disch := decide) only [u79_0, u79_1, u79_2, u79_4, u79_7, u79_10, u79_11, u79_13, u79_16, c100, c103b, bi_0, h1, not_true, not_false_eq_true, if_true, if_false, la_0, kLt, true_and]
    refine ⟨_, _, _, rfl, rfl, up_o _ _ (by decide), up_o _ _ (by decide), ?_⟩
    simp (disch := first | assumption | omega | decide | exact la_87 | exact la_88 | exact la_90 | exact la_91 | exact la_92 | exact la_93 | exact la_94 | exact la_95 | exact la_96 | exact la_97 | exact la_98 | exact la_99 | exact la_10 | exact la_23 | exact la_77 | exact la_78 | exact la_18 | exact la_19 | exact la_20) only [u151_0, u151_1, u151_2, u151_5, u151_8, u151_9, u151_11, u151_14, c146, c114, bi_0, h1, not_true, not_false_eq_true, if_true, if_false, la_86, kLt, true_and]
    exact fin_bad' hR
theorem op14 (a : Int32) : OpI 78 [.ref 0, .int a] 148 [.ref 86, .int a, .null, .null] := by
  intro I J B hR hB
  have hR0 := hR
  obtain ⟨⟨⟨n, hT⟩, rb, rc, rd, re⟩, -⟩ := hR0
  have hTn : VTn (I 11) (I 12) (I 87) n := hT
  obtain ⟨hn, a1, a2, a3⟩ := hT
  have rd0 := rd
  obtain ⟨⟨T, hTB, t1, t2⟩, -⟩ := rd0
  by_cases h1 : 0 ≤ a ∧ a ≤ 60
  · obtain ⟨M, hM, rfl⟩ := o_in (m := 60) h1.1 h1.2 (by omega)
    simp (disch := first | assumption | omega | decide | exact la_87 | exact la_88 | exact la_90 | exact la_91 | exact la_92 | exact la_93 | exact la_94 | exact la_95 | exact la_96 | exact la_97 | exact la_98 | exact la_99 | exact la_10 | exact la_23 | exact la_77 | exact la_78 | exact la_18 | exact la_19 | exact la_20) only [u78_0, u78_1, u78_2, u78_4, u78_7, u78_10, u78_11, u78_13, u78_16, u78_17, u78_18, u78_19, u78_22, u78_25, u78_28, c100, c105 n M hTn (by omega), c60 22 lisY_22, bi_0, h1, not_true, not_false_eq_true, if_true, if_false, la_0, la_21, la_22, lr_21_1, kLt, true_and, Nat.reduceAdd]
    refine ⟨_, _, _, rfl, rfl, ah_hm _ _ _ _ _ (by decide), ah_hm _ _ _ _ _ (by decide), ?_⟩
    have hm := ah_hm I (-1) n M
    have hS := (Sc_tk I).tr (Sc_ps (tk_21_8 I) (-1) n M)
    have hx := ps_23 (tk_21_8 I) (-1) n M
    generalize psI (tk_21_8 I) 21 (-1) n M = I1 at hm hS hx ⊢
    have g0 : I1 87 0 = Int32.ofNat n := by rw [hm 87 (by omega)]; exact a2
    have g1 : lhI I1 n 87 0 = Int32.ofNat n := by rw [lh_87]; exact g0
    simp (disch := first | assumption | omega | decide | exact la_87 | exact la_88 | exact la_90 | exact la_91 | exact la_92 | exact la_93 | exact la_94 | exact la_95 | exact la_96 | exact la_97 | exact la_98 | exact la_99 | exact la_10 | exact la_23 | exact la_77 | exact la_78 | exact la_18 | exact la_19 | exact la_20) only [u148_0, u148_1, u148_2, u148_5, u148_8, u148_9, u148_11, u148_14, u148_15, u148_16, u148_19, u148_20, u148_21, u148_22, u148_25, u148_28, u148_29, u148_30, u148_31, c146, c135 n hn g0, c140, g1, c141 (1 <<< (Int32.ofNat n &&& 31) - 1) n T M (Hm_lh hTn t2 (hm 87 (by omega))) (by omega) (by omega), bi_0, h1, not_true, not_false_eq_true, if_true, if_false, la_86, kLt, true_and]
    have hS2 := (hS.tr (Sc_lh I1 n)).tr (Sc_pm (lhI I1 n) (1 <<< (Int32.ofNat n &&& 31) - 1) n M)
    have hx2 := pm_91 (lhI I1 n) (1 <<< (Int32.ofNat n &&& 31) - 1) n M
    generalize pmI (lhI I1 n) (1 <<< (Int32.ofNat n &&& 31) - 1) n M = I2 at hS2 hx2 ⊢
    refine Rn_fr (n := 8) (X := Unit) (fun k _ => [.ref 86, .int (Int32.ofNat M), .int (rw3 (I2 91) 0 k), .int (Int32.ofNat k)]) (fun k _ => Sg I2 J) () rfl rfl ?_ ?_
    · intro k hk _ ih
      have ih := ih ()
      rw [rw3_s] at ih
      have hnk : ¬ 8 ≤ k := by omega
      simp (disch := first | assumption | omega | decide | exact la_87 | exact la_88 | exact la_90 | exact la_91 | exact la_92 | exact la_93 | exact la_94 | exact la_95 | exact la_96 | exact la_97 | exact la_98 | exact la_99 | exact la_10 | exact la_23 | exact la_77 | exact la_78 | exact la_18 | exact la_19 | exact la_20) only [u148_32, u148_33, u148_35, u148_38, u148_39, u148_40, u148_43, u148_44, u148_45, u148_48, u148_49, u148_50, u148_51, u148_54, u148_55, u148_56, u148_57, u148_63, u148_64, la_86, la_91, lt_91, lr_86_6, kLt, true_and, o_aa, o_al, o_la, o_mm, o_ml, o_lm, o_ss, o_sl, o_ls, o_tn, o_tl, o_lt, o_ltl, o_llt, o_le, o_lel, o_lle, o_eq, o_eql, o_leq, o_inb, o_inl, o_neg, hk, hnk, if_false]
      by_cases hc : I2 91 k = 0
      · rw [if_pos hc] at ih
        simp only [hc, not_true, if_false]
        exact (u148_60 ..).mpr ih
      · rw [if_neg hc] at ih
        simp only [hc, not_false_eq_true, if_true, Int32.or_zero]
        exact (u148_60 ..).mpr ih
    · intro _
      simp (disch := first | assumption | omega | decide | exact la_87 | exact la_88 | exact la_90 | exact la_91 | exact la_92 | exact la_93 | exact la_94 | exact la_95 | exact la_96 | exact la_97 | exact la_98 | exact la_99 | exact la_10 | exact la_23 | exact la_77 | exact la_78 | exact la_18 | exact la_19 | exact la_20) only [u148_32, u148_33, u148_35, u148_38, u148_39, u148_40, u148_43, u148_44, u148_45, u148_48, u148_49, u148_50, u148_51, u148_54, u148_55, u148_56, u148_57, u148_63, u148_64, o_aa, o_al, o_la, o_mm, o_ml, o_lm, o_ss, o_sl, o_ls, o_tn, o_tl, o_lt, o_ltl, o_llt, o_le, o_lel, o_lle, o_eq, o_eql, o_leq, o_inb, o_inl, o_neg, Nat.le_refl, if_true]
      refine fin_sc hR hS2 (rw3_eq (n := 8) 0 (fun j hj => ?_) 8 (Nat.le_refl 8))
      rw [hx, hx2]
      exact (jn hTn rd (hm 87 (by omega)) (fun k hk => bit_a n hn k hk) M j hj).symm
  · simp (disch := decide) only [u78_0, u78_1, u78_2, u78_4, u78_7, u78_10, u78_11, u78_13, u78_16, c100, c103b, bi_0, h1, not_true, not_false_eq_true, if_true, if_false, la_0, kLt, true_and]
    refine ⟨_, _, _, rfl, rfl, up_o _ _ (by decide), up_o _ _ (by decide), ?_⟩
    simp (disch := first | assumption | omega | decide | exact la_87 | exact la_88 | exact la_90 | exact la_91 | exact la_92 | exact la_93 | exact la_94 | exact la_95 | exact la_96 | exact la_97 | exact la_98 | exact la_99 | exact la_10 | exact la_23 | exact la_77 | exact la_78 | exact la_18 | exact la_19 | exact la_20) only [u148_0, u148_1, u148_2, u148_5, u148_8, u148_9, u148_11, u148_14, c146, c114, bi_0, h1, not_true, not_false_eq_true, if_true, if_false, la_86, kLt, true_and]
    exact fin_bad' hR
