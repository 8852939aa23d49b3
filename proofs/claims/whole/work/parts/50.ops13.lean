/-! THE CALL: age -/
def sq (W : Nat → Int32) (a : Int32) (k : Nat) : Int32 := Nat.rec 0 (fun j t => t + (if (a >>> (Int32.ofNat j &&& 31)) &&& 1 = 1 then W j else 0)) k
theorem sq_s (W : Nat → Int32) (a : Int32) (k : Nat) : sq W a (k + 1) = sq W a k + (if (a >>> (Int32.ofNat k &&& 31)) &&& 1 = 1 then W k else 0) := rfl
theorem bit_8 : ∀ w, w < 256 → ∀ k, k < 8 → decide (Int32.ofNat w &&& (1 <<< (Int32.ofNat k &&& 31)) = 0) = !decide ((Int32.ofNat w >>> (Int32.ofNat k &&& 31)) &&& 1 = 1) := by decide +kernel
theorem sq_sb {W V : Nat → Int32} {w : Nat} (hw : w < 256) (h : ∀ j, j < 8 → V j = W j) : ∀ k, k ≤ 8 → sq V (Int32.ofNat w) k = sb W (Int32.ofNat w) k := by
  intro k
  induction k with
  | zero => intro _; rfl
  | succ k ih =>
    intro hk
    have hb := bit_8 w hw k (by omega)
    rw [sq_s, sb_s, ih (by omega), h k (by omega)]
    by_cases hc : (Int32.ofNat w >>> (Int32.ofNat k &&& 31)) &&& 1 = 1
    · have hd : ¬ Int32.ofNat w &&& (1 <<< (Int32.ofNat k &&& 31)) = 0 := by
        intro q
        rw [decide_eq_true hc, decide_eq_true q] at hb
        cases hb
      rw [if_pos hc, if_neg hd]
    · have hd : Int32.ofNat w &&& (1 <<< (Int32.ofNat k &&& 31)) = 0 := by
        rw [decide_eq_false hc] at hb
        exact of_decide_eq_true hb
      rw [if_neg hc, if_pos hd, Int32.add_zero]
/-- what is lived in k turns -/
def liv (D : Nat → Int32) (k : Nat) : Int32 := Nat.rec 0 (fun j t => t + D j) k
theorem liv_s (D : Nat → Int32) (k : Nat) : liv D (k + 1) = liv D k + D k := rfl
theorem liv_eq {D E : Nat → Int32} (h : ∀ k, D k = E k) (k : Nat) : liv D k = liv E k := by
  induction k with
  | zero => rfl
  | succ k ih => rw [liv_s, liv_s, ih, h]
theorem op21 (a b : Int32) : OpI 85 [.ref 0, .int a, .int b, .null, .null] 159 [.ref 86, .int a, .int b, .null, .null, .null] := by
  intro I J B hR hB
  have hR0 := hR
  obtain ⟨⟨⟨n, hT⟩, rb, rc, rd, re⟩, -⟩ := hR0
  have hTn : VTn (I 11) (I 12) (I 87) n := hT
  have rd0 := rd
  obtain ⟨⟨T, hTB, t1, t2⟩, p1, w1⟩ := rd0
  by_cases h1 : 0 ≤ a ∧ a ≤ 255
  · by_cases h2 : 0 ≤ b ∧ b ≤ 60
    · obtain ⟨w, hw, rfl⟩ := o_in (m := 255) h1.1 h1.2 (by omega)
      obtain ⟨M, hM, rfl⟩ := o_in (m := 60) h2.1 h2.2 (by omega)
      simp (disch := decide) only [u85_0, u85_1, u85_2, u85_5, u85_8, u85_11, u85_12, u85_13, u85_15, u85_18, u85_21, u85_22, u85_24, u85_27, u85_28, u85_29, u85_30, u85_31, u85_34, u85_35, u85_38, u85_41, u85_42, c100, c43_21_8, bi_0, h1, h2, la_0, la_21, lr_0_0, lr_0_1, kLt, true_and, not_true, not_false_eq_true, if_true, if_false]
      rw [← ps_0 (tk_21_8 I) 21 (-1) n]
      have hT21 := Tm_tk hTn
      refine Rn_fr (n := M) (X := Unit) (fun k _ => [.ref 0, .int (Int32.ofNat w), .int (Int32.ofNat M), .int (liv (fun q => sb (psI (tk_21_8 I) 21 (-1) n q 23) (Int32.ofNat w) 8) k), .int (Int32.ofNat k)]) (fun k _ => Sg (psI (tk_21_8 I) 21 (-1) n k) J) () rfl rfl ?_ ?_
      · intro k hk _ ih
        have ih := ih ()
        have hnk : ¬ M ≤ k := by omega
        rw [liv_s, ← ps_s] at ih
        have h46 := fun (pc : Nat) (ls st : Vs) (Q : Option Value → Sto → Prop) => @c46 85 pc ls st (psI (tk_21_8 I) 21 (-1) n k) J Q 21 lisV_21 (-1) n (Tm_ps hT21 (-1) k)
        clear hR hTn rd rb rc re hT w1 hT21
        simp (disch := first | assumption | omega | decide | exact la_87 | exact la_88 | exact la_90 | exact la_91 | exact la_92 | exact la_93 | exact la_94 | exact la_95 | exact la_96 | exact la_97 | exact la_98 | exact la_99 | exact la_10 | exact la_23 | exact la_77 | exact la_78 | exact la_18 | exact la_19 | exact la_20) only [u85_44, u85_46, u85_47, u85_50, u85_51, u85_52, u85_55, u85_58, u85_59, u85_62, u85_63, u85_64, u85_65, u85_68, u85_69, u85_72, u85_78, u85_79, h46, c59 22 lisY_22, la_0, la_21, la_22, lr_0_1, lr_21_1, kLt, true_and, o_aa, o_al, o_la, o_mm, o_ml, o_lm, o_ss, o_sl, o_ls, o_tn, o_tl, o_lt, o_ltl, o_llt, o_le, o_lel, o_lle, o_eq, o_eql, o_leq, o_inb, o_inl, o_neg, hnk, if_false, Nat.reduceAdd]
        exact (u85_75 ..).mpr ih
      · intro _
        simp (disch := first | assumption | omega | decide | exact la_87 | exact la_88 | exact la_90 | exact la_91 | exact la_92 | exact la_93 | exact la_94 | exact la_95 | exact la_96 | exact la_97 | exact la_98 | exact la_99 | exact la_10 | exact la_23 | exact la_77 | exact la_78 | exact la_18 | exact la_19 | exact la_20) only [u85_44, u85_46, u85_47, u85_50, u85_51, u85_52, u85_55, u85_58, u85_59, u85_62, u85_63, u85_64, u85_65, u85_68, u85_69, u85_72, u85_78, u85_79, o_aa, o_al, o_la, o_mm, o_ml, o_lm, o_ss, o_sl, o_ls, o_tn, o_tl, o_lt, o_ltl, o_llt, o_le, o_lel, o_lle, o_eq, o_eql, o_leq, o_inb, o_inl, o_neg, Nat.le_refl, if_true]
        refine ⟨_, _, _, rfl, rfl, ah_hm _ _ _ _ _ (by decide), ah_hm _ _ _ _ _ (by decide), ?_⟩
        have hm := ah_hm I (-1) n M
        have hS := (Sc_tk I).tr (Sc_ps (tk_21_8 I) (-1) n M)
        generalize psI (tk_21_8 I) 21 (-1) n M = I1 at hm hS ⊢
        have g0 : I1 87 0 = Int32.ofNat n := by rw [hm 87 (by omega)]; exact hTn.2.2.1
        have hHm := Hm_lh hTn t2 (hm 87 (by omega))
        simp (disch := first | assumption | omega | decide | exact la_87 | exact la_88 | exact la_90 | exact la_91 | exact la_92 | exact la_93 | exact la_94 | exact la_95 | exact la_96 | exact la_97 | exact la_98 | exact la_99 | exact la_10 | exact la_23 | exact la_77 | exact la_78 | exact la_18 | exact la_19 | exact la_20) only [u159_0, u159_1, u159_2, u159_3, u159_6, u159_9, u159_12, u159_13, u159_14, u159_17, u159_20, u159_21, u159_23, u159_26, u159_27, u159_28, u159_29, u159_30, u159_33, u159_34, c113n, c146, c135 n hTn.1 g0, bi_0, h1, h2, la_86, kLt, true_and, not_true, not_false_eq_true, if_true, if_false]
        rw [← pm_0 (lhI I1 n) (1 <<< (Int32.ofNat n &&& 31) - 1) n]
        refine Rn_fr (n := M) (X := Value) (fun k x => [.ref 86, .int (Int32.ofNat w), .int (Int32.ofNat M), .int (liv (fun q => sq (pmI (lhI I1 n) (1 <<< (Int32.ofNat n &&& 31) - 1) n q 91) (Int32.ofNat w) 8) k), .int (Int32.ofNat k), x]) (fun k x => Sg (pmI (lhI I1 n) (1 <<< (Int32.ofNat n &&& 31) - 1) n k) J) .null rfl rfl ?_ ?_
        · intro k hk x ih
          have hnk : ¬ M ≤ k := by omega
          have gk : pmI (lhI I1 n) (1 <<< (Int32.ofNat n &&& 31) - 1) n k 87 0 = Int32.ofNat n := by rw [pm_87]; exact hHm.2.1
          have h139 := fun (pc : Nat) (ls st : Vs) (Q : Option Value → Sto → Prop) => @c139 159 pc ls st (pmI (lhI I1 n) (1 <<< (Int32.ofNat n &&& 31) - 1) n k) J Q (1 <<< (Int32.ofNat n &&& 31) - 1) n (T + k) (Hm_pm hHm _ k) (by omega)
          rw [pm_s] at h139
          clear hR hTn rd rb rc re hT w1 hHm
          simp (disch := first | assumption | omega | decide | exact la_87 | exact la_88 | exact la_90 | exact la_91 | exact la_92 | exact la_93 | exact la_94 | exact la_95 | exact la_96 | exact la_97 | exact la_98 | exact la_99 | exact la_10 | exact la_23 | exact la_77 | exact la_78 | exact la_18 | exact la_19 | exact la_20) only [u159_36, u159_38, u159_39, u159_42, u159_43, o_aa, o_al, o_la, o_mm, o_ml, o_lm, o_ss, o_sl, o_ls, o_tn, o_tl, o_lt, o_ltl, o_llt, o_le, o_lel, o_lle, o_eq, o_eql, o_leq, o_inb, o_inl, o_neg, hnk, if_false]
          simp only [liv_s] at ih
          generalize liv (fun q => sq (pmI (lhI I1 n) (1 <<< (Int32.ofNat n &&& 31) - 1) n q 91) (Int32.ofNat w) 8) k = s0 at ih ⊢
          refine Rn_fr (n := 8) (X := Unit) (fun j _ => [.ref 86, .int (Int32.ofNat w), .int (Int32.ofNat M), .int (s0 + sq (pmI (lhI I1 n) (1 <<< (Int32.ofNat n &&& 31) - 1) n k 91) (Int32.ofNat w) j), .int (Int32.ofNat k), .int (Int32.ofNat j)]) (fun j _ => Sg (pmI (lhI I1 n) (1 <<< (Int32.ofNat n &&& 31) - 1) n k) J) () ?_ rfl ?_ ?_
          · show _ = ([.ref 86, .int (Int32.ofNat w), .int (Int32.ofNat M), .int (s0 + 0), .int (Int32.ofNat k), .int (Int32.ofNat 0)] : Vs)
            rw [Int32.add_zero]
            rfl
          · intro j hj _ ihj
            have ihj := ihj ()
            rw [sq_s] at ihj
            have hnj : ¬ 8 ≤ j := by omega
            simp (disch := first | assumption | omega | decide | exact la_87 | exact la_88 | exact la_90 | exact la_91 | exact la_92 | exact la_93 | exact la_94 | exact la_95 | exact la_96 | exact la_97 | exact la_98 | exact la_99 | exact la_10 | exact la_23 | exact la_77 | exact la_78 | exact la_18 | exact la_19 | exact la_20) only [u159_45, u159_47, u159_49, u159_52, u159_53, u159_54, u159_56, u159_57, u159_58, u159_59, u159_60, u159_63, u159_64, u159_67, u159_69, u159_70, u159_73, u159_74, u159_75, u159_76, la_86, la_91, lt_91, lr_86_6, kLt, true_and, o_aa, o_al, o_la, o_mm, o_ml, o_lm, o_ss, o_sl, o_ls, o_tn, o_tl, o_lt, o_ltl, o_llt, o_le, o_lel, o_lle, o_eq, o_eql, o_leq, o_inb, o_inl, o_neg, hj, hnj, if_false]
            by_cases hc : (Int32.ofNat w >>> (Int32.ofNat j &&& 31)) &&& 1 = 1
            · rw [if_pos hc, ← Int32.add_assoc] at ihj
              simp only [hc, not_true, if_false]
              exact (u159_79 ..).mpr ihj
            · rw [if_neg hc, ← Int32.add_assoc] at ihj
              simp only [hc, not_false_eq_true, if_true]
              exact (u159_79 ..).mpr ihj
          · intro _
            simp (disch := first | assumption | omega | decide | exact la_87 | exact la_88 | exact la_90 | exact la_91 | exact la_92 | exact la_93 | exact la_94 | exact la_95 | exact la_96 | exact la_97 | exact la_98 | exact la_99 | exact la_10 | exact la_23 | exact la_77 | exact la_78 | exact la_18 | exact la_19 | exact la_20) only [u159_45, u159_47, u159_49, u159_82, u159_83, u159_84, u159_87, u159_90, u159_96, u159_97, h139, c140, gk, la_86, kLt, true_and, o_aa, o_al, o_la, o_mm, o_ml, o_lm, o_ss, o_sl, o_ls, o_tn, o_tl, o_lt, o_ltl, o_llt, o_le, o_lel, o_lle, o_eq, o_eql, o_leq, o_inb, o_inl, o_neg, Nat.le_refl, if_true]
            exact (u159_93 ..).mpr (ih _)
        · intro x
          simp (disch := first | assumption | omega | decide | exact la_87 | exact la_88 | exact la_90 | exact la_91 | exact la_92 | exact la_93 | exact la_94 | exact la_95 | exact la_96 | exact la_97 | exact la_98 | exact la_99 | exact la_10 | exact la_23 | exact la_77 | exact la_78 | exact la_18 | exact la_19 | exact la_20) only [u159_36, u159_38, u159_39, u159_96, u159_97, o_aa, o_al, o_la, o_mm, o_ml, o_lm, o_ss, o_sl, o_ls, o_tn, o_tl, o_lt, o_ltl, o_llt, o_le, o_lel, o_lle, o_eq, o_eql, o_leq, o_inb, o_inl, o_neg, Nat.le_refl, if_true]
          refine fin_sc hR ((hS.tr (Sc_lh I1 n)).tr (Sc_pm _ _ n M)) (liv_eq (fun q => ?_) M)
          refine sq_sb (by omega) (fun j hj => ?_) 8 (Nat.le_refl 8)
          rw [ps_23, pm_91]
          exact (jn hTn rd (hm 87 (by omega)) (fun k hk => bit_a n hTn.1 k hk) q j hj).symm
    · simp (disch := decide) only [u85_0, u85_1, u85_2, u85_5, u85_8, u85_11, u85_12, u85_13, u85_15, u85_18, u85_21, u85_22, u85_24, u85_27, c100, c103b, bi_0, h1, h2, la_0, kLt, true_and, not_true, not_false_eq_true, if_true, if_false]
      refine ⟨_, _, _, rfl, rfl, up_o _ _ (by decide), up_o _ _ (by decide), ?_⟩
      simp (disch := first | assumption | omega | decide | exact la_87 | exact la_88 | exact la_90 | exact la_91 | exact la_92 | exact la_93 | exact la_94 | exact la_95 | exact la_96 | exact la_97 | exact la_98 | exact la_99 | exact la_10 | exact la_23 | exact la_77 | exact la_78 | exact la_18 | exact la_19 | exact la_20) only [u159_0, u159_1, u159_2, u159_3, u159_6, u159_9, u159_12, u159_13, u159_14, u159_17, u159_20, u159_21, u159_23, u159_26, c113n, c146, c114, bi_0, h1, h2, la_86, kLt, true_and, not_true, not_false_eq_true, if_true, if_false]
      exact fin_bad' hR
  · simp (disch := decide) only [u85_0, u85_1, u85_2, u85_5, u85_8, u85_11, u85_12, u85_13, u85_15, u85_18, u85_21, u85_22, u85_24, u85_27, c100, c103b, bi_0, h1, la_0, kLt, true_and, not_true, not_false_eq_true, if_true, if_false]
    refine ⟨_, _, _, rfl, rfl, up_o _ _ (by decide), up_o _ _ (by decide), ?_⟩
    simp (disch := first | assumption | omega | decide | exact la_87 | exact la_88 | exact la_90 | exact la_91 | exact la_92 | exact la_93 | exact la_94 | exact la_95 | exact la_96 | exact la_97 | exact la_98 | exact la_99 | exact la_10 | exact la_23 | exact la_77 | exact la_78 | exact la_18 | exact la_19 | exact la_20) only [u159_0, u159_1, u159_2, u159_3, u159_6, u159_9, u159_12, u159_13, u159_14, u159_17, u159_20, u159_21, u159_23, u159_26, c113n, c146, c114, bi_0, h1, la_86, kLt, true_and, not_true, not_false_eq_true, if_true, if_false]
    exact fin_bad' hR
