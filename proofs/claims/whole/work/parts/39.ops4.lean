/-! THE CALLS: undo, image, from -/
def cpb (M : Nat → Int32) (f k : Nat) : Nat → Int32 := fun j => if 5 ≤ j ∧ j < 5 + k then M (f + (j - 5)) else M j
theorem cpb_0 (M : Nat → Int32) (f : Nat) : cpb M f 0 = M := by
  funext j
  unfold cpb
  rw [if_neg (by omega)]
theorem cpb_s (M : Nat → Int32) {f k : Nat} (hf : 62 ≤ f) (hk : k < 9) : upd (cpb M f k) (5 + k) (cpb M f k (f + k)) = cpb M f (k + 1) := by
  funext j
  have e : cpb M f k (f + k) = M (f + k) := if_neg (by omega)
  rw [e]
  show (if j = 5 + k then M (f + k) else if 5 ≤ j ∧ j < 5 + k then M (f + (j - 5)) else M j) = if 5 ≤ j ∧ j < 5 + (k + 1) then M (f + (j - 5)) else M j
  by_cases h : j = 5 + k
  · rw [if_pos h, if_pos (by omega)]
    congr 1
    omega
  · rw [if_neg h]
    by_cases h2 : 5 ≤ j ∧ j < 5 + k
    · rw [if_pos h2, if_pos (by omega)]
    · rw [if_neg h2, if_neg (by omega)]
theorem cpb_o (M : Nat → Int32) {f j k : Nat} (h : ¬ (5 ≤ j ∧ j < 5 + k)) : cpb M f k j = M j := if_neg h
theorem cpb_i (M : Nat → Int32) {f j k : Nat} (h : j < k) : cpb M f k (5 + j) = M (f + j) := by
  unfold cpb
  rw [if_pos (by omega), show 5 + j - 5 = j by omega]
section UNDO
variable {m pc : Nat} {ls st : Vs} {I : Nat → Nat → Int32} {J : Nat → Nat → Int64} {Q : Option Value → Sto → Prop}
abbrev gbC (I : Nat → Nat → Int32) (o u : Nat) : Nat → Nat → Int32 := va_up (va_up (va_up I 17 (upd (I 17) 4 (Int32.ofNat u))) 10 (va_cpy (I 18) (I 10) ((o + u) % 8 * 8) 0 8)) 9 (upd (upd (I 9) 1 (I 19 ((o + u) % 8))) 2 (I 20 ((o + u) % 8)))
theorem c12 (o u : Nat) (ho : o < 8) (hu : u < 8) (e3 : I 17 3 = Int32.ofNat o) (e4 : I 17 4 = Int32.ofNat (u + 1)) : Ca 12 [.ref 17, .ref 9, .null] (Sg I J) m pc ls st Q ↔ Rn m pc ls st (Sg (gbC I o u) J) Q := Ca_of (r := none) (fun Q h => by
  have hs : (o + u) % 8 < 8 := by omega
  have z9 : ¬ Int32.ofNat ((o + u) % 8 * 8) < 0 := o_neg (by omega)
  have hs2 : (o + u) % 8 * 8 + 8 ≤ 64 := by omega
  have hu1 : ¬ u + 1 = 0 := by omega
  simp (disch := first | assumption | omega | decide | exact la_87 | exact la_88 | exact la_90 | exact la_91 | exact la_92 | exact la_93 | exact la_94 | exact la_95 | exact la_96 | exact la_97 | exact la_98 | exact la_99 | exact la_10 | exact la_23 | exact la_77 | exact la_78 | exact la_18 | exact la_19 | exact la_20) only [u12_0, u12_1, u12_4, u12_7, u12_8, u12_9, u12_10, u12_13, u12_14, u12_15, u12_18, u12_19, u12_22, u12_23, u12_26, u12_27, u12_29, u12_30, u12_31, u12_32, u12_35, u12_36, u12_38, u12_39, u12_40, u12_43, u12_44, u12_46, u12_49, u12_50, u12_51, u12_54, u12_55, u12_56, u12_59, u12_60, u12_61, u12_64, u12_65, u12_66, u12_69, la_17, la_9, la_10, la_18, la_19, la_20, lt_10, lt_18, lt_19, lt_20, lr_17_0, lr_17_1, lr_17_2, lr_9_0, kLt, true_and, and_true, and_self, e3, e4, o_aa, o_al, o_la, o_mm, o_ml, o_lm, o_ss, o_sl, o_ls, o_tn, o_tl, o_lt, o_ltl, o_llt, o_le, o_lel, o_lle, o_eq, o_eql, o_leq, o_inb, o_inl, o_neg, tm8, hu1, Nat.add_sub_cancel, show ¬ (8 : Int32) = 0 by decide, not_true, not_false_eq_true, if_true, if_false, z0, z8, z9, hs, hs2, wI_d, up_o, up_s, up_u, ud_s, ud_o, Nat.zero_add, Nat.le_refl]
  exact h)
end UNDO
theorem op10 : OpI 74 [.ref 0] 143 [.ref 86, .null, .null] := by
  intro I J B hR hB
  have hR0 := hR
  obtain ⟨⟨ra, rb, rc, rd, ⟨o, u, ho, hu, f1, f2, f3, f4⟩⟩, -⟩ := hR0
  by_cases h0 : u = 0
  · subst h0
    simp (disch := first | assumption | omega | decide | exact la_87 | exact la_88 | exact la_90 | exact la_91 | exact la_92 | exact la_93 | exact la_94 | exact la_95 | exact la_96 | exact la_97 | exact la_98 | exact la_99 | exact la_10 | exact la_23 | exact la_77 | exact la_78 | exact la_18 | exact la_19 | exact la_20) only [u74_0, u74_1, u74_4, u74_7, u74_10, u74_13, u74_14, u74_16, u74_19, u74_20, u74_21, u74_24, u74_27, u74_28, u74_31, u74_34, u74_37, u74_38, u74_41, u74_44, u74_47, c103n, la_0, la_8, la_17, lr_0_0, lr_8_5, kLt, true_and, f2, o_aa, o_al, o_la, o_mm, o_ml, o_lm, o_ss, o_sl, o_ls, o_tn, o_tl, o_lt, o_ltl, o_llt, o_le, o_lel, o_lle, o_eq, o_eql, o_leq, o_inb, o_inl, o_neg, not_true, if_false]
    refine ⟨_, _, _, rfl, rfl, up_o _ _ (by decide), up_o _ _ (by decide), ?_⟩
    simp (disch := first | assumption | omega | decide | exact la_87 | exact la_88 | exact la_90 | exact la_91 | exact la_92 | exact la_93 | exact la_94 | exact la_95 | exact la_96 | exact la_97 | exact la_98 | exact la_99 | exact la_10 | exact la_23 | exact la_77 | exact la_78 | exact la_18 | exact la_19 | exact la_20) only [u143_0, u143_1, u143_4, u143_5, u143_6, u143_9, u143_10, u143_13, u143_14, u143_15, u143_18, u143_19, u143_20, u143_21, u143_22, u143_23, u143_24, u143_26, u143_28, u143_29, u143_32, u143_33, u143_34, u143_35, u143_36, u143_37, u143_38, u143_39, u143_40, u143_42, u143_45, u143_46, u143_49, u143_50, u143_51, u143_52, u143_53, u143_56, u143_57, u143_58, u143_59, u143_60, u143_61, u143_67, u143_68, u143_71, u143_72, u143_73, u143_76, u143_77, u143_79, u143_80, u143_81, u143_82, u143_83, u143_86, u143_87, u143_88, c115, la_86, la_87, lt_87, lr_86_0, kLt, true_and, up_o, f3, o_aa, o_al, o_la, o_mm, o_ml, o_lm, o_ss, o_sl, o_ls, o_tn, o_tl, o_lt, o_ltl, o_llt, o_le, o_lel, o_lle, o_eq, o_eql, o_leq, o_inb, o_inl, o_neg, Nat.reduceLT, not_true, if_false]
    exact fin_no' hR
  · obtain ⟨u, rfl⟩ : ∃ v, u = v + 1 := ⟨u - 1, by omega⟩
    have hu8 : u < 8 := by omega
    simp (disch := first | assumption | omega | decide | exact la_87 | exact la_88 | exact la_90 | exact la_91 | exact la_92 | exact la_93 | exact la_94 | exact la_95 | exact la_96 | exact la_97 | exact la_98 | exact la_99 | exact la_10 | exact la_23 | exact la_77 | exact la_78 | exact la_18 | exact la_19 | exact la_20) only [u74_0, u74_1, u74_4, u74_7, u74_10, u74_13, u74_14, u74_16, u74_19, u74_20, u74_21, u74_24, u74_27, u74_28, u74_31, u74_34, u74_37, u74_38, u74_41, u74_44, u74_47, c12 o u ho hu8 f1 f2, la_0, la_8, la_9, la_17, lr_0_0, lr_8_1, lr_8_5, kLt, true_and, f2, o_aa, o_al, o_la, o_mm, o_ml, o_lm, o_ss, o_sl, o_ls, o_tn, o_tl, o_lt, o_ltl, o_llt, o_le, o_lel, o_lle, o_eq, o_eql, o_leq, o_inb, o_inl, o_neg, h0, not_false_eq_true, if_true, up_s, ud_s]
    refine ⟨_, _, _, rfl, rfl, ?_, ?_, ?_⟩
    · simp (disch := decide) only [up_o]
    · simp (disch := decide) only [up_o]
    generalize hI1 : gbC I o u = I1
    have hm : ∀ q, 86 ≤ q → I1 q = I q := by
      intro q hq
      rw [← hI1]
      simp (disch := omega) only [gbC, up_o]
    have g3 : I1 87 4 = Int32.ofNat (u + 1) := by rw [hm 87 (by omega)]; exact f3
    obtain ⟨g1, g2, T, hT, g5, g6⟩ := f4 u (by omega)
    simp (disch := first | assumption | omega | decide | exact la_87 | exact la_88 | exact la_90 | exact la_91 | exact la_92 | exact la_93 | exact la_94 | exact la_95 | exact la_96 | exact la_97 | exact la_98 | exact la_99 | exact la_10 | exact la_23 | exact la_77 | exact la_78 | exact la_18 | exact la_19 | exact la_20) only [u143_0, u143_1, u143_4, u143_5, u143_6, u143_9, u143_10, u143_13, u143_14, u143_15, u143_18, u143_19, u143_20, u143_21, u143_22, u143_23, u143_24, u143_26, u143_28, u143_29, u143_32, u143_33, u143_34, u143_35, u143_36, u143_37, u143_38, la_86, la_87, lt_87, lr_86_0, kLt, true_and, g3, o_aa, o_al, o_la, o_mm, o_ml, o_lm, o_ss, o_sl, o_ls, o_tn, o_tl, o_lt, o_ltl, o_llt, o_le, o_lel, o_lle, o_eq, o_eql, o_leq, o_inb, o_inl, o_neg, Nat.reduceLT, h0, not_false_eq_true, if_true, Nat.add_sub_cancel, wI_d, up_s, ud_s]
    refine Rn_fr (n := 9) (X := Unit) (fun k _ => [.ref 86, .int (Int32.ofNat (62 + 10 * u)), .int (Int32.ofNat k)]) (fun k _ => Sg (va_up I1 87 (cpb (upd (I1 87) 4 (Int32.ofNat u)) (62 + 10 * u) k)) J) () rfl (by rw [cpb_0]) ?_ ?_
    · intro k hk _ ih
      have ih := ih ()
      rw [← cpb_s _ (by omega) hk] at ih
      have hnk : ¬ 9 ≤ k := by omega
      simp (disch := first | assumption | omega | decide | exact la_87 | exact la_88 | exact la_90 | exact la_91 | exact la_92 | exact la_93 | exact la_94 | exact la_95 | exact la_96 | exact la_97 | exact la_98 | exact la_99 | exact la_10 | exact la_23 | exact la_77 | exact la_78 | exact la_18 | exact la_19 | exact la_20) only [u143_39, u143_40, u143_42, u143_45, u143_46, u143_49, u143_50, u143_51, u143_52, u143_53, u143_56, u143_57, u143_58, u143_59, u143_60, u143_61, la_86, la_87, lt_87, lr_86_0, kLt, true_and, o_aa, o_al, o_la, o_mm, o_ml, o_lm, o_ss, o_sl, o_ls, o_tn, o_tl, o_lt, o_ltl, o_llt, o_le, o_lel, o_lle, o_eq, o_eql, o_leq, o_inb, o_inl, o_neg, hnk, if_false, up_s, up_u, wI_d, show 5 + k < 142 by omega, show 62 + 10 * u + k < 142 by omega]
      exact (u143_64 ..).mpr ih
    · intro _
      have e9 : cpb (upd (I1 87) 4 (Int32.ofNat u)) (62 + 10 * u) 9 (62 + 10 * u + 9) = Int32.ofNat T := by
        rw [cpb_o _ (by omega), ud_o _ _ (by omega), hm 87 (by omega)]
        exact g6
      simp (disch := first | assumption | omega | decide | exact la_87 | exact la_88 | exact la_90 | exact la_91 | exact la_92 | exact la_93 | exact la_94 | exact la_95 | exact la_96 | exact la_97 | exact la_98 | exact la_99 | exact la_10 | exact la_23 | exact la_77 | exact la_78 | exact la_18 | exact la_19 | exact la_20) only [u143_39, u143_40, u143_42, u143_45, u143_46, u143_49, u143_50, u143_51, u143_52, u143_53, u143_56, u143_57, u143_58, u143_59, u143_60, u143_61, u143_67, u143_68, u143_71, u143_72, u143_73, u143_76, u143_77, u143_79, u143_80, u143_81, u143_82, u143_83, u143_86, u143_87, u143_88, la_86, la_87, lt_87, lr_86_0, kLt, true_and, o_aa, o_al, o_la, o_mm, o_ml, o_lm, o_ss, o_sl, o_ls, o_tn, o_tl, o_lt, o_ltl, o_llt, o_le, o_lel, o_lle, o_eq, o_eql, o_leq, o_inb, o_inl, o_neg, Nat.le_refl, if_true, up_s, up_u, ud_s, wI_d, Nat.reduceLT, show 62 + 10 * u + 9 < 142 by omega, e9]
      refine ⟨_, _, ?_, rfl, ?_, ?_, ?_⟩
      · rw [g5]
      · rw [up_o _ _ (by decide), hm 999 (by omega)]
      · rw [up_o _ _ (by decide), hm 1000 (by omega)]
      · rw [hm 87 (by omega), ← hI1]
        refine Rel_now hR (by omega) ?_ (fun q g1 g2 g3 g4 g5 => by simp (disch := omega) only [gbC, up_o]) (by simp (disch := decide) only [gbC, up_o]) (by simp (disch := decide) only [gbC, up_o]) ⟨rfl, rfl, rfl, rfl⟩
        unfold VR
        simp (disch := decide) only [gbC, up_s, up_o, Nat.reduceAdd]
        refine ⟨VT_M ra (fun k hk => ?_), VW_M rb (fun k hk => ?_), VM_M rc (fun k hk => ?_), ⟨⟨T, by omega, ?_, ?_⟩, ?_, fun j hj => ?_⟩, ⟨o, u, ho, by omega, ?_, ?_, ?_, fun k hk => ?_⟩⟩
        · rw [ud_o _ _ (by omega), cpb_o _ (by omega), ud_o _ _ (by omega)]
        · rw [ud_o _ _ (by omega), cpb_o _ (by omega), ud_o _ _ (by omega)]
        · rw [ud_o _ _ (by omega), cpb_o _ (by omega), ud_o _ _ (by omega)]
        · rw [ud_s]; exact g5
        · rw [ud_s]
        · rw [ud_o _ _ (by omega), ud_s, ud_o _ _ (by omega), show (13 : Nat) = 5 + 8 from rfl, cpb_i _ (by omega), ud_o _ _ (by omega)]
          exact g2
        · obtain ⟨w, hw, a1, a2⟩ := g1 j hj
          refine ⟨w, hw, ?_, ?_⟩
          · rw [pk_cpy_in (by omega) (by omega), show (o + u) % 8 * 8 + (j - 0) = (o + u) % 8 * 8 + j by omega]; exact a1
          · rw [ud_o _ _ (by omega), cpb_i _ (by omega), ud_o _ _ (by omega)]; exact a2
        · rw [ud_o _ _ (by omega)]; exact f1
        · rw [ud_s]
        · rw [ud_o _ _ (by omega), cpb_o _ (by omega), ud_s]
        · obtain ⟨q1, q2, T2, hT2, q3, q4⟩ := f4 k (by omega)
          refine ⟨fun j hj => ?_, ?_, T2, by omega, q3, ?_⟩
          · rw [ud_o _ _ (by omega), cpb_o _ (by omega), ud_o _ _ (by omega)]; exact q1 j hj
          · rw [ud_o _ _ (by omega), cpb_o _ (by omega), ud_o _ _ (by omega)]; exact q2
          · rw [ud_o _ _ (by omega), cpb_o _ (by omega), ud_o _ _ (by omega)]; exact q4
