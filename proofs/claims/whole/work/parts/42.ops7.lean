/-! THE CALLS: count, of -/
def amC (I : Nat → Nat → Int32) (k : Nat) : Int32 := match k with
  | 0 => I 11 1
  | 1 => I 13 1
  | 2 => I 9 2
  | 3 => sb (I 10) 255 8
  | 4 => I 15 1
  | 5 => I 17 4
  | _ => I 62 3
def amM (I : Nat → Nat → Int32) (k : Nat) : Int32 := match k with
  | 0 => I 87 0
  | 1 => I 87 1
  | 2 => I 87 2
  | 3 => sm (fun j => I 87 (5 + j)) 8
  | 4 => I 87 3
  | 5 => I 87 4
  | _ => I 86 15
theorem am_eq {I : Nat → Nat → Int32} {J : Nat → Nat → Int64} {B : Nat} (h : Rel I J B) {k : Nat} (hk : k < 7) : amM I k = amC I k := by
  obtain ⟨⟨⟨n, hn, a1, a2, -⟩, ⟨n2, hn2, b1, b2, -⟩, ⟨n3, hn3, c1, c2, -⟩, ⟨⟨T, hT, d1, d2⟩, e1, e2⟩, ⟨o, u, ho, hu, f1, f2, f3, f4⟩⟩, -, -, ⟨z, hz, g1, g2, -⟩, -⟩ := h
  obtain rfl | rfl | rfl | rfl | rfl | rfl | rfl : k = 0 ∨ k = 1 ∨ k = 2 ∨ k = 3 ∨ k = 4 ∨ k = 5 ∨ k = 6 := by omega
  · exact a2.trans a1.symm
  · exact b2.trans b1.symm
  · exact d2.trans d1.symm
  · show sm (fun j => I 87 (5 + j)) 8 = sb (I 10) 255 8
    rw [sb_255 _ 8 (by omega)]
    refine sm_eq (n := 8) (fun j hj => ?_) 8 (by omega)
    obtain ⟨w, hw, q1, q2⟩ := e2 j hj
    exact q2.trans q1.symm
  · exact c2.trans c1.symm
  · exact f3.trans f2.symm
  · exact g2.trans g1.symm
section CNT
variable {m pc : Nat} {ls st : Vs} {I : Nat → Nat → Int32} {J : Nat → Nat → Int64} {Q : Option Value → Sto → Prop}
theorem c104 (k : Nat) (hk : k < 7) : Ca 104 [.ref 0, .int (Int32.ofNat k)] (Sg I J) m pc ls st Q ↔ Rn m pc ls (.int (amC I k) :: st) (Sg I J) Q := Ca_of (r := some (.int (amC I k))) (fun Q h => by
  obtain rfl | rfl | rfl | rfl | rfl | rfl | rfl : k = 0 ∨ k = 1 ∨ k = 2 ∨ k = 3 ∨ k = 4 ∨ k = 5 ∨ k = 6 := by omega
  · rw [show Int32.ofNat 0 = 0 from rfl]
    simp (disch := decide) only [u104_0, u104_1_0, u104_40, u104_41, u104_44, u104_47, u104_50, u104_51, u104_52, u104_55, u104_58, u104_61, u104_62, u104_63, u104_66, u104_69, u104_72, u104_73, u104_74, u104_77, u104_80, u104_83, u104_86, u104_87, u104_88, u104_91, u104_94, u104_97, u104_98, u104_99, u104_102, u104_105, u104_108, u104_109, u104_110, u104_113, u104_116, c59 9 lisY_9, la_0, la_8, la_9, la_11, la_13, la_15, la_17, lr_0_0, lr_8_1, lr_8_2, lr_8_3, lr_8_4, lr_8_5, kLt, true_and]
    exact h
  · rw [show Int32.ofNat 1 = 1 from rfl]
    simp (disch := decide) only [u104_0, u104_1_1, u104_40, u104_41, u104_44, u104_47, u104_50, u104_51, u104_52, u104_55, u104_58, u104_61, u104_62, u104_63, u104_66, u104_69, u104_72, u104_73, u104_74, u104_77, u104_80, u104_83, u104_86, u104_87, u104_88, u104_91, u104_94, u104_97, u104_98, u104_99, u104_102, u104_105, u104_108, u104_109, u104_110, u104_113, u104_116, c59 9 lisY_9, la_0, la_8, la_9, la_11, la_13, la_15, la_17, lr_0_0, lr_8_1, lr_8_2, lr_8_3, lr_8_4, lr_8_5, kLt, true_and]
    exact h
  · rw [show Int32.ofNat 2 = 2 from rfl]
    simp (disch := decide) only [u104_0, u104_1_2, u104_40, u104_41, u104_44, u104_47, u104_50, u104_51, u104_52, u104_55, u104_58, u104_61, u104_62, u104_63, u104_66, u104_69, u104_72, u104_73, u104_74, u104_77, u104_80, u104_83, u104_86, u104_87, u104_88, u104_91, u104_94, u104_97, u104_98, u104_99, u104_102, u104_105, u104_108, u104_109, u104_110, u104_113, u104_116, c59 9 lisY_9, la_0, la_8, la_9, la_11, la_13, la_15, la_17, lr_0_0, lr_8_1, lr_8_2, lr_8_3, lr_8_4, lr_8_5, kLt, true_and]
    exact h
  · rw [show Int32.ofNat 3 = 3 from rfl]
    simp (disch := decide) only [u104_0, u104_1_3, u104_40, u104_41, u104_44, u104_47, u104_50, u104_51, u104_52, u104_55, u104_58, u104_61, u104_62, u104_63, u104_66, u104_69, u104_72, u104_73, u104_74, u104_77, u104_80, u104_83, u104_86, u104_87, u104_88, u104_91, u104_94, u104_97, u104_98, u104_99, u104_102, u104_105, u104_108, u104_109, u104_110, u104_113, u104_116, c59 9 lisY_9, la_0, la_8, la_9, la_11, la_13, la_15, la_17, lr_0_0, lr_8_1, lr_8_2, lr_8_3, lr_8_4, lr_8_5, kLt, true_and]
    exact h
  · rw [show Int32.ofNat 4 = 4 from rfl]
    simp (disch := decide) only [u104_0, u104_1_4, u104_40, u104_41, u104_44, u104_47, u104_50, u104_51, u104_52, u104_55, u104_58, u104_61, u104_62, u104_63, u104_66, u104_69, u104_72, u104_73, u104_74, u104_77, u104_80, u104_83, u104_86, u104_87, u104_88, u104_91, u104_94, u104_97, u104_98, u104_99, u104_102, u104_105, u104_108, u104_109, u104_110, u104_113, u104_116, c59 9 lisY_9, la_0, la_8, la_9, la_11, la_13, la_15, la_17, lr_0_0, lr_8_1, lr_8_2, lr_8_3, lr_8_4, lr_8_5, kLt, true_and]
    exact h
  · rw [show Int32.ofNat 5 = 5 from rfl]
    simp (disch := decide) only [u104_0, u104_1_5, u104_40, u104_41, u104_44, u104_47, u104_50, u104_51, u104_52, u104_55, u104_58, u104_61, u104_62, u104_63, u104_66, u104_69, u104_72, u104_73, u104_74, u104_77, u104_80, u104_83, u104_86, u104_87, u104_88, u104_91, u104_94, u104_97, u104_98, u104_99, u104_102, u104_105, u104_108, u104_109, u104_110, u104_113, u104_116, c59 9 lisY_9, la_0, la_8, la_9, la_11, la_13, la_15, la_17, lr_0_0, lr_8_1, lr_8_2, lr_8_3, lr_8_4, lr_8_5, kLt, true_and]
    exact h
  · simp (disch := decide) only [u104_0, u104_1 (Int32.ofNat 6) (Or.inr (by decide)), u104_40, u104_41, u104_44, u104_47, u104_50, u104_51, u104_52, u104_55, u104_58, u104_61, u104_62, u104_63, u104_66, u104_69, u104_72, u104_73, u104_74, u104_77, u104_80, u104_83, u104_86, u104_87, u104_88, u104_91, u104_94, u104_97, u104_98, u104_99, u104_102, u104_105, u104_108, u104_109, u104_110, u104_113, u104_116, la_0, la_62, lr_0_4, kLt, true_and]
    exact h)
theorem c192 (k : Nat) (hk : k < 7) : Ca 192 [.ref 86, .int (Int32.ofNat k)] (Sg I J) m pc ls st Q ↔ Rn m pc ls (.int (amM I k) :: st) (Sg I J) Q := Ca_of (r := some (.int (amM I k))) (fun Q h => by
  obtain rfl | rfl | rfl | rfl | rfl | rfl | rfl : k = 0 ∨ k = 1 ∨ k = 2 ∨ k = 3 ∨ k = 4 ∨ k = 5 ∨ k = 6 := by omega
  · rw [show Int32.ofNat 0 = 0 from rfl]
    simp (disch := first | assumption | omega | decide | exact la_87 | exact la_88 | exact la_90 | exact la_91 | exact la_92 | exact la_93 | exact la_94 | exact la_95 | exact la_96 | exact la_97 | exact la_98 | exact la_99 | exact la_10 | exact la_23 | exact la_77 | exact la_78 | exact la_18 | exact la_19 | exact la_20) only [u192_0, u192_1_0, u192_40, u192_41, u192_44, u192_45, u192_46, u192_49, u192_50, u192_51, u192_54, u192_55, u192_56, u192_57, u192_58, u192_61, u192_62, u192_63, u192_66, u192_67, u192_68, u192_69, u192_70, u192_73, u192_74, u192_75, u192_76, u192_77, u192_80, c119, c120, c191, la_86, la_87, lt_87, lr_86_0, kLt, true_and, o_aa, o_al, o_la, o_mm, o_ml, o_lm, o_ss, o_sl, o_ls, o_tn, o_tl, o_lt, o_ltl, o_llt, o_le, o_lel, o_lle, o_eq, o_eql, o_leq, o_inb, o_inl, o_neg, Nat.reduceLT]
    exact h
  · rw [show Int32.ofNat 1 = 1 from rfl]
    simp (disch := first | assumption | omega | decide | exact la_87 | exact la_88 | exact la_90 | exact la_91 | exact la_92 | exact la_93 | exact la_94 | exact la_95 | exact la_96 | exact la_97 | exact la_98 | exact la_99 | exact la_10 | exact la_23 | exact la_77 | exact la_78 | exact la_18 | exact la_19 | exact la_20) only [u192_0, u192_1_1, u192_40, u192_41, u192_44, u192_45, u192_46, u192_49, u192_50, u192_51, u192_54, u192_55, u192_56, u192_57, u192_58, u192_61, u192_62, u192_63, u192_66, u192_67, u192_68, u192_69, u192_70, u192_73, u192_74, u192_75, u192_76, u192_77, u192_80, c119, c120, c191, la_86, la_87, lt_87, lr_86_0, kLt, true_and, o_aa, o_al, o_la, o_mm, o_ml, o_lm, o_ss, o_sl, o_ls, o_tn, o_tl, o_lt, o_ltl, o_llt, o_le, o_lel, o_lle, o_eq, o_eql, o_leq, o_inb, o_inl, o_neg, Nat.reduceLT]
    exact h
  · rw [show Int32.ofNat 2 = 2 from rfl]
    simp (disch := first | assumption | omega | decide | exact la_87 | exact la_88 | exact la_90 | exact la_91 | exact la_92 | exact la_93 | exact la_94 | exact la_95 | exact la_96 | exact la_97 | exact la_98 | exact la_99 | exact la_10 | exact la_23 | exact la_77 | exact la_78 | exact la_18 | exact la_19 | exact la_20) only [u192_0, u192_1_2, u192_40, u192_41, u192_44, u192_45, u192_46, u192_49, u192_50, u192_51, u192_54, u192_55, u192_56, u192_57, u192_58, u192_61, u192_62, u192_63, u192_66, u192_67, u192_68, u192_69, u192_70, u192_73, u192_74, u192_75, u192_76, u192_77, u192_80, c119, c120, c191, la_86, la_87, lt_87, lr_86_0, kLt, true_and, o_aa, o_al, o_la, o_mm, o_ml, o_lm, o_ss, o_sl, o_ls, o_tn, o_tl, o_lt, o_ltl, o_llt, o_le, o_lel, o_lle, o_eq, o_eql, o_leq, o_inb, o_inl, o_neg, Nat.reduceLT]
    exact h
  · rw [show Int32.ofNat 3 = 3 from rfl]
    simp (disch := first | assumption | omega | decide | exact la_87 | exact la_88 | exact la_90 | exact la_91 | exact la_92 | exact la_93 | exact la_94 | exact la_95 | exact la_96 | exact la_97 | exact la_98 | exact la_99 | exact la_10 | exact la_23 | exact la_77 | exact la_78 | exact la_18 | exact la_19 | exact la_20) only [u192_0, u192_1_3, u192_40, u192_41, u192_44, u192_45, u192_46, u192_49, u192_50, u192_51, u192_54, u192_55, u192_56, u192_57, u192_58, u192_61, u192_62, u192_63, u192_66, u192_67, u192_68, u192_69, u192_70, u192_73, u192_74, u192_75, u192_76, u192_77, u192_80, c119, c120, c191, la_86, la_87, lt_87, lr_86_0, kLt, true_and, o_aa, o_al, o_la, o_mm, o_ml, o_lm, o_ss, o_sl, o_ls, o_tn, o_tl, o_lt, o_ltl, o_llt, o_le, o_lel, o_lle, o_eq, o_eql, o_leq, o_inb, o_inl, o_neg, Nat.reduceLT]
    exact h
  · rw [show Int32.ofNat 4 = 4 from rfl]
    simp (disch := first | assumption | omega | decide | exact la_87 | exact la_88 | exact la_90 | exact la_91 | exact la_92 | exact la_93 | exact la_94 | exact la_95 | exact la_96 | exact la_97 | exact la_98 | exact la_99 | exact la_10 | exact la_23 | exact la_77 | exact la_78 | exact la_18 | exact la_19 | exact la_20) only [u192_0, u192_1_4, u192_40, u192_41, u192_44, u192_45, u192_46, u192_49, u192_50, u192_51, u192_54, u192_55, u192_56, u192_57, u192_58, u192_61, u192_62, u192_63, u192_66, u192_67, u192_68, u192_69, u192_70, u192_73, u192_74, u192_75, u192_76, u192_77, u192_80, c119, c120, c191, la_86, la_87, lt_87, lr_86_0, kLt, true_and, o_aa, o_al, o_la, o_mm, o_ml, o_lm, o_ss, o_sl, o_ls, o_tn, o_tl, o_lt, o_ltl, o_llt, o_le, o_lel, o_lle, o_eq, o_eql, o_leq, o_inb, o_inl, o_neg, Nat.reduceLT]
    exact h
  · rw [show Int32.ofNat 5 = 5 from rfl]
    simp (disch := first | assumption | omega | decide | exact la_87 | exact la_88 | exact la_90 | exact la_91 | exact la_92 | exact la_93 | exact la_94 | exact la_95 | exact la_96 | exact la_97 | exact la_98 | exact la_99 | exact la_10 | exact la_23 | exact la_77 | exact la_78 | exact la_18 | exact la_19 | exact la_20) only [u192_0, u192_1_5, u192_40, u192_41, u192_44, u192_45, u192_46, u192_49, u192_50, u192_51, u192_54, u192_55, u192_56, u192_57, u192_58, u192_61, u192_62, u192_63, u192_66, u192_67, u192_68, u192_69, u192_70, u192_73, u192_74, u192_75, u192_76, u192_77, u192_80, c119, c120, c191, la_86, la_87, lt_87, lr_86_0, kLt, true_and, o_aa, o_al, o_la, o_mm, o_ml, o_lm, o_ss, o_sl, o_ls, o_tn, o_tl, o_lt, o_ltl, o_llt, o_le, o_lel, o_lle, o_eq, o_eql, o_leq, o_inb, o_inl, o_neg, Nat.reduceLT]
    exact h
  · simp (disch := decide) only [u192_0, u192_1 (Int32.ofNat 6) (Or.inr (by decide)), u192_40, u192_41, u192_44, u192_45, u192_46, u192_49, u192_50, u192_51, u192_54, u192_55, u192_56, u192_57, u192_58, u192_61, u192_62, u192_63, u192_66, u192_67, u192_68, u192_69, u192_70, u192_73, u192_74, u192_75, u192_76, u192_77, u192_80, la_86, kLt, true_and]
    exact h)
/-- the rows below k in which C has the value x, as bits -/
def rw3 (C : Nat → Int32) (x : Int32) (k : Nat) : Int32 := Nat.rec 0 (fun j s => if C j = x then s ||| (1 <<< (Int32.ofNat j &&& 31)) else s) k
theorem rw3_s (C : Nat → Int32) (x : Int32) (k : Nat) : rw3 C x (k + 1) = if C k = x then rw3 C x k ||| (1 <<< (Int32.ofNat k &&& 31)) else rw3 C x k := rfl
theorem c37 (t : Nat) (ht : isT t) (n c : Nat) (hn : n ≤ 6) (hc : c < 3) (en : I t 1 = Int32.ofNat n) (x : Int32) : Ca 37 [.ref t, .int (Int32.ofNat c), .int x, .null, .null] (Sg I J) m pc ls st Q ↔ Rn m pc ls (.int (rw3 (fun j => I (t + 1) (j * 3 + c)) x n) :: st) (Sg I J) Q := Ca_of (r := some (.int (rw3 (fun j => I (t + 1) (j * 3 + c)) x n))) (fun Q h => by
  have hcell := fun r q => @c35 37 21 [.ref t, .int (Int32.ofNat c), .int x, .int (rw3 (fun j => I (t + 1) (j * 3 + c)) x r), .int (Int32.ofNat r)] [] I J Q t ht (Int32.ofNat r) q
  obtain ⟨f1, f2, f3, f4, f5, f6⟩ := isT_f ht
  clear ht
  simp only [u37_0, u37_1, u37_2, u37_3]
  refine Rn_fr (n := n) (X := Unit) (fun k _ => [.ref t, .int (Int32.ofNat c), .int x, .int (rw3 (fun j => I (t + 1) (j * 3 + c)) x k), .int (Int32.ofNat k)]) (fun k _ => Sg I J) () rfl rfl ?_ ?_
  · intro k hk _ ih
    have ih := ih ()
    rw [rw3_s] at ih
    have hnk : ¬ n ≤ k := by omega
    have hk18 : k * 3 + c < 18 := by omega
    simp (disch := first | assumption | omega | decide | exact la_87 | exact la_88 | exact la_90 | exact la_91 | exact la_92 | exact la_93 | exact la_94 | exact la_95 | exact la_96 | exact la_97 | exact la_98 | exact la_99 | exact la_10 | exact la_23 | exact la_77 | exact la_78 | exact la_18 | exact la_19 | exact la_20) only [u37_5, u37_7, u37_8, u37_11, u37_14, u37_15, u37_17, u37_18, u37_21, u37_22, u37_25, u37_26, u37_27, u37_29, u37_30, u37_31, u37_32, u37_38, u37_39, hcell, f1, f5, true_and, en, o_aa, o_al, o_la, o_mm, o_ml, o_lm, o_ss, o_sl, o_ls, o_tn, o_tl, o_lt, o_ltl, o_llt, o_le, o_lel, o_lle, o_eq, o_eql, o_leq, o_inb, o_inl, o_neg, hnk, hk18, if_false]
    by_cases hx : I (t + 1) (k * 3 + c) = x
    · rw [if_pos hx] at ih
      simp only [hx, not_true, if_false]
      exact (u37_35 ..).mpr ih
    · rw [if_neg hx] at ih
      simp only [hx, not_false_eq_true, if_true]
      exact (u37_35 ..).mpr ih
  · intro _
    simp (disch := first | assumption | omega | decide | exact la_87 | exact la_88 | exact la_90 | exact la_91 | exact la_92 | exact la_93 | exact la_94 | exact la_95 | exact la_96 | exact la_97 | exact la_98 | exact la_99 | exact la_10 | exact la_23 | exact la_77 | exact la_78 | exact la_18 | exact la_19 | exact la_20) only [u37_5, u37_7, u37_8, u37_11, u37_14, u37_15, u37_17, u37_18, u37_21, u37_22, u37_25, u37_26, u37_27, u37_29, u37_30, u37_31, u37_32, u37_38, u37_39, f1, f5, true_and, en, o_aa, o_al, o_la, o_mm, o_ml, o_lm, o_ss, o_sl, o_ls, o_tn, o_tl, o_lt, o_ltl, o_llt, o_le, o_lel, o_lle, o_eq, o_eql, o_leq, o_inb, o_inl, o_neg, Nat.le_refl, if_true]
    exact h)
end CNT
theorem op34 (a : Int32) : OpI 98 [.ref 0, .int a] 193 [.ref 86, .int a] := by
  intro I J B hR hB
  by_cases h1 : 0 ≤ a ∧ a ≤ 6
  · obtain ⟨k, hk, rfl⟩ := o_in (m := 6) h1.1 h1.2 (by omega)
    simp (disch := decide) only [u98_0, u98_1, u98_2, u98_4, u98_7, u98_10, u98_11, u98_13, u98_16, u98_17, u98_18, u98_19, u98_22, c100, c104 k (by omega), bi_0, h1, not_true, not_false_eq_true, if_true, if_false, la_0, kLt, true_and]
    refine ⟨_, _, _, rfl, rfl, rfl, rfl, ?_⟩
    simp (disch := first | assumption | omega | decide | exact la_87 | exact la_88 | exact la_90 | exact la_91 | exact la_92 | exact la_93 | exact la_94 | exact la_95 | exact la_96 | exact la_97 | exact la_98 | exact la_99 | exact la_10 | exact la_23 | exact la_77 | exact la_78 | exact la_18 | exact la_19 | exact la_20) only [u193_0, u193_1, u193_2, u193_3, u193_6, u193_9, u193_12, u193_13, u193_14, u193_17, u193_20, u193_21, u193_23, u193_26, c113n, c192 k (by omega), bi_0, h1, not_true, not_false_eq_true, if_true, if_false, la_86, kLt, true_and]
    exact fin_same hR (am_eq hR (by omega))
  · simp (disch := decide) only [u98_0, u98_1, u98_2, u98_4, u98_7, u98_10, u98_11, u98_13, u98_16, u98_17, u98_18, u98_19, u98_22, c100, c103b, bi_0, h1, not_true, not_false_eq_true, if_true, if_false, la_0, kLt, true_and]
    refine ⟨_, _, _, rfl, rfl, up_o _ _ (by decide), up_o _ _ (by decide), ?_⟩
    simp (disch := first | assumption | omega | decide | exact la_87 | exact la_88 | exact la_90 | exact la_91 | exact la_92 | exact la_93 | exact la_94 | exact la_95 | exact la_96 | exact la_97 | exact la_98 | exact la_99 | exact la_10 | exact la_23 | exact la_77 | exact la_78 | exact la_18 | exact la_19 | exact la_20) only [u193_0, u193_1, u193_2, u193_3, u193_6, u193_9, u193_12, u193_13, u193_14, u193_17, u193_20, u193_21, u193_23, u193_26, c113n, c114, bi_0, h1, not_true, not_false_eq_true, if_true, if_false, la_86, kLt, true_and]
    exact fin_bad' hR
