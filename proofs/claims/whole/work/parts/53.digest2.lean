/-! THE CALL: digest, the whole -/
abbrev dgC (I : Nat → Nat → Int32) (n n2 n3 : Nat) : Int64 := hs2 (hs2 (hs2 (hs (hs (hs 1109 (amC I) 7) (I 10) 8) (fun j => (I 9 1 >>> (Int32.ofNat j &&& 31)) &&& 1) 7) (fun k j => I 12 (k * 3 + j)) 3 n) (fun k j => I 14 (k * 3 + j)) 2 n2) (fun k j => I 16 (k * 3 + j)) 3 n3
abbrev dgM (I : Nat → Nat → Int32) (n n2 n3 : Nat) : Int64 := hs (hs (hs (hs (hs (hs 1109 (amM I) 7) (fun j => I 87 (5 + j)) 8) (fun j => (I 87 13 >>> (Int32.ofNat j &&& 31)) &&& 1) 7) (fun j => I 87 (14 + j)) (3 * n)) (fun j => I 87 (32 + j)) (2 * n2)) (fun j => I 87 (44 + j)) (3 * n3)
section DIG2
variable {I : Nat → Nat → Int32} {J : Nat → Nat → Int64} {Q : Option Value → Sto → Prop}
theorem dg_c {n n2 n3 : Nat} (hn : n ≤ 6) (hn2 : n2 ≤ 6) (hn3 : n3 ≤ 6) (e1 : I 11 1 = Int32.ofNat n) (e2 : I 13 1 = Int32.ofNat n2) (e3 : I 15 1 = Int32.ofNat n3) (hq : Q (some (.long (31 * (31 * dgC I n n2 n3 + J 0 7) + J 0 8))) (Sg I J)) : Rn 99 0 [.ref 0, .null, .null, .null] [] (Sg I J) Q := by
  have h1 : ∀ (pc : Nat) (ls st : Vs) (h0 : Int64), Ca 38 [.ref 11, .long h0, .null, .int 3, .null, .null, .null, .null] (Sg I J) 99 pc ls st Q ↔ Rn 99 pc ls (.long (hs2 h0 (fun k j => I 12 (k * 3 + j)) 3 n) :: st) (Sg I J) Q := fun pc ls st h0 => c38 11 lisT_11 n 3 hn (by omega) e1 h0
  have h2 : ∀ (pc : Nat) (ls st : Vs) (h0 : Int64), Ca 38 [.ref 13, .long h0, .null, .int 2, .null, .null, .null, .null] (Sg I J) 99 pc ls st Q ↔ Rn 99 pc ls (.long (hs2 h0 (fun k j => I 14 (k * 3 + j)) 2 n2) :: st) (Sg I J) Q := fun pc ls st h0 => c38 13 lisT_13 n2 2 hn2 (by omega) e2 h0
  have h3 : ∀ (pc : Nat) (ls st : Vs) (h0 : Int64), Ca 38 [.ref 15, .long h0, .null, .int 3, .null, .null, .null, .null] (Sg I J) 99 pc ls st Q ↔ Rn 99 pc ls (.long (hs2 h0 (fun k j => I 16 (k * 3 + j)) 3 n3) :: st) (Sg I J) Q := fun pc ls st h0 => c38 15 lisT_15 n3 3 hn3 (by omega) e3 h0
  simp only [dgC] at hq
  simp only [u99_0, u99_3, u99_4, u99_5]
  refine Rn_fr (n := 7) (X := Unit) (fun k _ => [.ref 0, .long (hs 1109 (amC I) k), .null, .int (Int32.ofNat k)]) (fun k _ => Sg I J) () rfl rfl ?_ ?_
  · intro k hk _ ih
    have ih := ih ()
    rw [hs_s] at ih
    have hnk : ¬ 7 ≤ k := by omega
    simp (disch := first | assumption | omega | decide | exact la_87 | exact la_88 | exact la_90 | exact la_91 | exact la_92 | exact la_93 | exact la_94 | exact la_95 | exact la_96 | exact la_97 | exact la_98 | exact la_99 | exact la_10 | exact la_23 | exact la_77 | exact la_78 | exact la_18 | exact la_19 | exact la_20) only [u99_6, u99_7, u99_9, u99_12, u99_13, u99_14, u99_15, u99_18, u99_19, u99_22, u99_23, c104 k hk, c102, la_0, kLt, true_and, o_aa, o_al, o_la, o_mm, o_ml, o_lm, o_ss, o_sl, o_ls, o_tn, o_tl, o_lt, o_ltl, o_llt, o_le, o_lel, o_lle, o_eq, o_eql, o_leq, o_inb, o_inl, o_neg, hnk, if_false]
    exact (u99_26 ..).mpr ih
  intro _
  simp (disch := first | assumption | omega | decide | exact la_87 | exact la_88 | exact la_90 | exact la_91 | exact la_92 | exact la_93 | exact la_94 | exact la_95 | exact la_96 | exact la_97 | exact la_98 | exact la_99 | exact la_10 | exact la_23 | exact la_77 | exact la_78 | exact la_18 | exact la_19 | exact la_20) only [u99_6, u99_7, u99_9, u99_29, u99_30, o_aa, o_al, o_la, o_mm, o_ml, o_lm, o_ss, o_sl, o_ls, o_tn, o_tl, o_lt, o_ltl, o_llt, o_le, o_lel, o_lle, o_eq, o_eql, o_leq, o_inb, o_inl, o_neg, Nat.le_refl, if_true]
  generalize hs 1109 (amC I) 7 = g1 at hq ⊢
  refine Rn_fr (n := 8) (X := Unit) (fun k _ => [.ref 0, .long (hs g1 (I 10) k), .null, .int (Int32.ofNat k)]) (fun k _ => Sg I J) () rfl rfl ?_ ?_
  · intro k hk _ ih
    have ih := ih ()
    rw [hs_s] at ih
    have hnk : ¬ 8 ≤ k := by omega
    simp (disch := first | assumption | omega | decide | exact la_87 | exact la_88 | exact la_90 | exact la_91 | exact la_92 | exact la_93 | exact la_94 | exact la_95 | exact la_96 | exact la_97 | exact la_98 | exact la_99 | exact la_10 | exact la_23 | exact la_77 | exact la_78 | exact la_18 | exact la_19 | exact la_20) only [u99_31, u99_32, u99_34, u99_37, u99_38, u99_39, u99_42, u99_45, u99_48, u99_49, u99_50, u99_51, u99_54, u99_55, c102, la_0, la_8, la_9, la_10, lt_10, lr_0_0, lr_8_1, lr_9_0, kLt, true_and, o_aa, o_al, o_la, o_mm, o_ml, o_lm, o_ss, o_sl, o_ls, o_tn, o_tl, o_lt, o_ltl, o_llt, o_le, o_lel, o_lle, o_eq, o_eql, o_leq, o_inb, o_inl, o_neg, hk, hnk, if_false]
    exact (u99_58 ..).mpr ih
  intro _
  simp (disch := first | assumption | omega | decide | exact la_87 | exact la_88 | exact la_90 | exact la_91 | exact la_92 | exact la_93 | exact la_94 | exact la_95 | exact la_96 | exact la_97 | exact la_98 | exact la_99 | exact la_10 | exact la_23 | exact la_77 | exact la_78 | exact la_18 | exact la_19 | exact la_20) only [u99_31, u99_32, u99_34, u99_61, u99_62, o_aa, o_al, o_la, o_mm, o_ml, o_lm, o_ss, o_sl, o_ls, o_tn, o_tl, o_lt, o_ltl, o_llt, o_le, o_lel, o_lle, o_eq, o_eql, o_leq, o_inb, o_inl, o_neg, Nat.le_refl, if_true]
  generalize hs g1 (I 10) 8 = g2 at hq ⊢
  refine Rn_fr (n := 7) (X := Unit) (fun k _ => [.ref 0, .long (hs g2 (fun j => (I 9 1 >>> (Int32.ofNat j &&& 31)) &&& 1) k), .null, .int (Int32.ofNat k)]) (fun k _ => Sg I J) () rfl rfl ?_ ?_
  · intro k hk _ ih
    have ih := ih ()
    rw [hs_s] at ih
    have hnk : ¬ 7 ≤ k := by omega
    simp (disch := first | assumption | omega | decide | exact la_87 | exact la_88 | exact la_90 | exact la_91 | exact la_92 | exact la_93 | exact la_94 | exact la_95 | exact la_96 | exact la_97 | exact la_98 | exact la_99 | exact la_10 | exact la_23 | exact la_77 | exact la_78 | exact la_18 | exact la_19 | exact la_20) only [u99_63, u99_64, u99_66, u99_69, u99_70, u99_71, u99_74, u99_77, u99_78, u99_81, u99_82, u99_85, u99_86, c102, c55 9 lisY_9, la_0, la_8, la_9, lr_0_0, lr_8_1, kLt, true_and, o_aa, o_al, o_la, o_mm, o_ml, o_lm, o_ss, o_sl, o_ls, o_tn, o_tl, o_lt, o_ltl, o_llt, o_le, o_lel, o_lle, o_eq, o_eql, o_leq, o_inb, o_inl, o_neg, hnk, if_false]
    exact (u99_89 ..).mpr ih
  intro _
  simp (disch := first | assumption | omega | decide | exact la_87 | exact la_88 | exact la_90 | exact la_91 | exact la_92 | exact la_93 | exact la_94 | exact la_95 | exact la_96 | exact la_97 | exact la_98 | exact la_99 | exact la_10 | exact la_23 | exact la_77 | exact la_78 | exact la_18 | exact la_19 | exact la_20) only [u99_63, u99_64, u99_66, u99_92, u99_93, u99_96, u99_99, u99_100, u99_101, u99_104, u99_105, u99_106, u99_109, u99_112, u99_113, u99_114, u99_117, u99_118, u99_119, u99_122, u99_125, u99_126, u99_127, u99_130, u99_131, u99_132, u99_133, u99_136, u99_139, u99_140, u99_143, u99_146, h1, h2, h3, c102, la_0, la_8, la_11, la_13, la_15, lr_0_0, lr_8_2, lr_8_3, lr_8_4, kLt, true_and, o_aa, o_al, o_la, o_mm, o_ml, o_lm, o_ss, o_sl, o_ls, o_tn, o_tl, o_lt, o_ltl, o_llt, o_le, o_lel, o_lle, o_eq, o_eql, o_leq, o_inb, o_inl, o_neg, Nat.le_refl, if_true]
  exact hq
theorem dg_m {n n2 n3 : Nat} (hn : n ≤ 6) (hn2 : n2 ≤ 6) (hn3 : n3 ≤ 6) (e1 : I 87 0 = Int32.ofNat n) (e2 : I 87 1 = Int32.ofNat n2) (e3 : I 87 3 = Int32.ofNat n3) (hq : Q (some (.long (31 * (31 * dgM I n n2 n3 + J 86 4) + J 86 5))) (Sg I J)) : Rn 195 0 [.ref 86, .null, .null, .null] [] (Sg I J) Q := by
  have h0 : ∀ (pc : Nat) (ls st : Vs) (h : Int64), Ca 194 [.ref 86, .long h, .null, .int 5, .int 8, .null, .null, .null] (Sg I J) 195 pc ls st Q ↔ Rn 195 pc ls (.long (hs h (fun j => I 87 (5 + j)) 8) :: st) (Sg I J) Q := fun pc ls st h => c194 5 8 (by omega) h
  have h1 : ∀ (pc : Nat) (ls st : Vs) (h : Int64), Ca 194 [.ref 86, .long h, .null, .int 14, .int (Int32.ofNat (3 * n)), .null, .null, .null] (Sg I J) 195 pc ls st Q ↔ Rn 195 pc ls (.long (hs h (fun j => I 87 (14 + j)) (3 * n)) :: st) (Sg I J) Q := fun pc ls st h => c194 14 (3 * n) (by omega) h
  have h2 : ∀ (pc : Nat) (ls st : Vs) (h : Int64), Ca 194 [.ref 86, .long h, .null, .int 32, .int (Int32.ofNat (2 * n2)), .null, .null, .null] (Sg I J) 195 pc ls st Q ↔ Rn 195 pc ls (.long (hs h (fun j => I 87 (32 + j)) (2 * n2)) :: st) (Sg I J) Q := fun pc ls st h => c194 32 (2 * n2) (by omega) h
  have h3 : ∀ (pc : Nat) (ls st : Vs) (h : Int64), Ca 194 [.ref 86, .long h, .null, .int 44, .int (Int32.ofNat (3 * n3)), .null, .null, .null] (Sg I J) 195 pc ls st Q ↔ Rn 195 pc ls (.long (hs h (fun j => I 87 (44 + j)) (3 * n3)) :: st) (Sg I J) Q := fun pc ls st h => c194 44 (3 * n3) (by omega) h
  simp only [dgM] at hq
  simp only [u195_0, u195_3, u195_4, u195_5]
  refine Rn_fr (n := 7) (X := Unit) (fun k _ => [.ref 86, .long (hs 1109 (amM I) k), .null, .int (Int32.ofNat k)]) (fun k _ => Sg I J) () rfl rfl ?_ ?_
  · intro k hk _ ih
    have ih := ih ()
    rw [hs_s] at ih
    have hnk : ¬ 7 ≤ k := by omega
    simp (disch := first | assumption | omega | decide | exact la_87 | exact la_88 | exact la_90 | exact la_91 | exact la_92 | exact la_93 | exact la_94 | exact la_95 | exact la_96 | exact la_97 | exact la_98 | exact la_99 | exact la_10 | exact la_23 | exact la_77 | exact la_78 | exact la_18 | exact la_19 | exact la_20) only [u195_6, u195_7, u195_9, u195_12, u195_15, u195_16, u195_17, u195_18, u195_19, u195_22, u195_23, u195_24, u195_25, c192 k hk, la_86, kLt, true_and, o_aa, o_al, o_la, o_mm, o_ml, o_lm, o_ss, o_sl, o_ls, o_tn, o_tl, o_lt, o_ltl, o_llt, o_le, o_lel, o_lle, o_eq, o_eql, o_leq, o_inb, o_inl, o_neg, hnk, if_false]
    exact (u195_28 ..).mpr ih
  intro _
  simp (disch := first | assumption | omega | decide | exact la_87 | exact la_88 | exact la_90 | exact la_91 | exact la_92 | exact la_93 | exact la_94 | exact la_95 | exact la_96 | exact la_97 | exact la_98 | exact la_99 | exact la_10 | exact la_23 | exact la_77 | exact la_78 | exact la_18 | exact la_19 | exact la_20) only [u195_6, u195_7, u195_9, u195_31, u195_32, u195_33, u195_34, u195_36, u195_39, u195_40, u195_41, h0, la_86, kLt, true_and, o_aa, o_al, o_la, o_mm, o_ml, o_lm, o_ss, o_sl, o_ls, o_tn, o_tl, o_lt, o_ltl, o_llt, o_le, o_lel, o_lle, o_eq, o_eql, o_leq, o_inb, o_inl, o_neg, Nat.le_refl, if_true]
  generalize hs 1109 (amM I) 7 = g1 at hq ⊢
  generalize hs g1 (fun j => I 87 (5 + j)) 8 = g2 at hq ⊢
  refine Rn_fr (n := 7) (X := Unit) (fun k _ => [.ref 86, .long (hs g2 (fun j => (I 87 13 >>> (Int32.ofNat j &&& 31)) &&& 1) k), .null, .int (Int32.ofNat k)]) (fun k _ => Sg I J) () rfl rfl ?_ ?_
  · intro k hk _ ih
    have ih := ih ()
    rw [hs_s] at ih
    have hnk : ¬ 7 ≤ k := by omega
    simp (disch := first | assumption | omega | decide | exact la_87 | exact la_88 | exact la_90 | exact la_91 | exact la_92 | exact la_93 | exact la_94 | exact la_95 | exact la_96 | exact la_97 | exact la_98 | exact la_99 | exact la_10 | exact la_23 | exact la_77 | exact la_78 | exact la_18 | exact la_19 | exact la_20) only [u195_42, u195_43, u195_45, u195_48, u195_51, u195_52, u195_53, u195_54, u195_57, u195_59, u195_60, u195_61, u195_62, u195_63, u195_64, u195_65, u195_66, u195_67, la_86, la_87, lt_87, lr_86_0, kLt, true_and, o_aa, o_al, o_la, o_mm, o_ml, o_lm, o_ss, o_sl, o_ls, o_tn, o_tl, o_lt, o_ltl, o_llt, o_le, o_lel, o_lle, o_eq, o_eql, o_leq, o_inb, o_inl, o_neg, Nat.reduceLT, hnk, if_false]
    exact (u195_70 ..).mpr ih
  intro _
  simp (disch := first | assumption | omega | decide | exact la_87 | exact la_88 | exact la_90 | exact la_91 | exact la_92 | exact la_93 | exact la_94 | exact la_95 | exact la_96 | exact la_97 | exact la_98 | exact la_99 | exact la_10 | exact la_23 | exact la_77 | exact la_78 | exact la_18 | exact la_19 | exact la_20) only [u195_42, u195_43, u195_45, u195_73, u195_74, u195_75, u195_77, u195_78, u195_79, u195_82, u195_83, u195_86, u195_87, u195_88, u195_89, u195_91, u195_92, u195_93, u195_96, u195_97, u195_100, u195_101, u195_102, u195_103, u195_105, u195_106, u195_107, u195_110, u195_111, u195_112, u195_113, u195_116, u195_117, u195_120, u195_123, u195_124, u195_125, u195_126, u195_129, u195_130, u195_131, u195_132, u195_135, u195_136, h1, h2, h3, c119, c120, e1, e2, e3, la_86, la_87, lt_87, lr_86_0, kLt, true_and, o_aa, o_al, o_la, o_mm, o_ml, o_lm, o_ss, o_sl, o_ls, o_tn, o_tl, o_lt, o_ltl, o_llt, o_le, o_lel, o_lle, o_eq, o_eql, o_leq, o_inb, o_inl, o_neg, Nat.reduceLT, Nat.le_refl, if_true]
  exact hq
end DIG2
theorem op35 : OpL 99 [.ref 0, .null, .null, .null] 195 [.ref 86, .null, .null, .null] := by
  intro I J B hR hB
  have hR0 := hR
  obtain ⟨⟨⟨n, hn, a1, a2, a3⟩, ⟨n2, hn2, b1, b2, b3⟩, ⟨n3, hn3, c1, c2, c3⟩, ⟨-, p1, w1⟩, -⟩, -, -, -, ⟨j1, j2⟩, -⟩ := hR0
  refine dg_c hn hn2 hn3 a1 b1 c1 ?_
  refine ⟨_, _, _, rfl, rfl, rfl, rfl, ?_⟩
  refine dg_m hn hn2 hn3 a2 b2 c2 ?_
  refine ⟨I, J, ?_, rfl, rfl, rfl, Rel_le hR (by omega)⟩
  have hd : dgM I n n2 n3 = dgC I n n2 n3 := by
    have q1 : hs 1109 (amM I) 7 = hs 1109 (amC I) 7 := hs_eq (n := 7) _ (fun j hj => am_eq hR hj) 7 (Nat.le_refl 7)
    have q2 : ∀ h, hs h (fun j => I 87 (5 + j)) 8 = hs h (I 10) 8 := fun h => hs_eq (n := 8) _ (fun j hj => by
      obtain ⟨w, hw, e1, e2⟩ := w1 j hj
      exact e2.trans e1.symm) 8 (Nat.le_refl 8)
    have q3 : I 87 13 = I 9 1 := p1.symm
    have q4 : ∀ h, hs h (fun j => I 87 (14 + j)) (3 * n) = hs2 h (fun k j => I 12 (k * 3 + j)) 3 n := fun h => hs_flat (n := n) h (fun k hk j hj => by
      obtain ⟨⟨c, hc, x1, x2⟩, ⟨S, hS, hS9, y1, y2⟩, ⟨s, hs, z1, z2⟩⟩ := a3 k hk
      obtain rfl | rfl | rfl : j = 0 ∨ j = 1 ∨ j = 2 := by omega
      · exact x2.trans x1.symm
      · exact y2.trans y1.symm
      · exact z2.trans z1.symm) n (Nat.le_refl n)
    have q5 : ∀ h, hs h (fun j => I 87 (32 + j)) (2 * n2) = hs2 h (fun k j => I 14 (k * 3 + j)) 2 n2 := fun h => hs_flat (n := n2) h (fun k hk j hj => by
      obtain ⟨⟨s, hs, x1, x2⟩, y⟩ := b3 k hk
      obtain rfl | rfl : j = 0 ∨ j = 1 := by omega
      · exact x2.trans x1.symm
      · exact y.symm) n2 (Nat.le_refl n2)
    have q6 : ∀ h, hs h (fun j => I 87 (44 + j)) (3 * n3) = hs2 h (fun k j => I 16 (k * 3 + j)) 3 n3 := fun h => hs_flat (n := n3) h (fun k hk j hj => by
      obtain ⟨⟨t, ht, x1, x2⟩, ⟨s, hs, y1, y2⟩, z⟩ := c3 k hk
      obtain rfl | rfl | rfl : j = 0 ∨ j = 1 ∨ j = 2 := by omega
      · exact x2.trans x1.symm
      · exact y2.trans y1.symm
      · exact z.symm) n3 (Nat.le_refl n3)
    unfold dgM dgC
    rw [q6, q5, q4, q1, q2, q3]
  rw [hd, ← j1, ← j2]
