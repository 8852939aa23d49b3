/-! THE REFERENCE, 1: its small helpers, a turn of its hand -/
def bi (p : Prop) [Decidable p] : Int32 := if p then 1 else 0
theorem bi_0 (p : Prop) [Decidable p] : bi p = 0 ↔ ¬ p := by
  unfold bi
  split
  · rename_i h; simp [h]
  · rename_i h; simp [h]
theorem bi_1 (p : Prop) [Decidable p] : (bi p = 0 ∨ bi p = 1) ↔ True := by
  unfold bi
  split <;> simp
theorem lc_lt (x y : Int64) : lg_cmp x y < 0 ↔ x < y := by
  unfold lg_cmp
  have h1 := @Int64.lt_iff_toInt_lt x y
  have h2 := @Int64.lt_iff_toInt_lt y x
  have h3 := @Int64.toInt_inj x y
  split
  · rename_i h
    have := h2.mp h
    constructor
    · intro q; exact absurd q (by decide)
    · intro q; have := h1.mp q; omega
  · split
    · rename_i h
      constructor
      · intro q; exact absurd q (by decide)
      · intro q; subst h; have := h1.mp q; omega
    · rename_i ha hb
      constructor
      · intro _; apply h1.mpr; have e1 : ¬ y.toInt < x.toInt := fun q => ha (h2.mpr q); have e2 : ¬ x.toInt = y.toInt := fun q => hb (h3.mp q); omega
      · intro _; decide
theorem lc_gt (x y : Int64) : 0 < lg_cmp x y ↔ y < x := by
  unfold lg_cmp
  split
  · rename_i h
    constructor
    · intro _; exact h
    · intro _; decide
  · rename_i h
    split
    · constructor
      · intro q; exact absurd q (by decide)
      · intro q; exact absurd q h
    · constructor
      · intro q; exact absurd q (by decide)
      · intro q; exact absurd q h
theorem l64 (x y : Int32) : x.toInt64 < y.toInt64 ↔ x < y := by
  rw [Int64.lt_iff_toInt_lt, Int32.lt_iff_toInt_lt, Int32.toInt_toInt64, Int32.toInt_toInt64]
theorem n64 {a : Nat} (h : a < 2147483648) : (OfNat.ofNat a : Int64) = (OfNat.ofNat a : Int32).toInt64 := (Int32.toInt64_ofNat (by omega)).symm
theorem tm2 {T : Nat} (h : T < 2147483648) : Int32.ofNat T - Int32.ofNat T / 2 * 2 = Int32.ofNat (T % 2) := by
  rw [show (2 : Int32) = Int32.ofNat 2 from rfl, ← Int32.ofNat_div h (by omega), o_mm, o_ss (by omega)]
  congr 1
  omega
theorem tm4 {T : Nat} (h : T < 2147483648) : Int32.ofNat T - Int32.ofNat T / 4 * 4 = Int32.ofNat (T % 4) := by
  rw [show (4 : Int32) = Int32.ofNat 4 from rfl, ← Int32.ofNat_div h (by omega), o_mm, o_ss (by omega)]
  congr 1
  omega
theorem pl4 {S T : Nat} (own oth : Int32) (hS : S ≤ 9) (hT : T < 2147483648) : pl 4 (Int32.ofNat S) (Int32.ofNat T) own oth = if (if T % 2 = 0 then S else 2 * S) ≤ T % 4 then 0 else Int32.ofNat ((if T % 2 = 0 then S else 2 * S) - T % 4) := by
  have e6 : ∀ b : Nat, b ≤ 18 → mx 0 (Int32.ofNat b - Int32.ofNat (T % 4)) = if b ≤ T % 4 then 0 else Int32.ofNat (b - T % 4) := by
    intro b hb
    unfold mx
    have e7 : (0 : Int32) < Int32.ofNat b - Int32.ofNat (T % 4) ↔ ¬ b ≤ T % 4 := by
      rw [Int32.lt_iff_toInt_lt, Int32.toInt_sub, Int32.toInt_ofNat_of_lt (by omega), Int32.toInt_ofNat_of_lt (by omega), Int.bmod_eq_of_le (by omega) (by omega)]
      have a1 : (0 : Int32).toInt = 0 := rfl
      omega
    by_cases q : b ≤ T % 4
    · rw [if_pos q, if_neg (fun z => (e7.mp z) q)]
    · rw [if_neg q, if_pos (e7.mpr q), o_ss (by omega)]
  show mx 0 (bo (Int32.ofNat S) (Int32.ofNat T) - (Int32.ofNat T - Int32.ofNat T / 4 * 4)) = _
  unfold bo
  rw [tm2 hT, tm4 hT]
  by_cases q : T % 2 = 0
  · rw [q, if_pos (show Int32.ofNat 0 = 0 from rfl), if_pos (show (0 : Nat) = 0 from rfl), e6 S (by omega)]
  · have q1 : T % 2 = 1 := by omega
    rw [q1, if_neg (show ¬ Int32.ofNat 1 = 0 by decide), if_neg (show ¬ (1 : Nat) = 0 by decide), show (2 : Int32) * Int32.ofNat S = Int32.ofNat (2 * S) from o_mm, e6 (2 * S) (by omega)]
section HAND
variable {m pc : Nat} {ls st : Vs} {σ : Sto} {I : Nat → Nat → Int32} {J : Nat → Nat → Int64} {Q : Option Value → Sto → Prop}
theorem c113 (v lo hi : Int64) : Ca 113 [.long v, .null, .long lo, .null, .long hi, .null] σ m pc ls st Q ↔ Rn m pc ls (.int (bi (¬ v < lo ∧ ¬ hi < v)) :: st) σ Q := Ca_of (r := some (.int (bi (¬ v < lo ∧ ¬ hi < v)))) (fun Q h => by
  simp only [u113_0, u113_1, u113_2, u113_3, u113_6, u113_7, u113_9, u113_10, u113_13, u113_14, u113_17, u113_18, lc_lt, lc_gt]
  unfold bi at h
  by_cases h1 : v < lo <;> by_cases h2 : hi < v <;> simp [h1, h2] at h ⊢ <;> exact h)
theorem c113i (x lo hi : Int32) : Ca 113 [.long x.toInt64, .null, .long lo.toInt64, .null, .long hi.toInt64, .null] σ m pc ls st Q ↔ Rn m pc ls (.int (bi (lo ≤ x ∧ x ≤ hi)) :: st) σ Q := by
  rw [c113]
  simp only [l64, Int32.not_lt]
theorem c113n {a b : Nat} (ha : a < 2147483648) (hb : b < 2147483648) (x : Int32) : Ca 113 [.long x.toInt64, .null, .long (no_index (OfNat.ofNat a)), .null, .long (no_index (OfNat.ofNat b)), .null] σ m pc ls st Q ↔ Rn m pc ls (.int (bi (no_index (OfNat.ofNat a) ≤ x ∧ x ≤ no_index (OfNat.ofNat b))) :: st) σ Q := by
  rw [n64 ha, n64 hb, c113i]
theorem c122 (s : Int32) : Ca 122 [.int s] (Sg I J) m pc ls st Q ↔ Rn m pc ls (.int (bi (0 ≤ s ∧ s ≤ 7)) :: st) (Sg I J) Q := by
  unfold Ca
  simp (disch := first | assumption | omega | decide | exact la_87 | exact la_88 | exact la_90 | exact la_91 | exact la_92 | exact la_93 | exact la_94 | exact la_95 | exact la_96 | exact la_97 | exact la_98 | exact la_99 | exact la_10 | exact la_23 | exact la_77 | exact la_78) only [u122_0, u122_1, u122_2, u122_3, u122_6, u122_9, c113n, bi_1, true_and]
  rfl
theorem c119 : Ca 119 [.ref 86] (Sg I J) m pc ls st Q ↔ Rn m pc ls (.int (I 87 0) :: st) (Sg I J) Q := Ca_of (r := some (.int (I 87 0))) (fun Q h => by
  simp (disch := first | assumption | omega | decide | exact la_87 | exact la_88 | exact la_90 | exact la_91 | exact la_92 | exact la_93 | exact la_94 | exact la_95 | exact la_96 | exact la_97 | exact la_98 | exact la_99 | exact la_10 | exact la_23 | exact la_77 | exact la_78) only [u119_0, u119_1, u119_4, u119_5, u119_6, la_86, la_87, lt_87, lr_86_0, kLt, true_and, o_aa, o_al, o_la, o_mm, o_ml, o_lm, o_ss, o_sl, o_ls, o_tn, o_tl, o_lt, o_ltl, o_llt, o_le, o_lel, o_lle, o_eq, o_eql, o_leq, o_inb, o_inl, o_neg, Nat.reduceLT]
  exact h)
theorem c120 : Ca 120 [.ref 86] (Sg I J) m pc ls st Q ↔ Rn m pc ls (.int (I 87 1) :: st) (Sg I J) Q := Ca_of (r := some (.int (I 87 1))) (fun Q h => by
  simp (disch := first | assumption | omega | decide | exact la_87 | exact la_88 | exact la_90 | exact la_91 | exact la_92 | exact la_93 | exact la_94 | exact la_95 | exact la_96 | exact la_97 | exact la_98 | exact la_99 | exact la_10 | exact la_23 | exact la_77 | exact la_78) only [u120_0, u120_1, u120_4, u120_5, u120_6, la_86, la_87, lt_87, lr_86_0, kLt, true_and, o_aa, o_al, o_la, o_mm, o_ml, o_lm, o_ss, o_sl, o_ls, o_tn, o_tl, o_lt, o_ltl, o_llt, o_le, o_lel, o_lle, o_eq, o_eql, o_leq, o_inb, o_inl, o_neg, Nat.reduceLT]
  exact h)
theorem c123 (k w : Int32) : Ca 123 [.ref 86, .int k, .int w] (Sg I J) m pc ls st Q ↔ inb (14 + 3 * k + w) 142 ∧ Rn m pc ls (.int (I 87 (14 + 3 * k + w).toNatClampNeg) :: st) (Sg I J) Q := by
  unfold Ca
  simp (disch := first | assumption | omega | decide | exact la_87 | exact la_88 | exact la_90 | exact la_91 | exact la_92 | exact la_93 | exact la_94 | exact la_95 | exact la_96 | exact la_97 | exact la_98 | exact la_99 | exact la_10 | exact la_23 | exact la_77 | exact la_78) only [u123_0, u123_1, u123_4, u123_6, u123_7, u123_8, u123_9, u123_10, u123_11, u123_12, u123_13, la_86, la_87, lt_87, lr_86_0, kLt, true_and]
  rfl
theorem c124 (k : Int32) : Ca 124 [.ref 86, .int k] (Sg I J) m pc ls st Q ↔ inb (32 + 2 * k) 142 ∧ Rn m pc ls (.int (I 87 (32 + 2 * k).toNatClampNeg) :: st) (Sg I J) Q := by
  unfold Ca
  simp (disch := first | assumption | omega | decide | exact la_87 | exact la_88 | exact la_90 | exact la_91 | exact la_92 | exact la_93 | exact la_94 | exact la_95 | exact la_96 | exact la_97 | exact la_98 | exact la_99 | exact la_10 | exact la_23 | exact la_77 | exact la_78) only [u124_0, u124_1, u124_4, u124_6, u124_7, u124_8, u124_9, u124_10, u124_11, la_86, la_87, lt_87, lr_86_0, kLt, true_and]
  rfl
theorem c125 (k : Int32) : Ca 125 [.ref 86, .int k] (Sg I J) m pc ls st Q ↔ inb (32 + 2 * k + 1) 142 ∧ Rn m pc ls (.int (I 87 (32 + 2 * k + 1).toNatClampNeg) :: st) (Sg I J) Q := by
  unfold Ca
  simp (disch := first | assumption | omega | decide | exact la_87 | exact la_88 | exact la_90 | exact la_91 | exact la_92 | exact la_93 | exact la_94 | exact la_95 | exact la_96 | exact la_97 | exact la_98 | exact la_99 | exact la_10 | exact la_23 | exact la_77 | exact la_78) only [u125_0, u125_1, u125_4, u125_6, u125_7, u125_8, u125_9, u125_10, u125_11, u125_12, u125_13, la_86, la_87, lt_87, lr_86_0, kLt, true_and]
  rfl
theorem c138 (a b : Int32) : Ca 138 [.int a, .int b] σ m pc ls st Q ↔ Rn m pc ls (.int (mn a b) :: st) σ Q := Ca_of (r := some (.int (mn a b))) (fun Q h => by
  simp only [u138_0, u138_1, u138_2, u138_5, u138_6, u138_9, u138_10]
  unfold mn at h
  by_cases h1 : b ≤ a
  · rw [if_pos h1]
    split at h
    · exact h
    · rename_i h2
      have : a = b := by
        rw [Int32.lt_iff_toInt_lt] at h2
        rw [Int32.le_iff_toInt_le] at h1
        rw [← Int32.toInt_inj]
        omega
      subst this
      exact h
  · rw [if_neg h1]
    have h2 : ¬ b < a := fun q => h1 (Int32.le_of_lt q)
    rw [if_neg h2] at h
    exact h)
theorem c140 : Ca 140 [.ref 86] (Sg I J) m pc ls st Q ↔ Rn m pc ls (.int (1 <<< (I 87 0 &&& 31) - 1) :: st) (Sg I J) Q := Ca_of (r := some (.int (1 <<< (I 87 0 &&& 31) - 1))) (fun Q h => by
  simp (disch := first | assumption | omega | decide | exact la_87 | exact la_88 | exact la_90 | exact la_91 | exact la_92 | exact la_93 | exact la_94 | exact la_95 | exact la_96 | exact la_97 | exact la_98 | exact la_99 | exact la_10 | exact la_23 | exact la_77 | exact la_78) only [u140_0, u140_1, u140_2, u140_5, u140_6, u140_7, u140_8, c119, la_86, kLt, true_and]
  exact h)
theorem c136 (s : Int32) : Ca 136 [.ref 86, .int s, .null, .null] (Sg I J) m pc ls st Q ↔ Rn m pc ls (.int (src (I 86 7) (I 86 8) s) :: st) (Sg I J) Q := Ca_of (r := some (.int (src (I 86 7) (I 86 8) s))) (fun Q h => by
  unfold src mn at h
  simp (disch := first | assumption | omega | decide | exact la_87 | exact la_88 | exact la_90 | exact la_91 | exact la_92 | exact la_93 | exact la_94 | exact la_95 | exact la_96 | exact la_97 | exact la_98 | exact la_99 | exact la_10 | exact la_23 | exact la_77 | exact la_78) only [u136_0, u136_1, u136_4, u136_5, u136_6, u136_9, u136_10, u136_11, u136_12, u136_15, u136_16, u136_17, u136_18, u136_19, u136_20, u136_21, u136_24, u136_25, u136_28, u136_29, u136_30, u136_31, u136_34, u136_37, u136_38, u136_41, u136_42, u136_43, u136_44, u136_45, u136_48, u136_49, u136_52, u136_53, c122, la_86, kLt, true_and, show ¬ (2 : Int32) = 0 by decide, not_false_eq_true, bi_0]
  have e3 : ∀ z : Int32, s ≤ z ↔ ¬ z < s := fun z => Int32.not_lt.symm
  by_cases h0 : I 86 8 - I 86 8 / 2 * 2 = 0 <;> simp only [h0, e3, not_true, not_false_eq_true, if_true, if_false] at h ⊢
  · by_cases h1 : 0 ≤ s - 1 ∧ s - 1 ≤ 7 <;> by_cases h3 : s - 1 < s <;> simp only [h1, h3, not_true, not_false_eq_true, if_true, if_false, true_and, false_and] at h ⊢ <;> first | exact h | (split <;> simp_all)
  · by_cases h1 : 0 ≤ s + 1 ∧ s + 1 ≤ 7 <;> by_cases h3 : s + 1 < s <;> simp only [h1, h3, not_true, not_false_eq_true, if_true, if_false, true_and, false_and] at h ⊢ <;> first | exact h | (split <;> simp_all))
theorem c137 (c S T : Nat) (hc : c < 6) (hS : S ≤ 9) (hT : T < 2147483648) (et : I 86 8 = Int32.ofNat T) (own oth : Int32) : Ca 137 [.ref 86, .int (Int32.ofNat c), .int (Int32.ofNat S), .int own, .int oth, .null] (Sg I J) m pc ls st Q ↔ Rn m pc ls (.int (pl c (Int32.ofNat S) (I 86 8) own oth) :: st) (Sg I J) Q := Ca_of (r := some (.int (pl c (Int32.ofNat S) (I 86 8) own oth))) (fun Q h => by
  have h2 : T % 2 = 0 ∨ T % 2 = 1 := by omega
  have h4 : T % 4 < 4 := by omega
  have e5 : oth < 5 ↔ oth ≤ 4 := by
    rw [Int32.lt_iff_toInt_lt, Int32.le_iff_toInt_le]
    have a1 : (5 : Int32).toInt = 5 := rfl
    have a2 : (4 : Int32).toInt = 4 := rfl
    omega
  simp (disch := first | assumption | omega | decide | exact la_87 | exact la_88 | exact la_90 | exact la_91 | exact la_92 | exact la_93 | exact la_94 | exact la_95 | exact la_96 | exact la_97 | exact la_98 | exact la_99 | exact la_10 | exact la_23 | exact la_77 | exact la_78) only [u137_0, u137_1, u137_4, u137_5, u137_6, u137_7, u137_10, u137_11, u137_12, u137_13, u137_16, u137_17, u137_19, la_86, kLt, true_and, show ¬ (2 : Int32) = 0 by decide, not_false_eq_true, et, tm2 hT, o_aa, o_al, o_la, o_mm, o_ml, o_lm, o_ss, o_sl, o_ls, o_tn, o_tl, o_lt, o_ltl, o_llt, o_le, o_lel, o_lle, o_eq, o_eql, o_leq, o_inb, o_inl, o_neg]
  rw [et] at h
  obtain rfl | rfl | rfl | rfl | rfl | rfl : c = 0 ∨ c = 1 ∨ c = 2 ∨ c = 3 ∨ c = 4 ∨ c = 5 := by omega
  · rcases h2 with h2 | h2 <;> simp (disch := first | assumption | omega | decide | exact la_87 | exact la_88 | exact la_90 | exact la_91 | exact la_92 | exact la_93 | exact la_94 | exact la_95 | exact la_96 | exact la_97 | exact la_98 | exact la_99 | exact la_10 | exact la_23 | exact la_77 | exact la_78) only [h2, not_true, if_false, not_false_eq_true, if_true, Nat.zero_ne_one, u137_20 _ (Or.inl (show (Int32.ofNat 0).toInt < 1 by decide)), u137_56, u137_58, u137_59, u137_62, u137_63, u137_66, u137_67, u137_68, u137_70, u137_71, u137_72, u137_73, u137_74, u137_75, u137_77, u137_78, u137_81, u137_82, u137_83, u137_86, u137_88, u137_89, u137_92, u137_93, u137_94, u137_95, u137_98, u137_99, u137_100, u137_102, u137_103, u137_106, u137_107, u137_108, u137_109, u137_112, u137_113, u137_114, u137_115] <;> exact h
  · rw [show Int32.ofNat 1 = 1 from rfl]
    rcases h2 with h2 | h2 <;> simp (disch := first | assumption | omega | decide | exact la_87 | exact la_88 | exact la_90 | exact la_91 | exact la_92 | exact la_93 | exact la_94 | exact la_95 | exact la_96 | exact la_97 | exact la_98 | exact la_99 | exact la_10 | exact la_23 | exact la_77 | exact la_78) only [h2, u137_20_1, u137_20_2, u137_20_3, u137_20_4, u137_20_5, u137_20, u137_56, u137_58, u137_59, u137_62, u137_63, u137_66, u137_67, u137_68, u137_70, u137_71, u137_72, u137_73, u137_74, u137_75, u137_77, u137_78, u137_81, u137_82, u137_83, u137_86, u137_88, u137_89, u137_92, u137_93, u137_94, u137_95, u137_98, u137_99, u137_100, u137_102, u137_103, u137_106, u137_107, u137_108, u137_109, u137_112, u137_113, u137_114, u137_115, if_true, if_false, not_true, not_false_eq_true, Nat.zero_ne_one, pl] at h ⊢ <;> (repeat' split) <;> simp_all
  · rw [show Int32.ofNat 2 = 2 from rfl]
    rcases h2 with h2 | h2 <;> simp (disch := first | assumption | omega | decide | exact la_87 | exact la_88 | exact la_90 | exact la_91 | exact la_92 | exact la_93 | exact la_94 | exact la_95 | exact la_96 | exact la_97 | exact la_98 | exact la_99 | exact la_10 | exact la_23 | exact la_77 | exact la_78) only [h2, u137_20_1, u137_20_2, u137_20_3, u137_20_4, u137_20_5, u137_20, u137_56, u137_58, u137_59, u137_62, u137_63, u137_66, u137_67, u137_68, u137_70, u137_71, u137_72, u137_73, u137_74, u137_75, u137_77, u137_78, u137_81, u137_82, u137_83, u137_86, u137_88, u137_89, u137_92, u137_93, u137_94, u137_95, u137_98, u137_99, u137_100, u137_102, u137_103, u137_106, u137_107, u137_108, u137_109, u137_112, u137_113, u137_114, u137_115, if_true, if_false, not_true, not_false_eq_true, Nat.zero_ne_one, Nat.one_ne_zero, pl, bo, tm2 hT, o_aa, o_al, o_la, o_mm, o_ml, o_lm, o_ss, o_sl, o_ls, o_tn, o_tl, o_lt, o_ltl, o_llt, o_le, o_lel, o_lle, o_eq, o_eql, o_leq, o_inb, o_inl, o_neg] at h ⊢ <;> exact h
  · rw [show Int32.ofNat 3 = 3 from rfl]
    rcases h2 with h2 | h2 <;> simp (disch := first | assumption | omega | decide | exact la_87 | exact la_88 | exact la_90 | exact la_91 | exact la_92 | exact la_93 | exact la_94 | exact la_95 | exact la_96 | exact la_97 | exact la_98 | exact la_99 | exact la_10 | exact la_23 | exact la_77 | exact la_78) only [h2, u137_20_1, u137_20_2, u137_20_3, u137_20_4, u137_20_5, u137_20, u137_56, u137_58, u137_59, u137_62, u137_63, u137_66, u137_67, u137_68, u137_70, u137_71, u137_72, u137_73, u137_74, u137_75, u137_77, u137_78, u137_81, u137_82, u137_83, u137_86, u137_88, u137_89, u137_92, u137_93, u137_94, u137_95, u137_98, u137_99, u137_100, u137_102, u137_103, u137_106, u137_107, u137_108, u137_109, u137_112, u137_113, u137_114, u137_115, if_true, if_false, not_true, not_false_eq_true, Nat.zero_ne_one, pl, o_aa, o_al, o_la, o_mm, o_ml, o_lm, o_ss, o_sl, o_ls, o_tn, o_tl, o_lt, o_ltl, o_llt, o_le, o_lel, o_lle, o_eq, o_eql, o_leq, o_inb, o_inl, o_neg] at h ⊢ <;> exact h
  · rw [show Int32.ofNat 4 = 4 from rfl]
    rcases h2 with h2 | h2 <;> simp (disch := first | assumption | omega | decide | exact la_87 | exact la_88 | exact la_90 | exact la_91 | exact la_92 | exact la_93 | exact la_94 | exact la_95 | exact la_96 | exact la_97 | exact la_98 | exact la_99 | exact la_10 | exact la_23 | exact la_77 | exact la_78) only [h2, u137_20_1, u137_20_2, u137_20_3, u137_20_4, u137_20_5, u137_20, u137_56, u137_58, u137_59, u137_62, u137_63, u137_66, u137_67, u137_68, u137_70, u137_71, u137_72, u137_73, u137_74, u137_75, u137_77, u137_78, u137_81, u137_82, u137_83, u137_86, u137_88, u137_89, u137_92, u137_93, u137_94, u137_95, u137_98, u137_99, u137_100, u137_102, u137_103, u137_106, u137_107, u137_108, u137_109, u137_112, u137_113, u137_114, u137_115, la_86, kLt, true_and, et, show ¬ (4 : Int32) = 0 by decide, if_true, if_false, not_true, not_false_eq_true, Nat.zero_ne_one, Nat.one_ne_zero, pl4 _ _ hS hT, tm4 hT, o_aa, o_al, o_la, o_mm, o_ml, o_lm, o_ss, o_sl, o_ls, o_tn, o_tl, o_lt, o_ltl, o_llt, o_le, o_lel, o_lle, o_eq, o_eql, o_leq, o_inb, o_inl, o_neg] at h ⊢ <;> (repeat' split) <;> simp_all
  · rw [show Int32.ofNat 5 = 5 from rfl]
    rcases h2 with h2 | h2 <;> simp (disch := first | assumption | omega | decide | exact la_87 | exact la_88 | exact la_90 | exact la_91 | exact la_92 | exact la_93 | exact la_94 | exact la_95 | exact la_96 | exact la_97 | exact la_98 | exact la_99 | exact la_10 | exact la_23 | exact la_77 | exact la_78) only [h2, u137_20_1, u137_20_2, u137_20_3, u137_20_4, u137_20_5, u137_20, u137_56, u137_58, u137_59, u137_62, u137_63, u137_66, u137_67, u137_68, u137_70, u137_71, u137_72, u137_73, u137_74, u137_75, u137_77, u137_78, u137_81, u137_82, u137_83, u137_86, u137_88, u137_89, u137_92, u137_93, u137_94, u137_95, u137_98, u137_99, u137_100, u137_102, u137_103, u137_106, u137_107, u137_108, u137_109, u137_112, u137_113, u137_114, u137_115, if_true, if_false, not_true, not_false_eq_true, Nat.zero_ne_one, pl, e5, o_aa, o_al, o_la, o_mm, o_ml, o_lm, o_ss, o_sl, o_ls, o_tn, o_tl, o_lt, o_ltl, o_llt, o_le, o_lel, o_lle, o_eq, o_eql, o_leq, o_inb, o_inl, o_neg] at h ⊢ <;> (repeat' split) <;> simp_all)
end HAND
