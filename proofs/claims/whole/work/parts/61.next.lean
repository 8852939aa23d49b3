/-! THE CALL: next -/
theorem oc_k : ∀ k, k < 6 → rf 79 k = 80 + k ∧ kA (80 + k) 20 ∧ (tg (80 + k)).2 = 8 := by
  intro k hk
  obtain rfl | rfl | rfl | rfl | rfl | rfl : k = 0 ∨ k = 1 ∨ k = 2 ∨ k = 3 ∨ k = 4 ∨ k = 5 := by omega
  · exact ⟨lr_79_0, la_80, lt_80⟩
  · exact ⟨lr_79_1, la_81, lt_81⟩
  · exact ⟨lr_79_2, la_82, lt_82⟩
  · exact ⟨lr_79_3, la_83, lt_83⟩
  · exact ⟨lr_79_4, la_84, lt_84⟩
  · exact ⟨lr_79_5, la_85, lt_85⟩
theorem mx_n {a b : Nat} (ha : a < 2147483648) (hb : b < 2147483648) : mx (Int32.ofNat a) (Int32.ofNat b) = Int32.ofNat (max a b) := by
  unfold mx
  rw [Nat.max_def]
  by_cases h : a < b
  · rw [if_pos ((o_lt ha hb).mpr h), if_pos (by omega)]
  · rw [if_neg (fun q => h ((o_lt ha hb).mp q))]
    by_cases h2 : a ≤ b
    · rw [if_pos h2, show a = b by omega]
    · rw [if_neg h2]
def bF (p : Nat) (k : Nat) : Bool := decide (¬ Int32.ofNat p &&& (1 <<< (Int32.ofNat k &&& 31)) = 0)
theorem bF_c (p k : Nat) : (Int32.ofNat p &&& (1 <<< (Int32.ofNat k &&& 31)) = 0) ↔ bF p k = false := by
  unfold bF
  rw [decide_eq_false_iff_not, Classical.not_not]
theorem bF_m {p k : Nat} (hp : p < 64) (hk : k < 6) : ((Int32.ofNat p >>> (Int32.ofNat k &&& 31)) &&& 1 = 1) ↔ bF p k = true := by
  unfold bF
  rw [bit_w p hp k hk, decide_eq_true_iff]
def cnt (F : Nat → Bool) (O : Nat → Nat → Int32) (s k j : Nat) : Nat := Nat.rec 0 (fun o c => if F o = true ∧ O o s = O k s then c + 1 else c) j
theorem cnt_s (F : Nat → Bool) (O : Nat → Nat → Int32) (s k j : Nat) : cnt F O s k (j + 1) = if F j = true ∧ O j s = O k s then cnt F O s k j + 1 else cnt F O s k j := rfl
theorem cnt_le (F : Nat → Bool) (O : Nat → Nat → Int32) (s k : Nat) : ∀ j, cnt F O s k j ≤ j := by
  intro j
  induction j with
  | zero => exact Nat.le_refl 0
  | succ j ih =>
    rw [cnt_s]
    by_cases h : F j = true ∧ O j s = O k s
    · rw [if_pos h]; omega
    · rw [if_neg h]; omega
def mos (F : Nat → Bool) (O : Nat → Nat → Int32) (s k : Nat) : Nat := Nat.rec 0 (fun q m => if F q = true then max m (cnt F O s q 6) else m) k
theorem mos_s (F : Nat → Bool) (O : Nat → Nat → Int32) (s k : Nat) : mos F O s (k + 1) = if F k = true then max (mos F O s k) (cnt F O s k 6) else mos F O s k := rfl
theorem mos_le (F : Nat → Bool) (O : Nat → Nat → Int32) (s : Nat) : ∀ k, mos F O s k ≤ 6 := by
  intro k
  induction k with
  | zero => exact Nat.zero_le _
  | succ k ih =>
    rw [mos_s]
    have := cnt_le F O s k 6
    by_cases h : F k = true
    · rw [if_pos h]; omega
    · rw [if_neg h]; omega
section ALIKE
variable {m pc : Nat} {ls st : Vs} {X Z : Nat → Nat → Int32} {J : Nat → Nat → Int64} {Q : Option Value → Sto → Prop} {p s : Nat} {O : Nat → Nat → Int32}
theorem c109 (hs : s < 8) (hO : ∀ q, q < 6 → bF p q = true → X (80 + q) s = O q s) : Ca 109 [.ref 0, .int (Int32.ofNat p), .int (Int32.ofNat s), .null, .null, .null, .null] (Sg X J) m pc ls st Q ↔ Rn m pc ls (.int (Int32.ofNat (mos (bF p) O s 6)) :: st) (Sg X J) Q := Ca_of (r := some (.int (Int32.ofNat (mos (bF p) O s 6)))) (fun Q h => by
  simp only [u109_0, u109_1, u109_2, u109_3]
  refine Rn_fr (n := 6) (X := Value × Value) (fun k v => [.ref 0, .int (Int32.ofNat p), .int (Int32.ofNat s), .int (Int32.ofNat (mos (bF p) O s k)), .int (Int32.ofNat k), v.1, v.2]) (fun _ _ => Sg X J) (.null, .null) rfl rfl ?_ ?_
  · intro k hk v ih
    have hnk : ¬ 6 ≤ k := by omega
    obtain ⟨r1, r2, r3⟩ := oc_k k hk
    have hml := mos_le (bF p) O s k
    have hcl := cnt_le (bF p) O s k 6
    have hfc := bF_c p
    simp only [mos_s] at ih
    generalize mos (bF p) O s k = mk at ih hml ⊢
    clear h
    simp (disch := first | assumption | omega | decide | exact la_87 | exact la_88 | exact la_90 | exact la_91 | exact la_92 | exact la_93 | exact la_94 | exact la_95 | exact la_96 | exact la_97 | exact la_98 | exact la_99 | exact la_10 | exact la_23 | exact la_77 | exact la_78 | exact la_18 | exact la_19 | exact la_20) only [u109_5, u109_7, u109_9, u109_12, u109_13, u109_14, u109_16, u109_17, u109_18, u109_21, u109_24, u109_25, u109_27, u109_28, o_aa, o_al, o_la, o_mm, o_ml, o_lm, o_ss, o_sl, o_ls, o_tn, o_tl, o_lt, o_ltl, o_llt, o_le, o_lel, o_lle, o_eq, o_eql, o_leq, o_inb, o_inl, o_neg, hnk, if_false, hfc]
    cases hF : bF p k with
    | false =>
      simp only [hF, Bool.false_eq_true, if_false] at ih
      simp (disch := first | assumption | omega | decide | exact la_87 | exact la_88 | exact la_90 | exact la_91 | exact la_92 | exact la_93 | exact la_94 | exact la_95 | exact la_96 | exact la_97 | exact la_98 | exact la_99 | exact la_10 | exact la_23 | exact la_77 | exact la_78 | exact la_18 | exact la_19 | exact la_20) only [not_true, if_false, u109_83, o_aa, o_al, o_la, o_mm, o_ml, o_lm, o_ss, o_sl, o_ls, o_tn, o_tl, o_lt, o_ltl, o_llt, o_le, o_lel, o_lle, o_eq, o_eql, o_leq, o_inb, o_inl, o_neg]
      exact (u109_86 ..).mpr (ih (_, _))
    | true =>
      have hOk := hO k hk hF
      simp only [hF, if_true] at ih
      simp only [Bool.true_eq_false, not_false_eq_true, if_true]
      refine Rn_fr (n := 6) (X := Unit) (fun j _ => [.ref 0, .int (Int32.ofNat p), .int (Int32.ofNat s), .int (Int32.ofNat mk), .int (Int32.ofNat k), .int (Int32.ofNat (cnt (bF p) O s k j)), .int (Int32.ofNat j)]) (fun _ _ => Sg X J) () rfl rfl ?_ ?_
      · intro j hj _ ih2
        have ih2 := ih2 ()
        have hnj : ¬ 6 ≤ j := by omega
        obtain ⟨s1, s2, s3⟩ := oc_k j hj
        have hOj := hO j hj
        have hcj := cnt_le (bF p) O s k j
        rw [cnt_s] at ih2
        generalize cnt (bF p) O s k j = c at ih2 hcj ⊢
        clear ih hcl hO
        simp (disch := first | assumption | omega | decide | exact la_87 | exact la_88 | exact la_90 | exact la_91 | exact la_92 | exact la_93 | exact la_94 | exact la_95 | exact la_96 | exact la_97 | exact la_98 | exact la_99 | exact la_10 | exact la_23 | exact la_77 | exact la_78 | exact la_18 | exact la_19 | exact la_20) only [u109_30, u109_32, u109_34, u109_37, u109_38, u109_39, u109_41, u109_42, u109_43, o_aa, o_al, o_la, o_mm, o_ml, o_lm, o_ss, o_sl, o_ls, o_tn, o_tl, o_lt, o_ltl, o_llt, o_le, o_lel, o_lle, o_eq, o_eql, o_leq, o_inb, o_inl, o_neg, hnj, if_false, hfc]
        cases hG : bF p j with
        | false =>
          rw [if_neg (fun q => by rw [hG] at q; exact Bool.false_ne_true q.1)] at ih2
          simp (disch := first | assumption | omega | decide | exact la_87 | exact la_88 | exact la_90 | exact la_91 | exact la_92 | exact la_93 | exact la_94 | exact la_95 | exact la_96 | exact la_97 | exact la_98 | exact la_99 | exact la_10 | exact la_23 | exact la_77 | exact la_78 | exact la_18 | exact la_19 | exact la_20) only [if_true, u109_70, o_aa, o_al, o_la, o_mm, o_ml, o_lm, o_ss, o_sl, o_ls, o_tn, o_tl, o_lt, o_ltl, o_llt, o_le, o_lel, o_lle, o_eq, o_eql, o_leq, o_inb, o_inl, o_neg]
          exact (u109_73 ..).mpr ih2
        | true =>
          have hOj := hOj hG
          simp (disch := first | assumption | omega | decide | exact la_87 | exact la_88 | exact la_90 | exact la_91 | exact la_92 | exact la_93 | exact la_94 | exact la_95 | exact la_96 | exact la_97 | exact la_98 | exact la_99 | exact la_10 | exact la_23 | exact la_77 | exact la_78 | exact la_18 | exact la_19 | exact la_20) only [Bool.true_eq_false, if_false, u109_46, u109_47, u109_50, u109_52, u109_53, u109_54 _ s2, u109_55, u109_56, u109_59, u109_61, u109_62, u109_63 _ r2, u109_64, la_0, la_79, lk_79, lt_79, lr_0_6, kLt, true_and, s1, s3, r1, r3, hOj, hOk, hs, hj, hk, o_aa, o_al, o_la, o_mm, o_ml, o_lm, o_ss, o_sl, o_ls, o_tn, o_tl, o_lt, o_ltl, o_llt, o_le, o_lel, o_lle, o_eq, o_eql, o_leq, o_inb, o_inl, o_neg, show 80 + j < 1000 by omega, show 80 + k < 1000 by omega]
          by_cases he : O j s = O k s
          · rw [if_pos ⟨hG, he⟩] at ih2
            simp (disch := first | assumption | omega | decide | exact la_87 | exact la_88 | exact la_90 | exact la_91 | exact la_92 | exact la_93 | exact la_94 | exact la_95 | exact la_96 | exact la_97 | exact la_98 | exact la_99 | exact la_10 | exact la_23 | exact la_77 | exact la_78 | exact la_18 | exact la_19 | exact la_20) only [he, not_true, if_false, u109_67, u109_70, o_aa, o_al, o_la, o_mm, o_ml, o_lm, o_ss, o_sl, o_ls, o_tn, o_tl, o_lt, o_ltl, o_llt, o_le, o_lel, o_lle, o_eq, o_eql, o_leq, o_inb, o_inl, o_neg]
            exact (u109_73 ..).mpr ih2
          · rw [if_neg (fun q => he q.2)] at ih2
            simp (disch := first | assumption | omega | decide | exact la_87 | exact la_88 | exact la_90 | exact la_91 | exact la_92 | exact la_93 | exact la_94 | exact la_95 | exact la_96 | exact la_97 | exact la_98 | exact la_99 | exact la_10 | exact la_23 | exact la_77 | exact la_78 | exact la_18 | exact la_19 | exact la_20) only [he, not_false_eq_true, if_true, u109_70, o_aa, o_al, o_la, o_mm, o_ml, o_lm, o_ss, o_sl, o_ls, o_tn, o_tl, o_lt, o_ltl, o_llt, o_le, o_lel, o_lle, o_eq, o_eql, o_leq, o_inb, o_inl, o_neg]
            exact (u109_73 ..).mpr ih2
      · intro _
        have hx := mx_n (a := mk) (b := cnt (bF p) O s k 6) (by omega) (by omega)
        generalize cnt (bF p) O s k 6 = c at ih hcl hx ⊢
        generalize max mk c = z at ih hx
        clear hO
        simp (disch := first | assumption | omega | decide | exact la_87 | exact la_88 | exact la_90 | exact la_91 | exact la_92 | exact la_93 | exact la_94 | exact la_95 | exact la_96 | exact la_97 | exact la_98 | exact la_99 | exact la_10 | exact la_23 | exact la_77 | exact la_78 | exact la_18 | exact la_19 | exact la_20) only [u109_30, u109_32, u109_34, u109_76, u109_77, u109_79, u109_82, u109_83, c197, hx, o_aa, o_al, o_la, o_mm, o_ml, o_lm, o_ss, o_sl, o_ls, o_tn, o_tl, o_lt, o_ltl, o_llt, o_le, o_lel, o_lle, o_eq, o_eql, o_leq, o_inb, o_inl, o_neg, Nat.le_refl, if_true]
        exact (u109_86 ..).mpr (ih (_, _))
  · intro v
    generalize mos (bF p) O s 6 = c at h ⊢
    clear hO
    simp (disch := first | assumption | omega | decide | exact la_87 | exact la_88 | exact la_90 | exact la_91 | exact la_92 | exact la_93 | exact la_94 | exact la_95 | exact la_96 | exact la_97 | exact la_98 | exact la_99 | exact la_10 | exact la_23 | exact la_77 | exact la_78 | exact la_18 | exact la_19 | exact la_20) only [u109_5, u109_7, u109_9, u109_89, u109_90, o_aa, o_al, o_la, o_mm, o_ml, o_lm, o_ss, o_sl, o_ls, o_tn, o_tl, o_lt, o_ltl, o_llt, o_le, o_lel, o_lle, o_eq, o_eql, o_leq, o_inb, o_inl, o_neg, Nat.le_refl, if_true]
    exact h)
theorem c167 (hp : p < 64) (hs : s < 8) (hO : ∀ q, q < 6 → Z 96 (8 * q + s) = O q s) : Ca 167 [.ref 86, .int (Int32.ofNat p), .int (Int32.ofNat s), .null, .null, .null, .null] (Sg Z J) m pc ls st Q ↔ Rn m pc ls (.int (Int32.ofNat (mos (bF p) O s 6)) :: st) (Sg Z J) Q := Ca_of (r := some (.int (Int32.ofNat (mos (bF p) O s 6)))) (fun Q h => by
  simp only [u167_0, u167_1, u167_2, u167_3]
  refine Rn_fr (n := 6) (X := Value × Value) (fun k v => [.ref 86, .int (Int32.ofNat p), .int (Int32.ofNat s), .int (Int32.ofNat (mos (bF p) O s k)), .int (Int32.ofNat k), v.1, v.2]) (fun _ _ => Sg Z J) (.null, .null) rfl rfl ?_ ?_
  · intro k hk v ih
    have hnk : ¬ 6 ≤ k := by omega
    have hml := mos_le (bF p) O s k
    have hcl := cnt_le (bF p) O s k 6
    have hfk := bF_m hp hk
    simp only [mos_s] at ih
    generalize mos (bF p) O s k = mk at ih hml ⊢
    clear h
    simp (disch := first | assumption | omega | decide | exact la_87 | exact la_88 | exact la_90 | exact la_91 | exact la_92 | exact la_93 | exact la_94 | exact la_95 | exact la_96 | exact la_97 | exact la_98 | exact la_99 | exact la_10 | exact la_23 | exact la_77 | exact la_78 | exact la_18 | exact la_19 | exact la_20) only [u167_5, u167_7, u167_9, u167_12, u167_13, u167_15, u167_16, o_aa, o_al, o_la, o_mm, o_ml, o_lm, o_ss, o_sl, o_ls, o_tn, o_tl, o_lt, o_ltl, o_llt, o_le, o_lel, o_lle, o_eq, o_eql, o_leq, o_inb, o_inl, o_neg, hnk, if_false]
    cases hF : bF p k with
    | false =>
      simp only [hF, Bool.false_eq_true, if_false] at ih hfk
      clear hO
      simp (disch := first | assumption | omega | decide | exact la_87 | exact la_88 | exact la_90 | exact la_91 | exact la_92 | exact la_93 | exact la_94 | exact la_95 | exact la_96 | exact la_97 | exact la_98 | exact la_99 | exact la_10 | exact la_23 | exact la_77 | exact la_78 | exact la_18 | exact la_19 | exact la_20) only [u167_18, u167_20, u167_22, u167_25, u167_26, u167_28, u167_29, u167_30, u167_31, u167_32, hfk, not_false_eq_true, if_true, if_false, u167_88, u167_90, u167_91, u167_94, u167_96, u167_99, u167_100, u167_101, o_aa, o_al, o_la, o_mm, o_ml, o_lm, o_ss, o_sl, o_ls, o_tn, o_tl, o_lt, o_ltl, o_llt, o_le, o_lel, o_lle, o_eq, o_eql, o_leq, o_inb, o_inl, o_neg, show ¬ (6 : Int32) ≤ 0 by decide, show (0 : Int32) ≤ Int32.ofNat mk from (o_le (a := 0) (by omega) (by omega)).mpr (Nat.zero_le _)]
      exact (u167_104 ..).mpr (ih (_, _))
    | true =>
      have hOk := hO k hk
      simp only [hF, if_true] at ih
      rw [hF] at hfk
      have hfk := hfk.mpr rfl
      refine Rn_fr (n := 6) (X := Unit) (fun j _ => [.ref 86, .int (Int32.ofNat p), .int (Int32.ofNat s), .int (Int32.ofNat mk), .int (Int32.ofNat k), .int (Int32.ofNat (cnt (bF p) O s k j)), .int (Int32.ofNat j)]) (fun _ _ => Sg Z J) () rfl rfl ?_ ?_
      · intro j hj _ ih2
        have ih2 := ih2 ()
        have hnj : ¬ 6 ≤ j := by omega
        have hOj := hO j hj
        have hfj := bF_m hp hj
        have hcj := cnt_le (bF p) O s k j
        rw [cnt_s] at ih2
        generalize cnt (bF p) O s k j = c at ih2 hcj ⊢
        clear ih hcl hO
        simp (disch := first | assumption | omega | decide | exact la_87 | exact la_88 | exact la_90 | exact la_91 | exact la_92 | exact la_93 | exact la_94 | exact la_95 | exact la_96 | exact la_97 | exact la_98 | exact la_99 | exact la_10 | exact la_23 | exact la_77 | exact la_78 | exact la_18 | exact la_19 | exact la_20) only [u167_18, u167_20, u167_22, u167_25, u167_26, u167_28, u167_29, u167_30, u167_31, u167_32, u167_35, u167_37, u167_38, u167_40, u167_41, u167_42, u167_43, u167_44, o_aa, o_al, o_la, o_mm, o_ml, o_lm, o_ss, o_sl, o_ls, o_tn, o_tl, o_lt, o_ltl, o_llt, o_le, o_lel, o_lle, o_eq, o_eql, o_leq, o_inb, o_inl, o_neg, hnj, if_false, hfk, not_true]
        cases hG : bF p j with
        | false =>
          rw [if_neg (fun q => by rw [hG] at q; exact Bool.false_ne_true q.1)] at ih2
          simp only [hG, Bool.false_eq_true] at hfj
          simp (disch := first | assumption | omega | decide | exact la_87 | exact la_88 | exact la_90 | exact la_91 | exact la_92 | exact la_93 | exact la_94 | exact la_95 | exact la_96 | exact la_97 | exact la_98 | exact la_99 | exact la_10 | exact la_23 | exact la_77 | exact la_78 | exact la_18 | exact la_19 | exact la_20) only [hfj, not_false_eq_true, if_true, u167_78, u167_79, u167_80, u167_82, o_aa, o_al, o_la, o_mm, o_ml, o_lm, o_ss, o_sl, o_ls, o_tn, o_tl, o_lt, o_ltl, o_llt, o_le, o_lel, o_lle, o_eq, o_eql, o_leq, o_inb, o_inl, o_neg, Int32.add_zero]
          exact (u167_85 ..).mpr ih2
        | true =>
          rw [hG] at hfj
          have hfj := hfj.mpr rfl
          simp (disch := first | assumption | omega | decide | exact la_87 | exact la_88 | exact la_90 | exact la_91 | exact la_92 | exact la_93 | exact la_94 | exact la_95 | exact la_96 | exact la_97 | exact la_98 | exact la_99 | exact la_10 | exact la_23 | exact la_77 | exact la_78 | exact la_18 | exact la_19 | exact la_20) only [hfj, not_true, if_false, u167_47, u167_48, u167_51, u167_53, u167_55, u167_56, u167_57, u167_58, u167_59, u167_60, u167_63, u167_65, u167_67, u167_68, u167_69, u167_70, u167_71, la_86, la_96, lt_96, lr_86_13, kLt, true_and, hOj, hOk, o_aa, o_al, o_la, o_mm, o_ml, o_lm, o_ss, o_sl, o_ls, o_tn, o_tl, o_lt, o_ltl, o_llt, o_le, o_lel, o_lle, o_eq, o_eql, o_leq, o_inb, o_inl, o_neg, show 8 * j + s < 48 by omega, show 8 * k + s < 48 by omega]
          by_cases he : O j s = O k s
          · rw [if_pos ⟨hG, he⟩] at ih2
            simp (disch := first | assumption | omega | decide | exact la_87 | exact la_88 | exact la_90 | exact la_91 | exact la_92 | exact la_93 | exact la_94 | exact la_95 | exact la_96 | exact la_97 | exact la_98 | exact la_99 | exact la_10 | exact la_23 | exact la_77 | exact la_78 | exact la_18 | exact la_19 | exact la_20) only [he, not_true, if_false, u167_74, u167_75, u167_78, u167_79, u167_80, u167_82, o_aa, o_al, o_la, o_mm, o_ml, o_lm, o_ss, o_sl, o_ls, o_tn, o_tl, o_lt, o_ltl, o_llt, o_le, o_lel, o_lle, o_eq, o_eql, o_leq, o_inb, o_inl, o_neg]
            exact (u167_85 ..).mpr ih2
          · rw [if_neg (fun q => he q.2)] at ih2
            simp (disch := first | assumption | omega | decide | exact la_87 | exact la_88 | exact la_90 | exact la_91 | exact la_92 | exact la_93 | exact la_94 | exact la_95 | exact la_96 | exact la_97 | exact la_98 | exact la_99 | exact la_10 | exact la_23 | exact la_77 | exact la_78 | exact la_18 | exact la_19 | exact la_20) only [show ¬ O k s = O j s from fun q => he q.symm, not_false_eq_true, if_true, u167_78, u167_79, u167_80, u167_82, o_aa, o_al, o_la, o_mm, o_ml, o_lm, o_ss, o_sl, o_ls, o_tn, o_tl, o_lt, o_ltl, o_llt, o_le, o_lel, o_lle, o_eq, o_eql, o_leq, o_inb, o_inl, o_neg, Int32.add_zero]
            exact (u167_85 ..).mpr ih2
      · intro _
        generalize cnt (bF p) O s k 6 = c at ih hcl ⊢
        clear hO
        simp (disch := first | assumption | omega | decide | exact la_87 | exact la_88 | exact la_90 | exact la_91 | exact la_92 | exact la_93 | exact la_94 | exact la_95 | exact la_96 | exact la_97 | exact la_98 | exact la_99 | exact la_10 | exact la_23 | exact la_77 | exact la_78 | exact la_18 | exact la_19 | exact la_20) only [u167_18, u167_20, u167_22, u167_88, u167_90, u167_91, o_aa, o_al, o_la, o_mm, o_ml, o_lm, o_ss, o_sl, o_ls, o_tn, o_tl, o_lt, o_ltl, o_llt, o_le, o_lel, o_lle, o_eq, o_eql, o_leq, o_inb, o_inl, o_neg, Nat.le_refl, if_true]
        rw [Nat.max_def] at ih
        by_cases hc : c ≤ mk
        · rw [if_pos hc]
          simp (disch := first | assumption | omega | decide | exact la_87 | exact la_88 | exact la_90 | exact la_91 | exact la_92 | exact la_93 | exact la_94 | exact la_95 | exact la_96 | exact la_97 | exact la_98 | exact la_99 | exact la_10 | exact la_23 | exact la_77 | exact la_78 | exact la_18 | exact la_19 | exact la_20) only [u167_99, u167_100, u167_101, o_aa, o_al, o_la, o_mm, o_ml, o_lm, o_ss, o_sl, o_ls, o_tn, o_tl, o_lt, o_ltl, o_llt, o_le, o_lel, o_lle, o_eq, o_eql, o_leq, o_inb, o_inl, o_neg]
          refine (u167_104 ..).mpr ?_
          have ih := ih (.int (Int32.ofNat c), .int (Int32.ofNat 6))
          by_cases h2 : mk ≤ c
          · rw [if_pos h2] at ih
            obtain rfl : mk = c := by omega
            exact ih
          · rw [if_neg h2] at ih
            exact ih
        · rw [if_neg hc]
          simp (disch := first | assumption | omega | decide | exact la_87 | exact la_88 | exact la_90 | exact la_91 | exact la_92 | exact la_93 | exact la_94 | exact la_95 | exact la_96 | exact la_97 | exact la_98 | exact la_99 | exact la_10 | exact la_23 | exact la_77 | exact la_78 | exact la_18 | exact la_19 | exact la_20) only [u167_94, u167_96, u167_99, u167_100, u167_101, o_aa, o_al, o_la, o_mm, o_ml, o_lm, o_ss, o_sl, o_ls, o_tn, o_tl, o_lt, o_ltl, o_llt, o_le, o_lel, o_lle, o_eq, o_eql, o_leq, o_inb, o_inl, o_neg]
          rw [if_pos (by omega)] at ih
          exact (u167_104 ..).mpr (ih (_, _))
  · intro v
    generalize mos (bF p) O s 6 = c at h ⊢
    clear hO
    simp (disch := first | assumption | omega | decide | exact la_87 | exact la_88 | exact la_90 | exact la_91 | exact la_92 | exact la_93 | exact la_94 | exact la_95 | exact la_96 | exact la_97 | exact la_98 | exact la_99 | exact la_10 | exact la_23 | exact la_77 | exact la_78 | exact la_18 | exact la_19 | exact la_20) only [u167_5, u167_7, u167_9, u167_107, u167_108, o_aa, o_al, o_la, o_mm, o_ml, o_lm, o_ss, o_sl, o_ls, o_tn, o_tl, o_lt, o_ltl, o_llt, o_le, o_lel, o_lle, o_eq, o_eql, o_leq, o_inb, o_inl, o_neg, Nat.le_refl, if_true]
    exact h)
end ALIKE
