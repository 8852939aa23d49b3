/-! THE CALLS: due, count -/
/-- the sum of the first k of W -/
def sm (W : Nat → Int32) (k : Nat) : Int32 := Nat.rec 0 (fun j s => s + W j) k
theorem sm_s (W : Nat → Int32) (k : Nat) : sm W (k + 1) = sm W k + W k := rfl
theorem sm_eq {W V : Nat → Int32} {n : Nat} (h : ∀ j, j < n → W j = V j) : ∀ k, k ≤ n → sm W k = sm V k := by
  intro k
  induction k with
  | zero => intro _; rfl
  | succ k ih => intro hk; rw [sm_s, sm_s, ih (by omega), h k (by omega)]
/-- the first season at which the sum goes beyond w, from k on, d of them left -/
def du (W : Nat → Int32) (w : Int32) (d : Nat) : Nat → Int32 := Nat.rec (fun _ => -1) (fun _ f k => if sm W (k + 1) ≤ w then f (k + 1) else Int32.ofNat k) d
theorem du_s (W : Nat → Int32) (w : Int32) (d k : Nat) : du W w (d + 1) k = if sm W (k + 1) ≤ w then du W w d (k + 1) else Int32.ofNat k := rfl
theorem du_eq {W V : Nat → Int32} (w : Int32) (h : ∀ j, j < 8 → W j = V j) : ∀ d k, k + d = 8 → du W w d k = du V w d k := by
  intro d
  induction d with
  | zero => intro k _; rfl
  | succ d ih => intro k hk; rw [du_s, du_s, ih (k + 1) (by omega), sm_eq h (k + 1) (by omega)]
section DUE
variable {I : Nat → Nat → Int32} {J : Nat → Nat → Int64} {Q : Option Value → Sto → Prop}
theorem due_c (w : Int32) : ∀ d k, k + d = 8 → Q (some (.int (du (I 10) w d k))) (Sg I J) → Rn 84 22 [.ref 0, .int w, .int (sm (I 10) k), .int (Int32.ofNat k)] [] (Sg I J) Q := by
  intro d
  induction d with
  | zero =>
    intro k hk h
    obtain rfl : k = 8 := by omega
    simp (disch := first | assumption | omega | decide | exact la_87 | exact la_88 | exact la_90 | exact la_91 | exact la_92 | exact la_93 | exact la_94 | exact la_95 | exact la_96 | exact la_97 | exact la_98 | exact la_99 | exact la_10 | exact la_23 | exact la_77 | exact la_78 | exact la_18 | exact la_19 | exact la_20) only [u84_22, u84_23, u84_25, u84_28, u84_29, u84_30, u84_33, u84_36, u84_39, u84_40, u84_41, u84_42, u84_43, u84_44, u84_45, u84_48, u84_49, u84_50, u84_56, u84_57, o_aa, o_al, o_la, o_mm, o_ml, o_lm, o_ss, o_sl, o_ls, o_tn, o_tl, o_lt, o_ltl, o_llt, o_le, o_lel, o_lle, o_eq, o_eql, o_leq, o_inb, o_inl, o_neg, Nat.le_refl, if_true]
    exact h
  | succ d ih =>
    intro k hk h
    rw [du_s] at h
    have hk8 : k < 8 := by omega
    have hnk : ¬ 8 ≤ k := by omega
    simp (disch := first | assumption | omega | decide | exact la_87 | exact la_88 | exact la_90 | exact la_91 | exact la_92 | exact la_93 | exact la_94 | exact la_95 | exact la_96 | exact la_97 | exact la_98 | exact la_99 | exact la_10 | exact la_23 | exact la_77 | exact la_78 | exact la_18 | exact la_19 | exact la_20) only [u84_22, u84_23, u84_25, u84_28, u84_29, u84_30, u84_33, u84_36, u84_39, u84_40, u84_41, u84_42, u84_43, u84_44, u84_45, u84_48, u84_49, u84_50, u84_56, u84_57, la_0, la_8, la_9, la_10, lt_10, lr_0_0, lr_8_1, lr_9_0, kLt, true_and, o_aa, o_al, o_la, o_mm, o_ml, o_lm, o_ss, o_sl, o_ls, o_tn, o_tl, o_lt, o_ltl, o_llt, o_le, o_lel, o_lle, o_eq, o_eql, o_leq, o_inb, o_inl, o_neg, hk8, hnk, if_false, ← sm_s]
    by_cases hc : sm (I 10) (k + 1) ≤ w
    · rw [if_pos hc] at h ⊢
      exact (u84_53 ..).mpr (ih (k + 1) (by omega) h)
    · rw [if_neg hc] at h ⊢
      exact h
theorem due_m (w : Int32) : ∀ d k, k + d = 8 → Q (some (.int (du (fun j => I 87 (5 + j)) w d k))) (Sg I J) → Rn 158 23 [.ref 86, .int w, .int (sm (fun j => I 87 (5 + j)) k), .int (Int32.ofNat k)] [] (Sg I J) Q := by
  intro d
  induction d with
  | zero =>
    intro k hk h
    obtain rfl : k = 8 := by omega
    simp (disch := first | assumption | omega | decide | exact la_87 | exact la_88 | exact la_90 | exact la_91 | exact la_92 | exact la_93 | exact la_94 | exact la_95 | exact la_96 | exact la_97 | exact la_98 | exact la_99 | exact la_10 | exact la_23 | exact la_77 | exact la_78 | exact la_18 | exact la_19 | exact la_20) only [u158_23, u158_24, u158_26, u158_29, u158_30, u158_31, u158_34, u158_35, u158_36, u158_37, u158_38, u158_39, u158_40, u158_41, u158_42, u158_45, u158_46, u158_47, u158_53, u158_54, o_aa, o_al, o_la, o_mm, o_ml, o_lm, o_ss, o_sl, o_ls, o_tn, o_tl, o_lt, o_ltl, o_llt, o_le, o_lel, o_lle, o_eq, o_eql, o_leq, o_inb, o_inl, o_neg, Nat.le_refl, if_true]
    exact h
  | succ d ih =>
    intro k hk h
    rw [du_s] at h
    have hk8 : 5 + k < 142 := by omega
    have hnk : ¬ 8 ≤ k := by omega
    have hs : sm (fun j => I 87 (5 + j)) k + I 87 (5 + k) = sm (fun j => I 87 (5 + j)) (k + 1) := rfl
    simp (disch := first | assumption | omega | decide | exact la_87 | exact la_88 | exact la_90 | exact la_91 | exact la_92 | exact la_93 | exact la_94 | exact la_95 | exact la_96 | exact la_97 | exact la_98 | exact la_99 | exact la_10 | exact la_23 | exact la_77 | exact la_78 | exact la_18 | exact la_19 | exact la_20) only [u158_23, u158_24, u158_26, u158_29, u158_30, u158_31, u158_34, u158_35, u158_36, u158_37, u158_38, u158_39, u158_40, u158_41, u158_42, u158_45, u158_46, u158_47, u158_53, u158_54, la_86, la_87, lt_87, lr_86_0, kLt, true_and, o_aa, o_al, o_la, o_mm, o_ml, o_lm, o_ss, o_sl, o_ls, o_tn, o_tl, o_lt, o_ltl, o_llt, o_le, o_lel, o_lle, o_eq, o_eql, o_leq, o_inb, o_inl, o_neg, hk8, hnk, if_false, hs]
    by_cases hc : sm (fun j => I 87 (5 + j)) (k + 1) ≤ w
    · rw [if_pos hc] at h ⊢
      exact (u158_50 ..).mpr (ih (k + 1) (by omega) h)
    · rw [if_neg hc] at h ⊢
      exact h
theorem c191 {m pc : Nat} {ls st : Vs} : Ca 191 [.ref 86, .null, .null] (Sg I J) m pc ls st Q ↔ Rn m pc ls (.int (sm (fun j => I 87 (5 + j)) 8) :: st) (Sg I J) Q := Ca_of (r := some (.int (sm (fun j => I 87 (5 + j)) 8))) (fun Q h => by
  simp only [u191_0, u191_1, u191_2, u191_3]
  refine Rn_fr (n := 8) (X := Unit) (fun k _ => [.ref 86, .int (sm (fun j => I 87 (5 + j)) k), .int (Int32.ofNat k)]) (fun k _ => Sg I J) () rfl rfl ?_ ?_
  · intro k hk _ ih
    have ih := ih ()
    have hk8 : 5 + k < 142 := by omega
    have hnk : ¬ 8 ≤ k := by omega
    have hs : sm (fun j => I 87 (5 + j)) k + I 87 (5 + k) = sm (fun j => I 87 (5 + j)) (k + 1) := rfl
    simp (disch := first | assumption | omega | decide | exact la_87 | exact la_88 | exact la_90 | exact la_91 | exact la_92 | exact la_93 | exact la_94 | exact la_95 | exact la_96 | exact la_97 | exact la_98 | exact la_99 | exact la_10 | exact la_23 | exact la_77 | exact la_78 | exact la_18 | exact la_19 | exact la_20) only [u191_4, u191_5, u191_7, u191_10, u191_11, u191_12, u191_15, u191_16, u191_17, u191_18, u191_19, u191_20, u191_21, u191_27, u191_28, la_86, la_87, lt_87, lr_86_0, kLt, true_and, o_aa, o_al, o_la, o_mm, o_ml, o_lm, o_ss, o_sl, o_ls, o_tn, o_tl, o_lt, o_ltl, o_llt, o_le, o_lel, o_lle, o_eq, o_eql, o_leq, o_inb, o_inl, o_neg, hk8, hnk, if_false, hs]
    exact (u191_24 ..).mpr ih
  · intro _
    simp (disch := first | assumption | omega | decide | exact la_87 | exact la_88 | exact la_90 | exact la_91 | exact la_92 | exact la_93 | exact la_94 | exact la_95 | exact la_96 | exact la_97 | exact la_98 | exact la_99 | exact la_10 | exact la_23 | exact la_77 | exact la_78 | exact la_18 | exact la_19 | exact la_20) only [u191_4, u191_5, u191_7, u191_10, u191_11, u191_12, u191_15, u191_16, u191_17, u191_18, u191_19, u191_20, u191_21, u191_27, u191_28, o_aa, o_al, o_la, o_mm, o_ml, o_lm, o_ss, o_sl, o_ls, o_tn, o_tl, o_lt, o_ltl, o_llt, o_le, o_lel, o_lle, o_eq, o_eql, o_leq, o_inb, o_inl, o_neg, Nat.le_refl, if_true]
    exact h)
/-- the sum of the weeks of the seasons in b -/
def sb (W : Nat → Int32) (b : Int32) (k : Nat) : Int32 := Nat.rec 0 (fun j s => if b &&& (1 <<< (Int32.ofNat j &&& 31)) = 0 then s else s + W j) k
theorem sb_s (W : Nat → Int32) (b : Int32) (k : Nat) : sb W b (k + 1) = if b &&& (1 <<< (Int32.ofNat k &&& 31)) = 0 then sb W b k else sb W b k + W k := rfl
theorem c59 {m pc : Nat} {ls st : Vs} (y : Nat) (hy : isY y) (b : Int32) : Ca 59 [.ref y, .int b, .null, .null] (Sg I J) m pc ls st Q ↔ Rn m pc ls (.int (sb (I (y + 1)) b 8) :: st) (Sg I J) Q := Ca_of (r := some (.int (sb (I (y + 1)) b 8))) (fun Q h => by
  obtain ⟨f1, f2, f3, f4, f5, f6⟩ := isY_f hy
  clear hy
  simp only [u59_0, u59_1, u59_2, u59_3]
  refine Rn_fr (n := 8) (X := Unit) (fun k _ => [.ref y, .int b, .int (sb (I (y + 1)) b k), .int (Int32.ofNat k)]) (fun k _ => Sg I J) () rfl rfl ?_ ?_
  · intro k hk _ ih
    have ih := ih ()
    rw [sb_s] at ih
    have hnk : ¬ 8 ≤ k := by omega
    simp (disch := first | assumption | omega | decide | exact la_87 | exact la_88 | exact la_90 | exact la_91 | exact la_92 | exact la_93 | exact la_94 | exact la_95 | exact la_96 | exact la_97 | exact la_98 | exact la_99 | exact la_10 | exact la_23 | exact la_77 | exact la_78 | exact la_18 | exact la_19 | exact la_20) only [u59_4, u59_5, u59_7, u59_10, u59_11, u59_12, u59_13, u59_14, u59_15, u59_18, u59_19, u59_20, u59_23, u59_24, u59_25, u59_26, u59_27, u59_33, u59_34, f1, f2, f3, f4, f5, true_and, o_aa, o_al, o_la, o_mm, o_ml, o_lm, o_ss, o_sl, o_ls, o_tn, o_tl, o_lt, o_ltl, o_llt, o_le, o_lel, o_lle, o_eq, o_eql, o_leq, o_inb, o_inl, o_neg, hk, hnk, if_false]
    by_cases hc : b &&& (1 <<< (Int32.ofNat k &&& 31)) = 0
    · rw [if_pos hc] at ih ⊢
      exact (u59_30 ..).mpr ih
    · rw [if_neg hc] at ih ⊢
      exact (u59_30 ..).mpr ih
  · intro _
    simp (disch := first | assumption | omega | decide | exact la_87 | exact la_88 | exact la_90 | exact la_91 | exact la_92 | exact la_93 | exact la_94 | exact la_95 | exact la_96 | exact la_97 | exact la_98 | exact la_99 | exact la_10 | exact la_23 | exact la_77 | exact la_78 | exact la_18 | exact la_19 | exact la_20) only [u59_4, u59_5, u59_7, u59_10, u59_11, u59_12, u59_13, u59_14, u59_15, u59_18, u59_19, u59_20, u59_23, u59_24, u59_25, u59_26, u59_27, u59_33, u59_34, o_aa, o_al, o_la, o_mm, o_ml, o_lm, o_ss, o_sl, o_ls, o_tn, o_tl, o_lt, o_ltl, o_llt, o_le, o_lel, o_lle, o_eq, o_eql, o_leq, o_inb, o_inl, o_neg, Nat.le_refl, if_true]
    exact h)
end DUE
theorem sb_255 (W : Nat → Int32) : ∀ k, k ≤ 8 → sb W 255 k = sm W k := by
  intro k
  induction k with
  | zero => intro _; rfl
  | succ k ih =>
    intro hk
    have : ∀ j, j < 8 → ¬ (255 : Int32) &&& (1 <<< (Int32.ofNat j &&& 31)) = 0 := by decide
    rw [sb_s, sm_s, if_neg (this k (by omega)), ih (by omega)]
theorem op20 (a : Int32) : OpI 84 [.ref 0, .int a, .null, .null] 158 [.ref 86, .int a, .null, .null] := by
  intro I J B hR hB
  have y4 := hR.1.2.2.2.1.2.2
  by_cases h1 : 0 ≤ a ∧ a ≤ 800
  · simp (disch := decide) only [u84_0, u84_1, u84_2, u84_5, u84_8, u84_11, u84_12, u84_14, u84_17, u84_18, u84_19, u84_20, u84_21, c100, bi_0, h1, not_true, not_false_eq_true, if_true, if_false]
    refine due_c a 8 0 (by omega) ?_
    refine ⟨_, _, _, rfl, rfl, rfl, rfl, ?_⟩
    simp (disch := first | assumption | omega | decide | exact la_87 | exact la_88 | exact la_90 | exact la_91 | exact la_92 | exact la_93 | exact la_94 | exact la_95 | exact la_96 | exact la_97 | exact la_98 | exact la_99 | exact la_10 | exact la_23 | exact la_77 | exact la_78 | exact la_18 | exact la_19 | exact la_20) only [u158_0, u158_1, u158_2, u158_3, u158_6, u158_9, u158_12, u158_13, u158_15, u158_18, u158_19, u158_20, u158_21, u158_22, c113n, bi_0, h1, not_true, not_false_eq_true, if_true, if_false]
    refine due_m a 8 0 (by omega) ?_
    refine fin_same hR (du_eq a (fun j hj => ?_) 8 0 (by omega))
    obtain ⟨w, hw, e1, e2⟩ := y4 j hj
    rw [e2, ← e1]
  · simp (disch := decide) only [u84_0, u84_1, u84_2, u84_5, u84_8, u84_11, u84_12, u84_14, u84_17, c100, c103b, bi_0, h1, not_true, not_false_eq_true, if_true, if_false, la_0, kLt, true_and]
    refine ⟨_, _, _, rfl, rfl, up_o _ _ (by decide), up_o _ _ (by decide), ?_⟩
    simp (disch := first | assumption | omega | decide | exact la_87 | exact la_88 | exact la_90 | exact la_91 | exact la_92 | exact la_93 | exact la_94 | exact la_95 | exact la_96 | exact la_97 | exact la_98 | exact la_99 | exact la_10 | exact la_23 | exact la_77 | exact la_78 | exact la_18 | exact la_19 | exact la_20) only [u158_0, u158_1, u158_2, u158_3, u158_6, u158_9, u158_12, u158_13, u158_15, u158_18, c113n, c114, bi_0, h1, not_true, not_false_eq_true, if_true, if_false, la_86, kLt, true_and]
    exact fin_bad' hR
