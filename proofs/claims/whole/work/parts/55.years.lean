/-! THE CALL: years -/
def sdn (x : Int64) : Int64 := x * 1103515245 + 12345 - (x * 1103515245 + 12345) / 2147483648 * 2147483648
def yw (w : Int64) (x : Int64) (k : Nat) : Int64 × Int32 := Nat.rec (x, 0) (fun k p => (sdn p.1, if 0 ≤ lg_cmp (sdn p.1 / 65536 - sdn p.1 / 65536 / 100 * 100) w then p.2 else p.2 ||| (1 <<< (Int32.ofNat k &&& 31)))) k
theorem yw_s (w x : Int64) (k : Nat) : yw w x (k + 1) = (sdn (yw w x k).1, if 0 ≤ lg_cmp (sdn (yw w x k).1 / 65536 - sdn (yw w x k).1 / 65536 / 100 * 100) w then (yw w x k).2 else (yw w x k).2 ||| (1 <<< (Int32.ofNat k &&& 31))) := rfl
theorem yw_n (w x : Int64) : ∀ k, k ≤ 6 → ∃ d, d < 2 ^ k ∧ (yw w x k).2 = Int32.ofNat d := by
  intro k
  induction k with
  | zero => intro _; exact ⟨0, by decide, rfl⟩
  | succ k ih =>
    intro hk
    obtain ⟨d, hd, e⟩ := ih (by omega)
    rw [yw_s]
    by_cases h : 0 ≤ lg_cmp (sdn (yw w x k).1 / 65536 - sdn (yw w x k).1 / 65536 / 100 * 100) w
    · rw [if_pos h]; exact ⟨d, by rw [Nat.pow_succ]; omega, e⟩
    · rw [if_neg h]; exact or_n (by omega) hd e
def yc (w : Int64) (n : Nat) (x : Int64) (X : Nat → Nat → Int32) (i : Nat) : Int64 × (Nat → Nat → Int32) := Nat.rec (x, X) (fun _ p => ((yw w p.1 n).1, paI p.2 21 (yw w p.1 n).2 n)) i
theorem yc_s (w : Int64) (n : Nat) (x : Int64) (X : Nat → Nat → Int32) (i : Nat) : yc w n x X (i + 1) = ((yw w (yc w n x X i).1 n).1, paI (yc w n x X i).2 21 (yw w (yc w n x X i).1 n).2 n) := rfl
def ym (w : Int64) (n : Nat) (x : Int64) (X : Nat → Nat → Int32) (i : Nat) : Int64 × (Nat → Nat → Int32) := Nat.rec (x, X) (fun _ p => ((yw w p.1 n).1, gmI p.2 (yw w p.1 n).2 n)) i
theorem ym_s (w : Int64) (n : Nat) (x : Int64) (X : Nat → Nat → Int32) (i : Nat) : ym w n x X (i + 1) = ((yw w (ym w n x X i).1 n).1, gmI (ym w n x X i).2 (yw w (ym w n x X i).1 n).2 n) := rfl
theorem yc_f (w : Int64) (n : Nat) (x : Int64) (X : Nat → Nat → Int32) {q : Nat} (h1 : ¬ q = 22) (h2 : ¬ q = 23) : ∀ i, (yc w n x X i).2 q = X q := by
  intro i
  induction i with
  | zero => rfl
  | succ i ih => rw [yc_s]; exact (pa_f _ _ _ h1 h2).trans ih
theorem ym_f (w : Int64) (n : Nat) (x : Int64) (X : Nat → Nat → Int32) {q : Nat} (h1 : ¬ q = 86) (h2 : ¬ q = 91) : ∀ i, (ym w n x X i).2 q = X q := by
  intro i
  induction i with
  | zero => rfl
  | succ i ih => rw [ym_s]; exact (gm_f _ _ _ h1 h2).trans ih
theorem yc_sc (w : Int64) (n : Nat) (x : Int64) (X : Nat → Nat → Int32) : ∀ i, Sc X (yc w n x X i).2 := by
  intro i
  induction i with
  | zero => exact Sc.rf _
  | succ i ih => rw [yc_s]; exact ih.tr (Sc_pa _ _ _)
theorem ym_sc (w : Int64) (n : Nat) (x : Int64) (X : Nat → Nat → Int32) : ∀ i, Sc X (ym w n x X i).2 := by
  intro i
  induction i with
  | zero => exact Sc.rf _
  | succ i ih => rw [ym_s]; exact ih.tr (Sc_gm _ _ _)
theorem yj {X Z : Nat → Nat → Int32} {n T : Nat} (w x : Int64) (h : TJ X Z n T) : ∀ i, T + i < 1000000 → (yc w n x X i).1 = (ym w n x Z i).1 ∧ TJ (yc w n x X i).2 (ym w n x Z i).2 n (T + i) := by
  intro i
  induction i with
  | zero => intro _; exact ⟨rfl, h⟩
  | succ i ih =>
    intro hi
    obtain ⟨e1, e2⟩ := ih (by omega)
    rw [yc_s, ym_s, e1]
    refine ⟨rfl, TJ_pa e2 (by omega) (fun k hk => ?_)⟩
    obtain ⟨d, hd, e⟩ := yw_n w (ym w n x Z i).1 n h.1
    rw [e]
    exact bit_w d (Nat.lt_of_lt_of_le hd (p2_le _ h.1)) k (by have := h.1; omega)
theorem Tm_eq {X Y : Nat → Nat → Int32} {n : Nat} (h : Tm X 21 n) (h1 : Y 24 = X 24) (h2 : Y 25 = X 25) : Tm Y 21 n := by
  unfold Tm at *
  rw [show 21 + 3 = 24 from rfl, show 21 + 4 = 25 from rfl] at *
  rw [h1, h2]
  exact h
theorem Wm_eq {X Y : Nat → Nat → Int32} {n : Nat} (h : Wm X 21 n) (h1 : Y 26 = X 26) (h2 : Y 27 = X 27) : Wm Y 21 n := by
  unfold Wm at *
  rw [show 21 + 5 = 26 from rfl, show 21 + 6 = 27 from rfl] at *
  rw [h1, h2]
  exact h
section YRS
variable {J : Nat → Nat → Int64} {Q : Option Value → Sto → Prop}
theorem yr_c {X : Nat → Nat → Int32} {n n2 N : Nat} (a c : Int32) (x0 : Int64) (hn : n ≤ 6) (hT : Tm X 21 n) (hs : X 11 1 = Int32.ofNat n) (hW : Wm X 21 n2) (hN : N ≤ 60) (h : Q (some (.int (bc (dnV (yc c.toInt64 n x0 X N).2 21 n2)))) (Sg (yc c.toInt64 n x0 X N).2 J)) : Rn 93 52 [.ref 0, .int a, .int (Int32.ofNat N), .int c, .long x0, .null, .null, .null, .null] [] (Sg X J) Q := by
  simp only [u93_52, u93_53]
  refine Rn_fr (n := N) (X := Value × Value) (fun i v => [.ref 0, .int a, .int (Int32.ofNat N), .int c, .long (yc c.toInt64 n x0 X i).1, .null, .int (Int32.ofNat i), v.1, v.2]) (fun i _ => Sg (yc c.toInt64 n x0 X i).2 J) (.null, .null) rfl rfl ?_ ?_
  · intro i hi v ih
    have hni : ¬ N ≤ i := by omega
    have hs1 : (yc c.toInt64 n x0 X i).2 11 1 = Int32.ofNat n := by rw [yc_f _ _ _ _ (by decide) (by decide)]; exact hs
    have hT1 : Tm (yc c.toInt64 n x0 X i).2 21 n := Tm_eq hT (yc_f _ _ _ _ (by decide) (by decide) i) (yc_f _ _ _ _ (by decide) (by decide) i)
    simp only [yc_s] at ih
    generalize yc c.toInt64 n x0 X i = p at hs1 hT1 ih ⊢
    have h46 := fun (pc : Nat) (ls st : Vs) (who : Int32) => @c46 93 pc ls st p.2 J Q 21 lisV_21 who n hT1
    clear hT hT1 hW h hs
    simp (disch := first | assumption | omega | decide | exact la_87 | exact la_88 | exact la_90 | exact la_91 | exact la_92 | exact la_93 | exact la_94 | exact la_95 | exact la_96 | exact la_97 | exact la_98 | exact la_99 | exact la_10 | exact la_23 | exact la_77 | exact la_78 | exact la_18 | exact la_19 | exact la_20) only [u93_55, u93_57, u93_58, u93_61, u93_62, u93_64, u93_65, o_aa, o_al, o_la, o_mm, o_ml, o_lm, o_ss, o_sl, o_ls, o_tn, o_tl, o_lt, o_ltl, o_llt, o_le, o_lel, o_lle, o_eq, o_eql, o_leq, o_inb, o_inl, o_neg, hni, if_false]
    refine Rn_fr (n := n) (X := Unit) (fun k _ => [.ref 0, .int a, .int (Int32.ofNat N), .int c, .long (yw c.toInt64 p.1 k).1, .null, .int (Int32.ofNat i), .int (yw c.toInt64 p.1 k).2, .int (Int32.ofNat k)]) (fun _ _ => Sg p.2 J) () rfl rfl ?_ ?_
    · intro k hk _ ih2
      have ih2 := ih2 ()
      simp only [yw_s] at ih2
      generalize yw c.toInt64 p.1 k = q at ih2 ⊢
      have hnk : ¬ n ≤ k := by omega
      clear ih h46
      simp (disch := first | assumption | omega | decide | exact la_87 | exact la_88 | exact la_90 | exact la_91 | exact la_92 | exact la_93 | exact la_94 | exact la_95 | exact la_96 | exact la_97 | exact la_98 | exact la_99 | exact la_10 | exact la_23 | exact la_77 | exact la_78 | exact la_18 | exact la_19 | exact la_20) only [u93_67, u93_69, u93_70, u93_73, u93_76, u93_79, u93_82, u93_84, u93_87, u93_88, u93_91, u93_92, u93_95, u93_96, u93_98, u93_100, u93_103, u93_104, u93_107, u93_108, u93_109, u93_110, u93_111, u93_114, u93_116, u93_117, u93_119, u93_120, u93_121, u93_123, la_0, la_8, la_11, lr_0_0, lr_8_2, kLt, true_and, hs1, o_aa, o_al, o_la, o_mm, o_ml, o_lm, o_ss, o_sl, o_ls, o_tn, o_tl, o_lt, o_ltl, o_llt, o_le, o_lel, o_lle, o_eq, o_eql, o_leq, o_inb, o_inl, o_neg, hnk, if_false, not_false_eq_true, show ¬ (2147483648 : Int64) = 0 by decide, show ¬ (65536 : Int64) = 0 by decide, show ¬ (100 : Int64) = 0 by decide]
      split
      · rename_i hc
        have hc : 0 ≤ lg_cmp (sdn q.1 / 65536 - sdn q.1 / 65536 / 100 * 100) c.toInt64 := hc
        rw [if_pos hc] at ih2
        exact (u93_126 ..).mpr ih2
      · rename_i hc
        have hc : ¬ 0 ≤ lg_cmp (sdn q.1 / 65536 - sdn q.1 / 65536 / 100 * 100) c.toInt64 := hc
        rw [if_neg hc] at ih2
        exact (u93_126 ..).mpr ih2
    · intro _
      simp (disch := first | assumption | omega | decide | exact la_87 | exact la_88 | exact la_90 | exact la_91 | exact la_92 | exact la_93 | exact la_94 | exact la_95 | exact la_96 | exact la_97 | exact la_98 | exact la_99 | exact la_10 | exact la_23 | exact la_77 | exact la_78 | exact la_18 | exact la_19 | exact la_20) only [u93_67, u93_69, u93_70, u93_73, u93_76, u93_79, u93_82, u93_84, u93_87, u93_88, u93_91, u93_92, u93_95, u93_96, u93_98, u93_100, u93_103, u93_104, u93_107, u93_108, u93_109, u93_110, u93_111, u93_114, u93_116, u93_117, u93_119, u93_120, u93_121, u93_123, u93_129, u93_130, u93_133, u93_135, u93_138, h46, la_0, la_8, la_11, la_21, lr_0_0, lr_0_1, lr_8_2, kLt, true_and, hs1, o_aa, o_al, o_la, o_mm, o_ml, o_lm, o_ss, o_sl, o_ls, o_tn, o_tl, o_lt, o_ltl, o_llt, o_le, o_lel, o_lle, o_eq, o_eql, o_leq, o_inb, o_inl, o_neg, Nat.le_refl, if_true]
      exact (u93_141 ..).mpr (ih (_, _))
  · intro v
    have hW1 : Wm (yc c.toInt64 n x0 X N).2 21 n2 := Wm_eq hW (yc_f _ _ _ _ (by decide) (by decide) N) (yc_f _ _ _ _ (by decide) (by decide) N)
    generalize yc c.toInt64 n x0 X N = p at h hW1 ⊢
    simp (disch := first | assumption | omega | decide | exact la_87 | exact la_88 | exact la_90 | exact la_91 | exact la_92 | exact la_93 | exact la_94 | exact la_95 | exact la_96 | exact la_97 | exact la_98 | exact la_99 | exact la_10 | exact la_23 | exact la_77 | exact la_78 | exact la_18 | exact la_19 | exact la_20) only [u93_55, u93_57, u93_58, u93_144, u93_145, u93_148, u93_151, u93_154, c48 21 n2 lisV_21 hW1, c196, la_0, la_21, lr_0_1, kLt, true_and, o_aa, o_al, o_la, o_mm, o_ml, o_lm, o_ss, o_sl, o_ls, o_tn, o_tl, o_lt, o_ltl, o_llt, o_le, o_lel, o_lle, o_eq, o_eql, o_leq, o_inb, o_inl, o_neg, Nat.le_refl, if_true]
    exact h
theorem yr_m {Z : Nat → Nat → Int32} {n n2 N T : Nat} (a c : Int32) (x0 : Int64) (hH : ∀ i, i < N → Hm (ym c.toInt64 n x0 Z i).2 n (T + i)) (hT : T < 100000) (hn2 : n2 ≤ 6) (en : Z 87 0 = Int32.ofNat n) (hn : n ≤ 6) (e1 : Z 87 1 = Int32.ofNat n2) (e2 : ∀ k, k < n2 → ∃ s, s < 8 ∧ Z 87 (32 + 2 * k) = Int32.ofNat s) (hN : N ≤ 60) (h : Q (some (.int (bc (dnM (ym c.toInt64 n x0 Z N).2 n2)))) (Sg (ym c.toInt64 n x0 Z N).2 J)) : Rn 172 51 [.ref 86, .int a, .int (Int32.ofNat N), .int c, .long x0, .null, .null, .null, .null] [] (Sg Z J) Q := by
  simp only [u172_51, u172_52]
  refine Rn_fr (n := N) (X := Value × Value) (fun i v => [.ref 86, .int a, .int (Int32.ofNat N), .int c, .long (ym c.toInt64 n x0 Z i).1, .null, .int (Int32.ofNat i), v.1, v.2]) (fun i _ => Sg (ym c.toInt64 n x0 Z i).2 J) (.null, .null) rfl rfl ?_ ?_
  · intro i hi v ih
    have hni : ¬ N ≤ i := by omega
    have hs1 : (ym c.toInt64 n x0 Z i).2 87 0 = Int32.ofNat n := by rw [ym_f _ _ _ _ (by decide) (by decide)]; exact en
    have hT1 := hH i hi
    simp only [ym_s] at ih
    generalize ym c.toInt64 n x0 Z i = p at hs1 hT1 ih ⊢
    have h46 := fun (pc : Nat) (ls st : Vs) (who : Int32) => @c139 172 pc ls st p.2 J Q who n (T + i) hT1 (by omega)
    clear hH hT1 h en e2
    simp (disch := first | assumption | omega | decide | exact la_87 | exact la_88 | exact la_90 | exact la_91 | exact la_92 | exact la_93 | exact la_94 | exact la_95 | exact la_96 | exact la_97 | exact la_98 | exact la_99 | exact la_10 | exact la_23 | exact la_77 | exact la_78 | exact la_18 | exact la_19 | exact la_20) only [u172_54, u172_56, u172_57, u172_60, u172_61, u172_63, u172_64, o_aa, o_al, o_la, o_mm, o_ml, o_lm, o_ss, o_sl, o_ls, o_tn, o_tl, o_lt, o_ltl, o_llt, o_le, o_lel, o_lle, o_eq, o_eql, o_leq, o_inb, o_inl, o_neg, hni, if_false]
    refine Rn_fr (n := n) (X := Unit) (fun k _ => [.ref 86, .int a, .int (Int32.ofNat N), .int c, .long (yw c.toInt64 p.1 k).1, .null, .int (Int32.ofNat i), .int (yw c.toInt64 p.1 k).2, .int (Int32.ofNat k)]) (fun _ _ => Sg p.2 J) () rfl rfl ?_ ?_
    · intro k hk _ ih2
      have ih2 := ih2 ()
      simp only [yw_s] at ih2
      generalize yw c.toInt64 p.1 k = q at ih2 ⊢
      have hnk : ¬ n ≤ k := by omega
      clear ih h46
      simp (disch := first | assumption | omega | decide | exact la_87 | exact la_88 | exact la_90 | exact la_91 | exact la_92 | exact la_93 | exact la_94 | exact la_95 | exact la_96 | exact la_97 | exact la_98 | exact la_99 | exact la_10 | exact la_23 | exact la_77 | exact la_78 | exact la_18 | exact la_19 | exact la_20) only [u172_66, u172_68, u172_69, u172_72, u172_75, u172_77, u172_80, u172_81, u172_84, u172_85, u172_88, u172_89, u172_91, u172_93, u172_95, u172_98, u172_99, u172_102, u172_103, u172_104, u172_105, u172_106, u172_109, u172_110, u172_112, u172_113, u172_116, u172_117, u172_118, u172_120, c119, la_86, kLt, true_and, hs1, o_aa, o_al, o_la, o_mm, o_ml, o_lm, o_ss, o_sl, o_ls, o_tn, o_tl, o_lt, o_ltl, o_llt, o_le, o_lel, o_lle, o_eq, o_eql, o_leq, o_inb, o_inl, o_neg, hnk, if_false, not_false_eq_true, show ¬ (2147483648 : Int64) = 0 by decide, show ¬ (65536 : Int64) = 0 by decide, show ¬ (100 : Int64) = 0 by decide, Int32.or_zero]
      split
      · rename_i hc
        have hc : 0 ≤ lg_cmp (sdn q.1 / 65536 - sdn q.1 / 65536 / 100 * 100) c.toInt64 := hc
        rw [if_pos hc] at ih2
        exact (u172_123 ..).mpr ih2
      · rename_i hc
        have hc : ¬ 0 ≤ lg_cmp (sdn q.1 / 65536 - sdn q.1 / 65536 / 100 * 100) c.toInt64 := hc
        rw [if_neg hc] at ih2
        exact (u172_123 ..).mpr ih2
    · intro _
      simp (disch := first | assumption | omega | decide | exact la_87 | exact la_88 | exact la_90 | exact la_91 | exact la_92 | exact la_93 | exact la_94 | exact la_95 | exact la_96 | exact la_97 | exact la_98 | exact la_99 | exact la_10 | exact la_23 | exact la_77 | exact la_78 | exact la_18 | exact la_19 | exact la_20) only [u172_66, u172_68, u172_69, u172_72, u172_75, u172_77, u172_80, u172_81, u172_84, u172_85, u172_88, u172_89, u172_91, u172_93, u172_95, u172_98, u172_99, u172_102, u172_103, u172_104, u172_105, u172_106, u172_109, u172_110, u172_112, u172_113, u172_116, u172_117, u172_118, u172_120, u172_126, u172_127, u172_129, u172_132, c119, h46, la_86, kLt, true_and, hs1, o_aa, o_al, o_la, o_mm, o_ml, o_lm, o_ss, o_sl, o_ls, o_tn, o_tl, o_lt, o_ltl, o_llt, o_le, o_lel, o_lle, o_eq, o_eql, o_leq, o_inb, o_inl, o_neg, Nat.le_refl, if_true]
      exact (u172_135 ..).mpr (ih (_, _))
  · intro v
    have g1 : (ym c.toInt64 n x0 Z N).2 87 1 = Int32.ofNat n2 := by rw [ym_f _ _ _ _ (by decide) (by decide)]; exact e1
    have g2 : ∀ k, k < n2 → ∃ s, s < 8 ∧ (ym c.toInt64 n x0 Z N).2 87 (32 + 2 * k) = Int32.ofNat s := by rw [ym_f _ _ _ _ (by decide) (by decide)]; exact e2
    generalize ym c.toInt64 n x0 Z N = p at h g1 g2 ⊢
    obtain ⟨d, hd, ed⟩ := dn_n (p.2 91) (fun j => p.2 87 (32 + 2 * j)) (fun j => p.2 87 (32 + 2 * j + 1)) n2 hn2
    have hd6 : d < 64 := Nat.lt_of_lt_of_le hd (p2_le _ hn2)
    have h149 := fun (pc : Nat) (ls st : Vs) => @c149 172 pc ls st p.2 J Q n2 hn2 g1 g2
    simp only [dnM, ed] at h149 h
    clear hH e2 g2
    simp (disch := first | assumption | omega | decide | exact la_87 | exact la_88 | exact la_90 | exact la_91 | exact la_92 | exact la_93 | exact la_94 | exact la_95 | exact la_96 | exact la_97 | exact la_98 | exact la_99 | exact la_10 | exact la_23 | exact la_77 | exact la_78 | exact la_18 | exact la_19 | exact la_20) only [u172_54, u172_56, u172_57, u172_138, u172_139, u172_142, u172_145, h149, c117 hd6, la_86, kLt, true_and, o_aa, o_al, o_la, o_mm, o_ml, o_lm, o_ss, o_sl, o_ls, o_tn, o_tl, o_lt, o_ltl, o_llt, o_le, o_lel, o_lle, o_eq, o_eql, o_leq, o_inb, o_inl, o_neg, Nat.le_refl, if_true]
    exact h
end YRS
theorem op29 (a b c : Int32) : OpI 93 [.ref 0, .int a, .int b, .int c, .null, .null, .null, .null, .null] 172 [.ref 86, .int a, .int b, .int c, .null, .null, .null, .null, .null] := by
  intro I J B hR hB
  have hR0 := hR
  obtain ⟨⟨⟨n, hT⟩, ⟨n2, hW⟩, rc, rd, re⟩, -⟩ := hR0
  have hTn : VTn (I 11) (I 12) (I 87) n := hT
  have hWn : VWn (I 13) (I 14) (I 87) n2 := hW
  by_cases h1 : 0 ≤ a ∧ a ≤ 999999
  · by_cases h2 : 0 ≤ b ∧ b ≤ 60
    · by_cases h3 : 0 ≤ c ∧ c ≤ 100
      · obtain ⟨N, hN, rfl⟩ := o_in (m := 60) h2.1 h2.2 (by omega)
        simp (disch := decide) only [u93_0, u93_1, u93_2, u93_4, u93_7, u93_10, u93_11, u93_12, u93_14, u93_17, u93_20, u93_21, u93_22, u93_24, u93_27, u93_30, u93_31, u93_33, u93_36, u93_37, u93_38, u93_39, u93_41, u93_42, u93_45, u93_46, u93_49, c100, c43_21_8, bi_0, h1, h2, h3, not_true, not_false_eq_true, if_true, if_false, la_0, la_21, lr_0_0, lr_0_1, kLt, true_and]
        refine yr_c a c _ hTn.1 (Tm_tk hTn) ?_ (Wm_tk hWn) hN ?_
        · simp (disch := decide) only [tk_21_8, up_o]; exact hTn.2.1
        have hm : ∀ q, 86 ≤ q → (yc c.toInt64 n a.toInt64 (tk_21_8 I) N).2 q = I q := fun q hq => (yc_f _ _ _ _ (by omega) (by omega) N).trans (by simp (disch := omega) only [tk_21_8, up_o])
        have hS := (Sc_tk I).tr (yc_sc c.toInt64 n a.toInt64 (tk_21_8 I) N)
        refine ⟨_, _, _, rfl, rfl, hm 999 (by decide), hm 1000 (by decide), ?_⟩
        generalize hI1 : (yc c.toInt64 n a.toInt64 (tk_21_8 I) N).2 = I1 at hm hS ⊢
        obtain ⟨T, hTB, hJ⟩ := TJ_0 (I1 := I1) hTn rd (hm 87 (by omega))
        have hV := VW_0 (I1 := I1) (n := n) hWn (hm 87 (by omega))
        have g0 : I1 87 0 = Int32.ofNat n := by rw [hm 87 (by omega)]; exact hTn.2.2.1
        simp (disch := decide) only [u172_0, u172_1, u172_2, u172_3, u172_6, u172_9, u172_12, u172_13, u172_14, u172_15, u172_18, u172_21, u172_24, u172_25, u172_26, u172_27, u172_30, u172_33, u172_36, u172_37, u172_39, u172_42, u172_43, u172_44, u172_45, u172_47, u172_48, c113n, c135 n hTn.1 g0, bi_0, h1, h2, h3, not_true, not_false_eq_true, if_true, if_false, la_86, kLt, true_and]
        refine yr_m (T := T) a c _ (fun i hi => (yj c.toInt64 a.toInt64 hJ i (by omega)).2.hm) (by omega) hV.1 hJ.2.2.1 hTn.1 hV.2.2.1 (VW_hs hV) hN ?_
        obtain ⟨-, hJ2⟩ := yj c.toInt64 a.toInt64 hJ N (by omega)
        refine fin_sc hR ((hS.tr (Sc_lh I1 n)).tr (ym_sc _ _ _ _ N)) (congrArg bc ?_)
        have hd := dn_tj hJ2 (n2 := n2) (by
          rw [yc_f _ _ _ _ (by decide) (by decide), yc_f _ _ _ _ (by decide) (by decide), ym_f _ _ _ _ (by decide) (by decide)]
          exact hV)
        rwa [hI1] at hd
      · simp (disch := decide) only [u93_0, u93_1, u93_2, u93_4, u93_7, u93_10, u93_11, u93_12, u93_14, u93_17, u93_20, u93_21, u93_22, u93_24, u93_27, u93_30, u93_31, u93_33, u93_36, c100, c103b, bi_0, h1, h2, h3, not_true, not_false_eq_true, if_true, if_false, la_0, kLt, true_and]
        refine ⟨_, _, _, rfl, rfl, up_o _ _ (by decide), up_o _ _ (by decide), ?_⟩
        simp (disch := decide) only [u172_0, u172_1, u172_2, u172_3, u172_6, u172_9, u172_12, u172_13, u172_14, u172_15, u172_18, u172_21, u172_24, u172_25, u172_26, u172_27, u172_30, u172_33, u172_36, u172_37, u172_39, u172_42, c113n, c114, bi_0, h1, h2, h3, not_true, not_false_eq_true, if_true, if_false, la_86, kLt, true_and]
        exact fin_bad' hR
    · simp (disch := decide) only [u93_0, u93_1, u93_2, u93_4, u93_7, u93_10, u93_11, u93_12, u93_14, u93_17, u93_20, u93_21, u93_22, u93_24, u93_27, u93_30, u93_31, u93_33, u93_36, c100, c103b, bi_0, h1, h2, not_true, not_false_eq_true, if_true, if_false, la_0, kLt, true_and]
      refine ⟨_, _, _, rfl, rfl, up_o _ _ (by decide), up_o _ _ (by decide), ?_⟩
      simp (disch := decide) only [u172_0, u172_1, u172_2, u172_3, u172_6, u172_9, u172_12, u172_13, u172_14, u172_15, u172_18, u172_21, u172_24, u172_25, u172_26, u172_27, u172_30, u172_33, u172_36, u172_37, u172_39, u172_42, c113n, c114, bi_0, h1, h2, not_true, not_false_eq_true, if_true, if_false, la_86, kLt, true_and]
      exact fin_bad' hR
  · simp (disch := decide) only [u93_0, u93_1, u93_2, u93_4, u93_7, u93_10, u93_11, u93_12, u93_14, u93_17, u93_20, u93_21, u93_22, u93_24, u93_27, u93_30, u93_31, u93_33, u93_36, c100, c103b, bi_0, h1, not_true, not_false_eq_true, if_true, if_false, la_0, kLt, true_and]
    refine ⟨_, _, _, rfl, rfl, up_o _ _ (by decide), up_o _ _ (by decide), ?_⟩
    simp (disch := decide) only [u172_0, u172_1, u172_2, u172_3, u172_6, u172_9, u172_12, u172_13, u172_14, u172_15, u172_18, u172_21, u172_24, u172_25, u172_26, u172_27, u172_30, u172_33, u172_36, u172_37, u172_39, u172_42, c113n, c114, bi_0, h1, not_true, not_false_eq_true, if_true, if_false, la_86, kLt, true_and]
    exact fin_bad' hR
