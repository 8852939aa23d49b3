/-! THE HAND: laid, and joined with the trial -/
def cpf (f g : Nat → Int32) (k : Nat) : Nat → Int32 := fun j => if j < k then g j else f j
theorem cpf_0 (f g : Nat → Int32) : cpf f g 0 = f := by
  funext j
  unfold cpf
  rw [if_neg (by omega)]
theorem cpf_s (f g : Nat → Int32) (k : Nat) : upd (cpf f g k) k (g k) = cpf f g (k + 1) := by
  funext j
  show (if j = k then g k else if j < k then g j else f j) = if j < k + 1 then g j else f j
  by_cases h : j = k
  · subst h
    rw [if_pos rfl, if_pos (by omega)]
  · rw [if_neg h]
    by_cases h2 : j < k
    · rw [if_pos h2, if_pos (by omega)]
    · rw [if_neg h2, if_neg (by omega)]
theorem cpf_i (f g : Nat → Int32) {j k : Nat} (h : j < k) : cpf f g k j = g j := if_pos h
abbrev lhI (I : Nat → Nat → Int32) (n : Nat) : Nat → Nat → Int32 := va_up (va_up (va_up (va_up I 91 (cpf (I 91) (fun j => I 87 (5 + j)) 8)) 86 (upd (upd (I 86) 7 (I 87 13)) 8 (I 87 2))) 92 (cpf (I 92) (fun j => I 87 (14 + 3 * j)) n)) 93 (cpf (I 93) (fun j => I 87 (14 + 3 * j + 2)) n)
section LAYH
variable {m pc : Nat} {ls st : Vs} {I : Nat → Nat → Int32} {J : Nat → Nat → Int64} {Q : Option Value → Sto → Prop}
theorem c135 (n : Nat) (hn : n ≤ 6) (en : I 87 0 = Int32.ofNat n) : Ca 135 [.ref 86, .null] (Sg I J) m pc ls st Q ↔ Rn m pc ls st (Sg (lhI I n) J) Q := Ca_of (r := none) (fun Q h => by
  simp only [u135_0, u135_1]
  refine Rn_fr (n := 8) (X := Unit) (fun k _ => [.ref 86, .int (Int32.ofNat k)]) (fun k _ => Sg (va_up I 91 (cpf (I 91) (fun j => I 87 (5 + j)) k)) J) () rfl (by rw [cpf_0, up_i]) ?_ ?_
  · intro k hk _ ih
    have ih := ih ()
    rw [← cpf_s] at ih
    have hnk : ¬ 8 ≤ k := by omega
    simp (disch := first | assumption | omega | decide | exact la_87 | exact la_88 | exact la_90 | exact la_91 | exact la_92 | exact la_93 | exact la_94 | exact la_95 | exact la_96 | exact la_97 | exact la_98 | exact la_99 | exact la_10 | exact la_23 | exact la_77 | exact la_78 | exact la_18 | exact la_19 | exact la_20) only [u135_2, u135_3, u135_5, u135_8, u135_9, u135_12, u135_13, u135_14, u135_17, u135_18, u135_19, u135_20, u135_21, u135_22, la_86, la_87, la_91, lt_87, lt_91, lr_86_0, lr_86_6, kLt, true_and, o_aa, o_al, o_la, o_mm, o_ml, o_lm, o_ss, o_sl, o_ls, o_tn, o_tl, o_lt, o_ltl, o_llt, o_le, o_lel, o_lle, o_eq, o_eql, o_leq, o_inb, o_inl, o_neg, hnk, hk, if_false, up_s, up_o, up_u, wI_d, show 5 + k < 142 by omega]
    exact (u135_25 ..).mpr ih
  · intro _
    simp (disch := first | assumption | omega | decide | exact la_87 | exact la_88 | exact la_90 | exact la_91 | exact la_92 | exact la_93 | exact la_94 | exact la_95 | exact la_96 | exact la_97 | exact la_98 | exact la_99 | exact la_10 | exact la_23 | exact la_77 | exact la_78 | exact la_18 | exact la_19 | exact la_20) only [u135_2, u135_3, u135_5, u135_8, u135_9, u135_12, u135_13, u135_14, u135_17, u135_18, u135_19, u135_20, u135_21, u135_22, u135_28, u135_29, u135_30, u135_33, u135_35, u135_36, u135_39, u135_40, u135_41, u135_44, u135_45, u135_46, u135_49, u135_50, la_86, la_87, lt_87, lr_86_0, kLt, true_and, o_aa, o_al, o_la, o_mm, o_ml, o_lm, o_ss, o_sl, o_ls, o_tn, o_tl, o_lt, o_ltl, o_llt, o_le, o_lel, o_lle, o_eq, o_eql, o_leq, o_inb, o_inl, o_neg, Nat.le_refl, if_true, up_s, up_o, up_u, wI_d, Nat.reduceLT]
    refine Rn_fr (n := n) (X := Unit) (fun k _ => [.ref 86, .int (Int32.ofNat k)]) (fun k _ => Sg (va_up (va_up (va_up (va_up I 91 (cpf (I 91) (fun j => I 87 (5 + j)) 8)) 86 (upd (upd (I 86) 7 (I 87 13)) 8 (I 87 2))) 92 (cpf (I 92) (fun j => I 87 (14 + 3 * j)) k)) 93 (cpf (I 93) (fun j => I 87 (14 + 3 * j + 2)) k)) J) () rfl ?_ ?_ ?_
    · rw [cpf_0, cpf_0]
      congr 1
      funext a
      by_cases h3 : a = 93
      · subst h3; rw [up_s, up_o _ _ (by decide), up_o _ _ (by decide)]
      · rw [up_o _ _ h3]
        by_cases h2 : a = 92
        · subst h2; rw [up_s, up_o _ _ (by decide), up_o _ _ (by decide)]
        · rw [up_o _ _ h2]
    · intro k hk _ ih
      have ih := ih ()
      have e1 : upd (cpf (I 92) (fun j => I 87 (14 + 3 * j)) k) k (I 87 (14 + 3 * k)) = cpf (I 92) (fun j => I 87 (14 + 3 * j)) (k + 1) := cpf_s _ _ _
      have e2 : upd (cpf (I 93) (fun j => I 87 (14 + 3 * j + 2)) k) k (I 87 (14 + 3 * k + 2)) = cpf (I 93) (fun j => I 87 (14 + 3 * j + 2)) (k + 1) := cpf_s _ _ _
      have hnk : ¬ n ≤ k := by omega
      simp (disch := first | assumption | omega | decide | exact la_87 | exact la_88 | exact la_90 | exact la_91 | exact la_92 | exact la_93 | exact la_94 | exact la_95 | exact la_96 | exact la_97 | exact la_98 | exact la_99 | exact la_10 | exact la_23 | exact la_77 | exact la_78 | exact la_18 | exact la_19 | exact la_20) only [u135_51, u135_52, u135_53, u135_56, u135_59, u135_60, u135_63, u135_64, u135_65, u135_66, u135_67, u135_70, u135_71, u135_72, u135_75, u135_76, u135_77, u135_78, u135_79, u135_82, u135_83, c119, c123, la_86, la_92, la_93, lt_92, lt_93, lr_86_9, lr_86_10, kLt, true_and, o_aa, o_al, o_la, o_mm, o_ml, o_lm, o_ss, o_sl, o_ls, o_tn, o_tl, o_lt, o_ltl, o_llt, o_le, o_lel, o_lle, o_eq, o_eql, o_leq, o_inb, o_inl, o_neg, Nat.add_zero, en, hnk, if_false, up_s, up_o, up_u, wI_d, show k < 6 by omega, show 14 + 3 * k < 142 by omega, show 14 + 3 * k + 2 < 142 by omega]
      rw [up_c _ _ _ (show ¬ 93 = 92 by omega), up_u, up_u, e1, e2]
      exact (u135_86 ..).mpr ih
    · intro _
      simp (disch := first | assumption | omega | decide | exact la_87 | exact la_88 | exact la_90 | exact la_91 | exact la_92 | exact la_93 | exact la_94 | exact la_95 | exact la_96 | exact la_97 | exact la_98 | exact la_99 | exact la_10 | exact la_23 | exact la_77 | exact la_78 | exact la_18 | exact la_19 | exact la_20) only [u135_51, u135_52, u135_53, u135_56, u135_59, u135_60, u135_63, u135_64, u135_65, u135_66, u135_67, u135_70, u135_71, u135_72, u135_75, u135_76, u135_77, u135_78, u135_79, u135_82, u135_83, u135_89, c119, la_86, kLt, true_and, o_aa, o_al, o_la, o_mm, o_ml, o_lm, o_ss, o_sl, o_ls, o_tn, o_tl, o_lt, o_ltl, o_llt, o_le, o_lel, o_lle, o_eq, o_eql, o_leq, o_inb, o_inl, o_neg, en, Nat.le_refl, if_true, up_o]
      exact h)
end LAYH
theorem mv_eq {W V : Nat → Int32} {s o : Nat} {w w' : Int32} (h : ∀ j, j < 8 → W j = V j) (hs : s < 8) (ho : o < 8) (hw : w = w') : ∀ j, j < 8 → mvW W s o w j = mvW V s o w' j := by
  intro j hj
  subst hw
  unfold mvW
  rw [h s hs, h o ho]
  by_cases h1 : j = s
  · subst h1; rw [ud_s, ud_s]
  · rw [ud_o _ _ h1, ud_o _ _ h1]
    by_cases h2 : j = o
    · subst h2; rw [ud_s, ud_s]
    · rw [ud_o _ _ h2, ud_o _ _ h2]; exact h j hj
theorem gt_eq {wh wh' : Nat → Bool} {kd sg sn kd' sg' sn' : Nat → Int32} {pg t : Int32} {n : Nat} (hp : ∀ k, k < n → wh k = wh' k ∧ kd k = kd' k ∧ sg k = sg' k ∧ sn k = sn' k ∧ ∃ s, s < 8 ∧ sn' k = Int32.ofNat s) {W V : Nat → Int32} (h : ∀ j, j < 8 → W j = V j) : ∀ k, k ≤ n → ∀ j, j < 8 → gt wh kd sg sn pg t W k j = gt wh' kd' sg' sn' pg t V k j := by
  intro k
  induction k with
  | zero => intro _; exact h
  | succ k ih =>
    intro hk j hj
    obtain ⟨e1, e2, e3, e4, s, hs, es⟩ := hp k (by omega)
    rw [gt_s, gt_s, e1, e2, e3, e4, es]
    by_cases hc : wh' k = true ∧ ¬ src pg t (Int32.ofNat s) = -1
    · rw [if_pos hc, if_pos hc]
      obtain ⟨o, ho, eo, hos⟩ := src_ok _ _ hs hc.2
      rw [eo, o_tn (by omega), o_tn (by omega)]
      have ih2 := ih (by omega)
      exact mv_eq ih2 hs ho (by rw [ih2 s hs, ih2 o ho]) j hj
    · rw [if_neg hc, if_neg hc]
      exact ih (by omega) j hj
theorem gs_eq {wh wh' : Nat → Bool} {kd sg sn kd' sg' sn' : Nat → Int32} {pg t : Int32} {n : Nat} (hp : ∀ k, k < n → wh k = wh' k ∧ kd k = kd' k ∧ sg k = sg' k ∧ sn k = sn' k ∧ ∃ s, s < 8 ∧ sn' k = Int32.ofNat s) {W V : Nat → Int32} (h : ∀ j, j < 8 → W j = V j) : ∀ M j, j < 8 → gs wh kd sg sn pg n t W M j = gs wh' kd' sg' sn' pg n t V M j := by
  intro M
  induction M with
  | zero => exact h
  | succ M ih =>
    intro j hj
    rw [gs_s, gs_s]
    exact gt_eq hp ih n (Nat.le_refl n) j hj
theorem bit_w : ∀ w, w < 64 → ∀ k, k < 6 → decide (¬ Int32.ofNat w &&& (1 <<< (Int32.ofNat k &&& 31)) = 0) = decide ((Int32.ofNat w >>> (Int32.ofNat k &&& 31)) &&& 1 = 1) := by decide +kernel
theorem bit_a : ∀ n, n ≤ 6 → ∀ k, k < n → decide (¬ (-1 : Int32) &&& (1 <<< (Int32.ofNat k &&& 31)) = 0) = decide (((1 <<< (Int32.ofNat n &&& 31) - 1 : Int32) >>> (Int32.ofNat k &&& 31)) &&& 1 = 1) := by
  have : ∀ n, n < 7 → ∀ k, k < n → decide (¬ (-1 : Int32) &&& (1 <<< (Int32.ofNat k &&& 31)) = 0) = decide (((1 <<< (Int32.ofNat n &&& 31) - 1 : Int32) >>> (Int32.ofNat k &&& 31)) &&& 1 = 1) := by decide +kernel
  exact fun n hn k hk => this n (by omega) k hk
/-- what a valley's teams are, with their number -/
abbrev VTn (R C M : Nat → Int32) (n : Nat) : Prop := n ≤ 6 ∧ R 1 = Int32.ofNat n ∧ M 0 = Int32.ofNat n ∧ ∀ k, k < n → (∃ c, c < 6 ∧ C (k * 3) = Int32.ofNat c ∧ M (14 + 3 * k) = Int32.ofNat c) ∧ (∃ S, 1 ≤ S ∧ S ≤ 9 ∧ C (k * 3 + 1) = Int32.ofNat S ∧ M (14 + 3 * k + 1) = Int32.ofNat S) ∧ (∃ s, s < 8 ∧ C (k * 3 + 2) = Int32.ofNat s ∧ M (14 + 3 * k + 2) = Int32.ofNat s)
theorem Tm_tk {I : Nat → Nat → Int32} {M : Nat → Int32} {n : Nat} (h : VTn (I 11) (I 12) M n) : Tm (tk_21_8 I) 21 n := by
  obtain ⟨hn, a1, a2, a3⟩ := h
  refine ⟨hn, ?_, fun k hk => ?_⟩
  · simp (disch := decide) only [tk_21_8, up_o, up_s, ud_s, Nat.reduceAdd]; exact a1
  · obtain ⟨⟨c, hc, c1, c2⟩, -, ⟨s, hs, s1, s2⟩⟩ := a3 k hk
    refine ⟨⟨c, hc, ?_⟩, ⟨s, hs, ?_⟩⟩
    · simp (disch := decide) only [tk_21_8, up_o, up_s, Nat.reduceAdd]
      rw [sb_cpy0 (by omega)]; exact c1
    · simp (disch := decide) only [tk_21_8, up_o, up_s, Nat.reduceAdd]
      rw [sb_cpy0 (by omega)]; exact s1
theorem Hm_lh {I I1 : Nat → Nat → Int32} {n T : Nat} (h : VTn (I 11) (I 12) (I 87) n) (hT : I 87 2 = Int32.ofNat T) (h1 : I1 87 = I 87) : Hm (lhI I1 n) n T := by
  obtain ⟨hn, a1, a2, a3⟩ := h
  refine ⟨hn, ?_, fun k hk => ?_, ?_⟩
  · simp (disch := decide) only [lhI, up_o]; rw [h1]; exact a2
  · obtain ⟨⟨c, hc, c1, c2⟩, ⟨S, hS, hS9, S1, S2⟩, ⟨s, hs, s1, s2⟩⟩ := a3 k hk
    refine ⟨⟨c, hc, ?_⟩, ⟨s, hs, ?_⟩, ⟨S, hS9, ?_⟩⟩
    · simp (disch := decide) only [lhI, up_o, up_s]; rw [cpf_i _ _ hk, h1]; exact c2
    · simp (disch := decide) only [lhI, up_o, up_s]; rw [cpf_i _ _ hk, h1]; exact s2
    · simp (disch := decide) only [lhI, up_o, up_s]; rw [h1]; exact S2
  · simp (disch := decide) only [lhI, up_o, up_s, ud_s]; rw [h1]; exact hT
/-- the trial and the hand go the same way -/
theorem jn {I I1 : Nat → Nat → Int32} {n B : Nat} (h : VTn (I 11) (I 12) (I 87) n) (hY : VY (I 9) (I 10) (I 87) B) (h1 : I1 87 = I 87) {wc wm : Nat → Bool} (hw : ∀ k, k < n → wc k = wm k) : ∀ M j, j < 8 → gs wc (fun j => tk_21_8 I (21 + 4) (j * 3)) (fun j => tk_21_8 I (21 + 4) (j * 3 + 1)) (fun j => tk_21_8 I (21 + 4) (j * 3 + 2)) (tk_21_8 I (21 + 1) 1) n (tk_21_8 I (21 + 1) 2) (tk_21_8 I (21 + 2)) M j = gs wm (lhI I1 n 92) (fun j => lhI I1 n 87 (14 + 3 * j + 1)) (lhI I1 n 93) (lhI I1 n 86 7) n (lhI I1 n 86 8) (lhI I1 n 91) M j := by
  obtain ⟨hn, a1, a2, a3⟩ := h
  obtain ⟨⟨T, hT, t1, t2⟩, p1, w1⟩ := hY
  have e1 : tk_21_8 I (21 + 1) 1 = lhI I1 n 86 7 := by
    simp (disch := decide) only [tk_21_8, lhI, up_o, up_s, ud_s, ud_o, Nat.reduceAdd]; rw [h1]; exact p1
  have e2 : tk_21_8 I (21 + 1) 2 = lhI I1 n 86 8 := by
    simp (disch := decide) only [tk_21_8, lhI, up_o, up_s, ud_s, ud_o, Nat.reduceAdd]; rw [h1, t1, t2]
  rw [e1, e2]
  refine gs_eq (fun k hk => ?_) (fun j hj => ?_)
  · obtain ⟨⟨c, hc, c1, c2⟩, ⟨S, hS, hS9, S1, S2⟩, ⟨s, hs, s1, s2⟩⟩ := a3 k hk
    refine ⟨hw k hk, ?_, ?_, ?_, s, hs, ?_⟩
    · simp (disch := decide) only [tk_21_8, lhI, up_o, up_s, Nat.reduceAdd]
      rw [cpf_i _ _ hk, h1, sb_cpy0 (by omega), c1, c2]
    · simp (disch := decide) only [tk_21_8, lhI, up_o, up_s, Nat.reduceAdd]
      rw [h1, sb_cpy0 (by omega), S1, S2]
    · simp (disch := decide) only [tk_21_8, lhI, up_o, up_s, Nat.reduceAdd]
      rw [cpf_i _ _ hk, h1, sb_cpy0 (by omega), s1, s2]
    · simp (disch := decide) only [lhI, up_s]
      rw [cpf_i _ _ hk, h1, s2]
  · obtain ⟨w, hw, q1, q2⟩ := w1 j hj
    simp (disch := decide) only [tk_21_8, lhI, up_o, up_s, Nat.reduceAdd]
    rw [cpf_i _ _ hj, h1, sb_cpy0 hj, q1, q2]
section AHEAD
variable {m pc : Nat} {ls st : Vs} {I : Nat → Nat → Int32} {J : Nat → Nat → Int64} {Q : Option Value → Sto → Prop}
theorem c105 {M' : Nat → Int32} (n M : Nat) (h : VTn (I 11) (I 12) M' n) (hM : M < 1000) : Ca 105 [.ref 0, .int (Int32.ofNat M)] (Sg I J) m pc ls st Q ↔ Rn m pc ls (.ref 21 :: st) (Sg (psI (tk_21_8 I) 21 (-1) n M) J) Q := Ca_of (r := some (.ref 21)) (fun Q hq => by
  simp (disch := decide) only [u105_0, u105_1, u105_4, u105_5, u105_8, u105_11, u105_12, u105_15, u105_16, u105_17, u105_20, u105_21, u105_24, c43_21_8, c47 21 lisV_21 (-1) n M (Tm_tk h) hM, la_0, la_21, lr_0_0, lr_0_1, kLt, true_and, Nat.reduceLT]
  exact hq)
theorem c146 (x : Int32) : Ca 146 [.ref 86, .int x] (Sg I J) m pc ls st Q ↔ Rn m pc ls (.int (bi (0 ≤ x ∧ x ≤ 60)) :: st) (Sg I J) Q := by
  unfold Ca
  simp (disch := first | assumption | omega | decide | exact la_87 | exact la_88 | exact la_90 | exact la_91 | exact la_92 | exact la_93 | exact la_94 | exact la_95 | exact la_96 | exact la_97 | exact la_98 | exact la_99 | exact la_10 | exact la_23 | exact la_77 | exact la_78 | exact la_18 | exact la_19 | exact la_20) only [u146_0, u146_1, u146_2, u146_3, u146_6, u146_9, c113n, bi_1, true_and]
  rfl
end AHEAD
theorem op13 (a b : Int32) : OpI 77 [.ref 0, .int a, .int b] 147 [.ref 86, .int a, .int b] := by
  intro I J B hR hB
  have hR0 := hR
  obtain ⟨⟨⟨n, hT⟩, rb, rc, rd, re⟩, -⟩ := hR0
  have hTn : VTn (I 11) (I 12) (I 87) n := hT
  obtain ⟨hn, a1, a2, a3⟩ := hT
  have rd0 := rd
  obtain ⟨⟨T, hTB, t1, t2⟩, -⟩ := rd0
  by_cases h1 : 0 ≤ a ∧ a ≤ 60
  · by_cases h2 : 0 ≤ b ∧ b ≤ 7
    · obtain ⟨M, hM, rfl⟩ := o_in (m := 60) h1.1 h1.2 (by omega)
      obtain ⟨s, hs, rfl⟩ := o_in (m := 7) h2.1 h2.2 (by omega)
      have hs8 : s < 8 := by omega
      simp (disch := first | assumption | omega | decide | exact la_87 | exact la_88 | exact la_90 | exact la_91 | exact la_92 | exact la_93 | exact la_94 | exact la_95 | exact la_96 | exact la_97 | exact la_98 | exact la_99 | exact la_10 | exact la_23 | exact la_77 | exact la_78 | exact la_18 | exact la_19 | exact la_20) only [u77_0, u77_1, u77_2, u77_4, u77_7, u77_10, u77_11, u77_14, u77_17, u77_18, u77_20, u77_23, u77_24, u77_25, u77_26, u77_29, u77_32, u77_35, u77_36, u77_37, c100, c101, c105 n M hTn (by omega), bi_0, h1, h2, not_true, not_false_eq_true, if_true, if_false, la_0, la_21, la_22, la_23, lt_23, lr_21_1, lr_22_0, kLt, true_and, o_aa, o_al, o_la, o_mm, o_ml, o_lm, o_ss, o_sl, o_ls, o_tn, o_tl, o_lt, o_ltl, o_llt, o_le, o_lel, o_lle, o_eq, o_eql, o_leq, o_inb, o_inl, o_neg, hs8]
      refine ⟨_, _, _, rfl, rfl, ?_, ?_, ?_⟩
      · simp (disch := decide) only [psI, tk_21_8, up_o, Nat.reduceAdd]
      · simp (disch := decide) only [psI, tk_21_8, up_o, Nat.reduceAdd]
      have hx : psI (tk_21_8 I) 21 (-1) n M 23 s = gsV (tk_21_8 I) 21 (-1) n M s := by
        simp (disch := decide) only [psI, up_o, up_s, Nat.reduceAdd]
      rw [hx]
      generalize hI1 : psI (tk_21_8 I) 21 (-1) n M = I1
      have hm : ∀ q, 86 ≤ q → I1 q = I q := by
        intro q hq
        rw [← hI1]
        simp (disch := omega) only [psI, tk_21_8, up_o]
      have g0 : I1 87 0 = Int32.ofNat n := by rw [hm 87 (by omega)]; exact a2
      have g1 : lhI I1 n 87 0 = Int32.ofNat n := by simp (disch := decide) only [lhI, up_o]; exact g0
      simp (disch := first | assumption | omega | decide | exact la_87 | exact la_88 | exact la_90 | exact la_91 | exact la_92 | exact la_93 | exact la_94 | exact la_95 | exact la_96 | exact la_97 | exact la_98 | exact la_99 | exact la_10 | exact la_23 | exact la_77 | exact la_78 | exact la_18 | exact la_19 | exact la_20) only [u147_0, u147_1, u147_2, u147_5, u147_8, u147_9, u147_12, u147_15, u147_16, u147_18, u147_21, u147_22, u147_23, u147_26, u147_27, u147_28, u147_29, u147_32, u147_35, u147_36, u147_39, u147_40, u147_41, c146, c122, c135 n hn g0, c140, g1, c141 (1 <<< (Int32.ofNat n &&& 31) - 1) n T M (Hm_lh hTn t2 (hm 87 (by omega))) (by omega) (by omega), bi_0, h1, h2, not_true, not_false_eq_true, if_true, if_false, la_86, la_91, lt_91, lr_86_6, kLt, true_and, o_aa, o_al, o_la, o_mm, o_ml, o_lm, o_ss, o_sl, o_ls, o_tn, o_tl, o_lt, o_ltl, o_llt, o_le, o_lel, o_lle, o_eq, o_eql, o_leq, o_inb, o_inl, o_neg, hs8]
      refine ⟨_, _, ?_, rfl, ?_, ?_, ?_⟩
      · have hj := jn hTn rd (hm 87 (by omega)) (fun k hk => bit_a n hn k hk) M s hs8
        have hy : pmI (lhI I1 n) (1 <<< (Int32.ofNat n &&& 31) - 1) n M 91 s = gsM (lhI I1 n) (1 <<< (Int32.ofNat n &&& 31) - 1) n M s := by
          simp (disch := decide) only [pmI, up_o, up_s]
        rw [hy]
        exact congrArg (fun z => some (Value.int z)) hj.symm
      · simp (disch := decide) only [pmI, lhI, up_o]; exact hm 999 (by omega)
      · simp (disch := decide) only [pmI, lhI, up_o]; exact hm 1000 (by omega)
      · refine Rel_le (Rel_scr hR (fun q g1 g2 g3 => ?_) ?_ ?_ ⟨rfl, rfl, rfl, rfl⟩) (by omega)
        · simp only [pmI, lhI]
          rw [up_o _ _ g3, scr_u (by decide) g1, scr_u (by decide) g1, scr_u (by decide) g1, up_o _ _ g3, scr_u (by decide) g1, ← hI1]
          simp only [psI, tk_21_8, Nat.reduceAdd]
          simp (disch := first | assumption | decide) only [scr_u]
        · simp (disch := decide) only [pmI, lhI, up_o]; rw [← hI1]; simp (disch := decide) only [psI, tk_21_8, up_o, Nat.reduceAdd]
        · simp (disch := decide) only [pmI, lhI, up_o, up_s, ud_o]; rw [hm 86 (by omega)]
    · simp (disch := decide) only [u77_0, u77_1, u77_2, u77_4, u77_7, u77_10, u77_11, u77_14, u77_17, u77_18, u77_20, u77_23, c100, c101, c103b, bi_0, h1, h2, not_true, not_false_eq_true, if_true, if_false, la_0, kLt, true_and]
      refine ⟨_, _, _, rfl, rfl, up_o _ _ (by decide), up_o _ _ (by decide), ?_⟩
      simp (disch := first | assumption | omega | decide | exact la_87 | exact la_88 | exact la_90 | exact la_91 | exact la_92 | exact la_93 | exact la_94 | exact la_95 | exact la_96 | exact la_97 | exact la_98 | exact la_99 | exact la_10 | exact la_23 | exact la_77 | exact la_78 | exact la_18 | exact la_19 | exact la_20) only [u147_0, u147_1, u147_2, u147_5, u147_8, u147_9, u147_12, u147_15, u147_16, u147_18, u147_21, c146, c122, c114, bi_0, h1, h2, not_true, not_false_eq_true, if_true, if_false, la_86, kLt, true_and]
      exact fin_bad' hR
  · simp (disch := decide) only [u77_0, u77_1, u77_2, u77_4, u77_7, u77_10, u77_11, u77_14, u77_17, u77_18, u77_20, u77_23, c100, c101, c103b, bi_0, h1, not_true, not_false_eq_true, if_true, if_false, la_0, kLt, true_and]
    refine ⟨_, _, _, rfl, rfl, up_o _ _ (by decide), up_o _ _ (by decide), ?_⟩
    simp (disch := first | assumption | omega | decide | exact la_87 | exact la_88 | exact la_90 | exact la_91 | exact la_92 | exact la_93 | exact la_94 | exact la_95 | exact la_96 | exact la_97 | exact la_98 | exact la_99 | exact la_10 | exact la_23 | exact la_77 | exact la_78 | exact la_18 | exact la_19 | exact la_20) only [u147_0, u147_1, u147_2, u147_5, u147_8, u147_9, u147_12, u147_15, u147_16, u147_18, u147_21, c146, c122, c114, bi_0, h1, not_true, not_false_eq_true, if_true, if_false, la_86, kLt, true_and]
    exact fin_bad' hR
