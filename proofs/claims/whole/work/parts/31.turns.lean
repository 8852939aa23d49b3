/-! TURNS: of the reference's hand, of many in both -/
theorem ud_u (f : Nat → Int32) (k : Nat) (x y : Int32) : upd (upd f k x) k y = upd f k y := by
  funext j
  by_cases h : j = k
  · subst h; rw [ud_s, ud_s]
  · rw [ud_o _ _ h, ud_o _ _ h, ud_o _ _ h]
theorem ud_i (f : Nat → Int32) (k : Nat) : upd f k (f k) = f := by
  funext j
  by_cases h : j = k
  · subst h; rw [ud_s]
  · rw [ud_o _ _ h]
theorem ud_c (f : Nat → Int32) (x y : Int32) {j k : Nat} (h : ¬ j = k) : upd (upd f j x) k y = upd (upd f k y) j x := by
  funext i
  by_cases h1 : i = j
  · subst h1; rw [ud_s, ud_o _ _ h, ud_s]
  · by_cases h2 : i = k
    · subst h2; rw [ud_s, ud_o _ _ h1, ud_s]
    · rw [ud_o _ _ h2, ud_o _ _ h1, ud_o _ _ h1, ud_o _ _ h2]
/-- the weeks behind M turns -/
def gs (wh : Nat → Bool) (kd sg sn : Nat → Int32) (pg : Int32) (n : Nat) (t : Int32) (W : Nat → Int32) (M : Nat) : Nat → Int32 := Nat.rec W (fun k W1 => gt wh kd sg sn pg (t + Int32.ofNat k) W1 n) M
theorem gs_s (wh : Nat → Bool) (kd sg sn : Nat → Int32) (pg : Int32) (n : Nat) (t : Int32) (W : Nat → Int32) (M : Nat) : gs wh kd sg sn pg n t W (M + 1) = gt wh kd sg sn pg (t + Int32.ofNat M) (gs wh kd sg sn pg n t W M) n := rfl
abbrev gsV (I : Nat → Nat → Int32) (v : Nat) (who : Int32) (n M : Nat) : Nat → Int32 := gs (fun j => decide (¬ who &&& (1 <<< (Int32.ofNat j &&& 31)) = 0)) (fun j => I (v + 4) (j * 3)) (fun j => I (v + 4) (j * 3 + 1)) (fun j => I (v + 4) (j * 3 + 2)) (I (v + 1) 1) n (I (v + 1) 2) (I (v + 2)) M
abbrev psI (I : Nat → Nat → Int32) (v : Nat) (who : Int32) (n M : Nat) : Nat → Nat → Int32 := va_up (va_up I (v + 2) (gsV I v who n M)) (v + 1) (upd (I (v + 1)) 2 (I (v + 1) 2 + Int32.ofNat M))
theorem ps_0 (I : Nat → Nat → Int32) (v : Nat) (who : Int32) (n : Nat) : psI I v who n 0 = I := by
  show va_up (va_up I (v + 2) (I (v + 2))) (v + 1) (upd (I (v + 1)) 2 (I (v + 1) 2 + 0)) = I
  rw [up_i, Int32.add_zero, ud_i, up_i]
theorem ps_s (I : Nat → Nat → Int32) (v : Nat) (who : Int32) (n M : Nat) : paI (psI I v who n M) v who n = psI I v who n (M + 1) := by
  simp (disch := omega) only [paI, psI, gtV, gsV, up_o, up_s, ud_s, ud_o, gs_s, ud_u]
  rw [up_c _ _ _ (show ¬ v + 1 = v + 2 by omega), up_u, up_u, Int32.add_assoc, show Int32.ofNat M + 1 = Int32.ofNat (M + 1) from o_aa]
theorem Tm_ps {I : Nat → Nat → Int32} {v n : Nat} (h : Tm I v n) (who : Int32) (M : Nat) : Tm (psI I v who n M) v n := by
  unfold Tm psI at *
  simp (disch := omega) only [up_o]
  exact h
section TURNS
variable {m pc : Nat} {ls st : Vs} {σ : Sto} {I : Nat → Nat → Int32} {J : Nat → Nat → Int64} {Q : Option Value → Sto → Prop}
theorem c47 (v : Nat) (hv : isV v) (who : Int32) (n M : Nat) (hT : Tm I v n) (hM : M < 1000) : Ca 47 [.ref v, .int who, .int (Int32.ofNat M), .null] (Sg I J) m pc ls st Q ↔ Rn m pc ls st (Sg (psI I v who n M) J) Q := Ca_of (r := none) (fun Q h => by
  obtain ⟨f1, f2, -⟩ := isV_f hv
  simp only [u47_0, u47_1]
  refine Rn_fr (n := M) (X := Unit) (fun k _ => [.ref v, .int who, .int (Int32.ofNat M), .int (Int32.ofNat k)]) (fun k _ => Sg (psI I v who n k) J) () rfl (by rw [ps_0]) ?_ ?_
  · intro k hk x ih
    have hnk : ¬ M ≤ k := by omega
    have ih := ih ()
    rw [← ps_s] at ih
    simp (disch := omega) only [u47_2, u47_3, u47_4, u47_7, u47_8, u47_9, u47_12, u47_18, f1, f2, true_and, o_aa, o_al, o_la, o_mm, o_ml, o_lm, o_ss, o_sl, o_ls, o_tn, o_tl, o_lt, o_ltl, o_llt, o_le, o_lel, o_lle, o_eq, o_eql, o_leq, o_inb, o_inl, o_neg, hnk, if_false, c46 v hv who n (Tm_ps hT who k)]
    exact (u47_15 ..).mpr ih
  · intro x
    simp (disch := omega) only [u47_2, u47_3, u47_4, u47_7, u47_8, u47_9, u47_12, u47_18, o_aa, o_al, o_la, o_mm, o_ml, o_lm, o_ss, o_sl, o_ls, o_tn, o_tl, o_lt, o_ltl, o_llt, o_le, o_lel, o_lle, o_eq, o_eql, o_leq, o_inb, o_inl, o_neg, Nat.le_refl, if_true]
    exact h)
theorem mv_c (W : Nat → Int32) {s o : Nat} (w : Int32) (h : ¬ o = s) : upd (upd W s (W s + mn w (mn (W o) (99 - W s)))) o (W o - mn w (mn (W o) (99 - W s))) = mvW W s o w := by
  unfold mvW
  rw [ud_c _ _ _ (fun q => h q.symm)]
/-- the reference's hand -/
abbrev Hm (I : Nat → Nat → Int32) (n T : Nat) : Prop := n ≤ 6 ∧ I 87 0 = Int32.ofNat n ∧ (∀ k, k < n → (∃ c, c < 6 ∧ I 92 k = Int32.ofNat c) ∧ (∃ s, s < 8 ∧ I 93 k = Int32.ofNat s) ∧ (∃ S, S ≤ 9 ∧ I 87 (14 + 3 * k + 1) = Int32.ofNat S)) ∧ I 86 8 = Int32.ofNat T
abbrev gtM (I : Nat → Nat → Int32) (who : Int32) (k : Nat) : Nat → Int32 := gt (fun j => decide ((who >>> (Int32.ofNat j &&& 31)) &&& 1 = 1)) (I 92) (fun j => I 87 (14 + 3 * j + 1)) (I 93) (I 86 7) (I 86 8) (I 91) k
abbrev gmI (I : Nat → Nat → Int32) (who : Int32) (n : Nat) : Nat → Nat → Int32 := va_up (va_up I 91 (gtM I who n)) 86 (upd (I 86) 8 (I 86 8 + 1))
theorem c139 (who : Int32) (n T : Nat) (hH : Hm I n T) (hT : T < 2000000000) : Ca 139 [.ref 86, .int who, .null, .null, .null, .null] (Sg I J) m pc ls st Q ↔ Rn m pc ls st (Sg (gmI I who n) J) Q := Ca_of (r := none) (fun Q h => by
  obtain ⟨hn, hT1, hT2, et⟩ := hH
  simp only [u139_0, u139_1]
  refine Rn_fr (n := n) (X := Value × Value × Value) (fun k x => [.ref 86, .int who, .int (Int32.ofNat k), x.1, x.2.1, x.2.2]) (fun k x => Sg (va_up I 91 (gtM I who k)) J) (.null, .null, .null) rfl (Sg_i I J 91) ?_ ?_
  · intro k hk x ih
    obtain ⟨⟨c, hc, ec⟩, ⟨s, hs, es⟩, ⟨S, hS, eS⟩⟩ := hT2 k hk
    have hnk : ¬ n ≤ k := by omega
    have et1 : (va_up I 91 (gtM I who k)) 86 8 = Int32.ofNat T := by rw [up_o _ _ (by omega)]; exact et
    simp only [gtM, gt_s, es, ec, eS] at ih
    simp (disch := first | assumption | omega | decide | exact la_87 | exact la_88 | exact la_90 | exact la_91 | exact la_92 | exact la_93 | exact la_94 | exact la_95 | exact la_96 | exact la_97 | exact la_98 | exact la_99 | exact la_10 | exact la_23 | exact la_77 | exact la_78) only [u139_2, u139_3, u139_4, u139_7, u139_10, u139_11, u139_14, u139_15, u139_16, u139_17, u139_18, u139_19, u139_22, u139_24, u139_25, u139_26, u139_27, u139_28, u139_29, u139_30, u139_33, u139_35, u139_36, u139_115, c119, c136, la_86, lr_86_0, lr_86_10, la_93, lt_93, kLt, true_and, up_o, hT1, o_aa, o_al, o_la, o_mm, o_ml, o_lm, o_ss, o_sl, o_ls, o_tn, o_tl, o_lt, o_ltl, o_llt, o_le, o_lel, o_lle, o_eq, o_eql, o_leq, o_inb, o_inl, o_neg, hk, hnk, if_true, if_false, es, show k < 6 by omega]
    by_cases hw : (who >>> (Int32.ofNat k &&& 31)) &&& 1 = 1
    · by_cases hq : src (I 86 7) (I 86 8) (Int32.ofNat s) = -1
      · simp only [hw, hq, not_false_eq_true, not_true, and_false, if_true, if_false] at ih ⊢
        exact (u139_118 ..).mpr (ih (_, _, _))
      · obtain ⟨o, ho, eo, hos⟩ := src_ok _ _ hs hq
        have hno : ¬ Int32.ofNat o = -1 := by rw [← eo]; exact hq
        simp (disch := first | assumption | omega | decide | exact la_87 | exact la_88 | exact la_90 | exact la_91 | exact la_92 | exact la_93 | exact la_94 | exact la_95 | exact la_96 | exact la_97 | exact la_98 | exact la_99 | exact la_10 | exact la_23 | exact la_77 | exact la_78) only [hw, hno, eo, not_false_eq_true, not_true, and_true, true_and, decide_true, if_true, if_false, o_aa, o_al, o_la, o_mm, o_ml, o_lm, o_ss, o_sl, o_ls, o_tn, o_tl, o_lt, o_ltl, o_llt, o_le, o_lel, o_lle, o_eq, o_eql, o_leq, o_inb, o_inl, o_neg] at ih ⊢
        simp (disch := first | assumption | omega | decide | exact la_87 | exact la_88 | exact la_90 | exact la_91 | exact la_92 | exact la_93 | exact la_94 | exact la_95 | exact la_96 | exact la_97 | exact la_98 | exact la_99 | exact la_10 | exact la_23 | exact la_77 | exact la_78) only [u139_39, u139_40, u139_41, u139_44, u139_45, u139_46, u139_47, u139_48, u139_49, u139_52, u139_53, u139_56, u139_57, u139_58, u139_59, u139_62, u139_64, u139_65, u139_68, u139_69, u139_72, u139_74, u139_75, u139_77, u139_78, u139_81, u139_82, u139_83, u139_84, u139_87, u139_90, u139_92, u139_93, u139_96, u139_97, u139_98, u139_99, u139_101, u139_102, u139_103, u139_104, u139_107, u139_109, u139_110, u139_111, u139_113, u139_114, u139_115, u139_121, u139_122, u139_123, u139_126, u139_127, u139_128, u139_131, c123, c138, c137 c S T hc hS (by omega) et1, la_86, lr_86_0, lr_86_10, lr_86_9, lr_86_6, la_92, lt_92, la_91, lt_91, kLt, true_and, up_o, up_s, up_u, wI_d, ud_o, o_aa, o_al, o_la, o_mm, o_ml, o_lm, o_ss, o_sl, o_ls, o_tn, o_tl, o_lt, o_ltl, o_llt, o_le, o_lel, o_lle, o_eq, o_eql, o_leq, o_inb, o_inl, o_neg, es, ec, eS, ho, hs, show k < 6 by omega, show 14 + 3 * k + 1 < 142 by omega]
        rw [mv_c _ _ hos]
        exact (u139_118 ..).mpr (ih (_, _, _))
    · simp only [hw, not_true, not_false_eq_true, if_true, if_false, decide_false, Bool.false_eq_true, false_and] at ih ⊢
      exact (u139_118 ..).mpr (ih (_, _, _))
  · intro x
    simp (disch := first | assumption | omega | decide | exact la_87 | exact la_88 | exact la_90 | exact la_91 | exact la_92 | exact la_93 | exact la_94 | exact la_95 | exact la_96 | exact la_97 | exact la_98 | exact la_99 | exact la_10 | exact la_23 | exact la_77 | exact la_78) only [u139_2, u139_3, u139_4, u139_7, u139_10, u139_11, u139_14, u139_15, u139_16, u139_17, u139_18, u139_19, u139_22, u139_24, u139_25, u139_26, u139_27, u139_28, u139_29, u139_30, u139_33, u139_35, u139_36, u139_39, u139_40, u139_41, u139_44, u139_45, u139_46, u139_47, u139_48, u139_49, u139_52, u139_53, u139_56, u139_57, u139_58, u139_59, u139_62, u139_64, u139_65, u139_68, u139_69, u139_72, u139_74, u139_75, u139_77, u139_78, u139_81, u139_82, u139_83, u139_84, u139_87, u139_90, u139_92, u139_93, u139_96, u139_97, u139_98, u139_99, u139_101, u139_102, u139_103, u139_104, u139_107, u139_109, u139_110, u139_111, u139_113, u139_114, u139_115, u139_121, u139_122, u139_123, u139_126, u139_127, u139_128, u139_131, c119, la_86, kLt, true_and, up_o, hT1, o_aa, o_al, o_la, o_mm, o_ml, o_lm, o_ss, o_sl, o_ls, o_tn, o_tl, o_lt, o_ltl, o_llt, o_le, o_lel, o_lle, o_eq, o_eql, o_leq, o_inb, o_inl, o_neg, Nat.lt_irrefl, Nat.le_refl, if_true, wI_d, up_s]
    exact h)
abbrev gsM (I : Nat → Nat → Int32) (who : Int32) (n M : Nat) : Nat → Int32 := gs (fun j => decide ((who >>> (Int32.ofNat j &&& 31)) &&& 1 = 1)) (I 92) (fun j => I 87 (14 + 3 * j + 1)) (I 93) (I 86 7) n (I 86 8) (I 91) M
abbrev pmI (I : Nat → Nat → Int32) (who : Int32) (n M : Nat) : Nat → Nat → Int32 := va_up (va_up I 91 (gsM I who n M)) 86 (upd (I 86) 8 (I 86 8 + Int32.ofNat M))
theorem pm_0 (I : Nat → Nat → Int32) (who : Int32) (n : Nat) : pmI I who n 0 = I := by
  show va_up (va_up I 91 (I 91)) 86 (upd (I 86) 8 (I 86 8 + 0)) = I
  rw [up_i, Int32.add_zero, ud_i, up_i]
theorem pm_s (I : Nat → Nat → Int32) (who : Int32) (n M : Nat) : gmI (pmI I who n M) who n = pmI I who n (M + 1) := by
  simp (disch := omega) only [gmI, pmI, gtM, gsM, up_o, up_s, ud_s, ud_o, gs_s, ud_u]
  rw [up_c _ _ _ (show ¬ 86 = 91 by omega), up_u, up_u, Int32.add_assoc, show Int32.ofNat M + 1 = Int32.ofNat (M + 1) from o_aa]
theorem Hm_pm {n T : Nat} (h : Hm I n T) (who : Int32) (M : Nat) : Hm (pmI I who n M) n (T + M) := by
  unfold Hm pmI at *
  simp (disch := omega) only [up_o, up_s, ud_s, h.2.2.2, o_aa]
  exact ⟨h.1, h.2.1, h.2.2.1, trivial⟩
theorem c141 (who : Int32) (n T M : Nat) (hH : Hm I n T) (hT : T < 1000000000) (hM : M < 1000) : Ca 141 [.ref 86, .int (Int32.ofNat M), .int who, .null] (Sg I J) m pc ls st Q ↔ Rn m pc ls st (Sg (pmI I who n M) J) Q := Ca_of (r := none) (fun Q h => by
  simp only [u141_0, u141_1]
  refine Rn_fr (n := M) (X := Unit) (fun k _ => [.ref 86, .int (Int32.ofNat M), .int who, .int (Int32.ofNat k)]) (fun k _ => Sg (pmI I who n k) J) () rfl (by rw [pm_0]) ?_ ?_
  · intro k hk x ih
    have hnk : ¬ M ≤ k := by omega
    have ih := ih ()
    rw [← pm_s] at ih
    simp (disch := omega) only [u141_2, u141_3, u141_4, u141_7, u141_8, u141_9, u141_12, u141_18, la_86, kLt, true_and, o_aa, o_al, o_la, o_mm, o_ml, o_lm, o_ss, o_sl, o_ls, o_tn, o_tl, o_lt, o_ltl, o_llt, o_le, o_lel, o_lle, o_eq, o_eql, o_leq, o_inb, o_inl, o_neg, hnk, if_false, c139 who n (T + k) (Hm_pm hH who k) (by omega)]
    exact (u141_15 ..).mpr ih
  · intro x
    simp (disch := omega) only [u141_2, u141_3, u141_4, u141_7, u141_8, u141_9, u141_12, u141_18, o_aa, o_al, o_la, o_mm, o_ml, o_lm, o_ss, o_sl, o_ls, o_tn, o_tl, o_lt, o_ltl, o_llt, o_le, o_lel, o_lle, o_eq, o_eql, o_leq, o_inb, o_inl, o_neg, Nat.le_refl, if_true]
    exact h)
end TURNS
