/-! THE PAST: what is kept of it, in both -/
theorem tm8 {T : Nat} (h : T < 2147483648) : Int32.ofNat T - Int32.ofNat T / 8 * 8 = Int32.ofNat (T % 8) := by
  rw [show (8 : Int32) = Int32.ofNat 8 from rfl, ← Int32.ofNat_div h (by omega), o_mm, o_ss (by omega)]
  congr 1
  omega
def shf (M : Nat → Int32) (k : Nat) : Nat → Int32 := fun j => if 62 ≤ j ∧ j < 62 + k then M (j + 10) else M j
def cp9 (M : Nat → Int32) (t k : Nat) : Nat → Int32 := fun j => if t ≤ j ∧ j < t + k then M (5 + (j - t)) else M j
theorem shf_0 (M : Nat → Int32) : shf M 0 = M := by
  funext j
  unfold shf
  rw [if_neg (by omega)]
theorem shf_s (M : Nat → Int32) (k : Nat) : upd (shf M k) (62 + k) (shf M k (72 + k)) = shf M (k + 1) := by
  funext j
  unfold shf upd
  rw [if_neg (show ¬ (62 ≤ 72 + k ∧ 72 + k < 62 + k) by omega)]
  by_cases h : j = 62 + k
  · rw [if_pos h, if_pos (by omega)]
    congr 1
    omega
  · rw [if_neg h]
    show (if 62 ≤ j ∧ j < 62 + k then M (j + 10) else M j) = _
    by_cases h2 : 62 ≤ j ∧ j < 62 + k
    · rw [if_pos h2, if_pos (by omega)]
    · rw [if_neg h2, if_neg (by omega)]
theorem cp9_0 (M : Nat → Int32) (t : Nat) : cp9 M t 0 = M := by
  funext j
  unfold cp9
  rw [if_neg (by omega)]
theorem cp9_s (M : Nat → Int32) {t k : Nat} (ht : 62 ≤ t) (hk : k < 9) : upd (cp9 M t k) (t + k) (cp9 M t k (5 + k)) = cp9 M t (k + 1) := by
  funext j
  unfold cp9 upd
  rw [if_neg (show ¬ (t ≤ 5 + k ∧ 5 + k < t + k) by omega)]
  by_cases h : j = t + k
  · rw [if_pos h, if_pos (by omega)]
    congr 1
    omega
  · rw [if_neg h]
    show (if t ≤ j ∧ j < t + k then M (5 + (j - t)) else M j) = _
    by_cases h2 : t ≤ j ∧ j < t + k
    · rw [if_pos h2, if_pos (by omega)]
    · rw [if_neg h2, if_neg (by omega)]
/-- the reference's array behind keep: the years kept below u1 -/
abbrev kp1 (M : Nat → Int32) (u1 : Nat) : Nat → Int32 := upd (upd (cp9 M (62 + 10 * u1) 9) (62 + 10 * u1 + 9) (M 2)) 4 (Int32.ofNat (u1 + 1))
abbrev kpM (M : Nat → Int32) (u : Nat) : Nat → Int32 := if u = 8 then kp1 (upd (shf M 70) 4 7) 7 else kp1 M u
section KEEP2
variable {m pc : Nat} {ls st : Vs} {I : Nat → Nat → Int32} {J : Nat → Nat → Int64} {Q : Option Value → Sto → Prop}
theorem k127 (u1 : Nat) (x : Value) (hu : u1 < 8) (eu : I 87 4 = Int32.ofNat u1) (h : Q none (Sg (va_up I 87 (kp1 (I 87) u1)) J)) : (hx : kl1 [.ref 86, x, .null] 1 x = [.ref 86, x, .null]) → Rn 127 51 [.ref 86, x, .null] [] (Sg I J) Q := by
  intro _
  simp (disch := first | assumption | omega | decide | exact la_87 | exact la_88 | exact la_90 | exact la_91 | exact la_92 | exact la_93 | exact la_94 | exact la_95 | exact la_96 | exact la_97 | exact la_98 | exact la_99 | exact la_10 | exact la_23 | exact la_77 | exact la_78) only [u127_51, u127_53, u127_55, u127_56, u127_59, u127_60, u127_61, u127_62, u127_63, u127_64, u127_65, la_86, la_87, lt_87, lr_86_0, kLt, true_and, eu, o_aa, o_al, o_la, o_mm, o_ml, o_lm, o_ss, o_sl, o_ls, o_tn, o_tl, o_lt, o_ltl, o_llt, o_le, o_lel, o_lle, o_eq, o_eql, o_leq, o_inb, o_inl, o_neg, Nat.reduceLT]
  refine Rn_fr (n := 9) (X := Unit) (fun k _ => [.ref 86, .int (Int32.ofNat (62 + 10 * u1)), .int (Int32.ofNat k)]) (fun k _ => Sg (va_up I 87 (cp9 (I 87) (62 + 10 * u1) k)) J) () rfl (by rw [cp9_0, up_i]) ?_ ?_
  · intro k hk _ ih
    have ih := ih ()
    rw [← cp9_s _ (by omega) hk] at ih
    have hnk : ¬ 9 ≤ k := by omega
    simp (disch := first | assumption | omega | decide | exact la_87 | exact la_88 | exact la_90 | exact la_91 | exact la_92 | exact la_93 | exact la_94 | exact la_95 | exact la_96 | exact la_97 | exact la_98 | exact la_99 | exact la_10 | exact la_23 | exact la_77 | exact la_78) only [u127_66, u127_67, u127_69, u127_72, u127_73, u127_76, u127_77, u127_78, u127_79, u127_80, u127_83, u127_84, u127_85, u127_86, u127_87, u127_88, la_86, la_87, lt_87, lr_86_0, kLt, true_and, o_aa, o_al, o_la, o_mm, o_ml, o_lm, o_ss, o_sl, o_ls, o_tn, o_tl, o_lt, o_ltl, o_llt, o_le, o_lel, o_lle, o_eq, o_eql, o_leq, o_inb, o_inl, o_neg, hnk, if_false, up_s, up_u, wI_d, show 5 + k < 142 by omega, show 62 + 10 * u1 + k < 142 by omega]
    exact (u127_91 ..).mpr ih
  · intro _
    have e2 : cp9 (I 87) (62 + 10 * u1) 9 2 = I 87 2 := by
      unfold cp9
      rw [if_neg (by omega)]
    have e4 : cp9 (I 87) (62 + 10 * u1) 9 4 = Int32.ofNat u1 := by
      unfold cp9
      rw [if_neg (by omega)]
      exact eu
    simp (disch := first | assumption | omega | decide | exact la_87 | exact la_88 | exact la_90 | exact la_91 | exact la_92 | exact la_93 | exact la_94 | exact la_95 | exact la_96 | exact la_97 | exact la_98 | exact la_99 | exact la_10 | exact la_23 | exact la_77 | exact la_78) only [u127_66, u127_67, u127_69, u127_72, u127_73, u127_76, u127_77, u127_78, u127_79, u127_80, u127_83, u127_84, u127_85, u127_86, u127_87, u127_88, u127_94, u127_95, u127_98, u127_99, u127_101, u127_102, u127_103, u127_106, u127_107, u127_108, u127_109, u127_110, u127_113, u127_114, u127_115, u127_116, u127_117, u127_118, u127_119, la_86, la_87, lt_87, lr_86_0, kLt, true_and, o_aa, o_al, o_la, o_mm, o_ml, o_lm, o_ss, o_sl, o_ls, o_tn, o_tl, o_lt, o_ltl, o_llt, o_le, o_lel, o_lle, o_eq, o_eql, o_leq, o_inb, o_inl, o_neg, Nat.le_refl, if_true, up_s, up_u, wI_d, ud_o, e2, e4, Nat.reduceLT, show 62 + 10 * u1 + 9 < 142 by omega]
    exact h
theorem c127 (u : Nat) (hu : u ≤ 8) (eu : I 87 4 = Int32.ofNat u) : Ca 127 [.ref 86, .null, .null] (Sg I J) m pc ls st Q ↔ Rn m pc ls st (Sg (va_up I 87 (kpM (I 87) u)) J) Q := Ca_of (r := none) (fun Q h => by
  by_cases h8 : u = 8
  · subst h8
    rw [show kpM (I 87) 8 = kp1 (upd (shf (I 87) 70) 4 7) 7 from if_pos rfl] at h
    simp (disch := first | assumption | omega | decide | exact la_87 | exact la_88 | exact la_90 | exact la_91 | exact la_92 | exact la_93 | exact la_94 | exact la_95 | exact la_96 | exact la_97 | exact la_98 | exact la_99 | exact la_10 | exact la_23 | exact la_77 | exact la_78) only [u127_0, u127_1, u127_4, u127_5, u127_6, u127_8, u127_11, u127_12, la_86, la_87, lt_87, lr_86_0, kLt, true_and, eu, o_aa, o_al, o_la, o_mm, o_ml, o_lm, o_ss, o_sl, o_ls, o_tn, o_tl, o_lt, o_ltl, o_llt, o_le, o_lel, o_lle, o_eq, o_eql, o_leq, o_inb, o_inl, o_neg, Nat.reduceLT, not_true, if_false]
    refine Rn_fr (n := 70) (X := Unit) (fun k _ => [.ref 86, .int (Int32.ofNat k), .null]) (fun k _ => Sg (va_up I 87 (shf (I 87) k)) J) () rfl (by rw [shf_0, up_i]) ?_ ?_
    · intro k hk _ ih
      have ih := ih ()
      rw [← shf_s] at ih
      have hnk : ¬ 70 ≤ k := by omega
      simp (disch := first | assumption | omega | decide | exact la_87 | exact la_88 | exact la_90 | exact la_91 | exact la_92 | exact la_93 | exact la_94 | exact la_95 | exact la_96 | exact la_97 | exact la_98 | exact la_99 | exact la_10 | exact la_23 | exact la_77 | exact la_78) only [u127_13, u127_14, u127_16, u127_19, u127_20, u127_23, u127_25, u127_26, u127_27, u127_28, u127_31, u127_33, u127_34, u127_35, u127_36, u127_37, la_86, la_87, lt_87, lr_86_0, kLt, true_and, o_aa, o_al, o_la, o_mm, o_ml, o_lm, o_ss, o_sl, o_ls, o_tn, o_tl, o_lt, o_ltl, o_llt, o_le, o_lel, o_lle, o_eq, o_eql, o_leq, o_inb, o_inl, o_neg, hnk, if_false, up_s, up_u, wI_d, show 62 + k < 142 by omega, show 72 + k < 142 by omega]
      exact (u127_40 ..).mpr ih
    · intro _
      simp (disch := first | assumption | omega | decide | exact la_87 | exact la_88 | exact la_90 | exact la_91 | exact la_92 | exact la_93 | exact la_94 | exact la_95 | exact la_96 | exact la_97 | exact la_98 | exact la_99 | exact la_10 | exact la_23 | exact la_77 | exact la_78) only [u127_13, u127_14, u127_16, u127_19, u127_20, u127_23, u127_25, u127_26, u127_27, u127_28, u127_31, u127_33, u127_34, u127_35, u127_36, u127_37, u127_43, u127_44, u127_47, u127_48, u127_50, la_86, la_87, lt_87, lr_86_0, kLt, true_and, o_aa, o_al, o_la, o_mm, o_ml, o_lm, o_ss, o_sl, o_ls, o_tn, o_tl, o_lt, o_ltl, o_llt, o_le, o_lel, o_lle, o_eq, o_eql, o_leq, o_inb, o_inl, o_neg, Nat.le_refl, Nat.reduceLT, if_true, up_s, up_u, wI_d]
      refine k127 7 _ (by omega) ?_ ?_ rfl
      · rw [up_s]; exact ud_s ..
      · simp only [up_s, up_u]
        exact h
  · rw [show kpM (I 87) u = kp1 (I 87) u from if_neg h8] at h
    simp (disch := first | assumption | omega | decide | exact la_87 | exact la_88 | exact la_90 | exact la_91 | exact la_92 | exact la_93 | exact la_94 | exact la_95 | exact la_96 | exact la_97 | exact la_98 | exact la_99 | exact la_10 | exact la_23 | exact la_77 | exact la_78) only [u127_0, u127_1, u127_4, u127_5, u127_6, u127_8, u127_11, u127_12, la_86, la_87, lt_87, lr_86_0, kLt, true_and, eu, o_aa, o_al, o_la, o_mm, o_ml, o_lm, o_ss, o_sl, o_ls, o_tn, o_tl, o_lt, o_ltl, o_llt, o_le, o_lel, o_lle, o_eq, o_eql, o_leq, o_inb, o_inl, o_neg, Nat.reduceLT, h8, not_false_eq_true, if_true]
    exact k127 u .null (by omega) eu h rfl)
abbrev kpC (I : Nat → Nat → Int32) (o u : Nat) : Nat → Nat → Int32 := va_up (va_up (va_up (va_up I 17 (if u = 8 then upd (I 17) 3 (Int32.ofNat ((o + 1) % 8)) else upd (I 17) 4 (Int32.ofNat (u + 1)))) 18 (va_cpy (I 10) (I 18) 0 ((o + u) % 8 * 8) 8)) 19 (upd (I 19) ((o + u) % 8) (I 9 1))) 20 (upd (I 20) ((o + u) % 8) (I 9 2))
theorem c11 (o u : Nat) (ho : o < 8) (hu : u ≤ 8) (e3 : I 17 3 = Int32.ofNat o) (e4 : I 17 4 = Int32.ofNat u) : Ca 11 [.ref 17, .ref 9, .null] (Sg I J) m pc ls st Q ↔ Rn m pc ls st (Sg (kpC I o u) J) Q := Ca_of (r := none) (fun Q h => by
  have hs : (o + u) % 8 < 8 := by omega
  have z9 : ¬ Int32.ofNat ((o + u) % 8 * 8) < 0 := o_neg (by omega)
  by_cases h8 : u = 8
  · rw [show kpC I o u = va_up (va_up (va_up (va_up I 17 (upd (I 17) 3 (Int32.ofNat ((o + 1) % 8)))) 18 (va_cpy (I 10) (I 18) 0 ((o + u) % 8 * 8) 8)) 19 (upd (I 19) ((o + u) % 8) (I 9 1))) 20 (upd (I 20) ((o + u) % 8) (I 9 2)) by unfold kpC; rw [if_pos h8]] at h
    simp (disch := first | assumption | omega | decide | exact la_87 | exact la_88 | exact la_90 | exact la_91 | exact la_92 | exact la_93 | exact la_94 | exact la_95 | exact la_96 | exact la_97 | exact la_98 | exact la_99 | exact la_10 | exact la_23 | exact la_77 | exact la_78) only [u11_0, u11_1, u11_4, u11_5, u11_8, u11_9, u11_11, u11_12, u11_13, u11_14, u11_17, u11_19, u11_22, u11_23, u11_24, u11_27, u11_28, u11_29, u11_31, u11_32, u11_35, u11_38, u11_39, u11_40, u11_43, u11_44, u11_45, u11_48, u11_49, u11_52, u11_53, u11_54, u11_57, u11_58, u11_60, u11_61, u11_63, u11_66, u11_67, u11_70, u11_71, u11_72, u11_75, u11_76, u11_77, u11_80, u11_81, u11_82, u11_85, u11_86, la_17, la_9, la_10, la_18, la_19, la_20, lt_10, lt_18, lt_19, lt_20, lr_17_0, lr_17_1, lr_17_2, lr_9_0, kLt, true_and, and_true, and_self, e3, e4, o_aa, o_al, o_la, o_mm, o_ml, o_lm, o_ss, o_sl, o_ls, o_tn, o_tl, o_lt, o_ltl, o_llt, o_le, o_lel, o_lle, o_eq, o_eql, o_leq, o_inb, o_inl, o_neg, tm8, h8, show ¬ (8 : Int32) = 0 by decide, not_true, not_false_eq_true, if_false, z0, z8, wI_d, up_o, up_s] at h hs z9 ⊢
    first | exact h | exact ⟨by omega, h⟩ | exact ⟨by omega, by omega, h⟩ | exact ⟨by omega, by omega, by omega, h⟩
  · rw [show kpC I o u = va_up (va_up (va_up (va_up I 17 (upd (I 17) 4 (Int32.ofNat (u + 1)))) 18 (va_cpy (I 10) (I 18) 0 ((o + u) % 8 * 8) 8)) 19 (upd (I 19) ((o + u) % 8) (I 9 1))) 20 (upd (I 20) ((o + u) % 8) (I 9 2)) by unfold kpC; rw [if_neg h8]] at h
    simp (disch := first | assumption | omega | decide | exact la_87 | exact la_88 | exact la_90 | exact la_91 | exact la_92 | exact la_93 | exact la_94 | exact la_95 | exact la_96 | exact la_97 | exact la_98 | exact la_99 | exact la_10 | exact la_23 | exact la_77 | exact la_78) only [u11_0, u11_1, u11_4, u11_5, u11_8, u11_9, u11_11, u11_12, u11_13, u11_14, u11_17, u11_19, u11_22, u11_23, u11_24, u11_27, u11_28, u11_29, u11_31, u11_32, u11_35, u11_38, u11_39, u11_40, u11_43, u11_44, u11_45, u11_48, u11_49, u11_52, u11_53, u11_54, u11_57, u11_58, u11_60, u11_61, u11_63, u11_66, u11_67, u11_70, u11_71, u11_72, u11_75, u11_76, u11_77, u11_80, u11_81, u11_82, u11_85, u11_86, la_17, la_9, la_10, la_18, la_19, la_20, lt_10, lt_18, lt_19, lt_20, lr_17_0, lr_17_1, lr_17_2, lr_9_0, kLt, true_and, and_true, and_self, e3, e4, o_aa, o_al, o_la, o_mm, o_ml, o_lm, o_ss, o_sl, o_ls, o_tn, o_tl, o_lt, o_ltl, o_llt, o_le, o_lel, o_lle, o_eq, o_eql, o_leq, o_inb, o_inl, o_neg, tm8, h8, show ¬ (8 : Int32) = 0 by decide, not_true, not_false_eq_true, if_true, if_false, z0, z8, wI_d, up_o, up_s, hs, z9] at h ⊢
    first | exact h | exact ⟨by omega, h⟩ | exact ⟨by omega, by omega, h⟩ | exact ⟨by omega, by omega, by omega, h⟩)
theorem kp_o {M : Nat → Int32} {u k : Nat} (h4 : ¬ k = 4) (hk : k < 62) : kpM M u k = M k := by
  unfold kpM kp1
  split
  · rw [ud_o _ _ h4, ud_o _ _ (by omega)]
    unfold cp9
    rw [if_neg (by omega), ud_o _ _ h4]
    unfold shf
    rw [if_neg (by omega)]
  · rw [ud_o _ _ h4, ud_o _ _ (by omega)]
    unfold cp9
    rw [if_neg (by omega)]
end KEEP2
theorem shf_in (M : Nat → Int32) {j k : Nat} (h : 62 ≤ j ∧ j < 62 + k) : shf M k j = M (j + 10) := if_pos h
theorem cp9_in (M : Nat → Int32) {t j k : Nat} (h : t ≤ j ∧ j < t + k) : cp9 M t k j = M (5 + (j - t)) := if_pos h
theorem cp9_out (M : Nat → Int32) {t j k : Nat} (h : ¬ (t ≤ j ∧ j < t + k)) : cp9 M t k j = M j := if_neg h
theorem VP_keep {P A D E Y W M : Nat → Int32} {B o u : Nat} (ho : o < 8) (hu : u ≤ 8) (f1 : P 3 = Int32.ofNat o) (f2 : P 4 = Int32.ofNat u) (f4 : ∀ k, k < u → (∀ j, j < 8 → ∃ w, w ≤ 99 ∧ A ((o + k) % 8 * 8 + j) = Int32.ofNat w ∧ M (62 + 10 * k + j) = Int32.ofNat w) ∧ D ((o + k) % 8) = M (62 + 10 * k + 8) ∧ ∃ T, T ≤ B ∧ E ((o + k) % 8) = Int32.ofNat T ∧ M (62 + 10 * k + 9) = Int32.ofNat T) (hY : VY Y W M B) : VP (if u = 8 then upd P 3 (Int32.ofNat ((o + 1) % 8)) else upd P 4 (Int32.ofNat (u + 1))) (va_cpy W A 0 ((o + u) % 8 * 8) 8) (upd D ((o + u) % 8) (Y 1)) (upd E ((o + u) % 8) (Y 2)) (kpM M u) B := by
  obtain ⟨⟨T, hT, y1, y2⟩, y3, y4⟩ := hY
  by_cases h8 : u = 8
  · subst h8
    rw [if_pos rfl, show kpM M 8 = upd (upd (cp9 (upd (shf M 70) 4 7) (62 + 10 * 7) 9) (62 + 10 * 7 + 9) (upd (shf M 70) 4 7 2)) 4 (Int32.ofNat (7 + 1)) from if_pos rfl]
    refine ⟨(o + 1) % 8, 8, by omega, by omega, ud_s .., by rw [ud_o _ _ (by omega)]; exact f2, ud_s .., fun k hk => ?_⟩
    by_cases hk7 : k = 7
    · subst hk7
      have e : ((o + 1) % 8 + 7) % 8 = (o + 8) % 8 := by omega
      rw [e]
      refine ⟨fun j hj => ?_, ?_, T, hT, ?_, ?_⟩
      · obtain ⟨w, hw, a1, a2⟩ := y4 j hj
        refine ⟨w, hw, ?_, ?_⟩
        · rw [pk_cpy_in (by omega) (by omega), show 0 + ((o + 8) % 8 * 8 + j - (o + 8) % 8 * 8) = j by omega]; exact a1
        · rw [ud_o _ _ (by omega), ud_o _ _ (by omega), cp9_in _ (by omega), show 5 + (62 + 10 * 7 + j - (62 + 10 * 7)) = 5 + j by omega, ud_o _ _ (by omega)]
          unfold shf
          rw [if_neg (by omega)]
          exact a2
      · rw [ud_s, ud_o _ _ (by omega), ud_o _ _ (by omega), cp9_in _ (by omega), ud_o _ _ (by omega)]
        unfold shf
        rw [if_neg (by omega)]
        exact y3
      · rw [ud_s]; exact y1
      · rw [ud_o _ _ (by omega), ud_s, ud_o _ _ (by omega)]
        unfold shf
        rw [if_neg (by omega)]
        exact y2
    · obtain ⟨g1, g2, T2, hT2, g3, g4⟩ := f4 (k + 1) (by omega)
      have e : ((o + 1) % 8 + k) % 8 = (o + (k + 1)) % 8 := by omega
      rw [e]
      have hne : ¬ (o + (k + 1)) % 8 = (o + 8) % 8 := by omega
      have em : ∀ j, j < 10 → upd (upd (cp9 (upd (shf M 70) 4 7) (62 + 10 * 7) 9) (62 + 10 * 7 + 9) (upd (shf M 70) 4 7 2)) 4 (Int32.ofNat (7 + 1)) (62 + 10 * k + j) = M (62 + 10 * (k + 1) + j) := by
        intro j hj
        rw [ud_o _ _ (by omega), ud_o _ _ (by omega), cp9_out _ (by omega), ud_o _ _ (by omega), shf_in _ (by omega)]
        congr 1
        omega
      refine ⟨fun j hj => ?_, ?_, T2, hT2, ?_, ?_⟩
      · obtain ⟨w, hw, a1, a2⟩ := g1 j hj
        refine ⟨w, hw, ?_, ?_⟩
        · rw [pk_cpy_out (by omega)]; exact a1
        · rw [em j (by omega)]; exact a2
      · rw [ud_o _ _ hne, em 8 (by omega)]; exact g2
      · rw [ud_o _ _ hne]; exact g3
      · rw [em 9 (by omega)]; exact g4
  · rw [if_neg h8, show kpM M u = upd (upd (cp9 M (62 + 10 * u) 9) (62 + 10 * u + 9) (M 2)) 4 (Int32.ofNat (u + 1)) from if_neg h8]
    refine ⟨o, u + 1, ho, by omega, by rw [ud_o _ _ (by omega)]; exact f1, ud_s .., ud_s .., fun k hk => ?_⟩
    by_cases hku : k = u
    · subst hku
      refine ⟨fun j hj => ?_, ?_, T, hT, ?_, ?_⟩
      · obtain ⟨w, hw, a1, a2⟩ := y4 j hj
        refine ⟨w, hw, ?_, ?_⟩
        · rw [pk_cpy_in (by omega) (by omega), show 0 + ((o + k) % 8 * 8 + j - (o + k) % 8 * 8) = j by omega]; exact a1
        · rw [ud_o _ _ (by omega), ud_o _ _ (by omega), cp9_in _ (by omega), show 5 + (62 + 10 * k + j - (62 + 10 * k)) = 5 + j by omega]
          exact a2
      · rw [ud_s, ud_o _ _ (by omega), ud_o _ _ (by omega), cp9_in _ (by omega), show 5 + (62 + 10 * k + 8 - (62 + 10 * k)) = 13 by omega]
        exact y3
      · rw [ud_s]; exact y1
      · rw [ud_o _ _ (by omega), ud_s]
        exact y2
    · obtain ⟨g1, g2, T2, hT2, g3, g4⟩ := f4 k (by omega)
      have hne : ¬ (o + k) % 8 = (o + u) % 8 := by omega
      have em : ∀ j, j < 10 → upd (upd (cp9 M (62 + 10 * u) 9) (62 + 10 * u + 9) (M 2)) 4 (Int32.ofNat (u + 1)) (62 + 10 * k + j) = M (62 + 10 * k + j) := by
        intro j hj
        show upd (upd (cp9 M (62 + 10 * u) 9) (62 + 10 * u + 9) (M 2)) 4 (Int32.ofNat (u + 1)) (62 + 10 * k + j) = _
        rw [ud_o _ _ (by omega), ud_o _ _ (by omega), cp9_out _ (by omega)]
      refine ⟨fun j hj => ?_, ?_, T2, hT2, ?_, ?_⟩
      · obtain ⟨w, hw, a1, a2⟩ := g1 j hj
        refine ⟨w, hw, ?_, ?_⟩
        · rw [pk_cpy_out (by omega)]; exact a1
        · rw [em j (by omega)]; exact a2
      · rw [ud_o _ _ hne, em 8 (by omega)]; exact g2
      · rw [ud_o _ _ hne]; exact g3
      · rw [em 9 (by omega)]; exact g4
theorem op1 (a b : Int32) : OpI 65 [.ref 0, .int a, .int b, .null] 128 [.ref 86, .int a, .int b, .null] := by
  intro I J B hR hB
  have hR0 := hR
  obtain ⟨⟨ra, rb, rc, rd, ⟨o, u, ho, hu, f1, f2, f3, f4⟩⟩, -⟩ := hR0
  have rd0 := rd
  obtain ⟨y1, y3, y4⟩ := rd0
  by_cases h1 : 0 ≤ a ∧ a ≤ 7
  · by_cases h2 : 0 ≤ b ∧ b ≤ 99
    · obtain ⟨s, hs, rfl⟩ := o_in (m := 7) h1.1 h1.2 (by omega)
      obtain ⟨w, hw, rfl⟩ := o_in (m := 99) h2.1 h2.2 (by omega)
      have hs8 : s < 8 := by omega
      obtain ⟨w0, hw0, e1, e2⟩ := y4 s hs8
      simp (disch := first | assumption | omega | decide | exact la_87 | exact la_88 | exact la_90 | exact la_91 | exact la_92 | exact la_93 | exact la_94 | exact la_95 | exact la_96 | exact la_97 | exact la_98 | exact la_99 | exact la_10 | exact la_23 | exact la_77 | exact la_78) only [u65_0, u65_1, u65_4, u65_7, u65_8, u65_9, u65_11, u65_14, u65_17, u65_18, u65_20, u65_23, u65_24, u65_25, u65_28, u65_31, u65_32, u65_35, u65_38, u65_41, u65_42, u65_45, u65_48, u65_51, u65_52, u65_53, u65_54, u65_55, u65_58, u65_61, u65_64, u65_65, u65_66, u65_67, u65_68, c101, c100, c11 o u ho hu f1 f2, bi_0, h1, h2, not_true, not_false_eq_true, if_true, if_false, la_0, la_8, la_9, la_10, lt_10, la_17, lr_0_0, lr_8_1, lr_8_5, lr_9_0, kLt, true_and, o_aa, o_al, o_la, o_mm, o_ml, o_lm, o_ss, o_sl, o_ls, o_tn, o_tl, o_lt, o_ltl, o_llt, o_le, o_lel, o_lle, o_eq, o_eql, o_leq, o_inb, o_inl, o_neg, hs8, up_o, wI_d]
      refine ⟨_, _, _, rfl, rfl, ?_, ?_, ?_⟩
      · simp (disch := decide) only [up_o]
      · simp (disch := decide) only [up_o]
      generalize hI1 : va_up (kpC I o u) 10 (upd (I 10) s (Int32.ofNat w)) = I1
      have hm : ∀ q, 86 ≤ q → I1 q = I q := by
        intro q hq
        rw [← hI1]
        simp (disch := omega) only [kpC, up_o]
      have g3 : I1 87 4 = Int32.ofNat u := by rw [hm 87 (by omega)]; exact f3
      simp (disch := first | assumption | omega | decide | exact la_87 | exact la_88 | exact la_90 | exact la_91 | exact la_92 | exact la_93 | exact la_94 | exact la_95 | exact la_96 | exact la_97 | exact la_98 | exact la_99 | exact la_10 | exact la_23 | exact la_77 | exact la_78) only [u128_0, u128_1, u128_4, u128_7, u128_8, u128_9, u128_10, u128_13, u128_16, u128_19, u128_20, u128_22, u128_25, u128_26, u128_27, u128_30, u128_31, u128_32, u128_33, u128_34, u128_35, u128_36, u128_39, u128_40, u128_43, u128_44, u128_45, u128_46, u128_47, u128_48, u128_49, c122, c113n, c127 u hu g3, bi_0, h1, h2, not_true, not_false_eq_true, if_true, if_false, la_86, la_87, lt_87, lr_86_0, kLt, true_and, o_aa, o_al, o_la, o_mm, o_ml, o_lm, o_ss, o_sl, o_ls, o_tn, o_tl, o_lt, o_ltl, o_llt, o_le, o_lel, o_lle, o_eq, o_eql, o_leq, o_inb, o_inl, o_neg, show 5 + s < 142 by omega, up_s, up_u, wI_d]
      refine ⟨_, _, ?_, rfl, ?_, ?_, ?_⟩
      · rw [hm 87 (by omega), e1, e2]
      · rw [up_o _ _ (by decide), hm 999 (by omega)]
      · rw [up_o _ _ (by decide), hm 1000 (by omega)]
      · rw [hm 87 (by omega), ← hI1]
        refine Rel_now hR (by omega) ?_ (fun q g1 g2 g3 g4 g5 => by simp (disch := omega) only [kpC, up_o]) (by simp (disch := decide) only [kpC, up_o]) (by simp (disch := decide) only [kpC, up_o]) ⟨rfl, rfl, rfl, rfl⟩
        unfold VR
        simp (disch := decide) only [kpC, up_s, up_o, Nat.reduceAdd]
        refine ⟨VT_M ra (fun k hk => ?_), VW_M rb (fun k hk => ?_), VM_M rc (fun k hk => ?_), ⟨?_, ?_, fun j hj => ?_⟩, VP_M (VP_keep ho hu f1 f2 f4 rd) (fun k hk => ?_) (by omega)⟩
        · rw [ud_o _ _ (by omega), kp_o (by omega) (by omega)]
        · rw [ud_o _ _ (by omega), kp_o (by omega) (by omega)]
        · rw [ud_o _ _ (by omega), kp_o (by omega) (by omega)]
        · obtain ⟨T, hT, t1, t2⟩ := y1
          refine ⟨T, by omega, t1, ?_⟩
          rw [ud_o _ _ (by omega), kp_o (by omega) (by omega)]
          exact t2
        · rw [ud_o _ _ (by omega), kp_o (by omega) (by omega)]
          exact y3
        · by_cases hjs : j = s
          · subst hjs
            exact ⟨w, hw, ud_s .., ud_s ..⟩
          · rw [ud_o _ _ hjs, ud_o _ _ (by omega), kp_o (by omega) (by omega)]
            exact y4 j hj
        · rw [ud_o _ _ (by omega)]
    · simp (disch := decide) only [u65_0, u65_1, u65_4, u65_7, u65_8, u65_9, u65_11, u65_14, u65_17, u65_18, u65_20, u65_23, u65_24, u65_25, u65_28, u65_31, u65_32, u65_35, u65_38, u65_41, u65_42, u65_45, u65_48, u65_51, u65_52, u65_53, u65_54, u65_55, u65_58, u65_61, u65_64, u65_65, u65_66, u65_67, u65_68, c101, c100, c103b, bi_0, h1, h2, not_true, not_false_eq_true, if_true, if_false, la_0, kLt, true_and]
      refine ⟨_, _, _, rfl, rfl, up_o _ _ (by decide), up_o _ _ (by decide), ?_⟩
      simp (disch := first | assumption | omega | decide | exact la_87 | exact la_88 | exact la_90 | exact la_91 | exact la_92 | exact la_93 | exact la_94 | exact la_95 | exact la_96 | exact la_97 | exact la_98 | exact la_99 | exact la_10 | exact la_23 | exact la_77 | exact la_78) only [u128_0, u128_1, u128_4, u128_7, u128_8, u128_9, u128_10, u128_13, u128_16, u128_19, u128_20, u128_22, u128_25, u128_26, u128_27, u128_30, u128_31, u128_32, u128_33, u128_34, u128_35, u128_36, u128_39, u128_40, u128_43, u128_44, u128_45, u128_46, u128_47, u128_48, u128_49, c122, c113n, c114, bi_0, h1, h2, not_true, not_false_eq_true, if_true, if_false, la_86, kLt, true_and]
      exact fin_bad' hR
  · simp (disch := decide) only [u65_0, u65_1, u65_4, u65_7, u65_8, u65_9, u65_11, u65_14, u65_17, u65_18, u65_20, u65_23, u65_24, u65_25, u65_28, u65_31, u65_32, u65_35, u65_38, u65_41, u65_42, u65_45, u65_48, u65_51, u65_52, u65_53, u65_54, u65_55, u65_58, u65_61, u65_64, u65_65, u65_66, u65_67, u65_68, c101, c100, c103b, bi_0, h1, not_true, not_false_eq_true, if_true, if_false, la_0, kLt, true_and]
    refine ⟨_, _, _, rfl, rfl, up_o _ _ (by decide), up_o _ _ (by decide), ?_⟩
    simp (disch := first | assumption | omega | decide | exact la_87 | exact la_88 | exact la_90 | exact la_91 | exact la_92 | exact la_93 | exact la_94 | exact la_95 | exact la_96 | exact la_97 | exact la_98 | exact la_99 | exact la_10 | exact la_23 | exact la_77 | exact la_78) only [u128_0, u128_1, u128_4, u128_7, u128_8, u128_9, u128_10, u128_13, u128_16, u128_19, u128_20, u128_22, u128_25, u128_26, u128_27, u128_30, u128_31, u128_32, u128_33, u128_34, u128_35, u128_36, u128_39, u128_40, u128_43, u128_44, u128_45, u128_46, u128_47, u128_48, u128_49, c122, c113n, c114, bi_0, h1, not_true, not_false_eq_true, if_true, if_false, la_86, kLt, true_and]
    exact fin_bad' hR
