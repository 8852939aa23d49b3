/-! THE CALLS: image, from -/
section IMG
variable {m pc : Nat} {ls st : Vs} {I : Nat → Nat → Int32} {J : Nat → Nat → Int64} {Q : Option Value → Sto → Prop}
abbrev tp_44_17 (I : Nat → Nat → Int32) : Nat → Nat → Int32 := va_up (va_up (va_up (va_up I 45 (va_cpy (I 18) (I 45) 0 0 64)) 46 (va_cpy (I 19) (I 46) 0 0 8)) 47 (va_cpy (I 20) (I 47) 0 0 8)) 44 (upd (upd (I 44) 3 (I 17 3)) 4 (I 17 4))
theorem c10_44_17 : Ca 10 [.ref 44, .ref 17] (Sg I J) m pc ls st Q ↔ Rn m pc ls st (Sg (tp_44_17 I) J) Q := Ca_of (r := none) (fun Q h => by
  simp (disch := decide) only [u10_0, u10_1, u10_4, u10_5, u10_6, u10_9, u10_10, u10_12, u10_15, u10_16, u10_19, u10_20, u10_21, u10_24, u10_25, u10_27, u10_30, u10_31, u10_34, u10_35, u10_36, u10_39, u10_40, u10_42, u10_45, u10_46, u10_47, u10_50, u10_53, u10_54, u10_55, u10_58, u10_61, la_44, la_17, la_45, la_46, la_47, la_18, la_19, la_20, lt_45, lt_46, lt_47, lt_18, lt_19, lt_20, lr_44_0, lr_44_1, lr_44_2, lr_17_0, lr_17_1, lr_17_2, kLt, true_and, and_self, z0, z8, z64, not_false_eq_true, o_tl, Nat.zero_add, Nat.le_refl, wI_d, up_s, up_o, up_u]
  exact h)
abbrev tp_57_17 (I : Nat → Nat → Int32) : Nat → Nat → Int32 := va_up (va_up (va_up (va_up I 58 (va_cpy (I 18) (I 58) 0 0 64)) 59 (va_cpy (I 19) (I 59) 0 0 8)) 60 (va_cpy (I 20) (I 60) 0 0 8)) 57 (upd (upd (I 57) 3 (I 17 3)) 4 (I 17 4))
theorem c10_57_17 : Ca 10 [.ref 57, .ref 17] (Sg I J) m pc ls st Q ↔ Rn m pc ls st (Sg (tp_57_17 I) J) Q := Ca_of (r := none) (fun Q h => by
  simp (disch := decide) only [u10_0, u10_1, u10_4, u10_5, u10_6, u10_9, u10_10, u10_12, u10_15, u10_16, u10_19, u10_20, u10_21, u10_24, u10_25, u10_27, u10_30, u10_31, u10_34, u10_35, u10_36, u10_39, u10_40, u10_42, u10_45, u10_46, u10_47, u10_50, u10_53, u10_54, u10_55, u10_58, u10_61, la_57, la_17, la_58, la_59, la_60, la_18, la_19, la_20, lt_58, lt_59, lt_60, lt_18, lt_19, lt_20, lr_57_0, lr_57_1, lr_57_2, lr_17_0, lr_17_1, lr_17_2, kLt, true_and, and_self, z0, z8, z64, not_false_eq_true, o_tl, Nat.zero_add, Nat.le_refl, wI_d, up_s, up_o, up_u]
  exact h)
abbrev tp_17_44 (I : Nat → Nat → Int32) : Nat → Nat → Int32 := va_up (va_up (va_up (va_up I 18 (va_cpy (I 45) (I 18) 0 0 64)) 19 (va_cpy (I 46) (I 19) 0 0 8)) 20 (va_cpy (I 47) (I 20) 0 0 8)) 17 (upd (upd (I 17) 3 (I 44 3)) 4 (I 44 4))
theorem c10_17_44 : Ca 10 [.ref 17, .ref 44] (Sg I J) m pc ls st Q ↔ Rn m pc ls st (Sg (tp_17_44 I) J) Q := Ca_of (r := none) (fun Q h => by
  simp (disch := decide) only [u10_0, u10_1, u10_4, u10_5, u10_6, u10_9, u10_10, u10_12, u10_15, u10_16, u10_19, u10_20, u10_21, u10_24, u10_25, u10_27, u10_30, u10_31, u10_34, u10_35, u10_36, u10_39, u10_40, u10_42, u10_45, u10_46, u10_47, u10_50, u10_53, u10_54, u10_55, u10_58, u10_61, la_17, la_44, la_18, la_19, la_20, la_45, la_46, la_47, lt_18, lt_19, lt_20, lt_45, lt_46, lt_47, lr_17_0, lr_17_1, lr_17_2, lr_44_0, lr_44_1, lr_44_2, kLt, true_and, and_self, z0, z8, z64, not_false_eq_true, o_tl, Nat.zero_add, Nat.le_refl, wI_d, up_s, up_o, up_u]
  exact h)
abbrev tp_17_57 (I : Nat → Nat → Int32) : Nat → Nat → Int32 := va_up (va_up (va_up (va_up I 18 (va_cpy (I 58) (I 18) 0 0 64)) 19 (va_cpy (I 59) (I 19) 0 0 8)) 20 (va_cpy (I 60) (I 20) 0 0 8)) 17 (upd (upd (I 17) 3 (I 57 3)) 4 (I 57 4))
theorem c10_17_57 : Ca 10 [.ref 17, .ref 57] (Sg I J) m pc ls st Q ↔ Rn m pc ls st (Sg (tp_17_57 I) J) Q := Ca_of (r := none) (fun Q h => by
  simp (disch := decide) only [u10_0, u10_1, u10_4, u10_5, u10_6, u10_9, u10_10, u10_12, u10_15, u10_16, u10_19, u10_20, u10_21, u10_24, u10_25, u10_27, u10_30, u10_31, u10_34, u10_35, u10_36, u10_39, u10_40, u10_42, u10_45, u10_46, u10_47, u10_50, u10_53, u10_54, u10_55, u10_58, u10_61, la_17, la_57, la_18, la_19, la_20, la_58, la_59, la_60, lt_18, lt_19, lt_20, lt_58, lt_59, lt_60, lr_17_0, lr_17_1, lr_17_2, lr_57_0, lr_57_1, lr_57_2, kLt, true_and, and_self, z0, z8, z64, not_false_eq_true, o_tl, Nat.zero_add, Nat.le_refl, wI_d, up_s, up_o, up_u]
  exact h)
end IMG
theorem nar_z : vp_nar .boolean 1 = 1 := by decide
def im (i : Nat) (K M : Nat → Int32) (k : Nat) : Nat → Int32 := fun j => if 142 * i ≤ j ∧ j < 142 * i + k then M (j - 142 * i) else K j
theorem im_0 (i : Nat) (K M : Nat → Int32) : im i K M 0 = K := by
  funext j
  unfold im
  rw [if_neg (by omega)]
theorem im_s (i : Nat) (K M : Nat → Int32) (k : Nat) : upd (im i K M k) (142 * i + k) (M k) = im i K M (k + 1) := by
  funext j
  show (if j = 142 * i + k then M k else if 142 * i ≤ j ∧ j < 142 * i + k then M (j - 142 * i) else K j) = if 142 * i ≤ j ∧ j < 142 * i + (k + 1) then M (j - 142 * i) else K j
  by_cases h : j = 142 * i + k
  · rw [if_pos h, if_pos (by omega)]
    congr 1
    omega
  · rw [if_neg h]
    by_cases h2 : 142 * i ≤ j ∧ j < 142 * i + k
    · rw [if_pos h2, if_pos (by omega)]
    · rw [if_neg h2, if_neg (by omega)]
theorem im_i (i : Nat) (K M : Nat → Int32) {k : Nat} (h : k < 142) : im i K M 142 (142 * i + k) = M k := by
  unfold im
  rw [if_pos (by omega)]
  congr 1
  omega
theorem im_o (i : Nat) (K M : Nat → Int32) {j : Nat} (h : ¬ (142 * i ≤ j ∧ j < 142 * i + 142)) : im i K M 142 j = K j := if_neg h
theorem VR_cp {I I' : Nat → Nat → Int32} {v v' : Nat} {M M' : Nat → Int32} {B : Nat} (h : VR I v M B) (h1 : I' (v' + 1) 1 = I (v + 1) 1 ∧ I' (v' + 1) 2 = I (v + 1) 2) (h2 : ∀ j, j < 8 → I' (v' + 2) j = I (v + 2) j) (h3 : I' (v' + 3) 1 = I (v + 3) 1) (h4 : ∀ j, j < 18 → I' (v' + 4) j = I (v + 4) j) (h5 : I' (v' + 5) 1 = I (v + 5) 1) (h6 : ∀ j, j < 18 → I' (v' + 6) j = I (v + 6) j) (h7 : I' (v' + 7) 1 = I (v + 7) 1) (h8 : ∀ j, j < 18 → I' (v' + 8) j = I (v + 8) j) (h9 : I' (v' + 9) 3 = I (v + 9) 3 ∧ I' (v' + 9) 4 = I (v + 9) 4) (h10 : ∀ j, j < 64 → I' (v' + 10) j = I (v + 10) j) (h11 : (∀ j, j < 8 → I' (v' + 11) j = I (v + 11) j) ∧ ∀ j, j < 8 → I' (v' + 12) j = I (v + 12) j) (hM : ∀ k, k < 142 → M' k = M k) : VR I' v' M' B := by
  obtain ⟨⟨n, hn, a1, a2, a3⟩, ⟨n2, hn2, b1, b2, b3⟩, ⟨n3, hn3, c1, c2, c3⟩, ⟨⟨T, hT, d1, d2⟩, e1, e2⟩, ⟨o, u, ho, hu, f1, f2, f3, f4⟩⟩ := h
  refine ⟨⟨n, hn, by rw [h3]; exact a1, by rw [hM _ (by omega)]; exact a2, fun k hk => ?_⟩, ⟨n2, hn2, by rw [h5]; exact b1, by rw [hM _ (by omega)]; exact b2, fun k hk => ?_⟩, ⟨n3, hn3, by rw [h7]; exact c1, by rw [hM _ (by omega)]; exact c2, fun k hk => ?_⟩, ⟨⟨T, hT, by rw [h1.2]; exact d1, by rw [hM _ (by omega)]; exact d2⟩, by rw [h1.1, hM _ (by omega)]; exact e1, fun j hj => ?_⟩, ⟨o, u, ho, hu, by rw [h9.1]; exact f1, by rw [h9.2]; exact f2, by rw [hM _ (by omega)]; exact f3, fun k hk => ?_⟩⟩
  · rw [h4 _ (by omega), h4 _ (by omega), h4 _ (by omega), hM _ (by omega), hM _ (by omega), hM _ (by omega)]; exact a3 k hk
  · rw [h6 _ (by omega), h6 _ (by omega), hM _ (by omega), hM _ (by omega)]; exact b3 k hk
  · rw [h8 _ (by omega), h8 _ (by omega), h8 _ (by omega), hM _ (by omega), hM _ (by omega), hM _ (by omega)]; exact c3 k hk
  · rw [h2 _ hj, hM _ (by omega)]; exact e2 j hj
  · obtain ⟨g1, g2, g3⟩ := f4 k hk
    refine ⟨fun j hj => ?_, ?_, ?_⟩
    · rw [h10 _ (by omega), hM _ (by omega)]; exact g1 j hj
    · rw [h11.1 _ (by omega), hM _ (by omega)]; exact g2
    · rw [h11.2 _ (by omega), hM _ (by omega)]; exact g3
/-- a change of one image alone -/
theorem Rel_img (i : Nat) (hi : i < 2) {I I' : Nat → Nat → Int32} {J : Nat → Nat → Int64} {B : Nat} (h : Rel I J B) (h1 : ∀ a, ¬ (35 + 13 * i + 1 ≤ a ∧ a ≤ 35 + 13 * i + 12) → ¬ a = 61 ∧ ¬ a = 88 ∧ ¬ a = 89 → I' a = I a) (h2 : I' 61 i = 1) (h3 : I' 89 i = 1) (h4 : ∀ q, ¬ q = i → I' 61 q = I 61 q ∧ I' 89 q = I 89 q) (h5 : ∀ k, ¬ (142 * i ≤ k ∧ k < 142 * i + 142) → I' 88 k = I 88 k) (h6 : VR I' (35 + 13 * i) (fun k => I' 88 (142 * i + k)) B) : Rel I' J (B + 60) := by
  have hs : ∀ a, a ≤ 34 ∨ (62 ≤ a ∧ ¬ a = 88 ∧ ¬ a = 89) → I' a = I a := fun a ha => h1 a (by omega) (by omega)
  obtain ⟨a, b, c, ⟨z, hz, d1, d2, d3⟩, e, f1, f2, f3⟩ := h
  have hx : ∀ q, q < 2 → ¬ q = i → KR I q B → KR I' q B := by
    intro q hq hqi hk
    rcases hk with ⟨k1, k2⟩ | ⟨k1, k2, k3⟩
    · exact Or.inl ⟨by rw [(h4 q hqi).1]; exact k1, by rw [(h4 q hqi).2]; exact k2⟩
    · refine Or.inr ⟨by rw [(h4 q hqi).1]; exact k1, by rw [(h4 q hqi).2]; exact k2, VR_eq k3 (fun a g1 g2 => h1 a (by omega) (by omega)) (fun k hk => h5 _ (by omega))⟩
  have hy : KR I' i B := Or.inr ⟨h2, h3, h6⟩
  refine ⟨VR_le (VR_eq a (fun q g1 g2 => hs q (by omega)) (fun k _ => by rw [hs 87 (by omega)])) (by omega), KR_le (B := B) ?_ (by omega), KR_le (B := B) ?_ (by omega), ⟨z, hz, by rw [hs 62 (by omega)]; exact d1, by rw [hs 86 (by omega)]; exact d2, by rw [hs 76 (by omega), hs 97 (by omega)]; exact d3⟩, e, ?_, ?_, ?_⟩
  · by_cases q : 0 = i
    · rw [q]; exact hy
    · exact hx 0 (by omega) q b
  · by_cases q : 1 = i
    · rw [q]; exact hy
    · exact hx 1 (by omega) q c
  all_goals rw [hs 0 (by omega), hs 90 (by omega)]; assumption
theorem op31 (a : Int32) : OpI 95 [.ref 0, .int a] 188 [.ref 86, .int a, .null] := by
  intro I J B hR hB
  by_cases h1 : 0 ≤ a ∧ a ≤ 1
  · obtain ⟨k, hk, rfl⟩ := o_in (m := 1) h1.1 h1.2 (by omega)
    obtain rfl | rfl : k = 0 ∨ k = 1 := by omega
    · rw [show Int32.ofNat 0 = 0 from rfl] at *
      simp (disch := decide) only [u95_0, u95_1, u95_2, u95_3, u95_6, u95_9, u95_10, u95_12, u95_15, u95_16, u95_17, u95_20, u95_21, u95_22, u95_23, u95_26, u95_29, u95_30, u95_33, u95_34, u95_35, u95_38, u95_39, u95_42, u95_45, u95_48, u95_49, u95_52, u95_53, c100, c43_35_8, c10_44_17, bi_0, h1, not_true, not_false_eq_true, if_true, if_false, la_0, la_8, la_17, la_35, la_44, la_34, lk_34, lt_34, lr_34_0, lr_0_0, lr_0_2, lr_0_3, lr_8_5, lr_35_5, kLt, true_and, and_self, o_tl, o_inl, Nat.reduceLT]
      rw [(u95_54 _ _ _ _ _ _ _ _).2 la_61]
      simp (disch := decide) only [u95_55, u95_56, lt_61, true_and, o_tl, o_inl, Nat.reduceLT, nar_z, wI_d]
      refine ⟨_, _, _, rfl, rfl, ?_, ?_, ?_⟩
      · simp (disch := decide) only [tp_44_17, tk_35_8, up_o]
      · simp (disch := decide) only [tp_44_17, tk_35_8, up_o]
      generalize hI1 : va_up (tp_44_17 (tk_35_8 I)) 61 (upd (tp_44_17 (tk_35_8 I) 61) 0 1) = I1
      have hm : ∀ q, 86 ≤ q → I1 q = I q := by
        intro q hq
        rw [← hI1]
        simp (disch := omega) only [tp_44_17, tk_35_8, up_o]
      simp (disch := decide) only [u188_0, u188_1, u188_2, u188_3, u188_4, u188_7, u188_10, u188_11, u188_13, u188_16, u188_17, u188_18, c113n, bi_0, h1, not_true, not_false_eq_true, if_true, if_false]
      refine Rn_fr (n := 142) (X := Unit) (fun k _ => [.ref 86, .int 0, .int (Int32.ofNat k)]) (fun k _ => Sg (va_up I1 88 (im 0 (I1 88) (I1 87) k)) J) () rfl (by rw [im_0, up_i]) ?_ ?_
      · intro k hk _ ih
        have ih := ih ()
        rw [← im_s] at ih
        have hnk : ¬ 142 ≤ k := by omega
        simp (disch := first | assumption | omega | decide | exact la_87 | exact la_88 | exact la_90 | exact la_91 | exact la_92 | exact la_93 | exact la_94 | exact la_95 | exact la_96 | exact la_97 | exact la_98 | exact la_99 | exact la_10 | exact la_23 | exact la_77 | exact la_78 | exact la_18 | exact la_19 | exact la_20) only [u188_19, u188_20, u188_23, u188_26, u188_27, u188_30, u188_33, u188_34, u188_35, u188_36, u188_37, u188_38, u188_41, u188_42, u188_43, u188_44, la_86, la_87, la_88, lt_87, lt_88, lr_86_0, lr_86_1, kLt, true_and, o_aa, o_al, o_la, o_mm, o_ml, o_lm, o_ss, o_sl, o_ls, o_tn, o_tl, o_lt, o_ltl, o_llt, o_le, o_lel, o_lle, o_eq, o_eql, o_leq, o_inb, o_inl, o_neg, hnk, hk, if_false, up_s, up_o, up_u, wI_d, show (142 : Int32) * 0 = Int32.ofNat (142 * 0) by decide, show 142 * 0 + k < 284 by omega]
        exact (u188_47 ..).mpr ih
      · intro _
        simp (disch := first | assumption | omega | decide | exact la_87 | exact la_88 | exact la_90 | exact la_91 | exact la_92 | exact la_93 | exact la_94 | exact la_95 | exact la_96 | exact la_97 | exact la_98 | exact la_99 | exact la_10 | exact la_23 | exact la_77 | exact la_78 | exact la_18 | exact la_19 | exact la_20) only [u188_19, u188_20, u188_23, u188_26, u188_27, u188_30, u188_33, u188_34, u188_35, u188_36, u188_37, u188_38, u188_41, u188_42, u188_43, u188_44, u188_50, u188_51, u188_54, u188_55, la_86, lr_86_2, kLt, true_and, o_aa, o_al, o_la, o_mm, o_ml, o_lm, o_ss, o_sl, o_ls, o_tn, o_tl, o_lt, o_ltl, o_llt, o_le, o_lel, o_lle, o_eq, o_eql, o_leq, o_inb, o_inl, o_neg, Nat.le_refl, if_true]
        rw [(u188_56 _ _ _ _ _ _ _ _).2 la_89]
        simp (disch := decide) only [u188_57, u188_58, lt_89, true_and, o_tl, o_inl, Nat.reduceLT, nar_z, wI_d, up_o]
        refine ⟨_, _, rfl, ?_, ?_, ?_⟩
        · rw [up_o _ _ (by decide), up_o _ _ (by decide), hm 999 (by omega)]
        · rw [up_o _ _ (by decide), up_o _ _ (by decide), hm 1000 (by omega)]
        · rw [hm 87 (by omega), hm 88 (by omega), hm 89 (by omega), ← hI1]
          refine Rel_img 0 (by decide) hR ?_ ?_ ?_ ?_ ?_ ?_
          · intro q q1 q2
            simp (disch := omega) only [tp_44_17, tk_35_8, up_o]
          · simp (disch := decide) only [tp_44_17, tk_35_8, up_o, up_s]; exact ud_s ..
          · simp (disch := decide) only [up_s]; exact ud_s ..
          · intro q hq
            constructor
            · simp (disch := decide) only [tp_44_17, tk_35_8, up_o, up_s]; exact ud_o _ _ hq
            · simp (disch := decide) only [up_s]; exact ud_o _ _ hq
          · simp (disch := decide) only [up_o, up_s]
            intro k hk
            exact im_o _ _ _ hk
          · refine VR_cp (v := 8) (v' := 35) hR.1 ?_ ?_ ?_ ?_ ?_ ?_ ?_ ?_ ?_ ?_ ?_ ?_
            all_goals simp (disch := decide) only [tp_44_17, tk_35_8, up_o, up_s, ud_s, ud_o, Nat.reduceAdd]
            all_goals first | trivial | exact ⟨trivial, trivial⟩ | exact ⟨fun j hj => sb_cpy0 hj, fun j hj => sb_cpy0 hj⟩ | (intro j hj; exact sb_cpy0 hj) | (intro k hk; exact im_i _ _ _ hk)
    · rw [show Int32.ofNat 1 = 1 from rfl] at *
      simp (disch := decide) only [u95_0, u95_1, u95_2, u95_3, u95_6, u95_9, u95_10, u95_12, u95_15, u95_16, u95_17, u95_20, u95_21, u95_22, u95_23, u95_26, u95_29, u95_30, u95_33, u95_34, u95_35, u95_38, u95_39, u95_42, u95_45, u95_48, u95_49, u95_52, u95_53, c100, c43_48_8, c10_57_17, bi_0, h1, not_true, not_false_eq_true, if_true, if_false, la_0, la_8, la_17, la_48, la_57, la_34, lk_34, lt_34, lr_34_1, lr_0_0, lr_0_2, lr_0_3, lr_8_5, lr_48_5, kLt, true_and, and_self, o_tl, o_inl, Nat.reduceLT]
      rw [(u95_54 _ _ _ _ _ _ _ _).2 la_61]
      simp (disch := decide) only [u95_55, u95_56, lt_61, true_and, o_tl, o_inl, Nat.reduceLT, nar_z, wI_d]
      refine ⟨_, _, _, rfl, rfl, ?_, ?_, ?_⟩
      · simp (disch := decide) only [tp_57_17, tk_48_8, up_o]
      · simp (disch := decide) only [tp_57_17, tk_48_8, up_o]
      generalize hI1 : va_up (tp_57_17 (tk_48_8 I)) 61 (upd (tp_57_17 (tk_48_8 I) 61) 1 1) = I1
      have hm : ∀ q, 86 ≤ q → I1 q = I q := by
        intro q hq
        rw [← hI1]
        simp (disch := omega) only [tp_57_17, tk_48_8, up_o]
      simp (disch := decide) only [u188_0, u188_1, u188_2, u188_3, u188_4, u188_7, u188_10, u188_11, u188_13, u188_16, u188_17, u188_18, c113n, bi_0, h1, not_true, not_false_eq_true, if_true, if_false]
      refine Rn_fr (n := 142) (X := Unit) (fun k _ => [.ref 86, .int 1, .int (Int32.ofNat k)]) (fun k _ => Sg (va_up I1 88 (im 1 (I1 88) (I1 87) k)) J) () rfl (by rw [im_0, up_i]) ?_ ?_
      · intro k hk _ ih
        have ih := ih ()
        rw [← im_s] at ih
        have hnk : ¬ 142 ≤ k := by omega
        simp (disch := first | assumption | omega | decide | exact la_87 | exact la_88 | exact la_90 | exact la_91 | exact la_92 | exact la_93 | exact la_94 | exact la_95 | exact la_96 | exact la_97 | exact la_98 | exact la_99 | exact la_10 | exact la_23 | exact la_77 | exact la_78 | exact la_18 | exact la_19 | exact la_20) only [u188_19, u188_20, u188_23, u188_26, u188_27, u188_30, u188_33, u188_34, u188_35, u188_36, u188_37, u188_38, u188_41, u188_42, u188_43, u188_44, la_86, la_87, la_88, lt_87, lt_88, lr_86_0, lr_86_1, kLt, true_and, o_aa, o_al, o_la, o_mm, o_ml, o_lm, o_ss, o_sl, o_ls, o_tn, o_tl, o_lt, o_ltl, o_llt, o_le, o_lel, o_lle, o_eq, o_eql, o_leq, o_inb, o_inl, o_neg, hnk, hk, if_false, up_s, up_o, up_u, wI_d, show (142 : Int32) * 1 = Int32.ofNat (142 * 1) by decide, show 142 * 1 + k < 284 by omega]
        exact (u188_47 ..).mpr ih
      · intro _
        simp (disch := first | assumption | omega | decide | exact la_87 | exact la_88 | exact la_90 | exact la_91 | exact la_92 | exact la_93 | exact la_94 | exact la_95 | exact la_96 | exact la_97 | exact la_98 | exact la_99 | exact la_10 | exact la_23 | exact la_77 | exact la_78 | exact la_18 | exact la_19 | exact la_20) only [u188_19, u188_20, u188_23, u188_26, u188_27, u188_30, u188_33, u188_34, u188_35, u188_36, u188_37, u188_38, u188_41, u188_42, u188_43, u188_44, u188_50, u188_51, u188_54, u188_55, la_86, lr_86_2, kLt, true_and, o_aa, o_al, o_la, o_mm, o_ml, o_lm, o_ss, o_sl, o_ls, o_tn, o_tl, o_lt, o_ltl, o_llt, o_le, o_lel, o_lle, o_eq, o_eql, o_leq, o_inb, o_inl, o_neg, Nat.le_refl, if_true]
        rw [(u188_56 _ _ _ _ _ _ _ _).2 la_89]
        simp (disch := decide) only [u188_57, u188_58, lt_89, true_and, o_tl, o_inl, Nat.reduceLT, nar_z, wI_d, up_o]
        refine ⟨_, _, rfl, ?_, ?_, ?_⟩
        · rw [up_o _ _ (by decide), up_o _ _ (by decide), hm 999 (by omega)]
        · rw [up_o _ _ (by decide), up_o _ _ (by decide), hm 1000 (by omega)]
        · rw [hm 87 (by omega), hm 88 (by omega), hm 89 (by omega), ← hI1]
          refine Rel_img 1 (by decide) hR ?_ ?_ ?_ ?_ ?_ ?_
          · intro q q1 q2
            simp (disch := omega) only [tp_57_17, tk_48_8, up_o]
          · simp (disch := decide) only [tp_57_17, tk_48_8, up_o, up_s]; exact ud_s ..
          · simp (disch := decide) only [up_s]; exact ud_s ..
          · intro q hq
            constructor
            · simp (disch := decide) only [tp_57_17, tk_48_8, up_o, up_s]; exact ud_o _ _ hq
            · simp (disch := decide) only [up_s]; exact ud_o _ _ hq
          · simp (disch := decide) only [up_o, up_s]
            intro k hk
            exact im_o _ _ _ hk
          · refine VR_cp (v := 8) (v' := 48) hR.1 ?_ ?_ ?_ ?_ ?_ ?_ ?_ ?_ ?_ ?_ ?_ ?_
            all_goals simp (disch := decide) only [tp_57_17, tk_48_8, up_o, up_s, ud_s, ud_o, Nat.reduceAdd]
            all_goals first | trivial | exact ⟨trivial, trivial⟩ | exact ⟨fun j hj => sb_cpy0 hj, fun j hj => sb_cpy0 hj⟩ | (intro j hj; exact sb_cpy0 hj) | (intro k hk; exact im_i _ _ _ hk)
  · simp (disch := decide) only [u95_0, u95_1, u95_2, u95_3, u95_6, u95_9, u95_10, u95_12, u95_15, u95_16, u95_17, u95_20, u95_21, u95_22, u95_23, u95_26, u95_29, u95_30, u95_33, u95_34, u95_35, u95_38, u95_39, u95_42, u95_45, u95_48, u95_49, u95_52, u95_53, u95_54, u95_55, u95_56, c100, c103b, bi_0, h1, not_true, not_false_eq_true, if_true, if_false, la_0, kLt, true_and]
    refine ⟨_, _, _, rfl, rfl, up_o _ _ (by decide), up_o _ _ (by decide), ?_⟩
    simp (disch := first | assumption | omega | decide | exact la_87 | exact la_88 | exact la_90 | exact la_91 | exact la_92 | exact la_93 | exact la_94 | exact la_95 | exact la_96 | exact la_97 | exact la_98 | exact la_99 | exact la_10 | exact la_23 | exact la_77 | exact la_78 | exact la_18 | exact la_19 | exact la_20) only [u188_0, u188_1, u188_2, u188_3, u188_4, u188_7, u188_10, u188_11, u188_13, u188_16, u188_17, u188_18, u188_19, u188_20, u188_23, u188_26, u188_27, u188_30, u188_33, u188_34, u188_35, u188_36, u188_37, u188_38, u188_41, u188_42, u188_43, u188_44, u188_50, u188_51, u188_54, u188_55, u188_56, u188_57, u188_58, c113n, c114, bi_0, h1, not_true, not_false_eq_true, if_true, if_false, la_86, kLt, true_and]
    exact fin_bad' hR
theorem KR_cases {I : Nat → Nat → Int32} {i B : Nat} (h : KR I i B) : (I 61 i = 0 ∧ I 89 i = 0) ∨ (I 61 i = 1 ∧ I 89 i = 1 ∧ VR I (35 + 13 * i) (fun k => I 88 (142 * i + k)) B) := h
theorem op32 (a : Int32) : OpI 96 [.ref 0, .int a] 189 [.ref 86, .int a, .null] := by
  intro I J B hR hB
  by_cases h1 : 0 ≤ a ∧ a ≤ 1
  · obtain ⟨k, hk, rfl⟩ := o_in (m := 1) h1.1 h1.2 (by omega)
    obtain rfl | rfl : k = 0 ∨ k = 1 := by omega
    · rw [show Int32.ofNat 0 = 0 from rfl] at *
      rcases KR_cases hR.2.1 with ⟨k1, k2⟩ | ⟨k1, k2, k3⟩
      · simp (disch := first | exact Or.inr la_61 | decide) only [u96_0, u96_1, u96_2, u96_3, u96_6, u96_9, u96_10, u96_12, u96_15, u96_16, u96_17, u96_20, u96_21, u96_22, u96_25, u96_26, u96_28, u96_31, u96_32, u96_33, u96_36, u96_37, u96_40, u96_41, u96_42, u96_45, u96_46, u96_49, u96_52, u96_53, u96_56, u96_57, u96_58, u96_61, u96_64, u96_65, c100, c103n, bi_0, h1, k1, not_true, not_false_eq_true, if_true, if_false, la_0, la_61, lt_61, lr_0_3, kLt, true_and, o_tl, o_inl, Nat.reduceLT]
        refine ⟨_, _, _, rfl, rfl, up_o _ _ (by decide), up_o _ _ (by decide), ?_⟩
        simp (disch := first | exact Or.inr la_89 | decide) only [u189_0, u189_1, u189_2, u189_3, u189_4, u189_7, u189_10, u189_11, u189_13, u189_16, u189_17, u189_18, u189_21, u189_22, u189_23, u189_26, u189_27, u189_30, u189_31, u189_32, u189_33, u189_34, u189_37, u189_40, u189_41, u189_44, u189_45, u189_46, u189_49, u189_52, u189_53, u189_54, u189_55, u189_56, u189_57, u189_58, u189_64, u189_65, c113n, c115, bi_0, h1, k2, not_true, not_false_eq_true, if_true, if_false, la_86, la_89, lt_89, lr_86_2, kLt, true_and, o_tl, o_inl, Nat.reduceLT, up_o]
        exact fin_no' hR
      · simp (disch := first | exact Or.inr la_61 | decide) only [u96_0, u96_1, u96_2, u96_3, u96_6, u96_9, u96_10, u96_12, u96_15, u96_16, u96_17, u96_20, u96_21, u96_22, u96_25, u96_26, u96_28, u96_31, u96_32, u96_33, u96_36, u96_37, u96_40, u96_41, u96_42, u96_45, u96_46, u96_49, u96_52, u96_53, u96_56, u96_57, u96_58, u96_61, u96_64, u96_65, c100, c43_8_35, c10_17_44, bi_0, h1, k1, show ¬ (1 : Int32) = 0 by decide, not_true, not_false_eq_true, if_true, if_false, la_0, la_8, la_17, la_61, lt_61, la_34, lk_34, lt_34, lr_34_0, lr_0_0, lr_0_2, lr_0_3, lr_8_5, la_35, la_44, lr_35_5, kLt, true_and, and_self, o_tl, o_inl, Nat.reduceLT]
        refine ⟨_, _, _, rfl, rfl, ?_, ?_, ?_⟩
        · simp (disch := decide) only [tp_17_44, tk_8_35, up_o]
        · simp (disch := decide) only [tp_17_44, tk_8_35, up_o]
        generalize hI1 : tp_17_44 (tk_8_35 I) = I1
        have hm : ∀ q, 86 ≤ q → I1 q = I q := by
          intro q hq
          rw [← hI1]
          simp (disch := omega) only [tp_17_44, tk_8_35, up_o]
        simp (disch := first | exact Or.inr la_89 | decide) only [u189_0, u189_1, u189_2, u189_3, u189_4, u189_7, u189_10, u189_11, u189_13, u189_16, u189_17, u189_18, u189_21, u189_22, u189_23, u189_26, u189_27, u189_30, u189_31, u189_32, c113n, bi_0, h1, hm 89 (by decide), k2, show ¬ (1 : Int32) = 0 by decide, not_true, not_false_eq_true, if_true, if_false, la_86, la_89, lt_89, lr_86_2, kLt, true_and, o_tl, o_inl, Nat.reduceLT]
        refine Rn_fr (n := 142) (X := Unit) (fun k _ => [.ref 86, .int 0, .int (Int32.ofNat k)]) (fun k _ => Sg (va_up I1 87 (im 0 (I1 87) (fun j => I1 88 (142 * 0 + j)) k)) J) () rfl (by rw [im_0, up_i]) ?_ ?_
        · intro k hk _ ih
          have ih := ih ()
          rw [← im_s] at ih
          have e0 : ∀ f : Nat → Int32, ∀ x, upd f (142 * 0 + k) x = upd f k x := fun f x => by rw [show 142 * 0 + k = k by omega]
          rw [e0] at ih
          have hnk : ¬ 142 ≤ k := by omega
          simp (disch := first | assumption | omega | decide | exact la_87 | exact la_88 | exact la_90 | exact la_91 | exact la_92 | exact la_93 | exact la_94 | exact la_95 | exact la_96 | exact la_97 | exact la_98 | exact la_99 | exact la_10 | exact la_23 | exact la_77 | exact la_78 | exact la_18 | exact la_19 | exact la_20) only [u189_33, u189_34, u189_37, u189_40, u189_41, u189_44, u189_45, u189_46, u189_49, u189_52, u189_53, u189_54, u189_55, u189_56, u189_57, u189_58, la_86, la_87, la_88, lt_87, lt_88, lr_86_0, lr_86_1, kLt, true_and, o_aa, o_al, o_la, o_mm, o_ml, o_lm, o_ss, o_sl, o_ls, o_tn, o_tl, o_lt, o_ltl, o_llt, o_le, o_lel, o_lle, o_eq, o_eql, o_leq, o_inb, o_inl, o_neg, hnk, hk, if_false, up_s, up_o, up_u, wI_d, show (142 : Int32) * 0 = Int32.ofNat (142 * 0) by decide, show 142 * 0 + k < 284 by omega]
          exact (u189_61 ..).mpr ih
        · intro _
          simp (disch := first | assumption | omega | decide | exact la_87 | exact la_88 | exact la_90 | exact la_91 | exact la_92 | exact la_93 | exact la_94 | exact la_95 | exact la_96 | exact la_97 | exact la_98 | exact la_99 | exact la_10 | exact la_23 | exact la_77 | exact la_78 | exact la_18 | exact la_19 | exact la_20) only [u189_33, u189_34, u189_37, u189_40, u189_41, u189_44, u189_45, u189_46, u189_49, u189_52, u189_53, u189_54, u189_55, u189_56, u189_57, u189_58, u189_64, u189_65, o_aa, o_al, o_la, o_mm, o_ml, o_lm, o_ss, o_sl, o_ls, o_tn, o_tl, o_lt, o_ltl, o_llt, o_le, o_lel, o_lle, o_eq, o_eql, o_leq, o_inb, o_inl, o_neg, Nat.le_refl, if_true, true_and]
          refine ⟨_, _, rfl, ?_, ?_, ?_⟩
          · rw [up_o _ _ (by decide), hm 999 (by omega)]
          · rw [up_o _ _ (by decide), hm 1000 (by omega)]
          · rw [hm 87 (by omega), hm 88 (by omega), ← hI1]
            refine Rel_now hR (by omega) ?_ (fun q g1 g2 g3 g4 g5 => by simp (disch := omega) only [tp_17_44, tk_8_35, up_o]) (by simp (disch := decide) only [tp_17_44, tk_8_35, up_o]) (by simp (disch := decide) only [tp_17_44, tk_8_35, up_o]) ⟨rfl, rfl, rfl, rfl⟩
            refine VR_le (VR_cp (v := 35) (v' := 8) k3 ?_ ?_ ?_ ?_ ?_ ?_ ?_ ?_ ?_ ?_ ?_ ?_) (by omega)
            all_goals simp (disch := decide) only [tp_17_44, tk_8_35, up_o, up_s, ud_s, ud_o, Nat.reduceAdd]
            all_goals first | trivial | exact ⟨trivial, trivial⟩ | exact ⟨fun j hj => sb_cpy0 hj, fun j hj => sb_cpy0 hj⟩ | (intro j hj; exact sb_cpy0 hj) | (intro k hk; rw [← im_i 0 (I 87) (fun j => I 88 (142 * 0 + j)) hk, show 142 * 0 + k = k by omega])
    · rw [show Int32.ofNat 1 = 1 from rfl] at *
      rcases KR_cases hR.2.2.1 with ⟨k1, k2⟩ | ⟨k1, k2, k3⟩
      · simp (disch := first | exact Or.inr la_61 | decide) only [u96_0, u96_1, u96_2, u96_3, u96_6, u96_9, u96_10, u96_12, u96_15, u96_16, u96_17, u96_20, u96_21, u96_22, u96_25, u96_26, u96_28, u96_31, u96_32, u96_33, u96_36, u96_37, u96_40, u96_41, u96_42, u96_45, u96_46, u96_49, u96_52, u96_53, u96_56, u96_57, u96_58, u96_61, u96_64, u96_65, c100, c103n, bi_0, h1, k1, not_true, not_false_eq_true, if_true, if_false, la_0, la_61, lt_61, lr_0_3, kLt, true_and, o_tl, o_inl, Nat.reduceLT]
        refine ⟨_, _, _, rfl, rfl, up_o _ _ (by decide), up_o _ _ (by decide), ?_⟩
        simp (disch := first | exact Or.inr la_89 | decide) only [u189_0, u189_1, u189_2, u189_3, u189_4, u189_7, u189_10, u189_11, u189_13, u189_16, u189_17, u189_18, u189_21, u189_22, u189_23, u189_26, u189_27, u189_30, u189_31, u189_32, u189_33, u189_34, u189_37, u189_40, u189_41, u189_44, u189_45, u189_46, u189_49, u189_52, u189_53, u189_54, u189_55, u189_56, u189_57, u189_58, u189_64, u189_65, c113n, c115, bi_0, h1, k2, not_true, not_false_eq_true, if_true, if_false, la_86, la_89, lt_89, lr_86_2, kLt, true_and, o_tl, o_inl, Nat.reduceLT, up_o]
        exact fin_no' hR
      · simp (disch := first | exact Or.inr la_61 | decide) only [u96_0, u96_1, u96_2, u96_3, u96_6, u96_9, u96_10, u96_12, u96_15, u96_16, u96_17, u96_20, u96_21, u96_22, u96_25, u96_26, u96_28, u96_31, u96_32, u96_33, u96_36, u96_37, u96_40, u96_41, u96_42, u96_45, u96_46, u96_49, u96_52, u96_53, u96_56, u96_57, u96_58, u96_61, u96_64, u96_65, c100, c43_8_48, c10_17_57, bi_0, h1, k1, show ¬ (1 : Int32) = 0 by decide, not_true, not_false_eq_true, if_true, if_false, la_0, la_8, la_17, la_61, lt_61, la_34, lk_34, lt_34, lr_34_1, lr_0_0, lr_0_2, lr_0_3, lr_8_5, la_48, la_57, lr_48_5, kLt, true_and, and_self, o_tl, o_inl, Nat.reduceLT]
        refine ⟨_, _, _, rfl, rfl, ?_, ?_, ?_⟩
        · simp (disch := decide) only [tp_17_57, tk_8_48, up_o]
        · simp (disch := decide) only [tp_17_57, tk_8_48, up_o]
        generalize hI1 : tp_17_57 (tk_8_48 I) = I1
        have hm : ∀ q, 86 ≤ q → I1 q = I q := by
          intro q hq
          rw [← hI1]
          simp (disch := omega) only [tp_17_57, tk_8_48, up_o]
        simp (disch := first | exact Or.inr la_89 | decide) only [u189_0, u189_1, u189_2, u189_3, u189_4, u189_7, u189_10, u189_11, u189_13, u189_16, u189_17, u189_18, u189_21, u189_22, u189_23, u189_26, u189_27, u189_30, u189_31, u189_32, c113n, bi_0, h1, hm 89 (by decide), k2, show ¬ (1 : Int32) = 0 by decide, not_true, not_false_eq_true, if_true, if_false, la_86, la_89, lt_89, lr_86_2, kLt, true_and, o_tl, o_inl, Nat.reduceLT]
        refine Rn_fr (n := 142) (X := Unit) (fun k _ => [.ref 86, .int 1, .int (Int32.ofNat k)]) (fun k _ => Sg (va_up I1 87 (im 0 (I1 87) (fun j => I1 88 (142 * 1 + j)) k)) J) () rfl (by rw [im_0, up_i]) ?_ ?_
        · intro k hk _ ih
          have ih := ih ()
          rw [← im_s] at ih
          have e0 : ∀ f : Nat → Int32, ∀ x, upd f (142 * 0 + k) x = upd f k x := fun f x => by rw [show 142 * 0 + k = k by omega]
          rw [e0] at ih
          have hnk : ¬ 142 ≤ k := by omega
          simp (disch := first | assumption | omega | decide | exact la_87 | exact la_88 | exact la_90 | exact la_91 | exact la_92 | exact la_93 | exact la_94 | exact la_95 | exact la_96 | exact la_97 | exact la_98 | exact la_99 | exact la_10 | exact la_23 | exact la_77 | exact la_78 | exact la_18 | exact la_19 | exact la_20) only [u189_33, u189_34, u189_37, u189_40, u189_41, u189_44, u189_45, u189_46, u189_49, u189_52, u189_53, u189_54, u189_55, u189_56, u189_57, u189_58, la_86, la_87, la_88, lt_87, lt_88, lr_86_0, lr_86_1, kLt, true_and, o_aa, o_al, o_la, o_mm, o_ml, o_lm, o_ss, o_sl, o_ls, o_tn, o_tl, o_lt, o_ltl, o_llt, o_le, o_lel, o_lle, o_eq, o_eql, o_leq, o_inb, o_inl, o_neg, hnk, hk, if_false, up_s, up_o, up_u, wI_d, show (142 : Int32) * 1 = Int32.ofNat (142 * 1) by decide, show 142 * 1 + k < 284 by omega]
          exact (u189_61 ..).mpr ih
        · intro _
          simp (disch := first | assumption | omega | decide | exact la_87 | exact la_88 | exact la_90 | exact la_91 | exact la_92 | exact la_93 | exact la_94 | exact la_95 | exact la_96 | exact la_97 | exact la_98 | exact la_99 | exact la_10 | exact la_23 | exact la_77 | exact la_78 | exact la_18 | exact la_19 | exact la_20) only [u189_33, u189_34, u189_37, u189_40, u189_41, u189_44, u189_45, u189_46, u189_49, u189_52, u189_53, u189_54, u189_55, u189_56, u189_57, u189_58, u189_64, u189_65, o_aa, o_al, o_la, o_mm, o_ml, o_lm, o_ss, o_sl, o_ls, o_tn, o_tl, o_lt, o_ltl, o_llt, o_le, o_lel, o_lle, o_eq, o_eql, o_leq, o_inb, o_inl, o_neg, Nat.le_refl, if_true, true_and]
          refine ⟨_, _, rfl, ?_, ?_, ?_⟩
          · rw [up_o _ _ (by decide), hm 999 (by omega)]
          · rw [up_o _ _ (by decide), hm 1000 (by omega)]
          · rw [hm 87 (by omega), hm 88 (by omega), ← hI1]
            refine Rel_now hR (by omega) ?_ (fun q g1 g2 g3 g4 g5 => by simp (disch := omega) only [tp_17_57, tk_8_48, up_o]) (by simp (disch := decide) only [tp_17_57, tk_8_48, up_o]) (by simp (disch := decide) only [tp_17_57, tk_8_48, up_o]) ⟨rfl, rfl, rfl, rfl⟩
            refine VR_le (VR_cp (v := 48) (v' := 8) k3 ?_ ?_ ?_ ?_ ?_ ?_ ?_ ?_ ?_ ?_ ?_ ?_) (by omega)
            all_goals simp (disch := decide) only [tp_17_57, tk_8_48, up_o, up_s, ud_s, ud_o, Nat.reduceAdd]
            all_goals first | trivial | exact ⟨trivial, trivial⟩ | exact ⟨fun j hj => sb_cpy0 hj, fun j hj => sb_cpy0 hj⟩ | (intro j hj; exact sb_cpy0 hj) | (intro k hk; rw [← im_i 0 (I 87) (fun j => I 88 (142 * 1 + j)) hk, show 142 * 0 + k = k by omega])
  · simp (disch := decide) only [u96_0, u96_1, u96_2, u96_3, u96_6, u96_9, u96_10, u96_12, u96_15, u96_16, u96_17, u96_20, u96_22, u96_25, u96_26, u96_28, u96_31, u96_32, u96_33, u96_36, u96_37, u96_40, u96_41, u96_42, u96_45, u96_46, u96_49, u96_52, u96_53, u96_56, u96_57, u96_58, u96_61, u96_64, u96_65, c100, c103b, bi_0, h1, not_true, not_false_eq_true, if_true, if_false, la_0, kLt, true_and]
    refine ⟨_, _, _, rfl, rfl, up_o _ _ (by decide), up_o _ _ (by decide), ?_⟩
    simp (disch := first | assumption | omega | decide | exact la_87 | exact la_88 | exact la_90 | exact la_91 | exact la_92 | exact la_93 | exact la_94 | exact la_95 | exact la_96 | exact la_97 | exact la_98 | exact la_99 | exact la_10 | exact la_23 | exact la_77 | exact la_78 | exact la_18 | exact la_19 | exact la_20) only [u189_0, u189_1, u189_2, u189_3, u189_4, u189_7, u189_10, u189_11, u189_13, u189_16, u189_17, u189_18, u189_21, u189_23, u189_26, u189_27, u189_30, u189_31, u189_32, u189_33, u189_34, u189_37, u189_40, u189_41, u189_44, u189_45, u189_46, u189_49, u189_52, u189_53, u189_54, u189_55, u189_56, u189_57, u189_58, u189_64, u189_65, c113n, c114, bi_0, h1, not_true, not_false_eq_true, if_true, if_false, la_86, kLt, true_and]
    exact fin_bad' hR
