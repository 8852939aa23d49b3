/-! THE TEXT: what an item is -/
def wm (c : Nat → Nat) (z a q : Nat) : Bool := if sr c z q = 1 then wdb c a (sk c z q) (en c z q) else false
def vI (c : Nat → Nat) (z q : Nat) : Int32 := if sr c z q = 2 ∧ en c z q - sk c z q ≤ 2 then vlu c (sk c z q) (en c z q - sk c z q) else -1
abbrev gd (c : Nat → Nat) (z q : Nat) (lo hi : Int32) : Prop := lo ≤ vI c z q ∧ vI c z q ≤ hi
def TX (I : Nat → Nat → Int32) (c : Nat → Nat) (z : Nat) : Prop := z ≤ 150 ∧ I 62 3 = Int32.ofNat z ∧ I 86 15 = Int32.ofNat z ∧ ∀ j, j < z → c j < 128 ∧ I 76 j = Int32.ofNat (c j) ∧ I 97 j = Int32.ofNat (c j)
theorem TX_of {I : Nat → Nat → Int32} {J : Nat → Nat → Int64} {B : Nat} (h : Rel I J B) : ∃ c z, TX I c z := by
  obtain ⟨-, -, -, ⟨z, hz, a1, a2, a3⟩, -⟩ := h
  refine ⟨fun j => (I 76 j).toNatClampNeg, z, hz, a1, a2, fun j hj => ?_⟩
  obtain ⟨x, hx, x1, x2⟩ := a3 j hj
  dsimp only
  rw [x1, o_tn (by omega)]
  exact ⟨hx, rfl, x2⟩
/-- the reference at the token q, with what it has taken -/
def MS (I : Nat → Nat → Int32) (c : Nat → Nat) (z : Nat) (A : Nat → Int32) (q : Nat) (Z : Nat → Nat → Int32) : Prop := Sc I Z ∧ Z 98 = A ∧ Z 86 16 = Int32.ofNat (sk c z q) ∧ Z 86 17 = Int32.ofNat (en c z q - sk c z q) ∧ Z 86 18 = Int32.ofNat (srm c z q) ∧ Z 86 19 = vlm c z q
section TAKES
variable {m pc : Nat} {ls st : Vs} {I Z : Nat → Nat → Int32} {J : Nat → Nat → Int64} {Q : Option Value → Sto → Prop} {c : Nat → Nat} {z q : Nat} {A : Nat → Int32}
theorem TX.tm (h : TX I c z) (hS : Sc I Z) : Txm Z c z := ⟨h.1, hS.2.2.trans h.2.2.1, fun j hj => ⟨(h.2.2.2 j hj).1, by rw [hS.1 97 (by decide) (by decide) (by decide)]; exact (h.2.2.2 j hj).2.2⟩⟩
theorem TX.tc (h : TX I c z) (hS : Sc I Z) : Tx Z c z := ⟨h.1, hS.2.1.trans h.2.1, fun j hj => ⟨(h.2.2.2 j hj).1, by rw [hS.1 76 (by decide) (by decide) (by decide)]; exact (h.2.2.2 j hj).2.1⟩⟩
theorem MS_lk (hS : Sc I Z) (hA : Z 98 = A) (q : Nat) : MS I c z A q (lkX c z Z q) := by
  refine ⟨hS.u86 (u4_15 ..), ?_, ?_, ?_, ?_, ?_⟩
  · unfold lkX; rw [up_o _ _ (by decide)]; exact hA
  · unfold lkX; rw [up_s, u4_16]
  · unfold lkX; rw [up_s, u4_17]
  · unfold lkX; rw [up_s, u4_18]
  · unfold lkX; rw [up_s, u4_19]
theorem MS.u98 (h : MS I c z A q Z) (f : Nat → Int32) : MS I c z f q (va_up Z 98 f) := by
  obtain ⟨h1, h2, h3, h4, h5, h6⟩ := h
  refine ⟨h1.up (by decide) _, up_s _ _ _, ?_, ?_, ?_, ?_⟩
  · rw [up_o _ _ (by decide)]; exact h3
  · rw [up_o _ _ (by decide)]; exact h4
  · rw [up_o _ _ (by decide)]; exact h5
  · rw [up_o _ _ (by decide)]; exact h6
theorem lk_f (Z : Nat → Nat → Int32) (q : Nat) {r : Nat} (h : ¬ r = 86) : lkX c z Z q r = Z r := up_o _ _ h
theorem srm_1 : srm c z q = 1 ↔ sr c z q = 1 := by
  unfold srm
  by_cases h : sr c z q = 2 ∧ 2 < en c z q - sk c z q
  · rw [if_pos h]; omega
  · rw [if_neg h]
theorem srm_2 : srm c z q = 2 ↔ sr c z q = 2 ∧ en c z q - sk c z q ≤ 2 := by
  unfold srm
  by_cases h : sr c z q = 2 ∧ 2 < en c z q - sk c z q
  · rw [if_pos h]; omega
  · rw [if_neg h]; omega
theorem srm_3 : srm c z q = 3 ↔ sr c z q = 3 := by
  unfold srm
  by_cases h : sr c z q = 2 ∧ 2 < en c z q - sk c z q
  · rw [if_pos h]; omega
  · rw [if_neg h]
theorem srm_0 : srm c z q = 0 ↔ sr c z q = 0 := by
  unfold srm
  by_cases h : sr c z q = 2 ∧ 2 < en c z q - sk c z q
  · rw [if_pos h]; omega
  · rw [if_neg h]
theorem srm_le : srm c z q ≤ 4 := by
  unfold srm
  have := sr_le c z q
  by_cases h : sr c z q = 2 ∧ 2 < en c z q - sk c z q
  · rw [if_pos h]; omega
  · rw [if_neg h]; omega
theorem c178 (hT : TX I c z) (hM : MS I c z A q Z) (hq : q ≤ z) : Ca 178 [.ref 86] (Sg Z J) m pc ls st Q ↔ Rn m pc ls st (Sg (lkX c z Z (en c z q)) J) Q := Ca_of (r := none) (fun Q h => by
  obtain ⟨h1, -, h3, h4, -⟩ := hM
  have hl := en_le c hq
  have hz := hT.1
  have h177 := fun (pc : Nat) (ls st : Vs) => @c177 178 pc ls st Z J Q c z (en c z q) (hT.tm h1) hl.2.1
  have e : sk c z q + (en c z q - sk c z q) = en c z q := by omega
  clear hT h1
  simp (disch := first | assumption | omega | decide | exact la_87 | exact la_88 | exact la_90 | exact la_91 | exact la_92 | exact la_93 | exact la_94 | exact la_95 | exact la_96 | exact la_97 | exact la_98 | exact la_99 | exact la_10 | exact la_23 | exact la_77 | exact la_78 | exact la_18 | exact la_19 | exact la_20) only [u178_0, u178_1, u178_2, u178_5, u178_6, u178_9, u178_10, u178_13, la_86, kLt, true_and, h3, h4, o_aa, e, h177]
  exact h)
def pk6 (x0 x1 x2 x3 x4 x5 : Int32) (i : Nat) : Int32 := if i = 0 then x0 else if i = 1 then x1 else if i = 2 then x2 else if i = 3 then x3 else if i = 4 then x4 else x5
theorem iw_s (l x0 x1 x2 x3 x4 x5 f b : Int32) (i : Nat) (hi : i < 6) {σ : Sto} (h : Rn 179 103 [.ref 86, .int l, .int x0, .int x1, .int x2, .int x3, .int x4, .int x5, .int f, .int (Int32.ofNat i)] [.int (pk6 x0 x1 x2 x3 x4 x5 i), .int b] σ Q) : Rn 179 49 [.ref 86, .int l, .int x0, .int x1, .int x2, .int x3, .int x4, .int x5, .int f, .int (Int32.ofNat i)] [.int b] σ Q := by
  obtain rfl | rfl | rfl | rfl | rfl | rfl : i = 0 ∨ i = 1 ∨ i = 2 ∨ i = 3 ∨ i = 4 ∨ i = 5 := by omega
  · simp only [u179_49, u179_51, u179_54, u179_55, u179_58, u179_60, u179_61, u179_64, u179_65, u179_68, u179_70, u179_71, u179_74, u179_76, u179_79, u179_81, u179_82, u179_85, u179_87, u179_90, u179_92, u179_93, u179_96, u179_98, u179_101, show ¬ ¬ Int32.ofNat 0 = 0 by decide, if_false]; exact h
  · simp only [u179_49, u179_51, u179_54, u179_55, u179_58, u179_60, u179_61, u179_64, u179_65, u179_68, u179_70, u179_71, u179_74, u179_76, u179_79, u179_81, u179_82, u179_85, u179_87, u179_90, u179_92, u179_93, u179_96, u179_98, u179_101, show ¬ Int32.ofNat 1 = 0 by decide, show ¬ ¬ Int32.ofNat 1 = 1 by decide, not_false_eq_true, if_true, if_false]; exact h
  · simp only [u179_49, u179_51, u179_54, u179_55, u179_58, u179_60, u179_61, u179_64, u179_65, u179_68, u179_70, u179_71, u179_74, u179_76, u179_79, u179_81, u179_82, u179_85, u179_87, u179_90, u179_92, u179_93, u179_96, u179_98, u179_101, show ¬ Int32.ofNat 2 = 0 by decide, show ¬ Int32.ofNat 2 = 1 by decide, show ¬ ¬ Int32.ofNat 2 = 2 by decide, not_false_eq_true, if_true, if_false]; exact h
  · simp only [u179_49, u179_51, u179_54, u179_55, u179_58, u179_60, u179_61, u179_64, u179_65, u179_68, u179_70, u179_71, u179_74, u179_76, u179_79, u179_81, u179_82, u179_85, u179_87, u179_90, u179_92, u179_93, u179_96, u179_98, u179_101, show ¬ Int32.ofNat 3 = 0 by decide, show ¬ Int32.ofNat 3 = 1 by decide, show ¬ Int32.ofNat 3 = 2 by decide, show ¬ ¬ Int32.ofNat 3 = 3 by decide, not_false_eq_true, if_true, if_false]; exact h
  · simp only [u179_49, u179_51, u179_54, u179_55, u179_58, u179_60, u179_61, u179_64, u179_65, u179_68, u179_70, u179_71, u179_74, u179_76, u179_79, u179_81, u179_82, u179_85, u179_87, u179_90, u179_92, u179_93, u179_96, u179_98, u179_101, show ¬ Int32.ofNat 4 = 0 by decide, show ¬ Int32.ofNat 4 = 1 by decide, show ¬ Int32.ofNat 4 = 2 by decide, show ¬ Int32.ofNat 4 = 3 by decide, show ¬ ¬ Int32.ofNat 4 = 4 by decide, not_false_eq_true, if_true, if_false]; exact h
  · simp only [u179_49, u179_51, u179_54, u179_55, u179_58, u179_60, u179_61, u179_64, u179_65, u179_68, u179_70, u179_71, u179_74, u179_76, u179_79, u179_81, u179_82, u179_85, u179_87, u179_90, u179_92, u179_93, u179_96, u179_98, u179_101, show ¬ Int32.ofNat 5 = 0 by decide, show ¬ Int32.ofNat 5 = 1 by decide, show ¬ Int32.ofNat 5 = 2 by decide, show ¬ Int32.ofNat 5 = 3 by decide, show ¬ Int32.ofNat 5 = 4 by decide, not_false_eq_true, if_true, if_false]; exact h
theorem iw_m (a s : Nat) (x0 x1 x2 x3 x4 x5 : Int32) (ha : a < 5) (hx : ∀ i, i < 6 → i < wln a → pk6 x0 x1 x2 x3 x4 x5 i = wg a i) (hX : Txm Z c z) (hs : s + wln a ≤ z) (e16 : Z 86 16 = Int32.ofNat s) : ∀ d i, i + d = wln a → Q (some (.int (bb (wdf c a s d i)))) (Sg Z J) → Rn 179 26 [.ref 86, .int (Int32.ofNat (wln a)), .int x0, .int x1, .int x2, .int x3, .int x4, .int x5, .int 1, .int (Int32.ofNat i)] [] (Sg Z J) Q := by
  obtain ⟨hz, e3, et⟩ := hX
  have hw := wln_le a ha
  intro d
  induction d with
  | zero =>
    intro i hi h
    obtain rfl : i = wln a := by omega
    clear et hx
    simp (disch := first | assumption | omega | decide | exact la_87 | exact la_88 | exact la_90 | exact la_91 | exact la_92 | exact la_93 | exact la_94 | exact la_95 | exact la_96 | exact la_97 | exact la_98 | exact la_99 | exact la_10 | exact la_23 | exact la_77 | exact la_78 | exact la_18 | exact la_19 | exact la_20) only [u179_26, u179_28, u179_29, u179_119, u179_121, o_aa, o_al, o_la, o_mm, o_ml, o_lm, o_ss, o_sl, o_ls, o_tn, o_tl, o_lt, o_ltl, o_llt, o_le, o_lel, o_lle, o_eq, o_eql, o_leq, o_inb, o_inl, o_neg, Nat.le_refl, if_true]
    exact ⟨Or.inr trivial, h⟩
  | succ d ih =>
    intro i hi h
    have ih := ih (i + 1) (by omega)
    obtain ⟨hc, ec⟩ := et (s + i) (by omega)
    have hxi := hx i (by omega) (by omega)
    have hn : ¬ wln a ≤ i := by omega
    rw [wdf_s] at h
    clear et hx
    simp (disch := first | assumption | omega | decide | exact la_87 | exact la_88 | exact la_90 | exact la_91 | exact la_92 | exact la_93 | exact la_94 | exact la_95 | exact la_96 | exact la_97 | exact la_98 | exact la_99 | exact la_10 | exact la_23 | exact la_77 | exact la_78 | exact la_18 | exact la_19 | exact la_20) only [u179_26, u179_28, u179_29, u179_32, u179_34, u179_37, u179_38, u179_41, u179_42, u179_45, u179_47, u179_48, la_86, la_97, lt_97, lr_86_14, kLt, true_and, e16, ec, o_aa, o_al, o_la, o_mm, o_ml, o_lm, o_ss, o_sl, o_ls, o_tn, o_tl, o_lt, o_ltl, o_llt, o_le, o_lel, o_lle, o_eq, o_eql, o_leq, o_inb, o_inl, o_neg, hn, if_false, show s + i < 150 by omega, show ¬ (1 : Int32) = 0 by decide]
    refine iw_s _ _ _ _ _ _ _ _ _ i (by omega) ?_
    rw [hxi]
    simp only [u179_103]
    by_cases h1 : Int32.ofNat (c (s + i)) = wg a i
    · rw [if_pos h1] at h
      rw [if_neg (fun w => w h1)]
      simp (disch := first | assumption | omega | decide | exact la_87 | exact la_88 | exact la_90 | exact la_91 | exact la_92 | exact la_93 | exact la_94 | exact la_95 | exact la_96 | exact la_97 | exact la_98 | exact la_99 | exact la_10 | exact la_23 | exact la_77 | exact la_78 | exact la_18 | exact la_19 | exact la_20) only [u179_106, u179_107, u179_110, u179_111, u179_113, o_aa, o_al, o_la, o_mm, o_ml, o_lm, o_ss, o_sl, o_ls, o_tn, o_tl, o_lt, o_ltl, o_llt, o_le, o_lel, o_lle, o_eq, o_eql, o_leq, o_inb, o_inl, o_neg]
      exact (u179_116 ..).mpr (ih h)
    · rw [if_neg h1] at h
      rw [if_pos h1]
      simp (disch := first | assumption | omega | decide | exact la_87 | exact la_88 | exact la_90 | exact la_91 | exact la_92 | exact la_93 | exact la_94 | exact la_95 | exact la_96 | exact la_97 | exact la_98 | exact la_99 | exact la_10 | exact la_23 | exact la_77 | exact la_78 | exact la_18 | exact la_19 | exact la_20) only [u179_110, u179_111, u179_113, o_aa, o_al, o_la, o_mm, o_ml, o_lm, o_ss, o_sl, o_ls, o_tn, o_tl, o_lt, o_ltl, o_llt, o_le, o_lel, o_lle, o_eq, o_eql, o_leq, o_inb, o_inl, o_neg]
      rw [u179_116]
      clear ih
      simp (disch := first | assumption | omega | decide | exact la_87 | exact la_88 | exact la_90 | exact la_91 | exact la_92 | exact la_93 | exact la_94 | exact la_95 | exact la_96 | exact la_97 | exact la_98 | exact la_99 | exact la_10 | exact la_23 | exact la_77 | exact la_78 | exact la_18 | exact la_19 | exact la_20) only [u179_26, u179_28, u179_29, u179_32, u179_34, u179_119, u179_121, o_aa, o_al, o_la, o_mm, o_ml, o_lm, o_ss, o_sl, o_ls, o_tn, o_tl, o_lt, o_ltl, o_llt, o_le, o_lel, o_lle, o_eq, o_eql, o_leq, o_inb, o_inl, o_neg, if_true]
      by_cases h3 : wln a ≤ i + 1
      · rw [if_pos h3]; exact ⟨Or.inl trivial, h⟩
      · rw [if_neg h3]; exact ⟨Or.inl trivial, h⟩
theorem c179 (a : Nat) (l x0 x1 x2 x3 x4 x5 : Int32) (ha : a < 5) (hl : l = Int32.ofNat (wln a)) (hx : ∀ i, i < 6 → i < wln a → pk6 x0 x1 x2 x3 x4 x5 i = wg a i) (hT : TX I c z) (hM : MS I c z A q Z) (hq : q ≤ z) : Ca 179 [.ref 86, .int l, .int x0, .int x1, .int x2, .int x3, .int x4, .int x5, .null, .null] (Sg Z J) m pc ls st Q ↔ Rn m pc ls (.int (bb (wm c z a q)) :: st) (Sg Z J) Q := Ca_of (r := some (.int (bb (wm c z a q)))) (fun Q h => by
  subst hl
  obtain ⟨h1, -, h3, h4, h5, -⟩ := hM
  have hw := wln_le a ha
  have hsl := sk_le c hq
  have hel := en_le c hq
  have hz := hT.1
  have hs1 := @srm_1 c z q
  have hs4 := @srm_le c z q
  have hgo := iw_m (Q := Q) (J := J) (c := c) (z := z) (Z := Z) a (sk c z q) x0 x1 x2 x3 x4 x5 ha hx (hT.tm h1)
  unfold wm wdb at h
  generalize srm c z q = k at h5 hs1 hs4
  generalize en c z q = e at h h4 hel
  generalize sk c z q = s at h h3 h4 hsl hel hgo
  clear hT h1 hx
  have hz0 : ¬ Int32.ofNat (wln a) ≤ 0 := by
    rw [show (0 : Int32) = Int32.ofNat 0 from rfl, o_le (by omega) (by omega)]
    omega
  simp (disch := first | assumption | omega | decide | exact la_87 | exact la_88 | exact la_90 | exact la_91 | exact la_92 | exact la_93 | exact la_94 | exact la_95 | exact la_96 | exact la_97 | exact la_98 | exact la_99 | exact la_10 | exact la_23 | exact la_77 | exact la_78 | exact la_18 | exact la_19 | exact la_20) only [u179_0, u179_1, u179_4, u179_5, la_86, kLt, true_and, h5, o_aa, o_al, o_la, o_mm, o_ml, o_lm, o_ss, o_sl, o_ls, o_tn, o_tl, o_lt, o_ltl, o_llt, o_le, o_lel, o_lle, o_eq, o_eql, o_leq, o_inb, o_inl, o_neg]
  by_cases k1 : k = 1
  · rw [if_pos (hs1.mp k1)] at h
    rw [if_neg (fun w => w k1)]
    simp (disch := first | assumption | omega | decide | exact la_87 | exact la_88 | exact la_90 | exact la_91 | exact la_92 | exact la_93 | exact la_94 | exact la_95 | exact la_96 | exact la_97 | exact la_98 | exact la_99 | exact la_10 | exact la_23 | exact la_77 | exact la_78 | exact la_18 | exact la_19 | exact la_20) only [u179_8, u179_9, u179_12, u179_13, la_86, kLt, true_and, h4, o_aa, o_al, o_la, o_mm, o_ml, o_lm, o_ss, o_sl, o_ls, o_tn, o_tl, o_lt, o_ltl, o_llt, o_le, o_lel, o_lle, o_eq, o_eql, o_leq, o_inb, o_inl, o_neg]
    by_cases k2 : wln a = e - s
    · rw [if_pos k2] at h
      rw [if_neg (fun w => w k2.symm)]
      simp only [u179_16, u179_17, u179_20, u179_21, u179_23, u179_24]
      exact hgo (by omega) h3 (wln a) 0 (by omega) h
    · rw [if_neg k2] at h
      rw [if_pos (fun w => k2 w.symm)]
      simp only [u179_20, u179_21, u179_23, u179_24, u179_26, u179_28, u179_29, u179_32, u179_34, u179_119, u179_121, hz0, if_true, if_false]
      exact ⟨Or.inl trivial, h⟩
  · rw [if_neg (fun w => k1 (hs1.mpr w))] at h
    rw [if_pos k1]
    simp only [u179_20, u179_21, u179_23, u179_24, u179_26, u179_28, u179_29, u179_32, u179_34, u179_119, u179_121, hz0, if_true, if_false]
    exact ⟨Or.inl trivial, h⟩)
theorem vlm_e (h : srm c z q = 2) : vlm c z q = vI c z q := by
  have h2 := srm_2.mp h
  unfold vlm vI
  rw [if_pos h2.1, if_pos h2, Nat.min_eq_left h2.2]
theorem gd_s {lo hi : Int32} (h0 : 0 ≤ lo) (h : gd c z q lo hi) : srm c z q = 2 := by
  rw [srm_2]
  apply Classical.byContradiction
  intro hn
  have h1 := h.1
  unfold vI at h1
  rw [if_neg hn] at h1
  exact absurd (Int32.le_trans h0 h1) (by decide)
theorem c180' (k : Nat) (lo hi : Int32) (hk : k < 3) (h0 : 0 ≤ lo) (hT : TX I c z) (hM : MS I c z A q Z) (hq : q ≤ z) (f1 : gd c z q lo hi → Rn m pc ls (.int 1 :: st) (Sg (lkX c z (va_up Z 99 (upd (Z 99) k (vI c z q))) (en c z q)) J) Q) (f0 : ¬ gd c z q lo hi → Rn m pc ls (.int 0 :: st) (Sg Z J) Q) : Ca 180 [.ref 86, .int (Int32.ofNat k), .int lo, .int hi] (Sg Z J) m pc ls st Q := by
  unfold Ca
  have hM0 := hM
  obtain ⟨h1, h2, h3, h4, h5, h6⟩ := hM0
  have hs2 := @srm_le c z q
  by_cases k2 : srm c z q = 2
  · have e6 : Z 86 19 = vI c z q := h6.trans (vlm_e k2)
    have e5 : Z 86 18 = Int32.ofNat 2 := by rw [h5, k2]
    have hM2 : MS I c z A q (va_up Z 99 (upd (Z 99) k (vI c z q))) := by
      refine ⟨h1.up (by decide) _, ?_, ?_, ?_, ?_, ?_⟩
      · rw [up_o _ _ (by decide)]; exact h2
      · rw [up_o _ _ (by decide)]; exact h3
      · rw [up_o _ _ (by decide)]; exact h4
      · rw [up_o _ _ (by decide)]; exact h5
      · rw [up_o _ _ (by decide)]; exact h6
    have h178 := fun (pc : Nat) (ls st : Vs) (Q : Option Value → Sto → Prop) => @c178 180 pc ls st I (va_up Z 99 (upd (Z 99) k (vI c z q))) J Q c z q A hT hM2 hq
    clear hT hM hM2 h1 h2 h3 h4 h6
    simp (disch := first | assumption | omega | decide | exact la_87 | exact la_88 | exact la_90 | exact la_91 | exact la_92 | exact la_93 | exact la_94 | exact la_95 | exact la_96 | exact la_97 | exact la_98 | exact la_99 | exact la_10 | exact la_23 | exact la_77 | exact la_78 | exact la_18 | exact la_19 | exact la_20) only [u180_0, u180_1, u180_4, u180_5, u180_8, u180_9, u180_12, u180_13, u180_14, u180_15, u180_16, u180_17, u180_20, la_86, kLt, true_and, e5, e6, show ¬ ¬ Int32.ofNat 2 = 2 by decide, if_false, c113i, bi_0]
    by_cases hg : gd c z q lo hi
    · have f1 := f1 hg
      unfold gd at hg
      rw [if_pos (fun w => w hg)]
      simp (disch := first | assumption | omega | decide | exact la_87 | exact la_88 | exact la_90 | exact la_91 | exact la_92 | exact la_93 | exact la_94 | exact la_95 | exact la_96 | exact la_97 | exact la_98 | exact la_99 | exact la_10 | exact la_23 | exact la_77 | exact la_78 | exact la_18 | exact la_19 | exact la_20) only [u180_25, u180_26, u180_29, u180_30, u180_31, u180_34, u180_35, u180_36, u180_39, u180_40, h178, la_86, la_99, lt_99, lr_86_21, kLt, true_and, e6, wI_d, o_aa, o_al, o_la, o_mm, o_ml, o_lm, o_ss, o_sl, o_ls, o_tn, o_tl, o_lt, o_ltl, o_llt, o_le, o_lel, o_lle, o_eq, o_eql, o_leq, o_inb, o_inl, o_neg, hk]
      exact ⟨Or.inr trivial, f1⟩
    · have f0 := f0 hg
      unfold gd at hg
      rw [if_neg (fun w => w hg)]
      simp only [u180_23, u180_24]
      exact ⟨Or.inl trivial, f0⟩
  · have f0 := f0 (fun hg => k2 (gd_s h0 hg))
    clear f1 hT hM h1 h2 h3 h4 h6
    simp (disch := first | assumption | omega | decide | exact la_87 | exact la_88 | exact la_90 | exact la_91 | exact la_92 | exact la_93 | exact la_94 | exact la_95 | exact la_96 | exact la_97 | exact la_98 | exact la_99 | exact la_10 | exact la_23 | exact la_77 | exact la_78 | exact la_18 | exact la_19 | exact la_20) only [u180_0, u180_1, u180_4, u180_5, u180_23, u180_24, la_86, kLt, true_and, h5, o_aa, o_al, o_la, o_mm, o_ml, o_lm, o_ss, o_sl, o_ls, o_tn, o_tl, o_lt, o_ltl, o_llt, o_le, o_lel, o_lle, o_eq, o_eql, o_leq, o_inb, o_inl, o_neg, k2, not_false_eq_true, if_true]
    exact ⟨Or.inl trivial, f0⟩
end TAKES
