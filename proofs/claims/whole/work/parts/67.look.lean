/-! THE TEXT: the reference looks at it -/
def u4 (B : Nat → Int32) (s l k v : Int32) : Nat → Int32 := upd (upd (upd (upd B 16 s) 17 l) 18 k) 19 v
section U4
variable (B : Nat → Int32) (s l k v x : Int32)
theorem u4_15 : u4 B s l k v 15 = B 15 := by simp (disch := decide) only [u4, ud_o]
theorem u4_16 : u4 B s l k v 16 = s := by simp (disch := decide) only [u4, ud_o, ud_s]
theorem u4_17 : u4 B s l k v 17 = l := by simp (disch := decide) only [u4, ud_o, ud_s]
theorem u4_18 : u4 B s l k v 18 = k := by simp (disch := decide) only [u4, ud_o, ud_s]
theorem u4_19 : u4 B s l k v 19 = v := by simp (disch := decide) only [u4, ud_s]
theorem u4_w17 : upd (u4 B s l k v) 17 x = u4 B s x k v := by
  unfold u4
  rw [ud_c _ _ _ (show ¬ 19 = 17 by decide), ud_c _ _ _ (show ¬ 18 = 17 by decide), ud_u]
theorem u4_w18 : upd (u4 B s l k v) 18 x = u4 B s l x v := by
  unfold u4
  rw [ud_c _ _ _ (show ¬ 19 = 18 by decide), ud_u]
theorem u4_w19 : upd (u4 B s l k v) 19 x = u4 B s l k x := by
  unfold u4
  rw [ud_u]
theorem u4_0 : upd (upd (upd (upd B 16 s) 17 0) 18 0) 19 0 = u4 B s 0 0 0 := rfl
end U4
abbrev Txm (Z : Nat → Nat → Int32) (c : Nat → Nat) (z : Nat) : Prop := z ≤ 150 ∧ Z 86 15 = Int32.ofNat z ∧ ∀ j, j < z → c j < 128 ∧ Z 97 j = Int32.ofNat (c j)
def srm (c : Nat → Nat) (z q : Nat) : Nat := if sr c z q = 2 ∧ 2 < en c z q - sk c z q then 4 else sr c z q
def vlm (c : Nat → Nat) (z q : Nat) : Int32 := if sr c z q = 2 then vlu c (sk c z q) (min (en c z q - sk c z q) 2) else 0
def lkX (c : Nat → Nat) (z : Nat) (Z : Nat → Nat → Int32) (q : Nat) : Nat → Nat → Int32 := va_up Z 86 (u4 (Z 86) (Int32.ofNat (sk c z q)) (Int32.ofNat (en c z q - sk c z q)) (Int32.ofNat (srm c z q)) (vlm c z q))
section LOOK
variable {m pc : Nat} {ls st : Vs} {Z : Nat → Nat → Int32} {J : Nat → Nat → Int64} {Q : Option Value → Sto → Prop} {c : Nat → Nat} {z : Nat}
theorem c175 (x : Int32) : Ca 175 [.int x] (Sg Z J) m pc ls st Q ↔ Rn m pc ls (.int (bi (97 ≤ x ∧ x ≤ 122)) :: st) (Sg Z J) Q := by
  unfold Ca
  simp (disch := decide) only [u175_0, u175_1, u175_2, u175_5, u175_8, u175_11, c113n, bi_1, true_and]
  rfl
theorem c176 (x : Int32) : Ca 176 [.int x] (Sg Z J) m pc ls st Q ↔ Rn m pc ls (.int (bi (48 ≤ x ∧ x ≤ 57)) :: st) (Sg Z J) Q := by
  unfold Ca
  simp (disch := decide) only [u176_0, u176_1, u176_2, u176_5, u176_8, u176_11, c113n, bi_1, true_and]
  rfl
theorem so_1 (x : Nat) (hx : x < 128) : (97 ≤ Int32.ofNat x ∧ Int32.ofNat x ≤ 122) ↔ so x = 1 := by
  have : ∀ x, x < 128 → ((97 ≤ Int32.ofNat x ∧ Int32.ofNat x ≤ 122) ↔ so x = 1) := by decide +kernel
  exact this x hx
theorem so_2 (x : Nat) (hx : x < 128) : (48 ≤ Int32.ofNat x ∧ Int32.ofNat x ≤ 57) ↔ so x = 2 := by
  have : ∀ x, x < 128 → ((48 ≤ Int32.ofNat x ∧ Int32.ofNat x ≤ 57) ↔ so x = 2) := by decide +kernel
  exact this x hx
theorem so_3 (x : Nat) (hx : x < 128) : Int32.ofNat x = 59 ↔ so x = 3 := by
  have : ∀ x, x < 128 → (Int32.ofNat x = 59 ↔ so x = 3) := by decide +kernel
  exact this x hx
theorem lka (q : Int32) (hX : Txm Z c z) : ∀ d p, p + d = z → Rn 177 43 [.ref 86, .int q, .null, .null, .null] [] (Sg (va_up Z 86 (upd (Z 86) 16 (Int32.ofNat (skf c d p)))) J) Q → Rn 177 5 [.ref 86, .int q, .null, .null, .null] [] (Sg (va_up Z 86 (upd (Z 86) 16 (Int32.ofNat p))) J) Q := by
  obtain ⟨hz, e3, et⟩ := hX
  intro d
  induction d with
  | zero =>
    intro p hp h
    obtain rfl : p = z := by omega
    clear et
    simp (disch := first | assumption | omega | decide | exact la_87 | exact la_88 | exact la_90 | exact la_91 | exact la_92 | exact la_93 | exact la_94 | exact la_95 | exact la_96 | exact la_97 | exact la_98 | exact la_99 | exact la_10 | exact la_23 | exact la_77 | exact la_78 | exact la_18 | exact la_19 | exact la_20) only [u177_5, u177_6, u177_9, u177_10, u177_13, la_86, kLt, true_and, up_s, ud_s, ud_o, e3, o_aa, o_al, o_la, o_mm, o_ml, o_lm, o_ss, o_sl, o_ls, o_tn, o_tl, o_lt, o_ltl, o_llt, o_le, o_lel, o_lle, o_eq, o_eql, o_leq, o_inb, o_inl, o_neg, Nat.le_refl, if_true]
    exact h
  | succ d ih =>
    intro p hp h
    have ih := ih (p + 1) (by omega)
    obtain ⟨hc, ec⟩ := et p (by omega)
    have hn : ¬ z ≤ p := by omega
    rw [skf_s] at h
    clear et
    simp (disch := first | assumption | omega | decide | exact la_87 | exact la_88 | exact la_90 | exact la_91 | exact la_92 | exact la_93 | exact la_94 | exact la_95 | exact la_96 | exact la_97 | exact la_98 | exact la_99 | exact la_10 | exact la_23 | exact la_77 | exact la_78 | exact la_18 | exact la_19 | exact la_20) only [u177_5, u177_6, u177_9, u177_10, u177_13, u177_16, u177_17, u177_20, u177_21, u177_24, u177_25, u177_27, la_86, la_97, lt_97, lr_86_14, kLt, true_and, up_s, up_o, ud_s, ud_o, e3, ec, o_aa, o_al, o_la, o_mm, o_ml, o_lm, o_ss, o_sl, o_ls, o_tn, o_tl, o_lt, o_ltl, o_llt, o_le, o_lel, o_lle, o_eq, o_eql, o_leq, o_inb, o_inl, o_neg, hn, if_false, show p < 150 by omega]
    by_cases h1 : c p = 32
    · rw [if_pos h1] at h
      simp (disch := first | assumption | omega | decide | exact la_87 | exact la_88 | exact la_90 | exact la_91 | exact la_92 | exact la_93 | exact la_94 | exact la_95 | exact la_96 | exact la_97 | exact la_98 | exact la_99 | exact la_10 | exact la_23 | exact la_77 | exact la_78 | exact la_18 | exact la_19 | exact la_20) only [h1, not_true, if_false, u177_30, u177_31, u177_32, u177_35, u177_36, u177_37, la_86, kLt, true_and, wI_d, up_s, up_u, ud_s, ud_u, o_aa, o_al, o_la, o_mm, o_ml, o_lm, o_ss, o_sl, o_ls, o_tn, o_tl, o_lt, o_ltl, o_llt, o_le, o_lel, o_lle, o_eq, o_eql, o_leq, o_inb, o_inl, o_neg]
      exact (u177_40 ..).mpr (ih h)
    · rw [if_neg h1] at h
      simp only [h1, not_false_eq_true, if_true]
      exact h
theorem lk2 (q b : Int32) (s k : Nat) (hk : k = 1 ∨ k = 2) (hX : Txm Z c z) : ∀ d L v, s + L + d = z → (∀ mo v, Rn 177 215 [.ref 86, .int q, .int b, .int mo, v] [] (Sg (va_up Z 86 (u4 (Z 86) (Int32.ofNat s) (Int32.ofNat (tlf c k d (s + L) - s)) (Int32.ofNat k) 0)) J) Q) → Rn 177 136 [.ref 86, .int q, .int b, .int 1, v] [] (Sg (va_up Z 86 (u4 (Z 86) (Int32.ofNat s) (Int32.ofNat L) (Int32.ofNat k) 0)) J) Q := by
  obtain ⟨hz, e3, et⟩ := hX
  have hne : ¬ (1 : Int32) = 0 := by decide
  intro d
  induction d with
  | zero =>
    intro L v hp h
    have h := h 1 v
    have e : tlf c k 0 (s + L) - s = L := by
      show s + L - s = L
      omega
    rw [e] at h
    have hle : z ≤ s + L := by omega
    clear et
    simp (disch := first | assumption | omega | decide | exact la_87 | exact la_88 | exact la_90 | exact la_91 | exact la_92 | exact la_93 | exact la_94 | exact la_95 | exact la_96 | exact la_97 | exact la_98 | exact la_99 | exact la_10 | exact la_23 | exact la_77 | exact la_78 | exact la_18 | exact la_19 | exact la_20) only [u177_136, u177_137, u177_140, u177_141, u177_144, u177_145, u177_148, u177_149, u177_150, u177_153, la_86, kLt, true_and, up_s, u4_15, u4_16, u4_17, e3, o_aa, o_al, o_la, o_mm, o_ml, o_lm, o_ss, o_sl, o_ls, o_tn, o_tl, o_lt, o_ltl, o_llt, o_le, o_lel, o_lle, o_eq, o_eql, o_leq, o_inb, o_inl, o_neg, hle, hne, if_true, if_false]
    exact h
  | succ d ih =>
    intro L v hp h
    obtain ⟨hc, ec⟩ := et (s + L) (by omega)
    have hn : ¬ z ≤ s + L := by omega
    have h1 := so_1 _ hc
    have h2 := so_2 _ hc
    have ih := ih (L + 1)
    rw [tlf_s] at h
    clear et
    have hgo : ∀ bt, (if so (c (s + L)) = k then Rn 177 136 [.ref 86, .int q, .int b, .int 1, .int bt] [] (Sg (va_up Z 86 (u4 (Z 86) (Int32.ofNat s) (Int32.ofNat (L + 1)) (Int32.ofNat k) 0)) J) Q else Rn 177 136 [.ref 86, .int q, .int b, .int 0, .int bt] [] (Sg (va_up Z 86 (u4 (Z 86) (Int32.ofNat s) (Int32.ofNat L) (Int32.ofNat k) 0)) J) Q) := by
      intro bt
      by_cases h3 : so (c (s + L)) = k
      · rw [if_pos h3] at h ⊢
        exact ih _ (by omega) (by rw [show s + (L + 1) = s + L + 1 by omega]; exact h)
      · rw [if_neg h3] at h ⊢
        simp (disch := first | assumption | omega | decide | exact la_87 | exact la_88 | exact la_90 | exact la_91 | exact la_92 | exact la_93 | exact la_94 | exact la_95 | exact la_96 | exact la_97 | exact la_98 | exact la_99 | exact la_10 | exact la_23 | exact la_77 | exact la_78 | exact la_18 | exact la_19 | exact la_20) only [u177_136, u177_137, if_true]
        have h := h 0 (.int bt)
        rw [show s + L - s = L by omega] at h
        exact h
    have hgo := hgo (Int32.ofNat (c (s + L)))
    generalize so (c (s + L)) = w at h1 h2 hgo
    clear ih h
    simp (disch := first | assumption | omega | decide | exact la_87 | exact la_88 | exact la_90 | exact la_91 | exact la_92 | exact la_93 | exact la_94 | exact la_95 | exact la_96 | exact la_97 | exact la_98 | exact la_99 | exact la_10 | exact la_23 | exact la_77 | exact la_78 | exact la_18 | exact la_19 | exact la_20) only [u177_136, u177_137, u177_140, u177_141, u177_144, u177_145, u177_148, u177_149, u177_150, u177_153, u177_156, u177_157, u177_160, u177_161, u177_164, u177_165, u177_168, u177_169, u177_170, u177_172, u177_173, u177_176, u177_177, la_86, la_97, lt_97, lr_86_14, kLt, true_and, up_s, up_o, u4_15, u4_16, u4_17, u4_18, e3, ec, o_aa, o_al, o_la, o_mm, o_ml, o_lm, o_ss, o_sl, o_ls, o_tn, o_tl, o_lt, o_ltl, o_llt, o_le, o_lel, o_lle, o_eq, o_eql, o_leq, o_inb, o_inl, o_neg, hn, hne, if_false, show s + L < 150 by omega]
    rcases hk with rfl | rfl
    · have hb : bi (97 ≤ Int32.ofNat (c (s + L)) ∧ Int32.ofNat (c (s + L)) ≤ 122) = bi (w = 1) := bi_c h1
      simp only [show ¬ ¬ (1 : Nat) = 1 by decide, if_false, u177_180, u177_182, u177_185, c175, hb]
      by_cases h3 : w = 1
      · rw [if_pos h3] at hgo
        have e1 : bi (w = 1) = 1 := if_pos h3
        simp (disch := first | assumption | omega | decide | exact la_87 | exact la_88 | exact la_90 | exact la_91 | exact la_92 | exact la_93 | exact la_94 | exact la_95 | exact la_96 | exact la_97 | exact la_98 | exact la_99 | exact la_10 | exact la_23 | exact la_77 | exact la_78 | exact la_18 | exact la_19 | exact la_20) only [e1, u177_193, u177_194, u177_195, u177_196, u177_199, u177_200, u177_203, u177_204, u177_207, u177_208, u177_209, la_86, kLt, true_and, wI_d, up_s, up_u, u4_17, u4_w17, hne, if_false, o_aa, o_al, o_la, o_mm, o_ml, o_lm, o_ss, o_sl, o_ls, o_tn, o_tl, o_lt, o_ltl, o_llt, o_le, o_lel, o_lle, o_eq, o_eql, o_leq, o_inb, o_inl, o_neg]
        exact (u177_212 ..).mpr hgo
      · rw [if_neg h3] at hgo
        have e1 : bi (w = 1) = 0 := if_neg h3
        simp (disch := first | assumption | omega | decide | exact la_87 | exact la_88 | exact la_90 | exact la_91 | exact la_92 | exact la_93 | exact la_94 | exact la_95 | exact la_96 | exact la_97 | exact la_98 | exact la_99 | exact la_10 | exact la_23 | exact la_77 | exact la_78 | exact la_18 | exact la_19 | exact la_20) only [e1, u177_193, u177_194, u177_195, u177_196, u177_199, u177_200, u177_203, u177_204, u177_207, u177_208, u177_209, la_86, kLt, true_and, wI_d, up_s, up_u, u4_17, u4_w17, if_true, Int32.add_zero]
        exact (u177_212 ..).mpr hgo
    · have hb : bi (48 ≤ Int32.ofNat (c (s + L)) ∧ Int32.ofNat (c (s + L)) ≤ 57) = bi (w = 2) := bi_c h2
      simp only [show ¬ (2 : Nat) = 1 by decide, not_false_eq_true, if_true, u177_188, u177_190, c176, hb]
      by_cases h3 : w = 2
      · rw [if_pos h3] at hgo
        have e1 : bi (w = 2) = 1 := if_pos h3
        simp (disch := first | assumption | omega | decide | exact la_87 | exact la_88 | exact la_90 | exact la_91 | exact la_92 | exact la_93 | exact la_94 | exact la_95 | exact la_96 | exact la_97 | exact la_98 | exact la_99 | exact la_10 | exact la_23 | exact la_77 | exact la_78 | exact la_18 | exact la_19 | exact la_20) only [e1, u177_193, u177_194, u177_195, u177_196, u177_199, u177_200, u177_203, u177_204, u177_207, u177_208, u177_209, la_86, kLt, true_and, wI_d, up_s, up_u, u4_17, u4_w17, hne, if_false, o_aa, o_al, o_la, o_mm, o_ml, o_lm, o_ss, o_sl, o_ls, o_tn, o_tl, o_lt, o_ltl, o_llt, o_le, o_lel, o_lle, o_eq, o_eql, o_leq, o_inb, o_inl, o_neg]
        exact (u177_212 ..).mpr hgo
      · rw [if_neg h3] at hgo
        have e1 : bi (w = 2) = 0 := if_neg h3
        simp (disch := first | assumption | omega | decide | exact la_87 | exact la_88 | exact la_90 | exact la_91 | exact la_92 | exact la_93 | exact la_94 | exact la_95 | exact la_96 | exact la_97 | exact la_98 | exact la_99 | exact la_10 | exact la_23 | exact la_77 | exact la_78 | exact la_18 | exact la_19 | exact la_20) only [e1, u177_193, u177_194, u177_195, u177_196, u177_199, u177_200, u177_203, u177_204, u177_207, u177_208, u177_209, la_86, kLt, true_and, wI_d, up_s, up_u, u4_17, u4_w17, if_true, Int32.add_zero]
        exact (u177_212 ..).mpr hgo
theorem dv_m (n t : Int32) : 10 * n + t - 48 = n * 10 + (t - 48) := by
  rw [Int32.mul_comm, Int32.sub_eq_add_neg, Int32.sub_eq_add_neg, Int32.add_assoc]
theorem lk3 (q b mo : Int32) (s L k : Nat) (v : Value) (hk : 1 ≤ k ∧ k ≤ 4) (hL : 1 ≤ L) (hs : s + L ≤ z) (hX : Txm Z c z) (h : Q none (Sg (va_up Z 86 (u4 (Z 86) (Int32.ofNat s) (Int32.ofNat L) (Int32.ofNat (if k = 2 ∧ 2 < L then 4 else k)) (if k = 2 then vlu c s (min L 2) else 0))) J)) : Rn 177 215 [.ref 86, .int q, .int b, .int mo, v] [] (Sg (va_up Z 86 (u4 (Z 86) (Int32.ofNat s) (Int32.ofNat L) (Int32.ofNat k) 0)) J) Q := by
  obtain ⟨hz, e3, et⟩ := hX
  by_cases hk2 : k = 2
  · subst hk2
    rw [if_pos rfl] at h
    have hfin : ∀ i : Int32, Rn 177 274 [.ref 86, .int q, .int b, .int mo, .int i] [] (Sg (va_up Z 86 (u4 (Z 86) (Int32.ofNat s) (Int32.ofNat L) (Int32.ofNat 2) (vlu c s (min L 2)))) J) Q := by
      intro i
      generalize vlu c s (min L 2) = w at h ⊢
      clear et
      simp (disch := first | assumption | omega | decide | exact la_87 | exact la_88 | exact la_90 | exact la_91 | exact la_92 | exact la_93 | exact la_94 | exact la_95 | exact la_96 | exact la_97 | exact la_98 | exact la_99 | exact la_10 | exact la_23 | exact la_77 | exact la_78 | exact la_18 | exact la_19 | exact la_20) only [u177_274, u177_275, u177_276, u177_279, u177_280, u177_283, u177_284, u177_287, u177_288, la_86, kLt, true_and, up_s, u4_17, u4_18, o_aa, o_al, o_la, o_mm, o_ml, o_lm, o_ss, o_sl, o_ls, o_tn, o_tl, o_lt, o_ltl, o_llt, o_le, o_lel, o_lle, o_eq, o_eql, o_leq, o_inb, o_inl, o_neg, not_true, if_false]
      by_cases h2 : L ≤ 2
      · rw [if_neg (by omega)] at h
        rw [if_pos h2]
        simp (disch := first | assumption | omega | decide | exact la_87 | exact la_88 | exact la_90 | exact la_91 | exact la_92 | exact la_93 | exact la_94 | exact la_95 | exact la_96 | exact la_97 | exact la_98 | exact la_99 | exact la_10 | exact la_23 | exact la_77 | exact la_78 | exact la_18 | exact la_19 | exact la_20) only [u177_295, u177_296, u177_299, u177_302, la_86, kLt, true_and, wI_d, up_s, up_u, u4_18, u4_w18]
        exact h
      · rw [if_pos ⟨rfl, by omega⟩] at h
        rw [if_neg h2]
        simp (disch := first | assumption | omega | decide | exact la_87 | exact la_88 | exact la_90 | exact la_91 | exact la_92 | exact la_93 | exact la_94 | exact la_95 | exact la_96 | exact la_97 | exact la_98 | exact la_99 | exact la_10 | exact la_23 | exact la_77 | exact la_78 | exact la_18 | exact la_19 | exact la_20) only [u177_291, u177_292, u177_299, u177_302, la_86, kLt, true_and, wI_d, up_s, up_u, u4_w18]
        exact h
    simp only [u177_215, u177_216]
    refine Rn_fr (n := min L 2) (X := Unit) (fun i _ => [.ref 86, .int q, .int b, .int mo, .int (Int32.ofNat i)]) (fun i _ => Sg (va_up Z 86 (u4 (Z 86) (Int32.ofNat s) (Int32.ofNat L) (Int32.ofNat 2) (vlu c s i))) J) () rfl rfl ?_ ?_
    · intro i hi _ ih
      have ih := ih ()
      obtain ⟨hc, ec⟩ := et (s + i) (by omega)
      rw [vlu_s, ← dv_m] at ih
      generalize vlu c s i = w at ih ⊢
      have hn : ¬ L ≤ i := by omega
      have hn2 : ¬ 2 ≤ i := by omega
      clear et h hfin
      simp (disch := first | assumption | omega | decide | exact la_87 | exact la_88 | exact la_90 | exact la_91 | exact la_92 | exact la_93 | exact la_94 | exact la_95 | exact la_96 | exact la_97 | exact la_98 | exact la_99 | exact la_10 | exact la_23 | exact la_77 | exact la_78 | exact la_18 | exact la_19 | exact la_20) only [u177_218, u177_220, u177_221, u177_224, u177_227, u177_229, u177_230, u177_233, u177_234, u177_237, u177_238, u177_241, u177_242, u177_244, u177_245, u177_248, u177_249, u177_250, u177_253, u177_254, u177_257, la_86, la_97, lr_86_14, kLt, true_and, up_s, up_o, u4_16, u4_17, u4_18, u4_19, o_aa, o_al, o_la, o_mm, o_ml, o_lm, o_ss, o_sl, o_ls, o_tn, o_tl, o_lt, o_ltl, o_llt, o_le, o_lel, o_lle, o_eq, o_eql, o_leq, o_inb, o_inl, o_neg, hn, hn2, not_true, if_false]
      simp (disch := first | assumption | omega | decide | exact la_87 | exact la_88 | exact la_90 | exact la_91 | exact la_92 | exact la_93 | exact la_94 | exact la_95 | exact la_96 | exact la_97 | exact la_98 | exact la_99 | exact la_10 | exact la_23 | exact la_77 | exact la_78 | exact la_18 | exact la_19 | exact la_20) only [u177_259, u177_260, lt_97, up_o, ec, o_aa, o_tn, o_inb, show s + i < 150 by omega, true_and]
      simp only [u177_261, u177_262, u177_264]
      simp (disch := first | assumption | omega | decide | exact la_87 | exact la_88 | exact la_90 | exact la_91 | exact la_92 | exact la_93 | exact la_94 | exact la_95 | exact la_96 | exact la_97 | exact la_98 | exact la_99 | exact la_10 | exact la_23 | exact la_77 | exact la_78 | exact la_18 | exact la_19 | exact la_20) only [u177_265, u177_268, la_86, kLt, true_and, wI_d, up_s, up_u, u4_w19, o_aa, o_al, o_la, o_mm, o_ml, o_lm, o_ss, o_sl, o_ls, o_tn, o_tl, o_lt, o_ltl, o_llt, o_le, o_lel, o_lle, o_eq, o_eql, o_leq, o_inb, o_inl, o_neg]
      exact (u177_271 ..).mpr ih
    · intro _
      generalize vlu c s (min L 2) = w at hfin ⊢
      clear et h
      simp (disch := first | assumption | omega | decide | exact la_87 | exact la_88 | exact la_90 | exact la_91 | exact la_92 | exact la_93 | exact la_94 | exact la_95 | exact la_96 | exact la_97 | exact la_98 | exact la_99 | exact la_10 | exact la_23 | exact la_77 | exact la_78 | exact la_18 | exact la_19 | exact la_20) only [u177_218, u177_220, u177_221, u177_224, la_86, kLt, true_and, up_s, u4_17, o_aa, o_al, o_la, o_mm, o_ml, o_lm, o_ss, o_sl, o_ls, o_tn, o_tl, o_lt, o_ltl, o_llt, o_le, o_lel, o_lle, o_eq, o_eql, o_leq, o_inb, o_inl, o_neg]
      by_cases h2 : L ≤ min L 2
      · rw [if_pos h2]
        exact hfin _
      · rw [if_neg h2]
        have h3 : 2 ≤ min L 2 := by omega
        simp (disch := first | assumption | omega | decide | exact la_87 | exact la_88 | exact la_90 | exact la_91 | exact la_92 | exact la_93 | exact la_94 | exact la_95 | exact la_96 | exact la_97 | exact la_98 | exact la_99 | exact la_10 | exact la_23 | exact la_77 | exact la_78 | exact la_18 | exact la_19 | exact la_20) only [u177_227, u177_229, u177_230, o_aa, o_al, o_la, o_mm, o_ml, o_lm, o_ss, o_sl, o_ls, o_tn, o_tl, o_lt, o_ltl, o_llt, o_le, o_lel, o_lle, o_eq, o_eql, o_leq, o_inb, o_inl, o_neg, h3, if_true]
        exact hfin _
  · rw [if_neg hk2, if_neg (fun w => hk2 w.1)] at h
    have hn : ¬ L ≤ 0 := by omega
    have hL0 : ¬ Int32.ofNat L ≤ 0 := by
      rw [show (0 : Int32) = Int32.ofNat 0 from rfl, o_le (by omega) (by omega)]
      exact hn
    clear et
    simp (disch := first | assumption | omega | decide | exact la_87 | exact la_88 | exact la_90 | exact la_91 | exact la_92 | exact la_93 | exact la_94 | exact la_95 | exact la_96 | exact la_97 | exact la_98 | exact la_99 | exact la_10 | exact la_23 | exact la_77 | exact la_78 | exact la_18 | exact la_19 | exact la_20) only [u177_215, u177_216, u177_218, u177_220, u177_221, u177_224, u177_227, u177_229, u177_230, u177_233, u177_234, u177_237, u177_238, u177_274, u177_275, u177_276, u177_279, u177_280, u177_295, u177_296, u177_299, u177_302, la_86, kLt, true_and, wI_d, up_s, up_u, u4_17, u4_18, u4_w18, o_aa, o_al, o_la, o_mm, o_ml, o_lm, o_ss, o_sl, o_ls, o_tn, o_tl, o_lt, o_ltl, o_llt, o_le, o_lel, o_lle, o_eq, o_eql, o_leq, o_inb, o_inl, o_neg, hL0, hk2, not_false_eq_true, if_true, if_false, show ¬ (2 : Int32) ≤ 0 by decide]
    exact h
theorem lk4 (q : Int32) (s : Nat) (hs : s < z) (hX : Txm Z c z) (h : Q none (Sg (va_up Z 86 (u4 (Z 86) (Int32.ofNat s) (Int32.ofNat ((if so (c s) ≤ 2 then tlf c (so (c s)) (z - (s + 1)) (s + 1) else s + 1) - s)) (Int32.ofNat (if so (c s) = 2 ∧ 2 < (if so (c s) ≤ 2 then tlf c (so (c s)) (z - (s + 1)) (s + 1) else s + 1) - s then 4 else so (c s))) (if so (c s) = 2 then vlu c s (min ((if so (c s) ≤ 2 then tlf c (so (c s)) (z - (s + 1)) (s + 1) else s + 1) - s) 2) else 0))) J)) : Rn 177 70 [.ref 86, .int q, .null, .null, .null] [] (Sg (va_up Z 86 (u4 (Z 86) (Int32.ofNat s) 0 0 0)) J) Q := by
  have hX0 := hX
  obtain ⟨hz, e3, et⟩ := hX0
  obtain ⟨hc, ec⟩ := et s hs
  have h1 := so_1 _ hc
  have h2 := so_2 _ hc
  have h3 := so_3 _ hc
  have hso := so_b (c s)
  have hgo : Rn 177 114 [.ref 86, .int q, .int (Int32.ofNat (c s)), .null, .null] [.int (Int32.ofNat (so (c s))), .ref 86] (Sg (va_up Z 86 (u4 (Z 86) (Int32.ofNat s) 0 0 0)) J) Q := by
    by_cases h4 : so (c s) ≤ 2
    · simp only [if_pos h4] at h
      have hl := tlf_le c (so (c s)) (z - (s + 1)) (s + 1)
      have hgo := lk2 (Q := Q) (J := J) q (Int32.ofNat (c s)) s (so (c s)) (by omega) hX (z - (s + 1)) 1 .null (by omega) (fun mo v => lk3 q _ mo s _ (so (c s)) v hso (by omega) (by omega) hX h)
      generalize so (c s) = k at hgo h4 hso ⊢
      clear hX et h1 h2 h3 h hl
      have h5 : ¬ 3 ≤ k := by omega
      simp (disch := first | assumption | omega | decide | exact la_87 | exact la_88 | exact la_90 | exact la_91 | exact la_92 | exact la_93 | exact la_94 | exact la_95 | exact la_96 | exact la_97 | exact la_98 | exact la_99 | exact la_10 | exact la_23 | exact la_77 | exact la_78 | exact la_18 | exact la_19 | exact la_20) only [u177_114, u177_117, u177_118, u177_119, u177_122, u177_123, u177_126, u177_127, u177_130, u177_131, u177_134, u177_135, la_86, kLt, true_and, wI_d, up_s, up_u, u4_18, u4_w17, u4_w18, o_aa, o_al, o_la, o_mm, o_ml, o_lm, o_ss, o_sl, o_ls, o_tn, o_tl, o_lt, o_ltl, o_llt, o_le, o_lel, o_lle, o_eq, o_eql, o_leq, o_inb, o_inl, o_neg, h5, if_false]
      exact hgo
    · simp only [if_neg h4] at h
      have hgo := lk3 (Q := Q) (J := J) q (Int32.ofNat (c s)) 0 s (s + 1 - s) (so (c s)) .null hso (by omega) (by omega) hX h
      rw [show s + 1 - s = 1 by omega] at hgo
      generalize so (c s) = k at hgo h4 hso ⊢
      clear hX et h1 h2 h3 h
      have h5 : 3 ≤ k := by omega
      simp (disch := first | assumption | omega | decide | exact la_87 | exact la_88 | exact la_90 | exact la_91 | exact la_92 | exact la_93 | exact la_94 | exact la_95 | exact la_96 | exact la_97 | exact la_98 | exact la_99 | exact la_10 | exact la_23 | exact la_77 | exact la_78 | exact la_18 | exact la_19 | exact la_20) only [u177_114, u177_117, u177_118, u177_119, u177_122, u177_123, u177_126, u177_127, u177_130, u177_131, u177_134, u177_135, u177_136, u177_137, la_86, kLt, true_and, wI_d, up_s, up_u, u4_18, u4_w17, u4_w18, o_aa, o_al, o_la, o_mm, o_ml, o_lm, o_ss, o_sl, o_ls, o_tn, o_tl, o_lt, o_ltl, o_llt, o_le, o_lel, o_lle, o_eq, o_eql, o_leq, o_inb, o_inl, o_neg, h5, if_true]
      exact hgo
  generalize so (c s) = k at h1 h2 h3 hgo hso
  clear hX et h
  simp (disch := first | assumption | omega | decide | exact la_87 | exact la_88 | exact la_90 | exact la_91 | exact la_92 | exact la_93 | exact la_94 | exact la_95 | exact la_96 | exact la_97 | exact la_98 | exact la_99 | exact la_10 | exact la_23 | exact la_77 | exact la_78 | exact la_18 | exact la_19 | exact la_20) only [u177_70, u177_71, u177_74, u177_75, u177_78, u177_79, la_86, la_97, lt_97, lr_86_14, kLt, true_and, up_s, up_o, u4_16, ec, o_aa, o_al, o_la, o_mm, o_ml, o_lm, o_ss, o_sl, o_ls, o_tn, o_tl, o_lt, o_ltl, o_llt, o_le, o_lel, o_lle, o_eq, o_eql, o_leq, o_inb, o_inl, o_neg, show s < 150 by omega]
  simp (disch := decide) only [u177_80, u177_81, u177_82, u177_85, c175, kLt, true_and, bi_0]
  by_cases k1 : k = 1
  · rw [if_neg (fun w => w (h1.mpr k1))]
    simp only [u177_88, u177_89]
    subst k1
    exact hgo
  · rw [if_pos (fun w => k1 (h1.mp w))]
    simp only [u177_92, u177_93, u177_96, c176, bi_0]
    by_cases k2 : k = 2
    · rw [if_neg (fun w => w (h2.mpr k2))]
      simp only [u177_99, u177_100]
      subst k2
      exact hgo
    · rw [if_pos (fun w => k2 (h2.mp w))]
      simp only [u177_103, u177_104, u177_106]
      by_cases k3 : k = 3
      · rw [if_neg (fun w => w (h3.mpr k3))]
        simp only [u177_109, u177_110]
        subst k3
        exact hgo
      · rw [if_pos (fun w => k3 (h3.mp w))]
        simp only [u177_113]
        obtain rfl : k = 4 := by omega
        exact hgo
theorem c177 (q : Nat) (hX : Txm Z c z) (hq : q ≤ z) : Ca 177 [.ref 86, .int (Int32.ofNat q), .null, .null, .null] (Sg Z J) m pc ls st Q ↔ Rn m pc ls st (Sg (lkX c z Z q) J) Q := Ca_of (r := none) (fun Q h => by
  have hX0 := hX
  obtain ⟨hz, e3, et⟩ := hX0
  have hsl := sk_le c hq
  unfold lkX srm vlm sr en at h
  simp (disch := decide) only [u177_0, u177_1, u177_2, la_86, kLt, true_and, wI_d]
  refine lka _ hX (z - q) q (by omega) ?_
  have hsk : skf c (z - q) q = sk c z q := rfl
  rw [hsk]
  generalize sk c z q = s at h hsl ⊢
  by_cases h1 : s = z
  · subst h1
    simp only [if_pos, Nat.sub_self] at h
    clear hX et
    simp (disch := first | assumption | omega | decide | exact la_87 | exact la_88 | exact la_90 | exact la_91 | exact la_92 | exact la_93 | exact la_94 | exact la_95 | exact la_96 | exact la_97 | exact la_98 | exact la_99 | exact la_10 | exact la_23 | exact la_77 | exact la_78 | exact la_18 | exact la_19 | exact la_20) only [u177_43, u177_44, u177_45, u177_48, u177_49, u177_50, u177_53, u177_54, u177_55, u177_58, u177_59, u177_62, u177_63, u177_66, u177_69, la_86, kLt, true_and, wI_d, up_s, up_u, u4_0, u4_15, u4_16, e3, not_true, if_false]
    exact h
  · simp only [if_neg h1] at h
    have hgo := lk4 (Q := Q) (J := J) (Int32.ofNat q) s (by omega) hX h
    clear hX et h
    simp (disch := first | assumption | omega | decide | exact la_87 | exact la_88 | exact la_90 | exact la_91 | exact la_92 | exact la_93 | exact la_94 | exact la_95 | exact la_96 | exact la_97 | exact la_98 | exact la_99 | exact la_10 | exact la_23 | exact la_77 | exact la_78 | exact la_18 | exact la_19 | exact la_20) only [u177_43, u177_44, u177_45, u177_48, u177_49, u177_50, u177_53, u177_54, u177_55, u177_58, u177_59, u177_62, u177_63, u177_66, la_86, kLt, true_and, wI_d, up_s, up_u, u4_0, u4_15, u4_16, e3, o_aa, o_al, o_la, o_mm, o_ml, o_lm, o_ss, o_sl, o_ls, o_tn, o_tl, o_lt, o_ltl, o_llt, o_le, o_lel, o_lle, o_eq, o_eql, o_leq, o_inb, o_inl, o_neg, h1, not_false_eq_true, if_true]
    exact hgo)
end LOOK
