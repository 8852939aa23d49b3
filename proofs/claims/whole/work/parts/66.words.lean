/-! THE TEXT: its words -/
section WORDS
variable {m pc : Nat} {ls st : Vs} {Y : Nat → Nat → Int32} {J : Nat → Nat → Int64} {Q : Option Value → Sto → Prop} {c : Nat → Nat} {z : Nat}
theorem c201 (r : Nat) (hr : 1010 ≤ r ∧ r < 1015) : Ca 201 [.ref r] (Sg Y J) m pc ls st Q ↔ Rn m pc ls (.int 0 :: st) (Sg Y J) Q := Ca_of (r := some (.int 0)) (fun Q h => by
  simp only [u201_0, u201_3, u201_6, u201_7, u201_10, u201_13, u201_14, kL_t hr, hr, true_and, show ¬ (1 : Int32) = 0 by decide, if_false]
  exact ⟨rfl, h⟩)
theorem c199 (a : Nat) (ha : a < 5) : Ca 199 [.ref (1010 + a)] (Sg Y J) m pc ls st Q ↔ Rn m pc ls (.int (Int32.ofNat (wln a)) :: st) (Sg Y J) Q := Ca_of (r := some (.int (Int32.ofNat (wln a)))) (fun Q h => by
  have hr : 1010 ≤ 1010 + a ∧ 1010 + a < 1015 := by omega
  have hr2 : 1020 ≤ 1010 + a + 10 ∧ 1010 + a + 10 < 1025 := by omega
  have e : Int32.ofNat (wln a) >>> (0 &&& 31) = Int32.ofNat (wln a) := by
    have : ∀ k, k < 7 → Int32.ofNat k >>> (0 &&& 31) = Int32.ofNat k := by decide +kernel
    exact this _ (by have := wln_le a ha; omega)
  have e2 : (stb.getD (1010 + a + 10 - 1020) []).length = wln a := by
    unfold wln
    rw [show 1010 + a + 10 - 1020 = a by omega]
  simp only [u199_0, u199_1, u199_4 _ hr2, u199_5, u199_6, u199_9, u199_10, c201 _ hr, kL_t hr, hr, true_and, e2, e]
  exact h)
theorem c202 (r : Nat) (hr : 1010 ≤ r ∧ r < 1015) : Ca 202 [.ref r] (Sg Y J) m pc ls st Q ↔ Rn m pc ls (.int 1 :: st) (Sg Y J) Q := Ca_of (r := some (.int 1)) (fun Q h => by
  simp only [u202_0, u202_3, u202_6, u202_7, u202_10, u202_13, u202_14, u202_17, u202_18, kL_t hr, hr, true_and, show ¬ (1 : Int32) = 0 by decide, not_true, if_false]
  exact ⟨Or.inr trivial, h⟩)
theorem c210 (x y : Int32) (r : Nat) (h1 : ¬ x < 0) (h2 : x < y) : Ca 210 [.int x, .int y, .ref r] (Sg Y J) m pc ls st Q ↔ Rn m pc ls (.int x :: st) (Sg Y J) Q := Ca_of (r := some (.int x)) (fun Q h => by
  simp only [u210_0, u210_1, u210_4, u210_5, u210_6, u210_16, u210_17, h1, h2, if_true, if_false]
  exact h)
theorem c203 (x y : Int32) (h1 : ¬ x < 0) (h2 : x < y) : Ca 203 [.int x, .int y] (Sg Y J) m pc ls st Q ↔ Rn m pc ls st (Sg Y J) Q := Ca_of (r := none) (fun Q h => by
  simp only [u203_0, u203_1, u203_2, u203_5, u203_8, u203_9, c210 x y _ h1 h2]
  exact h)
theorem wg_n : ∀ a, a < 5 → ∀ i, i < 6 → i < wln a → narrow .char (.int (wg a i)) = .int (wg a i) := by
  intro a ha i hi hl
  have := wg_c a ha i hi hl
  have h2 : ∀ a, a < 5 → ∀ i, i < 6 → i < wln a → ((wg a i).toUInt32 % 65536).toInt32 = wg a i := by decide +kernel
  exact congrArg Value.int (h2 a ha i hi hl)
theorem c204 (a i : Nat) (ha : a < 5) (hi : i < wln a) : Ca 204 [.ref (1010 + a + 10), .int (Int32.ofNat i)] (Sg Y J) m pc ls st Q ↔ Rn m pc ls (.int (wg a i) :: st) (Sg Y J) Q := Ca_of (r := some (.int (wg a i))) (fun Q h => by
  have hw := wln_le a ha
  have hr2 : 1020 ≤ 1010 + a + 10 ∧ 1010 + a + 10 < 1025 := by omega
  have e2 : (stb.getD (1010 + a + 10 - 1020) []).length = wln a := by
    unfold wln
    rw [show 1010 + a + 10 - 1020 = a by omega]
  have e3 : (stb.getD (1010 + a + 10 - 1020) []).getD i 0 = wg a i := by
    unfold wg
    rw [show 1010 + a + 10 - 1020 = a by omega]
  have h1 : ¬ Int32.ofNat i < 0 := o_neg (by omega)
  have h2 : Int32.ofNat i < Int32.ofNat (wln a) := (o_lt (by omega) (by omega)).mpr hi
  simp only [u204_0, u204_1, u204_2 _ hr2, u204_3, u204_6, u204_7, c203 _ _ h1 h2, u204_8 _ hr2, u204_9, u204_12, u204_13, u204_14, kL_b hr2, true_and, e2, e3, o_tn (show i < 2147483648 by omega), o_inb (show i < 2147483648 by omega), hi, wg_c a ha i (by omega) hi]
  exact ⟨wg_n a ha i (by omega) hi, h⟩)
theorem c200 (a i : Nat) (ha : a < 5) (hi : i < wln a) : Ca 200 [.ref (1010 + a), .int (Int32.ofNat i)] (Sg Y J) m pc ls st Q ↔ Rn m pc ls (.int (wg a i) :: st) (Sg Y J) Q := Ca_of (r := some (.int (wg a i))) (fun Q h => by
  have hw := wln_le a ha
  have hr : 1010 ≤ 1010 + a ∧ 1010 + a < 1015 := by omega
  simp only [u200_0, u200_1, u200_4, u200_7, u200_8, u200_11, u200_12, u200_15, c202 _ hr, c204 a i ha hi, kL_t hr, hr, true_and, show ¬ (1 : Int32) = 0 by decide, if_false]
  exact ⟨wg_n a ha i (by omega) hi, h⟩)
theorem nmd_c (a s e : Nat) (ha : a < 5) (hX : Tx Y c z) (hse : s + wln a = e) (hez : e ≤ z) (e4 : Y 62 4 = Int32.ofNat s) : ∀ d i, i + d = wln a → Q (some (.int (bb (wdf c a s d i)))) (Sg Y J) → Rn 27 20 [.ref 62, .ref (1010 + a), .int (Int32.ofNat i)] [] (Sg Y J) Q := by
  obtain ⟨hz, e3, et⟩ := hX
  have hw := wln_le a ha
  have hr : 1010 ≤ 1010 + a ∧ 1010 + a < 1015 := by omega
  have hk := kL_t hr
  intro d
  induction d with
  | zero =>
    intro i hi h
    obtain rfl : i = wln a := by omega
    clear et
    simp (disch := first | assumption | omega | decide | exact la_87 | exact la_88 | exact la_90 | exact la_91 | exact la_92 | exact la_93 | exact la_94 | exact la_95 | exact la_96 | exact la_97 | exact la_98 | exact la_99 | exact la_10 | exact la_23 | exact la_77 | exact la_78 | exact la_18 | exact la_19 | exact la_20) only [u27_20, u27_21, u27_22, u27_25, u27_55, u27_56, c199 a ha, hk, hr, true_and, and_self, o_aa, o_al, o_la, o_mm, o_ml, o_lm, o_ss, o_sl, o_ls, o_tn, o_tl, o_lt, o_ltl, o_llt, o_le, o_lel, o_lle, o_eq, o_eql, o_leq, o_inb, o_inl, o_neg, Nat.le_refl, if_true]
    exact ⟨Or.inr trivial, h⟩
  | succ d ih =>
    intro i hi h
    have ih := ih (i + 1) (by omega)
    obtain ⟨hc, ec⟩ := et (s + i) (by omega)
    have hn : ¬ wln a ≤ i := by omega
    have hi2 : i < wln a := by omega
    rw [wdf_s] at h
    clear et
    simp (disch := first | assumption | omega | decide | exact la_87 | exact la_88 | exact la_90 | exact la_91 | exact la_92 | exact la_93 | exact la_94 | exact la_95 | exact la_96 | exact la_97 | exact la_98 | exact la_99 | exact la_10 | exact la_23 | exact la_77 | exact la_78 | exact la_18 | exact la_19 | exact la_20 | exact Or.inl la_76) only [u27_20, u27_21, u27_22, u27_25, u27_28, u27_29, u27_32, u27_33, u27_36, u27_37, u27_38, u27_39, u27_40, u27_41, u27_44, c199 a ha, c200 a i ha hi2, hk, hr, la_62, lr_62_1, lt_76, kLt, true_and, and_self, e4, ec, o_aa, o_al, o_la, o_mm, o_ml, o_lm, o_ss, o_sl, o_ls, o_tn, o_tl, o_lt, o_ltl, o_llt, o_le, o_lel, o_lle, o_eq, o_eql, o_leq, o_inb, o_inl, o_neg, hn, if_false, show s + i < 150 by omega]
    by_cases h1 : Int32.ofNat (c (s + i)) = wg a i
    · rw [if_pos h1] at h ⊢
      simp (disch := first | assumption | omega | decide | exact la_87 | exact la_88 | exact la_90 | exact la_91 | exact la_92 | exact la_93 | exact la_94 | exact la_95 | exact la_96 | exact la_97 | exact la_98 | exact la_99 | exact la_10 | exact la_23 | exact la_77 | exact la_78 | exact la_18 | exact la_19 | exact la_20) only [u27_49, o_aa, o_al, o_la, o_mm, o_ml, o_lm, o_ss, o_sl, o_ls, o_tn, o_tl, o_lt, o_ltl, o_llt, o_le, o_lel, o_lle, o_eq, o_eql, o_leq, o_inb, o_inl, o_neg]
      exact (u27_52 ..).mpr (ih h)
    · rw [if_neg h1] at h ⊢
      simp only [u27_47, u27_48]
      exact ⟨Or.inl trivial, h⟩
theorem c27 (a s e : Nat) (ha : a < 5) (hX : Tx Y c z) (hse : s ≤ e) (hez : e ≤ z) (e4 : Y 62 4 = Int32.ofNat s) (e5 : Y 62 5 = Int32.ofNat e) : Ca 27 [.ref 62, .ref (1010 + a), .null] (Sg Y J) m pc ls st Q ↔ Rn m pc ls (.int (bb (wdb c a s e)) :: st) (Sg Y J) Q := Ca_of (r := some (.int (bb (wdb c a s e)))) (fun Q h => by
  have hw := wln_le a ha
  have hr : 1010 ≤ 1010 + a ∧ 1010 + a < 1015 := by omega
  have hk := kL_t hr
  have hz := hX.1
  unfold wdb at h
  have hgo := nmd_c (Q := Q) (J := J) a s e ha hX
  clear hX
  simp (disch := first | assumption | omega | decide | exact la_87 | exact la_88 | exact la_90 | exact la_91 | exact la_92 | exact la_93 | exact la_94 | exact la_95 | exact la_96 | exact la_97 | exact la_98 | exact la_99 | exact la_10 | exact la_23 | exact la_77 | exact la_78 | exact la_18 | exact la_19 | exact la_20) only [u27_0, u27_1, u27_4, u27_5, u27_8, u27_9, u27_12, u27_13, c199 a ha, hk, hr, la_62, kLt, true_and, and_self, e4, e5, o_aa, o_al, o_la, o_mm, o_ml, o_lm, o_ss, o_sl, o_ls, o_tn, o_tl, o_lt, o_ltl, o_llt, o_le, o_lel, o_lle, o_eq, o_eql, o_leq, o_inb, o_inl, o_neg]
  by_cases h1 : wln a = e - s
  · rw [if_pos h1] at h ⊢
    simp only [u27_18, u27_19]
    exact hgo (by omega) hez e4 (wln a) 0 (by omega) h
  · rw [if_neg h1] at h ⊢
    simp only [u27_16, u27_17]
    exact ⟨Or.inl trivial, h⟩)
def itn (c : Nat → Nat) (s e : Nat) : Int32 := if wdb c 0 s e = true then 0 else if wdb c 1 s e = true then 1 else if wdb c 2 s e = true then 2 else if wdb c 3 s e = true then 3 else if wdb c 4 s e = true then 4 else -1
theorem c26 (s e : Nat) (hX : Tx Y c z) (hse : s ≤ e) (hez : e ≤ z) (e4 : Y 62 4 = Int32.ofNat s) (e5 : Y 62 5 = Int32.ofNat e) : Ca 26 [.ref 62] (Sg Y J) m pc ls st Q ↔ Rn m pc ls (.int (itn c s e) :: st) (Sg Y J) Q := Ca_of (r := some (.int (itn c s e))) (fun Q h => by
  have w0 : ∀ (pc : Nat) (ls st : Vs), Ca 27 [.ref 62, .ref 1010, .null] (Sg Y J) 26 pc ls st Q ↔ Rn 26 pc ls (.int (bb (wdb c 0 s e)) :: st) (Sg Y J) Q := fun pc ls st => c27 0 s e (by decide) hX hse hez e4 e5
  have w1 : ∀ (pc : Nat) (ls st : Vs), Ca 27 [.ref 62, .ref 1011, .null] (Sg Y J) 26 pc ls st Q ↔ Rn 26 pc ls (.int (bb (wdb c 1 s e)) :: st) (Sg Y J) Q := fun pc ls st => c27 1 s e (by decide) hX hse hez e4 e5
  have w2 : ∀ (pc : Nat) (ls st : Vs), Ca 27 [.ref 62, .ref 1012, .null] (Sg Y J) 26 pc ls st Q ↔ Rn 26 pc ls (.int (bb (wdb c 2 s e)) :: st) (Sg Y J) Q := fun pc ls st => c27 2 s e (by decide) hX hse hez e4 e5
  have w3 : ∀ (pc : Nat) (ls st : Vs), Ca 27 [.ref 62, .ref 1013, .null] (Sg Y J) 26 pc ls st Q ↔ Rn 26 pc ls (.int (bb (wdb c 3 s e)) :: st) (Sg Y J) Q := fun pc ls st => c27 3 s e (by decide) hX hse hez e4 e5
  have w4 : ∀ (pc : Nat) (ls st : Vs), Ca 27 [.ref 62, .ref 1014, .null] (Sg Y J) 26 pc ls st Q ↔ Rn 26 pc ls (.int (bb (wdb c 4 s e)) :: st) (Sg Y J) Q := fun pc ls st => c27 4 s e (by decide) hX hse hez e4 e5
  unfold itn at h
  clear hX
  generalize wdb c 0 s e = b0 at *
  generalize wdb c 1 s e = b1 at *
  generalize wdb c 2 s e = b2 at *
  generalize wdb c 3 s e = b3 at *
  generalize wdb c 4 s e = b4 at *
  simp (disch := decide) only [u26_0, u26_1, u26_3, u26_6, u26_9, u26_10, u26_11, u26_12, u26_14, u26_17, u26_20, u26_21, u26_22, u26_23, u26_25, u26_28, u26_31, u26_32, u26_33, u26_34, u26_36, u26_39, u26_42, u26_43, u26_44, u26_45, u26_47, u26_50, u26_53, u26_54, u26_57, u26_58, w0, w1, w2, w3, w4, la_62, kLt, true_and, bb_0]
  cases b0 <;> cases b1 <;> cases b2 <;> cases b3 <;> cases b4 <;> exact h)
end WORDS
