/-! THE TEXT: its tokens -/
def skf (c : Nat → Nat) (d : Nat) : Nat → Nat := Nat.rec (fun p => p) (fun _ f p => if c p = 32 then f (p + 1) else p) d
theorem skf_s (c : Nat → Nat) (d p : Nat) : skf c (d + 1) p = if c p = 32 then skf c d (p + 1) else p := rfl
theorem skf_le (c : Nat → Nat) : ∀ d p, p ≤ skf c d p ∧ skf c d p ≤ p + d := by
  intro d
  induction d with
  | zero => intro p; exact ⟨Nat.le_refl p, Nat.le_refl p⟩
  | succ d ih =>
    intro p
    rw [skf_s]
    by_cases h : c p = 32
    · rw [if_pos h]; have := ih (p + 1); omega
    · rw [if_neg h]; omega
def sk (c : Nat → Nat) (z p : Nat) : Nat := skf c (z - p) p
theorem sk_le (c : Nat → Nat) {z p : Nat} (h : p ≤ z) : p ≤ sk c z p ∧ sk c z p ≤ z := by
  unfold sk
  have := skf_le c (z - p) p
  omega
def so (x : Nat) : Nat := if 97 ≤ x ∧ x ≤ 122 then 1 else if 48 ≤ x ∧ x ≤ 57 then 2 else if x = 59 then 3 else 4
theorem so_b (x : Nat) : 1 ≤ so x ∧ so x ≤ 4 := by
  unfold so
  by_cases h1 : 97 ≤ x ∧ x ≤ 122
  · rw [if_pos h1]; omega
  · rw [if_neg h1]
    by_cases h2 : 48 ≤ x ∧ x ≤ 57
    · rw [if_pos h2]; omega
    · rw [if_neg h2]
      by_cases h3 : x = 59
      · rw [if_pos h3]; omega
      · rw [if_neg h3]; omega
def tlf (c : Nat → Nat) (s d : Nat) : Nat → Nat := Nat.rec (fun p => p) (fun _ f p => if so (c p) = s then f (p + 1) else p) d
theorem tlf_s (c : Nat → Nat) (s d p : Nat) : tlf c s (d + 1) p = if so (c p) = s then tlf c s d (p + 1) else p := rfl
theorem tlf_le (c : Nat → Nat) (s : Nat) : ∀ d p, p ≤ tlf c s d p ∧ tlf c s d p ≤ p + d := by
  intro d
  induction d with
  | zero => intro p; exact ⟨Nat.le_refl p, Nat.le_refl p⟩
  | succ d ih =>
    intro p
    rw [tlf_s]
    by_cases h : so (c p) = s
    · rw [if_pos h]; have := ih (p + 1); omega
    · rw [if_neg h]; omega
def sr (c : Nat → Nat) (z p : Nat) : Nat := if sk c z p = z then 0 else so (c (sk c z p))
def en (c : Nat → Nat) (z p : Nat) : Nat := if sk c z p = z then z else if so (c (sk c z p)) ≤ 2 then tlf c (so (c (sk c z p))) (z - (sk c z p + 1)) (sk c z p + 1) else sk c z p + 1
theorem en_le (c : Nat → Nat) {z p : Nat} (h : p ≤ z) : sk c z p ≤ en c z p ∧ en c z p ≤ z ∧ (¬ sr c z p = 0 → sk c z p < en c z p) := by
  have h1 := sk_le c h
  unfold en sr
  by_cases h2 : sk c z p = z
  · rw [if_pos h2, if_pos h2]; omega
  · rw [if_neg h2, if_neg h2]
    by_cases h3 : so (c (sk c z p)) ≤ 2
    · rw [if_pos h3]
      have := tlf_le c (so (c (sk c z p))) (z - (sk c z p + 1)) (sk c z p + 1)
      omega
    · rw [if_neg h3]; omega
theorem sr_le (c : Nat → Nat) (z p : Nat) : sr c z p ≤ 4 := by
  unfold sr
  by_cases h2 : sk c z p = z
  · rw [if_pos h2]; omega
  · rw [if_neg h2]; exact (so_b _).2
/-- a number's value, figure by figure -/
def vlu (c : Nat → Nat) (s k : Nat) : Int32 := Nat.rec 0 (fun i n => n * 10 + (Int32.ofNat (c (s + i)) - 48)) k
theorem vlu_s (c : Nat → Nat) (s k : Nat) : vlu c s (k + 1) = vlu c s k * 10 + (Int32.ofNat (c (s + k)) - 48) := rfl
/-- the words -/
def wg (a i : Nat) : Int32 := (stb.getD a []).getD i 0
def wln (a : Nat) : Nat := (stb.getD a []).length
def wdf (c : Nat → Nat) (a s d : Nat) : Nat → Bool := Nat.rec (fun _ => true) (fun _ f i => if Int32.ofNat (c (s + i)) = wg a i then f (i + 1) else false) d
theorem wdf_s (c : Nat → Nat) (a s d i : Nat) : wdf c a s (d + 1) i = if Int32.ofNat (c (s + i)) = wg a i then wdf c a s d (i + 1) else false := rfl
def wdb (c : Nat → Nat) (a s e : Nat) : Bool := if wln a = e - s then wdf c a s (wln a) 0 else false
theorem wln_le : ∀ a, a < 5 → 3 ≤ wln a ∧ wln a ≤ 6 := by decide +kernel
theorem wg_c : ∀ a, a < 5 → ∀ i, i < 6 → i < wln a → ((wg a i &&& 255).toUInt32 % 65536).toInt32 = wg a i := by decide +kernel
/-- the text, as it stands in the class -/
abbrev Tx (Y : Nat → Nat → Int32) (c : Nat → Nat) (z : Nat) : Prop := z ≤ 150 ∧ Y 62 3 = Int32.ofNat z ∧ ∀ j, j < z → c j < 128 ∧ Y 76 j = Int32.ofNat (c j)
def scX (c : Nat → Nat) (z : Nat) (Y : Nat → Nat → Int32) (q : Nat) : Nat → Nat → Int32 := va_up Y 62 (upd (upd (upd (Y 62) 4 (Int32.ofNat (sk c z q))) 5 (Int32.ofNat (en c z q))) 6 (Int32.ofNat (sr c z q)))
section SCAN
variable {m pc : Nat} {ls st : Vs} {Y : Nat → Nat → Int32} {J : Nat → Nat → Int64} {Q : Option Value → Sto → Prop} {c : Nat → Nat} {z : Nat}
theorem c24 (x : Nat) (hx : x < 128) {σ : Sto} : Ca 24 [.int (Int32.ofNat x)] σ m pc ls st Q ↔ Rn m pc ls (.int (Int32.ofNat (so x)) :: st) σ Q := Ca_of (r := some (.int (Int32.ofNat (so x)))) (fun Q h => by
  unfold so at h
  simp (disch := first | assumption | omega | decide | exact la_87 | exact la_88 | exact la_90 | exact la_91 | exact la_92 | exact la_93 | exact la_94 | exact la_95 | exact la_96 | exact la_97 | exact la_98 | exact la_99 | exact la_10 | exact la_23 | exact la_77 | exact la_78 | exact la_18 | exact la_19 | exact la_20) only [u24_0, u24_1, u24_3, u24_6, u24_7, u24_9, u24_12, u24_13, u24_14, u24_15, u24_17, u24_20, u24_21, u24_23, u24_26, u24_27, u24_28, u24_29, u24_31, u24_34, u24_35, u24_38, u24_39, o_aa, o_al, o_la, o_mm, o_ml, o_lm, o_ss, o_sl, o_ls, o_tn, o_tl, o_lt, o_ltl, o_llt, o_le, o_lel, o_lle, o_eq, o_eql, o_leq, o_inb, o_inl, o_neg]
  by_cases h1 : x < 97
  · rw [if_neg (by omega)] at h
    rw [if_pos h1]
    by_cases h2 : x < 48
    · rw [if_neg (by omega)] at h
      rw [if_pos h2]
      by_cases h3 : x = 59
      · omega
      · rw [if_neg h3] at h
        rw [if_pos h3]
        exact h
    · rw [if_neg h2]
      by_cases h4 : 57 < x
      · rw [if_neg (by omega)] at h
        rw [if_pos h4]
        by_cases h3 : x = 59
        · rw [if_pos h3] at h
          rw [if_neg (by omega)]
          exact h
        · rw [if_neg h3] at h
          rw [if_pos h3]
          exact h
      · rw [if_pos (by omega)] at h
        rw [if_neg h4]
        exact h
  · rw [if_neg h1]
    by_cases h2 : 122 < x
    · rw [if_neg (by omega), if_neg (by omega), if_neg (by omega)] at h
      rw [if_pos h2, if_neg (by omega), if_pos (by omega), if_pos (by omega)]
      exact h
    · rw [if_pos (by omega)] at h
      rw [if_neg h2]
      exact h)
theorem sc1 (hX : Tx Y c z) : ∀ d p, p + d = z → Rn 23 46 [.ref 62] [] (Sg (va_up Y 62 (upd (Y 62) 4 (Int32.ofNat (skf c d p)))) J) Q → Rn 23 8 [.ref 62] [] (Sg (va_up Y 62 (upd (Y 62) 4 (Int32.ofNat p))) J) Q := by
  obtain ⟨hz, e3, et⟩ := hX
  intro d
  induction d with
  | zero =>
    intro p hp h
    obtain rfl : p = z := by omega
    clear et
    simp (disch := first | assumption | omega | decide | exact la_87 | exact la_88 | exact la_90 | exact la_91 | exact la_92 | exact la_93 | exact la_94 | exact la_95 | exact la_96 | exact la_97 | exact la_98 | exact la_99 | exact la_10 | exact la_23 | exact la_77 | exact la_78 | exact la_18 | exact la_19 | exact la_20) only [u23_8, u23_9, u23_12, u23_13, u23_16, la_62, kLt, true_and, up_s, ud_s, ud_o, e3, o_aa, o_al, o_la, o_mm, o_ml, o_lm, o_ss, o_sl, o_ls, o_tn, o_tl, o_lt, o_ltl, o_llt, o_le, o_lel, o_lle, o_eq, o_eql, o_leq, o_inb, o_inl, o_neg, Nat.le_refl, if_true]
    exact h
  | succ d ih =>
    intro p hp h
    have ih := ih (p + 1) (by omega)
    obtain ⟨hc, ec⟩ := et p (by omega)
    have hn : ¬ z ≤ p := by omega
    rw [skf_s] at h
    clear et
    simp (disch := first | assumption | omega | decide | exact la_87 | exact la_88 | exact la_90 | exact la_91 | exact la_92 | exact la_93 | exact la_94 | exact la_95 | exact la_96 | exact la_97 | exact la_98 | exact la_99 | exact la_10 | exact la_23 | exact la_77 | exact la_78 | exact la_18 | exact la_19 | exact la_20 | exact Or.inl la_76) only [u23_8, u23_9, u23_12, u23_13, u23_16, u23_19, u23_20, u23_23, u23_24, u23_27, u23_28, u23_30, la_62, lr_62_1, lt_76, kLt, true_and, up_s, up_o, ud_s, ud_o, e3, ec, o_aa, o_al, o_la, o_mm, o_ml, o_lm, o_ss, o_sl, o_ls, o_tn, o_tl, o_lt, o_ltl, o_llt, o_le, o_lel, o_lle, o_eq, o_eql, o_leq, o_inb, o_inl, o_neg, hn, if_false, show p < 150 by omega]
    by_cases h1 : c p = 32
    · rw [if_pos h1] at h
      simp (disch := first | assumption | omega | decide | exact la_87 | exact la_88 | exact la_90 | exact la_91 | exact la_92 | exact la_93 | exact la_94 | exact la_95 | exact la_96 | exact la_97 | exact la_98 | exact la_99 | exact la_10 | exact la_23 | exact la_77 | exact la_78 | exact la_18 | exact la_19 | exact la_20) only [h1, not_true, if_false, u23_33, u23_34, u23_35, u23_38, u23_39, u23_40, la_62, kLt, true_and, wI_d, up_s, up_u, ud_s, ud_u, o_aa, o_al, o_la, o_mm, o_ml, o_lm, o_ss, o_sl, o_ls, o_tn, o_tl, o_lt, o_ltl, o_llt, o_le, o_lel, o_lle, o_eq, o_eql, o_leq, o_inb, o_inl, o_neg]
      exact (u23_43 ..).mpr (ih h)
    · rw [if_neg h1] at h
      simp only [h1, not_false_eq_true, if_true]
      exact h
theorem sc2 (B : Nat → Int32) (s k : Nat) (hk : 1 ≤ k ∧ k ≤ 4) (hs : s < z) (hX : Tx Y c z) : ∀ d e, e + d = z → Q none (Sg (va_up Y 62 (upd (upd (upd (Y 62) 4 (Int32.ofNat s)) 5 (Int32.ofNat (if k ≤ 2 then tlf c k d e else e))) 6 (Int32.ofNat k))) J) → Rn 23 97 [.ref 62] [] (Sg (va_up Y 62 (upd (upd (upd (Y 62) 4 (Int32.ofNat s)) 5 (Int32.ofNat e)) 6 (Int32.ofNat k))) J) Q := by
  obtain ⟨hz, e3, et⟩ := hX
  intro d
  induction d with
  | zero =>
    intro e he h
    obtain rfl : e = z := by omega
    have h : Q none (Sg (va_up Y 62 (upd (upd (upd (Y 62) 4 (Int32.ofNat s)) 5 (Int32.ofNat e)) 6 (Int32.ofNat k))) J) := by
      by_cases h2 : k ≤ 2
      · rw [if_pos h2] at h; exact h
      · rw [if_neg h2] at h; exact h
    clear et
    simp (disch := first | assumption | omega | decide | exact la_87 | exact la_88 | exact la_90 | exact la_91 | exact la_92 | exact la_93 | exact la_94 | exact la_95 | exact la_96 | exact la_97 | exact la_98 | exact la_99 | exact la_10 | exact la_23 | exact la_77 | exact la_78 | exact la_18 | exact la_19 | exact la_20) only [u23_97, u23_98, u23_101, u23_102, u23_105, u23_156, la_62, kLt, true_and, up_s, ud_s, ud_o, e3, o_aa, o_al, o_la, o_mm, o_ml, o_lm, o_ss, o_sl, o_ls, o_tn, o_tl, o_lt, o_ltl, o_llt, o_le, o_lel, o_lle, o_eq, o_eql, o_leq, o_inb, o_inl, o_neg, Nat.le_refl, if_true]
    exact h
  | succ d ih =>
    intro e he h
    have ih := ih (e + 1) (by omega)
    obtain ⟨hc, ec⟩ := et e (by omega)
    have hn : ¬ z ≤ e := by omega
    clear et
    simp (disch := first | assumption | omega | decide | exact la_87 | exact la_88 | exact la_90 | exact la_91 | exact la_92 | exact la_93 | exact la_94 | exact la_95 | exact la_96 | exact la_97 | exact la_98 | exact la_99 | exact la_10 | exact la_23 | exact la_77 | exact la_78 | exact la_18 | exact la_19 | exact la_20) only [u23_97, u23_98, u23_101, u23_102, u23_105, la_62, kLt, true_and, up_s, ud_s, ud_o, e3, o_aa, o_al, o_la, o_mm, o_ml, o_lm, o_ss, o_sl, o_ls, o_tn, o_tl, o_lt, o_ltl, o_llt, o_le, o_lel, o_lle, o_eq, o_eql, o_leq, o_inb, o_inl, o_neg, hn, if_false]
    by_cases h2 : k ≤ 2
    · rw [if_pos h2, tlf_s] at h
      rw [if_pos h2] at ih
      have hgo : Rn 23 124 [.ref 62] [] (Sg (va_up Y 62 (upd (upd (upd (Y 62) 4 (Int32.ofNat s)) 5 (Int32.ofNat e)) 6 (Int32.ofNat k))) J) Q := by
        have hso := so_b (c e)
        have h24 := fun (pc : Nat) (ls st : Vs) (σ : Sto) => @c24 23 pc ls st Q (c e) hc σ
        generalize so (c e) = w at h h24 hso
        simp (disch := first | assumption | omega | decide | exact la_87 | exact la_88 | exact la_90 | exact la_91 | exact la_92 | exact la_93 | exact la_94 | exact la_95 | exact la_96 | exact la_97 | exact la_98 | exact la_99 | exact la_10 | exact la_23 | exact la_77 | exact la_78 | exact la_18 | exact la_19 | exact la_20 | exact Or.inl la_76) only [u23_124, u23_125, u23_128, u23_129, u23_132, u23_133, u23_136, u23_137, u23_140, h24, la_62, lr_62_1, lt_76, kLt, true_and, up_s, up_o, ud_s, ud_o, ec, o_aa, o_al, o_la, o_mm, o_ml, o_lm, o_ss, o_sl, o_ls, o_tn, o_tl, o_lt, o_ltl, o_llt, o_le, o_lel, o_lle, o_eq, o_eql, o_leq, o_inb, o_inl, o_neg, show e < 150 by omega]
        by_cases h3 : w = k
        · rw [if_pos h3] at h
          simp (disch := first | assumption | omega | decide | exact la_87 | exact la_88 | exact la_90 | exact la_91 | exact la_92 | exact la_93 | exact la_94 | exact la_95 | exact la_96 | exact la_97 | exact la_98 | exact la_99 | exact la_10 | exact la_23 | exact la_77 | exact la_78 | exact la_18 | exact la_19 | exact la_20) only [h3, not_true, if_false, u23_143, u23_144, u23_145, u23_148, u23_149, u23_150, la_62, kLt, true_and, wI_d, up_s, up_u, ud_s, ud_o, o_aa, o_al, o_la, o_mm, o_ml, o_lm, o_ss, o_sl, o_ls, o_tn, o_tl, o_lt, o_ltl, o_llt, o_le, o_lel, o_lle, o_eq, o_eql, o_leq, o_inb, o_inl, o_neg]
          rw [ud_c _ _ _ (show ¬ 6 = 5 by decide), ud_u]
          exact (u23_153 ..).mpr (ih h)
        · rw [if_neg h3] at h
          simp only [h3, not_false_eq_true, if_true, u23_156]
          exact h
      by_cases h1 : k = 1
      · subst h1
        simp (disch := first | assumption | omega | decide | exact la_87 | exact la_88 | exact la_90 | exact la_91 | exact la_92 | exact la_93 | exact la_94 | exact la_95 | exact la_96 | exact la_97 | exact la_98 | exact la_99 | exact la_10 | exact la_23 | exact la_77 | exact la_78 | exact la_18 | exact la_19 | exact la_20) only [u23_108, u23_109, u23_112, u23_113, la_62, kLt, true_and, up_s, ud_s, o_aa, o_al, o_la, o_mm, o_ml, o_lm, o_ss, o_sl, o_ls, o_tn, o_tl, o_lt, o_ltl, o_llt, o_le, o_lel, o_lle, o_eq, o_eql, o_leq, o_inb, o_inl, o_neg, if_true]
        exact hgo
      · obtain rfl : k = 2 := by omega
        simp (disch := first | assumption | omega | decide | exact la_87 | exact la_88 | exact la_90 | exact la_91 | exact la_92 | exact la_93 | exact la_94 | exact la_95 | exact la_96 | exact la_97 | exact la_98 | exact la_99 | exact la_10 | exact la_23 | exact la_77 | exact la_78 | exact la_18 | exact la_19 | exact la_20) only [u23_108, u23_109, u23_112, u23_113, u23_116, u23_117, u23_120, u23_121, la_62, kLt, true_and, up_s, ud_s, o_aa, o_al, o_la, o_mm, o_ml, o_lm, o_ss, o_sl, o_ls, o_tn, o_tl, o_lt, o_ltl, o_llt, o_le, o_lel, o_lle, o_eq, o_eql, o_leq, o_inb, o_inl, o_neg, h1, not_true, if_false]
        exact hgo
    · rw [if_neg h2] at h
      have k1 : ¬ k = 1 := by omega
      have k2 : ¬ k = 2 := by omega
      simp (disch := first | assumption | omega | decide | exact la_87 | exact la_88 | exact la_90 | exact la_91 | exact la_92 | exact la_93 | exact la_94 | exact la_95 | exact la_96 | exact la_97 | exact la_98 | exact la_99 | exact la_10 | exact la_23 | exact la_77 | exact la_78 | exact la_18 | exact la_19 | exact la_20) only [u23_108, u23_109, u23_112, u23_113, u23_116, u23_117, u23_120, u23_121, u23_156, la_62, kLt, true_and, up_s, ud_s, o_aa, o_al, o_la, o_mm, o_ml, o_lm, o_ss, o_sl, o_ls, o_tn, o_tl, o_lt, o_ltl, o_llt, o_le, o_lel, o_lle, o_eq, o_eql, o_leq, o_inb, o_inl, o_neg, k1, k2, not_false_eq_true, if_true, if_false]
      exact h
theorem c23 (q : Nat) (hX : Tx Y c z) (hq : q ≤ z) (e5 : Y 62 5 = Int32.ofNat q) : Ca 23 [.ref 62] (Sg Y J) m pc ls st Q ↔ Rn m pc ls st (Sg (scX c z Y q) J) Q := Ca_of (r := none) (fun Q h => by
  have hX0 := hX
  obtain ⟨hz, e3, et⟩ := hX0
  have hsl := sk_le c hq
  unfold scX sr en at h
  simp (disch := first | assumption | omega | decide | exact la_87 | exact la_88 | exact la_90 | exact la_91 | exact la_92 | exact la_93 | exact la_94 | exact la_95 | exact la_96 | exact la_97 | exact la_98 | exact la_99 | exact la_10 | exact la_23 | exact la_77 | exact la_78 | exact la_18 | exact la_19 | exact la_20) only [u23_0, u23_1, u23_2, u23_5, la_62, kLt, true_and, wI_d, e5]
  refine sc1 hX (z - q) q (by omega) ?_
  have hsk : skf c (z - q) q = sk c z q := rfl
  rw [hsk]
  generalize sk c z q = s at h hsl ⊢
  by_cases h1 : s = z
  · subst h1
    rw [if_pos rfl, if_pos rfl] at h
    clear hX et
    simp (disch := first | assumption | omega | decide | exact la_87 | exact la_88 | exact la_90 | exact la_91 | exact la_92 | exact la_93 | exact la_94 | exact la_95 | exact la_96 | exact la_97 | exact la_98 | exact la_99 | exact la_10 | exact la_23 | exact la_77 | exact la_78 | exact la_18 | exact la_19 | exact la_20) only [u23_46, u23_47, u23_48, u23_51, u23_54, u23_55, u23_58, u23_59, u23_62, u23_65, u23_66, u23_67, u23_70, la_62, kLt, true_and, wI_d, up_s, up_u, ud_s, ud_o, e3, o_aa, o_al, o_la, o_mm, o_ml, o_lm, o_ss, o_sl, o_ls, o_tn, o_tl, o_lt, o_ltl, o_llt, o_le, o_lel, o_lle, o_eq, o_eql, o_leq, o_inb, o_inl, o_neg, Nat.lt_irrefl, if_false]
    exact h
  · rw [if_neg h1, if_neg h1] at h
    have hs : s < z := by omega
    obtain ⟨hc, ec⟩ := et s hs
    have hso := so_b (c s)
    have h24 := fun (pc : Nat) (ls st : Vs) (σ : Sto) => @c24 23 pc ls st Q (c s) hc σ
    generalize so (c s) = k at h hso h24
    have hgo := sc2 (J := J) (Q := Q) (Y 62) s k hso hs hX (z - (s + 1)) (s + 1) (by omega) h
    clear hX et h
    simp (disch := first | assumption | omega | decide | exact la_87 | exact la_88 | exact la_90 | exact la_91 | exact la_92 | exact la_93 | exact la_94 | exact la_95 | exact la_96 | exact la_97 | exact la_98 | exact la_99 | exact la_10 | exact la_23 | exact la_77 | exact la_78 | exact la_18 | exact la_19 | exact la_20 | exact Or.inl la_76) only [u23_46, u23_47, u23_48, u23_51, u23_54, u23_55, u23_58, u23_59, u23_62, u23_65, u23_66, u23_67, u23_70, u23_71, u23_72, u23_73, u23_76, u23_77, u23_80, u23_81, u23_84, u23_87, u23_88, u23_89, u23_92, u23_93, u23_94, h24, la_62, lr_62_1, lt_76, kLt, true_and, wI_d, up_s, up_u, up_o, ud_s, ud_o, e3, ec, o_aa, o_al, o_la, o_mm, o_ml, o_lm, o_ss, o_sl, o_ls, o_tn, o_tl, o_lt, o_ltl, o_llt, o_le, o_lel, o_lle, o_eq, o_eql, o_leq, o_inb, o_inl, o_neg, hs, if_true, show s < 150 by omega]
    rw [ud_c _ _ _ (show ¬ 6 = 5 by decide), ud_u]
    exact hgo)
theorem c25 (s e : Nat) (hX : Tx Y c z) (hse : s ≤ e) (hez : e ≤ z) (e4 : Y 62 4 = Int32.ofNat s) (e5 : Y 62 5 = Int32.ofNat e) : Ca 25 [.ref 62, .null, .null] (Sg Y J) m pc ls st Q ↔ Rn m pc ls (.int (if e - s ≤ 2 then vlu c s (e - s) else -1) :: st) (Sg Y J) Q := Ca_of (r := some (.int (if e - s ≤ 2 then vlu c s (e - s) else -1))) (fun Q h => by
  obtain ⟨hz, e3, et⟩ := hX
  simp (disch := first | assumption | omega | decide | exact la_87 | exact la_88 | exact la_90 | exact la_91 | exact la_92 | exact la_93 | exact la_94 | exact la_95 | exact la_96 | exact la_97 | exact la_98 | exact la_99 | exact la_10 | exact la_23 | exact la_77 | exact la_78 | exact la_18 | exact la_19 | exact la_20) only [u25_0, u25_1, u25_4, u25_5, u25_8, u25_9, u25_10, la_62, kLt, true_and, e4, e5, o_aa, o_al, o_la, o_mm, o_ml, o_lm, o_ss, o_sl, o_ls, o_tn, o_tl, o_lt, o_ltl, o_llt, o_le, o_lel, o_lle, o_eq, o_eql, o_leq, o_inb, o_inl, o_neg]
  by_cases h2 : e - s ≤ 2
  · rw [if_pos h2] at h ⊢
    simp (disch := first | assumption | omega | decide | exact la_87 | exact la_88 | exact la_90 | exact la_91 | exact la_92 | exact la_93 | exact la_94 | exact la_95 | exact la_96 | exact la_97 | exact la_98 | exact la_99 | exact la_10 | exact la_23 | exact la_77 | exact la_78 | exact la_18 | exact la_19 | exact la_20) only [u25_15, u25_16, u25_17, u25_18, u25_21, la_62, kLt, true_and, e4]
    refine Rn_fr (n := e - s) (X := Unit) (fun k _ => [.ref 62, .int (vlu c s k), .int (Int32.ofNat (s + k))]) (fun _ _ => Sg Y J) () rfl rfl ?_ ?_
    · intro k hk _ ih
      have ih := ih ()
      rw [vlu_s] at ih
      obtain ⟨hc, ec⟩ := et (s + k) (by omega)
      have hn : ¬ e ≤ s + k := by omega
      generalize vlu c s k = v at ih ⊢
      clear et h
      simp (disch := first | assumption | omega | decide | exact la_87 | exact la_88 | exact la_90 | exact la_91 | exact la_92 | exact la_93 | exact la_94 | exact la_95 | exact la_96 | exact la_97 | exact la_98 | exact la_99 | exact la_10 | exact la_23 | exact la_77 | exact la_78 | exact la_18 | exact la_19 | exact la_20 | exact Or.inl la_76) only [u25_22, u25_23, u25_24, u25_27, u25_30, u25_31, u25_33, u25_34, u25_35, u25_38, u25_39, u25_40, la_62, lr_62_1, lt_76, kLt, true_and, e5, ec, o_aa, o_al, o_la, o_mm, o_ml, o_lm, o_ss, o_sl, o_ls, o_tn, o_tl, o_lt, o_ltl, o_llt, o_le, o_lel, o_lle, o_eq, o_eql, o_leq, o_inb, o_inl, o_neg, hn, if_false, show s + k < 150 by omega]
      simp only [u25_42, u25_43, u25_44, u25_45]
      rw [show Int32.ofNat (s + k) + 1 = Int32.ofNat (s + (k + 1)) from o_aa]
      exact (u25_48 ..).mpr ih
    · intro _
      rw [show s + (e - s) = e by omega]
      generalize vlu c s (e - s) = v at h ⊢
      clear et
      simp (disch := first | assumption | omega | decide | exact la_87 | exact la_88 | exact la_90 | exact la_91 | exact la_92 | exact la_93 | exact la_94 | exact la_95 | exact la_96 | exact la_97 | exact la_98 | exact la_99 | exact la_10 | exact la_23 | exact la_77 | exact la_78 | exact la_18 | exact la_19 | exact la_20) only [u25_22, u25_23, u25_24, u25_27, u25_51, u25_52, la_62, kLt, true_and, e5, o_aa, o_al, o_la, o_mm, o_ml, o_lm, o_ss, o_sl, o_ls, o_tn, o_tl, o_lt, o_ltl, o_llt, o_le, o_lel, o_lle, o_eq, o_eql, o_leq, o_inb, o_inl, o_neg, Nat.le_refl, if_true]
      exact h
  · rw [if_neg h2] at h ⊢
    simp only [u25_13, u25_14]
    exact h)
end SCAN
