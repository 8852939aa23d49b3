/-! THE TEXT: the class reads it -/
def stp1 (c : Nat → Nat) (z q : Nat) (A : Nat → Int32) : Sum Nat (Nat × (Nat → Int32)) := bnd c z (pI c z q A)
def stf (c : Nat → Nat) (z q : Nat) (A : Nat → Int32) : Sum Nat (Nat × (Nat → Int32)) := if wm c z 0 q = true then bnd c z (.inr (en c z q, A)) else .inl (sk c z q)
theorem wd_0 {c : Nat → Nat} {s e : Nat} (h : wdb c 0 s e = true) : ∀ a, 1 ≤ a → a < 5 → wdb c a s e = false := by
  intro a h1 h2
  have e0 : wln 0 = e - s := by
    unfold wdb at h
    apply Classical.byContradiction
    intro hn
    rw [if_neg hn] at h
    cases h
  have : ∀ a, 1 ≤ a → a < 5 → ¬ wln a = wln 0 := by
    have : ∀ a, a < 5 → 1 ≤ a → ¬ wln a = wln 0 := by decide +kernel
    exact fun a h1 h2 => this a h2 h1
  unfold wdb
  rw [if_neg (by rw [← e0]; exact this a h1 h2)]
section READC
variable {m pc : Nat} {ls st : Vs} {I Y : Nat → Nat → Int32} {J : Nat → Nat → Int64} {Q : Option Value → Sto → Prop} {c : Nat → Nat} {z q : Nat} {A : Nat → Int32}
theorem c21_x (it : Int32) (h3 : ¬ it = 3) (h4 : ¬ it = 4) : Ca 21 [.ref 62, .int it] (Sg Y J) m pc ls st Q ↔ Rn m pc ls (.int 0 :: st) (Sg Y J) Q := Ca_of (r := some (.int 0)) (fun Q h => by
  simp only [u21_0, u21_1, u21_2, u21_18, u21_19, u21_20, u21_40, u21_41, h3, h4, not_false_eq_true, if_true]
  exact ⟨Or.inl trivial, h⟩)
theorem c21_3 (n : Nat) (hn : n ≤ 6) (e : Y 66 1 = Int32.ofNat n) : Ca 21 [.ref 62, .int 3] (Sg Y J) m pc ls st Q ↔ Rn m pc ls (.int (bi (n = 6)) :: st) (Sg Y J) Q := Ca_of (r := some (.int (bi (n = 6)))) (fun Q h => by
  have hb : ¬ n < 6 ↔ n = 6 := by omega
  simp (disch := first | assumption | omega | decide | exact la_87 | exact la_88 | exact la_90 | exact la_91 | exact la_92 | exact la_93 | exact la_94 | exact la_95 | exact la_96 | exact la_97 | exact la_98 | exact la_99 | exact la_10 | exact la_23 | exact la_77 | exact la_78 | exact la_18 | exact la_19 | exact la_20) only [u21_0, u21_1, u21_2, u21_5, u21_6, u21_9, u21_12, u21_15, c29 66 lisT_66, la_62, la_63, la_66, lr_62_0, lr_63_2, kLt, true_and, e, o_aa, o_al, o_la, o_mm, o_ml, o_lm, o_ss, o_sl, o_ls, o_tn, o_tl, o_lt, o_ltl, o_llt, o_le, o_lel, o_lle, o_eq, o_eql, o_leq, o_inb, o_inl, o_neg, bi_0, not_true, if_false]
  unfold bi at h
  by_cases h6 : n = 6
  · rw [if_pos h6] at h
    rw [if_pos (fun w => w (by omega))]
    simp only [u21_36, u21_37, u21_41]
    exact ⟨Or.inr trivial, h⟩
  · rw [if_neg h6] at h
    rw [if_neg (fun w => w (by omega))]
    simp only [u21_18, u21_19, u21_20, u21_40, u21_41, show ¬ (3 : Int32) = 4 by decide, not_false_eq_true, if_true]
    exact ⟨Or.inl trivial, h⟩)
theorem c21_4 (n : Nat) (hn : n ≤ 6) (e : Y 68 1 = Int32.ofNat n) : Ca 21 [.ref 62, .int 4] (Sg Y J) m pc ls st Q ↔ Rn m pc ls (.int (bi (n = 6)) :: st) (Sg Y J) Q := Ca_of (r := some (.int (bi (n = 6)))) (fun Q h => by
  simp (disch := first | assumption | omega | decide | exact la_87 | exact la_88 | exact la_90 | exact la_91 | exact la_92 | exact la_93 | exact la_94 | exact la_95 | exact la_96 | exact la_97 | exact la_98 | exact la_99 | exact la_10 | exact la_23 | exact la_77 | exact la_78 | exact la_18 | exact la_19 | exact la_20) only [u21_0, u21_1, u21_2, u21_18, u21_19, u21_20, u21_23, u21_24, u21_27, u21_30, u21_33, c29 68 lisT_68, la_62, la_63, la_68, lr_62_0, lr_63_3, kLt, true_and, e, o_aa, o_al, o_la, o_mm, o_ml, o_lm, o_ss, o_sl, o_ls, o_tn, o_tl, o_lt, o_ltl, o_llt, o_le, o_lel, o_lle, o_eq, o_eql, o_leq, o_inb, o_inl, o_neg, bi_0, not_true, not_false_eq_true, if_true, if_false, show ¬ (4 : Int32) = 3 by decide]
  unfold bi at h
  by_cases h6 : n = 6
  · rw [if_pos h6] at h
    rw [if_neg (fun w => w (by omega))]
    simp only [u21_36, u21_37, u21_41]
    exact ⟨Or.inr trivial, h⟩
  · rw [if_neg h6] at h
    rw [if_pos (fun w => h6 (by omega))]
    simp only [u21_40, u21_41]
    exact ⟨Or.inl trivial, h⟩)
theorem ri_0 (f : Int32) (hT : TX I c z) (hC : CS I A Y) (hq : q ≤ z) (hk : Tk c z q Y) (h : Rn 20 17 [.ref 62, .int f, .int (if sr c z q = 1 then itn c (sk c z q) (en c z q) else -1), .null, .null] [] (Sg Y J) Q) : Rn 20 0 [.ref 62, .int f, .null, .null, .null] [] (Sg Y J) Q := by
  obtain ⟨k4, k5, k6⟩ := hk
  have hel := en_le c hq
  have hsr := sr_le c z q
  have h26 := fun (pc : Nat) (ls st : Vs) => @c26 20 pc ls st Y J Q c z (sk c z q) (en c z q) (hT.tc hC.1.1) hel.1 hel.2.1 k4 k5
  clear hT hC
  simp (disch := first | assumption | omega | decide | exact la_87 | exact la_88 | exact la_90 | exact la_91 | exact la_92 | exact la_93 | exact la_94 | exact la_95 | exact la_96 | exact la_97 | exact la_98 | exact la_99 | exact la_10 | exact la_23 | exact la_77 | exact la_78 | exact la_18 | exact la_19 | exact la_20) only [u20_0, u20_1, u20_4, u20_5, la_62, kLt, true_and, k6, o_aa, o_al, o_la, o_mm, o_ml, o_lm, o_ss, o_sl, o_ls, o_tn, o_tl, o_lt, o_ltl, o_llt, o_le, o_lel, o_lle, o_eq, o_eql, o_leq, o_inb, o_inl, o_neg]
  by_cases s1 : sr c z q = 1
  · rw [if_pos s1] at h
    rw [if_neg (fun w => w s1)]
    simp (disch := decide) only [u20_8, u20_9, u20_12, u20_15, u20_16, h26, la_62, kLt, true_and]
    exact h
  · rw [if_neg s1] at h
    rw [if_pos s1]
    simp only [u20_15, u20_16]
    exact h
theorem ri_n (hA : AV A) (hT : TX I c z) (hC : CS I A Y) (hq : q ≤ z) (hk : Tk c z q Y) (h0 : ∀ p Y, stp1 c z q A = .inl p → Fw I Y → Y 62 4 = Int32.ofNat p → Q (some (.int 0)) (Sg Y J)) (h1 : ∀ e A' Y, stp1 c z q A = .inr (e, A') → CS I A' Y → Y 62 5 = Int32.ofNat e → Q (some (.int 1)) (Sg Y J)) : Rn 20 0 [.ref 62, .int 0, .null, .null, .null] [] (Sg Y J) Q := by
  refine ri_0 0 hT hC hq hk ?_
  have e5 := hk.2.1
  have hbad : pI c z q A = .inl (sk c z q) → Q (some (.int 0)) (Sg Y J) := fun w => h0 _ Y (by unfold stp1; rw [w, bnd_l]) hC.1 hk.1
  unfold stp1 at h0 h1
  by_cases s1 : sr c z q = 1
  · rw [if_pos s1]
    have wb : ∀ a, wm c z a q = wdb c a (sk c z q) (en c z q) := fun a => by unfold wm; rw [if_pos s1]
    have hpi := hbad
    unfold pI at hbad h0 h1
    rw [wb 1, wb 2, wb 3, wb 4] at hbad h0 h1
    unfold itn
    by_cases b0 : wdb c 0 (sk c z q) (en c z q) = true
    · rw [if_pos b0]
      have z1 := wd_0 b0
      rw [z1 1 (by decide) (by decide), z1 2 (by decide) (by decide), z1 3 (by decide) (by decide), z1 4 (by decide) (by decide)] at hbad
      have hb := hbad (by simp only [Bool.false_eq_true, if_false])
      simp only [u20_17, u20_18, u20_19, u20_22, u20_23, u20_24, u20_27, u20_28, u20_31, u20_32, u20_35, u20_36, u20_37, u20_40, u20_43, u20_44, show ¬ (0 : Int32) = -1 by decide, show ¬ (0 : Int32) = 1 by decide, not_true, not_false_eq_true, if_true, if_false]
      exact ⟨Or.inl trivial, hb⟩
    · rw [if_neg b0]
      by_cases b1 : wdb c 1 (sk c z q) (en c z q) = true
      · rw [if_pos b1]
        rw [if_pos b1] at h0 h1
        simp (disch := decide) only [u20_17, u20_18, u20_19, u20_22, u20_23, u20_24, u20_27, u20_28, u20_31, u20_32, u20_35, u20_36, u20_37, u20_40, c21_x 1 (by decide) (by decide), la_62, kLt, true_and, show ¬ (1 : Int32) = -1 by decide, show ¬ (1 : Int32) = 0 by decide, not_true, not_false_eq_true, if_true, if_false]
        exact gW 0 hT hC hq e5 h0 h1
      · rw [if_neg b1]
        rw [if_neg b1] at h0 h1
        by_cases b2 : wdb c 2 (sk c z q) (en c z q) = true
        · rw [if_pos b2]
          rw [if_pos b2] at h0 h1
          simp (disch := decide) only [u20_17, u20_18, u20_19, u20_22, u20_23, u20_24, u20_27, u20_28, u20_31, u20_32, u20_35, u20_36, u20_37, u20_40, c21_x 2 (by decide) (by decide), la_62, kLt, true_and, show ¬ (2 : Int32) = -1 by decide, show ¬ (2 : Int32) = 0 by decide, not_true, not_false_eq_true, if_true, if_false]
          exact gP 0 hT hC hq e5 h0 h1
        · rw [if_neg b2]
          rw [if_neg b2] at h0 h1
          by_cases b3 : wdb c 3 (sk c z q) (en c z q) = true
          · rw [if_pos b3]
            rw [if_pos b3] at h0 h1
            obtain ⟨n, hn, a1, a2, -⟩ := hC.2.1
            by_cases h6 : n = 6
            · have hb := h0 (sk c z q) Y (by unfold pT; rw [if_pos (by rw [a2, h6]; rfl), bnd_l]) hC.1 hk.1
              have e6 : bi (n = 6) = 1 := if_pos h6
              simp (disch := decide) only [u20_17, u20_18, u20_19, u20_22, u20_23, u20_24, u20_27, u20_28, u20_31, u20_32, u20_35, u20_36, u20_37, u20_40, u20_43, u20_44, c21_3 n hn a1, e6, la_62, kLt, true_and, show ¬ (3 : Int32) = -1 by decide, show ¬ (3 : Int32) = 0 by decide, show ¬ (1 : Int32) = 0 by decide, not_true, not_false_eq_true, if_true, if_false]
              exact ⟨Or.inl trivial, hb⟩
            · have e6 : bi (n = 6) = 0 := if_neg h6
              simp (disch := decide) only [u20_17, u20_18, u20_19, u20_22, u20_23, u20_24, u20_27, u20_28, u20_31, u20_32, u20_35, u20_36, u20_37, u20_40, c21_3 n hn a1, e6, la_62, kLt, true_and, show ¬ (3 : Int32) = -1 by decide, show ¬ (3 : Int32) = 0 by decide, not_true, not_false_eq_true, if_true, if_false]
              exact gT 0 (fun w => h6 ((o_eq (by omega) (by omega)).mp (a2.symm.trans w))) hA hT hC hq e5 h0 h1
          · rw [if_neg b3]
            rw [if_neg b3] at h0 h1
            by_cases b4 : wdb c 4 (sk c z q) (en c z q) = true
            · rw [if_pos b4]
              rw [if_pos b4] at h0 h1
              obtain ⟨n, hn, a1, a2, -⟩ := hC.2.2.1
              by_cases h6 : n = 6
              · have hb := h0 (sk c z q) Y (by unfold pO; rw [if_pos (by rw [a2, h6]; rfl), bnd_l]) hC.1 hk.1
                have e6 : bi (n = 6) = 1 := if_pos h6
                simp (disch := decide) only [u20_17, u20_18, u20_19, u20_22, u20_23, u20_24, u20_27, u20_28, u20_31, u20_32, u20_35, u20_36, u20_37, u20_40, u20_43, u20_44, c21_4 n hn a1, e6, la_62, kLt, true_and, show ¬ (4 : Int32) = -1 by decide, show ¬ (4 : Int32) = 0 by decide, show ¬ (1 : Int32) = 0 by decide, not_true, not_false_eq_true, if_true, if_false]
                exact ⟨Or.inl trivial, hb⟩
              · have e6 : bi (n = 6) = 0 := if_neg h6
                simp (disch := decide) only [u20_17, u20_18, u20_19, u20_22, u20_23, u20_24, u20_27, u20_28, u20_31, u20_32, u20_35, u20_36, u20_37, u20_40, c21_4 n hn a1, e6, la_62, kLt, true_and, show ¬ (4 : Int32) = -1 by decide, show ¬ (4 : Int32) = 0 by decide, not_true, not_false_eq_true, if_true, if_false]
                exact gO 0 (fun w => h6 ((o_eq (by omega) (by omega)).mp (a2.symm.trans w))) hA hT hC hq e5 h0 h1
            · rw [if_neg b4]
              rw [if_neg b1, if_neg b2, if_neg b3, if_neg b4] at hbad
              simp only [u20_17, u20_18, u20_19, u20_43, u20_44, if_true]
              exact ⟨Or.inl trivial, hbad rfl⟩
  · rw [if_neg s1]
    have hb := hbad (by
      have wb : ∀ a, wm c z a q = false := fun a => by unfold wm; rw [if_neg s1]
      unfold pI
      rw [wb 1, wb 2, wb 3, wb 4]
      simp only [Bool.false_eq_true, if_false])
    simp only [u20_17, u20_18, u20_19, u20_43, u20_44, if_true]
    exact ⟨Or.inl trivial, hb⟩
theorem ri_f (hT : TX I c z) (hC : CS I A Y) (hq : q ≤ z) (hk : Tk c z q Y) (h0 : ∀ p Y, stf c z q A = .inl p → Fw I Y → Y 62 4 = Int32.ofNat p → Q (some (.int 0)) (Sg Y J)) (h1 : ∀ e A' Y, stf c z q A = .inr (e, A') → CS I A' Y → Y 62 5 = Int32.ofNat e → Q (some (.int 1)) (Sg Y J)) : Rn 20 0 [.ref 62, .int 1, .null, .null, .null] [] (Sg Y J) Q := by
  refine ri_0 1 hT hC hq hk ?_
  have e5 := hk.2.1
  unfold stf at h0 h1
  by_cases w0 : wm c z 0 q = true
  · rw [if_pos w0] at h0 h1
    have s1 : sr c z q = 1 := by
      apply Classical.byContradiction
      intro hn
      unfold wm at w0
      rw [if_neg hn] at w0
      cases w0
    have b0 : wdb c 0 (sk c z q) (en c z q) = true := by
      unfold wm at w0
      rw [if_pos s1] at w0
      exact w0
    rw [if_pos s1]
    unfold itn
    rw [if_pos b0]
    simp (disch := decide) only [u20_17, u20_18, u20_19, u20_22, u20_23, u20_24, u20_27, u20_28, u20_31, u20_32, u20_35, u20_36, u20_37, u20_40, c21_x 0 (by decide) (by decide), la_62, kLt, true_and, show ¬ (0 : Int32) = -1 by decide, not_true, not_false_eq_true, if_true, if_false]
    exact gV 1 hT hC hq e5 h0 h1
  · rw [if_neg w0] at h0
    have hb := h0 _ Y rfl hC.1 hk.1
    by_cases s1 : sr c z q = 1
    · rw [if_pos s1]
      have b0 : ¬ wdb c 0 (sk c z q) (en c z q) = true := by
        unfold wm at w0
        rw [if_pos s1] at w0
        exact w0
      unfold itn
      rw [if_neg b0]
      generalize wdb c 1 (sk c z q) (en c z q) = b1
      generalize wdb c 2 (sk c z q) (en c z q) = b2
      generalize wdb c 3 (sk c z q) (en c z q) = b3
      generalize wdb c 4 (sk c z q) (en c z q) = b4
      generalize hx : (if b1 = true then (1 : Int32) else if b2 = true then 2 else if b3 = true then 3 else if b4 = true then 4 else -1) = x
      have hx0 : ¬ x = 0 := by
        rw [← hx]
        cases b1 <;> cases b2 <;> cases b3 <;> cases b4 <;> decide
      simp only [u20_17, u20_18, u20_19]
      by_cases hm : x = -1
      · rw [if_pos hm]
        simp only [u20_43, u20_44]
        exact ⟨Or.inl trivial, hb⟩
      · rw [if_neg hm]
        simp only [u20_22, u20_23, u20_24, u20_27, u20_28, u20_31, u20_32, u20_43, u20_44, hx0, not_false_eq_true, if_true, show ¬ (1 : Int32) = 0 by decide]
        exact ⟨Or.inl trivial, hb⟩
    · rw [if_neg s1]
      simp only [u20_17, u20_18, u20_19, u20_43, u20_44, if_true]
      exact ⟨Or.inl trivial, hb⟩
end READC
