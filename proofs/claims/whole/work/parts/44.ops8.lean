/-! THE CALLS: folded, done -/
/-- nothing but scratch has changed -/
def Sc (I I' : Nat → Nat → Int32) : Prop := (∀ a, scr a = false → ¬ a = 62 → ¬ a = 86 → I' a = I a) ∧ I' 62 3 = I 62 3 ∧ I' 86 15 = I 86 15
theorem Sc.rf (I : Nat → Nat → Int32) : Sc I I := ⟨fun _ _ _ _ => rfl, rfl, rfl⟩
theorem Sc.tr {I I1 I2 : Nat → Nat → Int32} (h : Sc I I1) (k : Sc I1 I2) : Sc I I2 := ⟨fun a h1 h2 h3 => (k.1 a h1 h2 h3).trans (h.1 a h1 h2 h3), k.2.1.trans h.2.1, k.2.2.trans h.2.2⟩
theorem Sc.up {I I1 : Nat → Nat → Int32} {c : Nat} (h : Sc I I1) (hc : scr c = true) (f : Nat → Int32) : Sc I (va_up I1 c f) := by
  refine ⟨fun a h1 h2 h3 => ?_, ?_, ?_⟩
  · rw [scr_u hc h1]; exact h.1 a h1 h2 h3
  · rw [scr_u hc (by decide)]; exact h.2.1
  · rw [scr_u hc (by decide)]; exact h.2.2
theorem Sc.u86 {I I1 : Nat → Nat → Int32} (h : Sc I I1) {f : Nat → Int32} (hf : f 15 = I1 86 15) : Sc I (va_up I1 86 f) := by
  refine ⟨fun a h1 h2 h3 => ?_, ?_, ?_⟩
  · rw [up_o _ _ h3]; exact h.1 a h1 h2 h3
  · rw [up_o _ _ (by decide)]; exact h.2.1
  · rw [up_s, hf]; exact h.2.2
theorem Sc_tk (I : Nat → Nat → Int32) : Sc I (tk_21_8 I) := ((((((((Sc.rf I).up (by decide) _).up (by decide) _).up (by decide) _).up (by decide) _).up (by decide) _).up (by decide) _).up (by decide) _).up (by decide) _
theorem Sc_ps (I : Nat → Nat → Int32) (who : Int32) (n M : Nat) : Sc I (psI I 21 who n M) := ((Sc.rf I).up (by decide) _).up (by decide) _
theorem Sc_lh (I : Nat → Nat → Int32) (n : Nat) : Sc I (lhI I n) := ((((Sc.rf I).up (by decide) _).u86 (by rw [ud_o _ _ (by decide), ud_o _ _ (by decide), up_o _ _ (by decide)])).up (by decide) _).up (by decide) _
theorem Sc_pm (I : Nat → Nat → Int32) (who : Int32) (n M : Nat) : Sc I (pmI I who n M) := ((Sc.rf I).up (by decide) _).u86 (by rw [ud_o _ _ (by decide), up_o _ _ (by decide)])
theorem Sc_gm (I : Nat → Nat → Int32) (who : Int32) (n : Nat) : Sc I (gmI I who n) := ((Sc.rf I).up (by decide) _).u86 (by rw [ud_o _ _ (by decide), up_o _ _ (by decide)])
theorem Sc_pa (I : Nat → Nat → Int32) (who : Int32) (n : Nat) : Sc I (paI I 21 who n) := ((Sc.rf I).up (by decide) _).up (by decide) _
theorem fin_sc {I I2 : Nat → Nat → Int32} {J : Nat → Nat → Int64} {B : Nat} {x y : Int32} (hR : Rel I J B) (h : Sc I I2) (hx : y = x) : ∃ I3 J3, some (Value.int y) = some (.int x) ∧ Sg I2 J = Sg I3 J3 ∧ I3 999 = I 999 ∧ I3 1000 = I 1000 ∧ Rel I3 J3 (B + 60) := ⟨I2, J, by rw [hx], rfl, h.1 999 (by decide) (by decide) (by decide), h.1 1000 (by decide) (by decide) (by decide), Rel_le (Rel_scr hR h.1 h.2.1 h.2.2 ⟨rfl, rfl, rfl, rfl⟩) (by omega)⟩
theorem rw3_eq {C D : Nat → Int32} {n : Nat} (x : Int32) (h : ∀ j, j < n → C j = D j) : ∀ k, k ≤ n → rw3 C x k = rw3 D x k := by
  intro k
  induction k with
  | zero => intro _; rfl
  | succ k ih => intro hk; rw [rw3_s, rw3_s, ih (by omega), h k (by omega)]
/-- the works below k that are done, as bits -/
def dnb (W S N : Nat → Int32) (k : Nat) : Int32 := Nat.rec 0 (fun j s => if W (S j).toNatClampNeg < N j then s else s ||| (1 <<< (Int32.ofNat j &&& 31))) k
theorem dnb_s (W S N : Nat → Int32) (k : Nat) : dnb W S N (k + 1) = if W (S k).toNatClampNeg < N k then dnb W S N k else dnb W S N k ||| (1 <<< (Int32.ofNat k &&& 31)) := rfl
theorem dnb_eq {W V S S' N N' : Nat → Int32} {n : Nat} (hW : ∀ j, j < 8 → W j = V j) (h : ∀ k, k < n → N k = N' k ∧ ∃ s, s < 8 ∧ S k = Int32.ofNat s ∧ S' k = Int32.ofNat s) : ∀ k, k ≤ n → dnb W S N k = dnb V S' N' k := by
  intro k
  induction k with
  | zero => intro _; rfl
  | succ k ih =>
    intro hk
    obtain ⟨e1, s, hs, e2, e3⟩ := h k (by omega)
    rw [dnb_s, dnb_s, ih (by omega), e1, e2, e3, o_tn (by omega), hW s hs]
section DONE
variable {m pc : Nat} {ls st : Vs} {I : Nat → Nat → Int32} {J : Nat → Nat → Int64} {Q : Option Value → Sto → Prop}
theorem c60 (y : Nat) (hy : isY y) : Ca 60 [.ref y, .null, .null] (Sg I J) m pc ls st Q ↔ Rn m pc ls (.int (rw3 (I (y + 1)) 0 8) :: st) (Sg I J) Q := Ca_of (r := some (.int (rw3 (I (y + 1)) 0 8))) (fun Q h => by
  obtain ⟨f1, f2, f3, f4, f5, f6⟩ := isY_f hy
  clear hy
  simp only [u60_0, u60_1, u60_2, u60_3]
  refine Rn_fr (n := 8) (X := Unit) (fun k _ => [.ref y, .int (rw3 (I (y + 1)) 0 k), .int (Int32.ofNat k)]) (fun k _ => Sg I J) () rfl rfl ?_ ?_
  · intro k hk _ ih
    have ih := ih ()
    rw [rw3_s] at ih
    have hnk : ¬ 8 ≤ k := by omega
    simp (disch := first | assumption | omega | decide | exact la_87 | exact la_88 | exact la_90 | exact la_91 | exact la_92 | exact la_93 | exact la_94 | exact la_95 | exact la_96 | exact la_97 | exact la_98 | exact la_99 | exact la_10 | exact la_23 | exact la_77 | exact la_78 | exact la_18 | exact la_19 | exact la_20) only [u60_4, u60_5, u60_7, u60_10, u60_11, u60_14, u60_15, u60_16, u60_19, u60_20, u60_21, u60_22, u60_23, u60_24, u60_25, u60_31, u60_32, f1, f2, f3, f4, f5, true_and, o_aa, o_al, o_la, o_mm, o_ml, o_lm, o_ss, o_sl, o_ls, o_tn, o_tl, o_lt, o_ltl, o_llt, o_le, o_lel, o_lle, o_eq, o_eql, o_leq, o_inb, o_inl, o_neg, hk, hnk, if_false]
    by_cases hc : I (y + 1) k = 0
    · rw [if_pos hc] at ih
      simp only [hc, not_true, if_false]
      exact (u60_28 ..).mpr ih
    · rw [if_neg hc] at ih
      simp only [hc, not_false_eq_true, if_true]
      exact (u60_28 ..).mpr ih
  · intro _
    simp (disch := first | assumption | omega | decide | exact la_87 | exact la_88 | exact la_90 | exact la_91 | exact la_92 | exact la_93 | exact la_94 | exact la_95 | exact la_96 | exact la_97 | exact la_98 | exact la_99 | exact la_10 | exact la_23 | exact la_77 | exact la_78 | exact la_18 | exact la_19 | exact la_20) only [u60_4, u60_5, u60_7, u60_10, u60_11, u60_14, u60_15, u60_16, u60_19, u60_20, u60_21, u60_22, u60_23, u60_24, u60_25, u60_31, u60_32, o_aa, o_al, o_la, o_mm, o_ml, o_lm, o_ss, o_sl, o_ls, o_tn, o_tl, o_lt, o_ltl, o_llt, o_le, o_lel, o_lle, o_eq, o_eql, o_leq, o_inb, o_inl, o_neg, Nat.le_refl, if_true]
    exact h)
/-- works as they stand in a valley -/
abbrev Wm (I : Nat → Nat → Int32) (v n : Nat) : Prop := n ≤ 6 ∧ I (v + 5) 1 = Int32.ofNat n ∧ ∀ k, k < n → ∃ s, s < 8 ∧ I (v + 6) (k * 3) = Int32.ofNat s
abbrev dnV (I : Nat → Nat → Int32) (v n : Nat) : Int32 := dnb (I (v + 2)) (fun j => I (v + 6) (j * 3)) (fun j => I (v + 6) (j * 3 + 1)) n
theorem c48 (v n : Nat) (hv : isV v) (hw : Wm I v n) : Ca 48 [.ref v, .null, .null] (Sg I J) m pc ls st Q ↔ Rn m pc ls (.int (dnV I v n) :: st) (Sg I J) Q := Ca_of (r := some (.int (dnV I v n))) (fun Q h => by
  obtain ⟨f1, f2, hy, ht1, ht2, ht3, hp, ⟨y1, y2, y3, y4, y5, y6⟩, ⟨t1, t2, t3, t4, t5, t6⟩, ⟨w1, w2, w3, w4, w5, w6⟩, ⟨m1, m2, m3, m4, m5, m6⟩, r0, r1, r2, r3, r4, r5⟩ := isV_f hv
  obtain ⟨hn, e1, e2⟩ := hw
  have hcell := fun (pc : Nat) (ls st : Vs) (r q : Int32) => @c35 48 pc ls st I J Q (v + 5) ht2 r q
  clear hv hy ht1 ht2 ht3 hp m1 m2 m3 m4 m5 m6 t1 t2 t3 t4 t5 t6 r0 r2 r4 r5
  simp only [u48_0, u48_1, u48_2, u48_3]
  refine Rn_fr (n := n) (X := Unit) (fun k _ => [.ref v, .int (dnV I v k), .int (Int32.ofNat k)]) (fun k _ => Sg I J) () rfl rfl ?_ ?_
  · intro k hk _ ih
    have ih := ih ()
    obtain ⟨s, hs, es⟩ := e2 k hk
    have hnk : ¬ n ≤ k := by omega
    have h18 : k * 3 < 18 := by omega
    have h19 : k * 3 + 1 < 18 := by omega
    simp only [dnV, dnb_s, es, o_tn (show s < 2147483648 by omega)] at ih
    simp (disch := first | assumption | omega | decide | exact la_87 | exact la_88 | exact la_90 | exact la_91 | exact la_92 | exact la_93 | exact la_94 | exact la_95 | exact la_96 | exact la_97 | exact la_98 | exact la_99 | exact la_10 | exact la_23 | exact la_77 | exact la_78 | exact la_18 | exact la_19 | exact la_20) only [u48_4, u48_5, u48_6, u48_9, u48_12, u48_15, u48_16, u48_19, u48_22, u48_23, u48_26, u48_27, u48_28, u48_31, u48_32, u48_33, u48_36, u48_37, u48_38, u48_41, u48_44, u48_45, u48_46, u48_47, u48_48, u48_49, u48_50, u48_56, u48_57, hcell, f1, f2, r1, r3, y1, y2, y3, y4, y5, w1, w5, true_and, e1, es, o_aa, o_al, o_la, o_mm, o_ml, o_lm, o_ss, o_sl, o_ls, o_tn, o_tl, o_lt, o_ltl, o_llt, o_le, o_lel, o_lle, o_eq, o_eql, o_leq, o_inb, o_inl, o_neg, Nat.add_zero, hnk, h18, h19, hs, if_false]
    by_cases hc : I (v + 2) s < I (v + 6) (k * 3 + 1)
    · rw [if_pos hc] at ih
      rw [if_pos hc]
      exact (u48_53 ..).mpr ih
    · rw [if_neg hc] at ih
      rw [if_neg hc]
      exact (u48_53 ..).mpr ih
  · intro _
    simp (disch := first | assumption | omega | decide | exact la_87 | exact la_88 | exact la_90 | exact la_91 | exact la_92 | exact la_93 | exact la_94 | exact la_95 | exact la_96 | exact la_97 | exact la_98 | exact la_99 | exact la_10 | exact la_23 | exact la_77 | exact la_78 | exact la_18 | exact la_19 | exact la_20) only [u48_4, u48_5, u48_6, u48_9, u48_12, u48_15, u48_16, u48_19, u48_22, u48_23, u48_26, u48_27, u48_28, u48_31, u48_32, u48_33, u48_36, u48_37, u48_38, u48_41, u48_44, u48_45, u48_46, u48_47, u48_48, u48_49, u48_50, u48_56, u48_57, f1, f2, r3, w1, w5, true_and, e1, o_aa, o_al, o_la, o_mm, o_ml, o_lm, o_ss, o_sl, o_ls, o_tn, o_tl, o_lt, o_ltl, o_llt, o_le, o_lel, o_lle, o_eq, o_eql, o_leq, o_inb, o_inl, o_neg, Nat.le_refl, if_true]
    exact h)
abbrev dnM (I : Nat → Nat → Int32) (n : Nat) : Int32 := dnb (I 91) (fun j => I 87 (32 + 2 * j)) (fun j => I 87 (32 + 2 * j + 1)) n
theorem c149 (n : Nat) (hn : n ≤ 6) (e1 : I 87 1 = Int32.ofNat n) (e2 : ∀ k, k < n → ∃ s, s < 8 ∧ I 87 (32 + 2 * k) = Int32.ofNat s) : Ca 149 [.ref 86, .null, .null] (Sg I J) m pc ls st Q ↔ Rn m pc ls (.int (dnM I n) :: st) (Sg I J) Q := Ca_of (r := some (.int (dnM I n))) (fun Q h => by
  simp only [u149_0, u149_1, u149_2, u149_3]
  refine Rn_fr (n := n) (X := Unit) (fun k _ => [.ref 86, .int (dnM I k), .int (Int32.ofNat k)]) (fun k _ => Sg I J) () rfl rfl ?_ ?_
  · intro k hk _ ih
    have ih := ih ()
    obtain ⟨s, hs, es⟩ := e2 k hk
    have hnk : ¬ n ≤ k := by omega
    have h18 : 32 + 2 * k < 142 := by omega
    have h19 : 32 + 2 * k + 1 < 142 := by omega
    simp only [dnM, dnb_s, es, o_tn (show s < 2147483648 by omega)] at ih
    simp (disch := first | assumption | omega | decide | exact la_87 | exact la_88 | exact la_90 | exact la_91 | exact la_92 | exact la_93 | exact la_94 | exact la_95 | exact la_96 | exact la_97 | exact la_98 | exact la_99 | exact la_10 | exact la_23 | exact la_77 | exact la_78 | exact la_18 | exact la_19 | exact la_20) only [u149_4, u149_5, u149_6, u149_9, u149_12, u149_13, u149_14, u149_17, u149_18, u149_19, u149_22, u149_23, u149_24, u149_25, u149_28, u149_31, u149_32, u149_33, u149_34, u149_37, u149_38, u149_39, u149_40, u149_46, u149_47, c120, c124, c125, la_86, la_91, lt_91, lr_86_6, kLt, true_and, e1, es, o_aa, o_al, o_la, o_mm, o_ml, o_lm, o_ss, o_sl, o_ls, o_tn, o_tl, o_lt, o_ltl, o_llt, o_le, o_lel, o_lle, o_eq, o_eql, o_leq, o_inb, o_inl, o_neg, hnk, h18, h19, hs, if_false]
    by_cases hc : I 91 s < I 87 (32 + 2 * k + 1)
    · rw [if_pos hc] at ih
      rw [if_pos hc, Int32.or_zero]
      exact (u149_43 ..).mpr ih
    · rw [if_neg hc] at ih
      rw [if_neg hc]
      exact (u149_43 ..).mpr ih
  · intro _
    simp (disch := first | assumption | omega | decide | exact la_87 | exact la_88 | exact la_90 | exact la_91 | exact la_92 | exact la_93 | exact la_94 | exact la_95 | exact la_96 | exact la_97 | exact la_98 | exact la_99 | exact la_10 | exact la_23 | exact la_77 | exact la_78 | exact la_18 | exact la_19 | exact la_20) only [u149_4, u149_5, u149_6, u149_9, u149_12, u149_13, u149_14, u149_17, u149_18, u149_19, u149_22, u149_23, u149_24, u149_25, u149_28, u149_31, u149_32, u149_33, u149_34, u149_37, u149_38, u149_39, u149_40, u149_46, u149_47, c120, la_86, kLt, true_and, e1, o_aa, o_al, o_la, o_mm, o_ml, o_lm, o_ss, o_sl, o_ls, o_tn, o_tl, o_lt, o_ltl, o_llt, o_le, o_lel, o_lle, o_eq, o_eql, o_leq, o_inb, o_inl, o_neg, Nat.le_refl, if_true]
    exact h)
end DONE
