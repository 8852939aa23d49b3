/-! THE CALL: read, told -/
theorem cpf_o (f g : Nat → Int32) {j k : Nat} (h : ¬ j < k) : cpf f g k j = f j := if_neg h
section TK863
variable (Y : Nat → Nat → Int32)
theorem tx_f {q : Nat} (h : q < 9 ∨ 16 < q) : tk_8_63 Y q = Y q := by
  simp (disch := omega) only [tk_8_63, up_o]
theorem tx_9 : tk_8_63 Y 9 1 = Y 64 1 ∧ tk_8_63 Y 9 2 = Y 64 2 ∧ tk_8_63 Y 11 1 = Y 66 1 ∧ tk_8_63 Y 13 1 = Y 68 1 ∧ tk_8_63 Y 15 1 = Y 70 1 := by
  simp (disch := decide) only [tk_8_63, up_o, up_s, ud_s, ud_o, and_self]
theorem tx_10 {j : Nat} (hj : j < 8) : tk_8_63 Y 10 j = Y 65 j := by
  simp (disch := decide) only [tk_8_63, up_o, up_s]; exact sb_cpy0 hj
theorem tx_12 {j : Nat} (hj : j < 18) : tk_8_63 Y 12 j = Y 67 j := by
  simp (disch := decide) only [tk_8_63, up_o, up_s]; exact sb_cpy0 hj
theorem tx_14 {j : Nat} (hj : j < 18) : tk_8_63 Y 14 j = Y 69 j := by
  simp (disch := decide) only [tk_8_63, up_o, up_s]; exact sb_cpy0 hj
end TK863
/-- what the class has behind a reading: the draft is now -/
def rdX (Y : Nat → Nat → Int32) : Nat → Nat → Int32 := va_up (tk_8_63 Y) 17 (upd (tk_8_63 Y 17) 4 0)
theorem rx_f (Y : Nat → Nat → Int32) {q : Nat} (h : q < 9 ∨ 17 < q) : rdX Y q = Y q := by
  unfold rdX
  rw [up_o _ _ (by omega), tx_f Y (by omega)]
theorem rd_rel {I Y Z : Nat → Nat → Int32} {J : Nat → Nat → Int64} {B : Nat} {A : Nat → Int32} (hR : Rel I J B) (hC : CS I A Y) (hZ : Sc (rdX Y) Z) (hA : Z 98 = A) : Rel (va_up Z 87 (cpf (Z 87) (Z 98) 62)) J (B + 60) := by
  obtain ⟨hF, ra, rb, ⟨rc, rc2⟩, rd, r4⟩ := hC
  have hm : ∀ j, j < 62 → (va_up Z 87 (cpf (Z 87) (Z 98) 62)) 87 j = A j := fun j hj => by rw [up_s, cpf_i _ _ hj, hA]
  have hn : ∀ q, q < 22 → ¬ q = 17 → (va_up Z 87 (cpf (Z 87) (Z 98) 62)) q = tk_8_63 Y q := fun q hq h17 => by
    rw [up_o _ _ (by omega), hZ.1 q ?_ (by omega) (by omega)]
    · exact up_o _ _ h17
    · unfold scr
      simp only [Bool.or_eq_false_iff, Bool.and_eq_false_iff, decide_eq_false_iff_not, beq_eq_false_iff_ne]
      omega
  have h17 : (va_up Z 87 (cpf (Z 87) (Z 98) 62)) 17 = upd (I 17) 4 0 := by
    rw [up_o _ _ (by decide), hZ.1 17 (by decide) (by decide) (by decide)]
    show va_up (tk_8_63 Y) 17 (upd (tk_8_63 Y 17) 4 0) 17 = _
    rw [up_s, tx_f Y (by omega), hF.ns (by decide) (by decide)]
  obtain ⟨x1, x2, x3, x4, x5⟩ := tx_9 Y
  refine Rel_now hR (by omega) ?_ (fun q g1 g2 g3 g4 g5 => ?_) ?_ ?_ ⟨rfl, rfl, rfl, rfl⟩
  · obtain ⟨-, -, -, -, ⟨o, u, ho, hu, f1, f2, f3, f4⟩⟩ := hR.1
    refine ⟨?_, ?_, ?_, ?_, ?_⟩
    · obtain ⟨n, hn', a1, a2, a3⟩ := ra
      refine ⟨n, hn', ?_, ?_, fun k hk => ?_⟩
      · rw [hn _ (by omega) (by omega)]; exact x3.trans a1
      · rw [hm _ (by omega)]; exact a2
      · rw [hn _ (by omega) (by omega), hm _ (by omega), hm _ (by omega), hm _ (by omega)]
        show (∃ c, c < 6 ∧ tk_8_63 Y 12 (k * 3) = _ ∧ _) ∧ (∃ S, 1 ≤ S ∧ S ≤ 9 ∧ tk_8_63 Y 12 (k * 3 + 1) = _ ∧ _) ∧ (∃ s, s < 8 ∧ tk_8_63 Y 12 (k * 3 + 2) = _ ∧ _)
        rw [tx_12 Y (by omega), tx_12 Y (by omega), tx_12 Y (by omega)]
        exact a3 k hk
    · obtain ⟨n, hn', a1, a2, a3⟩ := rb
      refine ⟨n, hn', ?_, ?_, fun k hk => ?_⟩
      · rw [hn _ (by omega) (by omega)]; exact x4.trans a1
      · rw [hm _ (by omega)]; exact a2
      · rw [hn _ (by omega) (by omega), hm _ (by omega), hm _ (by omega)]
        show (∃ s, s < 8 ∧ tk_8_63 Y 14 (k * 3) = _ ∧ _) ∧ tk_8_63 Y 14 (k * 3 + 1) = _
        rw [tx_14 Y (by omega), tx_14 Y (by omega)]
        exact a3 k hk
    · refine ⟨0, by omega, ?_, ?_, fun k hk => by omega⟩
      · rw [hn _ (by omega) (by omega)]; exact x5.trans rc
      · rw [hm _ (by omega)]; exact rc2
    · obtain ⟨⟨T, hT, t1, t2⟩, p1, w1⟩ := rd
      refine ⟨⟨T, by omega, ?_, ?_⟩, ?_, fun j hj => ?_⟩
      · rw [hn _ (by omega) (by omega)]; exact x2.trans t1
      · rw [hm _ (by omega)]; exact t2
      · rw [hn _ (by omega) (by omega), hm _ (by omega)]; exact x1.trans p1
      · rw [hn _ (by omega) (by omega), hm _ (by omega)]
        show ∃ w, w ≤ 99 ∧ tk_8_63 Y 10 j = _ ∧ _
        rw [tx_10 Y hj]
        exact w1 j hj
    · refine ⟨o, 0, ho, by omega, ?_, ?_, ?_, fun k hk => by omega⟩
      · show (va_up Z 87 (cpf (Z 87) (Z 98) 62)) 17 3 = _
        rw [h17, ud_o _ _ (by decide)]; exact f1
      · show (va_up Z 87 (cpf (Z 87) (Z 98) 62)) 17 4 = _
        rw [h17, ud_s]; rfl
      · rw [hm _ (by omega)]; exact r4
  · rw [up_o _ _ g5, hZ.1 q g1 g3 g4, rx_f Y (by omega)]
    exact hF.ns g1 g3
  · rw [up_o _ _ (by decide), hZ.2.1, rx_f Y (by omega)]
    exact hF.1.2.1
  · rw [up_o _ _ (by decide), hZ.2.2, rx_f Y (by omega)]
    exact hF.1.2.2
theorem TX_eq {I I1 : Nat → Nat → Int32} {c : Nat → Nat} {z : Nat} (h : TX I c z) (h1 : I1 62 3 = I 62 3) (h2 : I1 86 15 = I 86 15) (h3 : I1 76 = I 76) (h4 : I1 97 = I 97) : TX I1 c z := by
  unfold TX at *
  rw [h1, h2, h3, h4]
  exact h
theorem op8 : OpI 72 [.ref 0, .null] 186 [.ref 86, .null, .null] := by
  intro I J B hR hB
  obtain ⟨c, z, hT⟩ := TX_of hR
  simp (disch := decide) only [u72_0, u72_1, u72_4, la_0, la_62, lr_0_4, kLt, true_and]
  refine c19' hT (fun p Y g1 g2 g3 => ?_) (fun k A Y g1 k1 k2 g2 => ?_)
  · simp (disch := decide) only [u72_7, u72_8, u72_9, u72_10, u72_13, u72_15, u72_16, u72_19, u72_22, u72_23, la_0, la_62, lr_0_4, kLt, true_and, g3, not_true, if_false]
    refine ⟨_, _, _, rfl, rfl, g2.2 999 (by decide), g2.2 1000 (by decide), ?_⟩
    have hT1 : TX Y c z := TX_eq hT g2.1.2.1 g2.1.2.2 (g2.ns (by decide) (by decide)) (g2.ns (by decide) (by decide))
    have e98 : Y 98 = I 98 := g2.2 98 (by decide)
    refine rd_m hT1 (Sc.rf Y) (fun p' Z q1 q2 => ?_) (fun k A Z q1 q2 q3 => ?_)
    · rw [e98, g1] at q1
      injection q1 with q1
      subst q1
      exact fin_sc hR (g2.1.tr q2) rfl
    · rw [e98, g1] at q1
      cases q1
  · have hk0 : ¬ Int32.ofNat k = -1 := by
      intro w
      have h1 := congrArg Int32.toInt w
      rw [Int32.toInt_ofNat_of_lt (by omega), show (-1 : Int32).toInt = -1 from rfl] at h1
      omega
    simp (disch := decide) only [u72_7, u72_8, u72_9, u72_10, u72_13, u72_15, u72_16, u72_19, u72_22, u72_23, u72_24, u72_25, u72_28, u72_29, u72_32, u72_35, u72_38, u72_39, u72_42, u72_45, u72_48, u72_49, c43_8_63, c9 17 lisP_17, la_0, la_8, la_17, la_62, lr_0_0, lr_0_4, lr_8_5, lr_62_0, kLt, true_and, hk0, not_false_eq_true, if_true]
    have hF := g2.1
    refine ⟨_, rdX Y, _, rfl, rfl, ?_, ?_, ?_⟩
    · rw [rx_f Y (by omega)]; exact hF.2 999 (by decide)
    · rw [rx_f Y (by omega)]; exact hF.2 1000 (by decide)
    have hT1 : TX (rdX Y) c z := by
      refine TX_eq hT ?_ ?_ ?_ ?_
      · rw [rx_f Y (by omega)]; exact hF.1.2.1
      · rw [rx_f Y (by omega)]; exact hF.1.2.2
      · rw [rx_f Y (by omega)]; exact hF.ns (by decide) (by decide)
      · rw [rx_f Y (by omega)]; exact hF.ns (by decide) (by decide)
    have e98 : rdX Y 98 = I 98 := by rw [rx_f Y (by omega)]; exact hF.2 98 (by decide)
    refine rd_m hT1 (Sc.rf _) (fun p' Z q1 q2 => ?_) (fun k' A' Z q1 q2 q3 => ?_)
    · rw [e98, g1] at q1
      cases q1
    · rw [e98, g1] at q1
      injection q1 with q1
      obtain ⟨rfl, rfl⟩ := Prod.mk.inj q1
      have hrel := rd_rel hR g2 q2 q3
      have e999 : Z 999 = I 999 := by rw [q2.1 999 (by decide) (by decide) (by decide), rx_f Y (by omega)]; exact hF.2 999 (by decide)
      have e1000 : Z 1000 = I 1000 := by rw [q2.1 1000 (by decide) (by decide) (by decide), rx_f Y (by omega)]; exact hF.2 1000 (by decide)
      clear hT hT1 hR g2 hF q2 g1 q1 e98 q3
      simp only [u186_107, u186_108]
      refine Rn_fr (n := 62) (X := Unit) (fun i _ => [.ref 86, .int (Int32.ofNat k), .int (Int32.ofNat i)]) (fun i _ => Sg (va_up Z 87 (cpf (Z 87) (Z 98) i)) J) () rfl (by rw [cpf_0, up_i]) ?_ ?_
      · intro i hi _ ih
        have ih := ih ()
        rw [← cpf_s] at ih
        have hni : ¬ 62 ≤ i := by omega
        simp (disch := first | assumption | omega | decide | exact la_87 | exact la_88 | exact la_90 | exact la_91 | exact la_92 | exact la_93 | exact la_94 | exact la_95 | exact la_96 | exact la_97 | exact la_98 | exact la_99 | exact la_10 | exact la_23 | exact la_77 | exact la_78 | exact la_18 | exact la_19 | exact la_20) only [u186_109, u186_110, u186_112, u186_115, u186_116, u186_119, u186_120, u186_121, u186_124, u186_125, u186_126, u186_127, la_86, la_87, lt_87, la_98, lt_98, lr_86_0, lr_86_20, kLt, true_and, o_aa, o_al, o_la, o_mm, o_ml, o_lm, o_ss, o_sl, o_ls, o_tn, o_tl, o_lt, o_ltl, o_llt, o_le, o_lel, o_lle, o_eq, o_eql, o_leq, o_inb, o_inl, o_neg, hni, hi, if_false, wI_d, up_s, up_o, up_u, show i < 142 by omega]
        exact (u186_130 ..).mpr ih
      · intro _
        simp (disch := first | assumption | omega | decide | exact la_87 | exact la_88 | exact la_90 | exact la_91 | exact la_92 | exact la_93 | exact la_94 | exact la_95 | exact la_96 | exact la_97 | exact la_98 | exact la_99 | exact la_10 | exact la_23 | exact la_77 | exact la_78 | exact la_18 | exact la_19 | exact la_20) only [u186_109, u186_110, u186_112, u186_133, u186_134, o_aa, o_al, o_la, o_mm, o_ml, o_lm, o_ss, o_sl, o_ls, o_tn, o_tl, o_lt, o_ltl, o_llt, o_le, o_lel, o_lle, o_eq, o_eql, o_leq, o_inb, o_inl, o_neg, Nat.le_refl, if_true]
        refine ⟨_, _, trivial, rfl, ?_, ?_, hrel⟩
        · rw [up_o _ _ (by decide)]; exact e999
        · rw [up_o _ _ (by decide)]; exact e1000
