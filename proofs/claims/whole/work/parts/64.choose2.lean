/-! THE CALL: choose, told -/
def chW (I : Nat → Nat → Int32) (n N a b q : Nat) : Nat → Int32 := psI (pcI (tk_21_8 I) q a b (Int32.ofNat (lgi (I 10) 7))) 21 (-1) n N 23
def rs (G H : Nat → Int32) (k : Nat) : Int32 := Nat.rec 0 (fun q s => if G q < G (q ^^^ 1) ∨ H q < H (q ^^^ 2) then s else s ||| (1 <<< (Int32.ofNat q &&& 31))) k
theorem rs_s (G H : Nat → Int32) (k : Nat) : rs G H (k + 1) = if G k < G (k ^^^ 1) ∨ H k < H (k ^^^ 2) then rs G H k else rs G H k ||| (1 <<< (Int32.ofNat k &&& 31)) := rfl
section CHOOSE
variable {I X Z : Nat → Nat → Int32} {J : Nat → Nat → Int64} {Q : Option Value → Sto → Prop} {n n2 T B a b N q sA sB : Nat}
theorem Fw.tj (h : Fw I X) (hB : Bs I n n2 T B) (h1 : Z 87 = I 87) : TJ (tk_21_8 X) (lhI Z n) n T := by
  have e := tk_22 X
  refine TJ_mk hB h1 (e.1.trans ?_) (e.2.1.trans ?_) (fun j hj => (tk_23 X hj).trans ?_) (e.2.2.1.trans ?_) (fun j hj => (tk_25 X hj).trans ?_)
  all_goals rw [h.ns (by decide) (by decide)]
theorem chW_c (h : Fw I X) (hB : Bs I n n2 T B) (hT : T < 100000) (hN : N ≤ 6) : ∀ j, j < 8 → psI (pcI (tk_21_8 X) q a b (Int32.ofNat (lgi (I 10) 7))) 21 (-1) n N 23 j = chW I n N a b q j := by
  intro j hj
  have hg : lgi (I 10) 7 < 8 := by have := lgi_le (I 10) 7; omega
  exact ((TJ_ps (TJ_pp (a := a) (b := b) q (h.tj (Z := I) hB rfl) hg) (fun k hk => bit_a n hB.1.1 k hk) N (by omega)).wk j hj).trans ((TJ_ps (TJ_pp (a := a) (b := b) q (TJ_tk (I1 := I) hB rfl) hg) (fun k hk => bit_a n hB.1.1 k hk) N (by omega)).wk j hj).symm
theorem chW_m (h : Z 87 = I 87) (hB : Bs I n n2 T B) (hT : T < 100000) (hN : N ≤ 6) : ∀ j, j < 8 → pmI (phI (lhI Z n) q a b (Int32.ofNat (lgi (I 10) 7))) (1 <<< (Int32.ofNat n &&& 31) - 1) n N 91 j = chW I n N a b q j := by
  intro j hj
  have hg : lgi (I 10) 7 < 8 := by have := lgi_le (I 10) 7; omega
  exact ((TJ_ps (TJ_pp (a := a) (b := b) q (TJ_tk (I1 := Z) hB h) hg) (fun k hk => bit_a n hB.1.1 k hk) N (by omega)).wk j hj).symm
theorem ch_c (hB : Bs I n n2 T B) (hT : T < 100000) (ha : a < 6) (hb : b < 6) (hN : N ≤ 6) (hsA : sA < 8) (hsB : sB < 8) (eA : I 12 (a * 3 + 2) = Int32.ofNat sA) (eB : I 12 (b * 3 + 2) = Int32.ofNat sB) (h : ∀ X, Fw I X → (∀ r, r < 4 → X 78 r = chW I n N a b r sA ∧ X 78 (4 + r) = chW I n N a b r sB) → Rn 83 74 [.ref 0, .int (Int32.ofNat a), .int (Int32.ofNat b), .int (Int32.ofNat N), .int (Int32.ofNat 4), .null, .null, .null] [] (Sg X J) Q) : ∀ d k X, k + d = 4 → Fw I X → (∀ r, r < k → X 78 r = chW I n N a b r sA ∧ X 78 (4 + r) = chW I n N a b r sB) → Rn 83 53 [.ref 0, .int (Int32.ofNat a), .int (Int32.ofNat b), .int (Int32.ofNat N), .int (Int32.ofNat k), .null, .null, .null] [] (Sg X J) Q := by
  intro d
  induction d with
  | zero =>
    intro k X hk hX hO
    obtain rfl : k = 4 := by omega
    have f := h X hX hO
    clear h hB hX hO
    simp (disch := first | assumption | omega | decide | exact la_87 | exact la_88 | exact la_90 | exact la_91 | exact la_92 | exact la_93 | exact la_94 | exact la_95 | exact la_96 | exact la_97 | exact la_98 | exact la_99 | exact la_10 | exact la_23 | exact la_77 | exact la_78 | exact la_18 | exact la_19 | exact la_20) only [u83_53, u83_55, u83_56, o_aa, o_al, o_la, o_mm, o_ml, o_lm, o_ss, o_sl, o_ls, o_tn, o_tl, o_lt, o_ltl, o_llt, o_le, o_lel, o_lle, o_eq, o_eql, o_leq, o_inb, o_inl, o_neg, Nat.le_refl, if_true]
    exact f
  | succ d ih =>
    intro k X hk hX hO
    have hnk : ¬ 4 ≤ k := by omega
    have hg : lgi (I 10) 7 < 8 := by have := lgi_le (I 10) 7; omega
    have e10 : X 10 = I 10 := hX.ns (by decide) (by decide)
    have hJ := TJ_pp (a := a) (b := b) k (hX.tj (Z := I) hB rfl) hg
    have h106 := fun (pc : Nat) (ls st : Vs) => @c106 83 pc ls st X J Q n a b N k sA sB (by omega) ha hb hN hsA hsB (by rw [hX.ns (by decide) (by decide)]; exact eA) (by rw [hX.ns (by decide) (by decide)]; exact eB) (by rw [e10]; exact hJ.tm)
    have w1 := chW_c (q := k) (a := a) (b := b) hX hB hT hN sA hsA
    have w2 := chW_c (q := k) (a := a) (b := b) hX hB hT hN sB hsB
    simp only [e10] at h106
    rw [w1, w2] at h106
    have hX2 : Fw I (va_up (psI (pcI (tk_21_8 X) k a b (Int32.ofNat (lgi (I 10) 7))) 21 (-1) n N) 78 (upd (upd (X 78) k (chW I n N a b k sA)) (4 + k) (chW I n N a b k sB))) := hX.ch (fun q hq => by rw [up_o _ _ (by omega), ps_f _ _ _ _ (by omega) (by omega), pc_f _ _ _ _ _ (by omega), tk_f _ (by omega)])
    have f := ih (k + 1) _ (by omega) hX2 (fun r hr => by
      rw [up_s]
      by_cases hrk : r = k
      · subst hrk
        rw [ud_s, ud_o _ _ (by omega), ud_s]
        exact ⟨rfl, rfl⟩
      · rw [ud_o _ _ (by omega), ud_o _ _ (by omega), ud_o _ _ (by omega), ud_o _ _ (by omega)]
        exact hO r (by omega))
    clear ih h hB hX hO hJ w1 w2 hX2
    simp (disch := first | assumption | omega | decide | exact la_87 | exact la_88 | exact la_90 | exact la_91 | exact la_92 | exact la_93 | exact la_94 | exact la_95 | exact la_96 | exact la_97 | exact la_98 | exact la_99 | exact la_10 | exact la_23 | exact la_77 | exact la_78 | exact la_18 | exact la_19 | exact la_20) only [u83_53, u83_55, u83_56, u83_59, u83_60, u83_62, u83_63, u83_64, u83_65, u83_68, h106, la_0, kLt, true_and, o_aa, o_al, o_la, o_mm, o_ml, o_lm, o_ss, o_sl, o_ls, o_tn, o_tl, o_lt, o_ltl, o_llt, o_le, o_lel, o_lle, o_eq, o_eql, o_leq, o_inb, o_inl, o_neg, hnk, if_false]
    exact (u83_71 ..).mpr f
theorem phA (e : lgi (fun j => Z 87 (5 + j)) 7 = n) (hq : q < 4) (ha : a < 6) (f : Rn 157 80 [.ref 86, .int (Int32.ofNat a), .int (Int32.ofNat b), .int (Int32.ofNat N), .int (Int32.ofNat q), .null, .null] [] (Sg (if q % 2 = 1 then wI Z 93 a (Int32.ofNat n) else Z) J) Q) : Rn 157 53 [.ref 86, .int (Int32.ofNat a), .int (Int32.ofNat b), .int (Int32.ofNat N), .int (Int32.ofNat q), .null, .null] [] (Sg Z J) Q := by
  obtain ⟨⟨-, -, b3, -⟩, -⟩ := b_q q hq
  by_cases h1 : q % 2 = 1
  · rw [if_pos h1] at f
    have n1 := b3.mpr h1
    clear b3
    simp (disch := first | assumption | omega | decide | exact la_87 | exact la_88 | exact la_90 | exact la_91 | exact la_92 | exact la_93 | exact la_94 | exact la_95 | exact la_96 | exact la_97 | exact la_98 | exact la_99 | exact la_10 | exact la_23 | exact la_77 | exact la_78 | exact la_18 | exact la_19 | exact la_20) only [u157_53, u157_54, u157_57, u157_58, u157_60, u157_61, u157_62, u157_63, u157_66, u157_67, u157_70, u157_73, u157_74, u157_77, u157_78, u157_79, n1, c156, e, la_86, la_93, lt_93, lr_86_10, kLt, true_and, not_true, if_false, o_aa, o_al, o_la, o_mm, o_ml, o_lm, o_ss, o_sl, o_ls, o_tn, o_tl, o_lt, o_ltl, o_llt, o_le, o_lel, o_lle, o_eq, o_eql, o_leq, o_inb, o_inl, o_neg, ha]
    exact f
  · rw [if_neg h1] at f
    have n1 : ¬ (Int32.ofNat q &&& 1 = 1) := fun z => h1 (b3.mp z)
    clear b3
    simp (disch := first | assumption | omega | decide | exact la_87 | exact la_88 | exact la_90 | exact la_91 | exact la_92 | exact la_93 | exact la_94 | exact la_95 | exact la_96 | exact la_97 | exact la_98 | exact la_99 | exact la_10 | exact la_23 | exact la_77 | exact la_78 | exact la_18 | exact la_19 | exact la_20) only [u157_53, u157_54, u157_57, u157_58, u157_60, u157_61, u157_62, u157_63, u157_66, u157_67, u157_70, u157_73, u157_74, u157_77, u157_78, u157_79, n1, la_86, la_93, lt_93, lr_86_10, kLt, true_and, not_false_eq_true, if_true, o_aa, o_al, o_la, o_mm, o_ml, o_lm, o_ss, o_sl, o_ls, o_tn, o_tl, o_lt, o_ltl, o_llt, o_le, o_lel, o_lle, o_eq, o_eql, o_leq, o_inb, o_inl, o_neg, ha]
    rw [wI_d, ud_i, up_i]
    exact f
theorem phB (e : lgi (fun j => Z 87 (5 + j)) 7 = n) (hq : q < 4) (hb : b < 6) (f : Rn 157 105 [.ref 86, .int (Int32.ofNat a), .int (Int32.ofNat b), .int (Int32.ofNat N), .int (Int32.ofNat q), .null, .null] [] (Sg (if 2 ≤ q then wI Z 93 b (Int32.ofNat n) else Z) J) Q) : Rn 157 80 [.ref 86, .int (Int32.ofNat a), .int (Int32.ofNat b), .int (Int32.ofNat N), .int (Int32.ofNat q), .null, .null] [] (Sg Z J) Q := by
  obtain ⟨⟨-, -, -, b4⟩, -⟩ := b_q q hq
  by_cases h1 : 2 ≤ q
  · rw [if_pos h1] at f
    have n1 : ¬ Int32.ofNat q ≤ 1 := fun z => b4.mp z h1
    clear b4
    simp (disch := first | assumption | decide) only [u157_80, u157_81, u157_84, u157_85, u157_87, u157_88, u157_91, u157_92, u157_95, u157_98, u157_99, u157_102, u157_103, u157_104, n1, c156, e, la_86, la_93, lt_93, lr_86_10, kLt, true_and, if_false, o_tn (show b < 2147483648 by omega), o_inb (show b < 2147483648 by omega), hb]
    exact f
  · rw [if_neg h1] at f
    have n1 := b4.mpr h1
    clear b4
    simp (disch := first | assumption | decide | exact la_93) only [u157_80, u157_81, u157_84, u157_85, u157_87, u157_88, u157_91, u157_92, u157_95, u157_98, u157_99, u157_102, u157_103, u157_104, n1, la_86, la_93, lt_93, lr_86_10, kLt, true_and, if_true, o_tn (show b < 2147483648 by omega), o_inb (show b < 2147483648 by omega), hb]
    rw [wI_d, ud_i, up_i]
    exact f
theorem ch_m (hB : Bs I n n2 T B) (hT : T < 100000) (ha : a < 6) (hb : b < 6) (hN : N ≤ 6) (hsA : sA < 8) (hsB : sB < 8) (eA : I 87 (14 + 3 * a + 2) = Int32.ofNat sA) (eB : I 87 (14 + 3 * b + 2) = Int32.ofNat sB) (h : ∀ Z, Sc I Z → (∀ r, r < 4 → Z 94 r = chW I n N a b r sA ∧ Z 95 r = chW I n N a b r sB) → Rn 157 156 [.ref 86, .int (Int32.ofNat a), .int (Int32.ofNat b), .int (Int32.ofNat N), .int (Int32.ofNat 4), .null, .null] [] (Sg Z J) Q) : ∀ d k Z, k + d = 4 → Sc I Z → (∀ r, r < k → Z 94 r = chW I n N a b r sA ∧ Z 95 r = chW I n N a b r sB) → Rn 157 43 [.ref 86, .int (Int32.ofNat a), .int (Int32.ofNat b), .int (Int32.ofNat N), .int (Int32.ofNat k), .null, .null] [] (Sg Z J) Q := by
  intro d
  induction d with
  | zero =>
    intro k Z hk hZ hO
    obtain rfl : k = 4 := by omega
    have f := h Z hZ hO
    clear h hB hZ hO
    simp (disch := first | assumption | omega | decide | exact la_87 | exact la_88 | exact la_90 | exact la_91 | exact la_92 | exact la_93 | exact la_94 | exact la_95 | exact la_96 | exact la_97 | exact la_98 | exact la_99 | exact la_10 | exact la_23 | exact la_77 | exact la_78 | exact la_18 | exact la_19 | exact la_20) only [u157_43, u157_45, u157_46, o_aa, o_al, o_la, o_mm, o_ml, o_lm, o_ss, o_sl, o_ls, o_tn, o_tl, o_lt, o_ltl, o_llt, o_le, o_lel, o_lle, o_eq, o_eql, o_leq, o_inb, o_inl, o_neg, Nat.le_refl, if_true]
    exact f
  | succ d ih =>
    intro k Z hk hZ hO
    have hnk : ¬ 4 ≤ k := by omega
    have hn := hB.1.1
    have hg : lgi (I 10) 7 < 8 := by have := lgi_le (I 10) 7; omega
    have e0 : Z 87 0 = Int32.ofNat n := by rw [hZ.z87]; exact hB.1.2.2.1
    have hJ := TJ_pp (a := a) (b := b) k (TJ_tk (I1 := Z) hB hZ.z87) hg
    have w1 := chW_m (q := k) (a := a) (b := b) hZ.z87 hB hT hN sA hsA
    have w2 := chW_m (q := k) (a := a) (b := b) hZ.z87 hB hT hN sB hsB
    have h135 := fun (pc : Nat) (ls st : Vs) => @c135 157 pc ls st Z J Q n hn e0
    have h141 := fun (pc : Nat) (ls st : Vs) => @c141 157 pc ls st (phI (lhI Z n) k a b (Int32.ofNat (lgi (I 10) 7))) J Q (1 <<< (Int32.ofNat n &&& 31) - 1) n T N hJ.hm (by omega) (by omega)
    have p87 : phI (lhI Z n) k a b (Int32.ofNat (lgi (I 10) 7)) 87 = I 87 := by rw [ph_f _ _ _ _ _ (by decide), lh_87, hZ.z87]
    have q87 : pmI (phI (lhI Z n) k a b (Int32.ofNat (lgi (I 10) 7))) (1 <<< (Int32.ofNat n &&& 31) - 1) n N 87 = I 87 := by rw [pm_87, p87]
    have hfr : ∀ r, r = 94 ∨ r = 95 → pmI (phI (lhI Z n) k a b (Int32.ofNat (lgi (I 10) 7))) (1 <<< (Int32.ofNat n &&& 31) - 1) n N r = Z r := fun r hr => by
      rw [pm_f _ _ _ _ (by omega) (by omega), ph_f _ _ _ _ _ (by omega)]
      simp (disch := omega) only [lhI, up_o]
    have hSp : Sc (lhI Z n) (phI (lhI Z n) k a b (Int32.ofNat (lgi (I 10) 7))) := by
      refine ⟨fun r g1 g2 g3 => ?_, ?_, ?_⟩
      · rw [ph_f _ _ _ _ _ (fun z => by subst z; exact absurd g1 (by decide))]
      · rw [ph_f _ _ _ _ _ (by decide)]
      · rw [ph_f _ _ _ _ _ (by decide)]
    have hS := ((hZ.tr (Sc_lh Z n)).tr hSp).tr (Sc_pm _ (1 <<< (Int32.ofNat n &&& 31) - 1) n N)
    have g1 : lgi (fun j => lhI Z n 87 (5 + j)) 7 = lgi (I 10) 7 := by
      refine lgi_eq (fun j hj => ?_) 7 (Nat.le_refl 7)
      rw [lh_87, hZ.z87]
      obtain ⟨w, -, x1, x2⟩ := hB.2.2.2.2.2.2 j hj
      rw [x1, x2]
    have g2 : lgi (fun j => (if k % 2 = 1 then wI (lhI Z n) 93 a (Int32.ofNat (lgi (I 10) 7)) else lhI Z n) 87 (5 + j)) 7 = lgi (I 10) 7 := by
      rw [← g1]
      by_cases h1 : k % 2 = 1
      · rw [if_pos h1, wI_d, up_o _ _ (show ¬ 87 = 93 by decide)]
      · rw [if_neg h1]
    have i0 : I 87 0 = Int32.ofNat n := hB.1.2.2.1
    have hP : phI (lhI Z n) k a b (Int32.ofNat (lgi (I 10) 7)) = if 2 ≤ k then wI (if k % 2 = 1 then wI (lhI Z n) 93 a (Int32.ofNat (lgi (I 10) 7)) else lhI Z n) 93 b (Int32.ofNat (lgi (I 10) 7)) else (if k % 2 = 1 then wI (lhI Z n) 93 a (Int32.ofNat (lgi (I 10) 7)) else lhI Z n) := rfl
    generalize pmI (phI (lhI Z n) k a b (Int32.ofNat (lgi (I 10) 7))) (1 <<< (Int32.ofNat n &&& 31) - 1) n N = Z4 at h141 q87 hfr hS w1 w2
    generalize phI (lhI Z n) k a b (Int32.ofNat (lgi (I 10) 7)) = Z3 at h141 p87 hP
    have f := ih (k + 1) (va_up (va_up Z4 94 (upd (Z4 94) k (chW I n N a b k sA))) 95 (upd (Z4 95) k (chW I n N a b k sB))) (by omega) ((hS.up (by decide) _).up (by decide) _) (fun r hr => by
      rw [up_s, up_o _ _ (by decide), up_s]
      by_cases hrk : r = k
      · subst hrk
        rw [ud_s, ud_s]
        exact ⟨rfl, rfl⟩
      · rw [ud_o _ _ hrk, ud_o _ _ hrk, hfr 94 (Or.inl rfl), hfr 95 (Or.inr rfl)]
        exact hO r (by omega))
    generalize chW I n N a b k sA = uA at w1 f
    generalize chW I n N a b k sB = uB at w2 f
    have q1 : 14 + 3 * a + 2 < 142 := by omega
    have q2 : 14 + 3 * b + 2 < 142 := by omega
    have hk4 : k < 4 := by omega
    have s3 : Rn 157 105 [.ref 86, .int (Int32.ofNat a), .int (Int32.ofNat b), .int (Int32.ofNat N), .int (Int32.ofNat k), .null, .null] [] (Sg Z3 J) Q := by
      clear ih h hB hZ hO hJ hS hfr g1 g2 hP h135 hSp
      simp (disch := first | assumption | omega | decide | exact la_87 | exact la_88 | exact la_90 | exact la_91 | exact la_92 | exact la_93 | exact la_94 | exact la_95 | exact la_96 | exact la_97 | exact la_98 | exact la_99 | exact la_10 | exact la_23 | exact la_77 | exact la_78 | exact la_18 | exact la_19 | exact la_20) only [u157_105, u157_106, u157_107, u157_108, u157_111, u157_114, u157_115, u157_118, u157_120, u157_121, u157_124, u157_125, u157_126, u157_127, u157_130, u157_131, u157_132, u157_133, u157_136, u157_138, u157_139, u157_142, u157_143, u157_144, u157_145, u157_148, u157_149, u157_150, c123, c140, h141, p87, q87, i0, eA, eB, w1, w2, la_86, la_91, lt_91, la_94, lt_94, la_95, lt_95, lr_86_6, lr_86_11, lr_86_12, kLt, true_and, o_aa, o_al, o_la, o_mm, o_ml, o_lm, o_ss, o_sl, o_ls, o_tn, o_tl, o_lt, o_ltl, o_llt, o_le, o_lel, o_lle, o_eq, o_eql, o_leq, o_inb, o_inl, o_neg, hsA, hsB, q1, q2, hk4, wI_d, up_o, up_s]
      exact (u157_153 ..).mpr f
    clear ih h hB hZ hO hJ hS hfr f h141 hSp
    subst hP
    simp (disch := first | assumption | omega | decide | exact la_87 | exact la_88 | exact la_90 | exact la_91 | exact la_92 | exact la_93 | exact la_94 | exact la_95 | exact la_96 | exact la_97 | exact la_98 | exact la_99 | exact la_10 | exact la_23 | exact la_77 | exact la_78 | exact la_18 | exact la_19 | exact la_20) only [u157_43, u157_45, u157_46, u157_49, u157_50, h135, la_86, kLt, true_and, o_aa, o_al, o_la, o_mm, o_ml, o_lm, o_ss, o_sl, o_ls, o_tn, o_tl, o_lt, o_ltl, o_llt, o_le, o_lel, o_lle, o_eq, o_eql, o_leq, o_inb, o_inl, o_neg, hnk, if_false]
    exact phA g1 hk4 ha (phB g2 hk4 hb s3)
end CHOOSE
theorem op19 (a b c : Int32) : OpI 83 [.ref 0, .int a, .int b, .int c, .null, .null, .null, .null] 157 [.ref 86, .int a, .int b, .int c, .null, .null, .null] := by
  intro I J B hR hB
  obtain ⟨n, n2, T, hBs⟩ := Bs_of hR
  have hT := hBs.2.2.1
  have hn := hBs.1.1
  have e11 : I 11 1 = Int32.ofNat n := hBs.1.2.1
  have e87 : I 87 0 = Int32.ofNat n := hBs.1.2.2.1
  by_cases h1 : 0 ≤ a ∧ a < Int32.ofNat n
  · by_cases h2 : 0 ≤ b ∧ b < Int32.ofNat n
    · by_cases h3 : a = b
      · have g0 : bdI I 87 0 = Int32.ofNat n := by rw [bd_87]; exact e87
        simp (disch := decide) only [u83_0, u83_1, u83_4, u83_7, u83_8, u83_11, u83_14, u83_15, u83_18, u83_21, u83_22, u83_25, u83_28, u83_29, u83_30, u83_33, u83_34, u83_35, u83_37, u83_40, u83_43, u83_44, u83_46, u83_49, c30 11 lisT_11, c100, c103b, bi_0, h1, h2, h3, e11, not_true, not_false_eq_true, if_true, if_false, la_0, la_8, la_11, lr_0_0, lr_8_2, kLt, true_and]
        refine ⟨_, _, _, rfl, rfl, up_o _ _ (by decide), up_o _ _ (by decide), ?_⟩
        simp (disch := decide) only [u157_0, u157_1, u157_2, u157_5, u157_8, u157_9, u157_10, u157_13, u157_16, u157_17, u157_18, u157_21, u157_22, u157_23, u157_24, u157_27, u157_30, u157_33, u157_34, u157_36, u157_39, c121 n hn g0, c113n, c114, bi_0, h1, h2, h3, not_true, not_false_eq_true, if_true, if_false, la_86, kLt, true_and]
        exact fin_bad' hR
      · by_cases h4 : 1 ≤ c ∧ c ≤ 6
        · obtain ⟨ka, hka, rfl⟩ := lt_n hn h1
          obtain ⟨kb, hkb, rfl⟩ := lt_n hn h2
          have h0c : 0 ≤ c := Int32.le_trans (by decide) h4.1
          obtain ⟨N, hN, rfl⟩ := o_in (m := 6) h0c h4.2 (by omega)
          obtain ⟨-, -, ⟨sA, hsA, a1, a2⟩⟩ := hBs.1.2.2.2 ka hka
          obtain ⟨-, -, ⟨sB, hsB, b1, b2⟩⟩ := hBs.1.2.2.2 kb hkb
          simp (disch := decide) only [u83_0, u83_1, u83_4, u83_7, u83_8, u83_11, u83_14, u83_15, u83_18, u83_21, u83_22, u83_25, u83_28, u83_29, u83_30, u83_33, u83_34, u83_35, u83_37, u83_40, u83_43, u83_44, u83_46, u83_49, u83_50, u83_51, c30 11 lisT_11, c100, bi_0, h1, h2, h3, h4, e11, not_true, not_false_eq_true, if_true, if_false, la_0, la_8, la_11, lr_0_0, lr_8_2, kLt, true_and]
          refine ch_c hBs (by omega) (by omega) (by omega) hN hsA hsB a1 b1 (fun X hX hO => ?_) 4 0 I (by omega) ⟨Sc.rf I, fun _ _ => rfl⟩ (fun r hr => by omega)
          simp only [u83_74, u83_75, u83_77, u83_78]
          refine Rn_fr (n := 4) (X := Value × Value) (fun k v => [.ref 0, .int (Int32.ofNat ka), .int (Int32.ofNat kb), .int (Int32.ofNat N), .int (rs (fun q => chW I n N ka kb q sA) (fun q => chW I n N ka kb q sB) k), .int (Int32.ofNat k), v.1, v.2]) (fun _ _ => Sg X J) (.null, .null) rfl rfl ?_ ?_
          · intro k hk v ih
            obtain ⟨-, x1, x2, x3, x4⟩ := b_q k hk
            have hnk : ¬ 4 ≤ k := by omega
            obtain ⟨p1, p2⟩ := hO k hk
            have p3 := (hO (k ^^^ 1) x3).1
            have p4 := (hO (k ^^^ 2) x4).2
            simp only [rs_s] at ih
            generalize rs (fun q => chW I n N ka kb q sA) (fun q => chW I n N ka kb q sB) k = z at ih ⊢
            generalize chW I n N ka kb k sA = w1 at ih p1
            generalize chW I n N ka kb k sB = w2 at ih p2
            generalize chW I n N ka kb (k ^^^ 1) sA = w3 at ih p3
            generalize chW I n N ka kb (k ^^^ 2) sB = w4 at ih p4
            generalize k ^^^ 1 = k1 at x1 x3 p3
            generalize k ^^^ 2 = k2 at x2 x4 p4
            clear hR hBs hX hO
            simp (disch := first | assumption | omega | decide | exact la_87 | exact la_88 | exact la_90 | exact la_91 | exact la_92 | exact la_93 | exact la_94 | exact la_95 | exact la_96 | exact la_97 | exact la_98 | exact la_99 | exact la_10 | exact la_23 | exact la_77 | exact la_78 | exact la_18 | exact la_19 | exact la_20) only [u83_80, u83_82, u83_83, u83_86, u83_87, u83_90, u83_92, u83_93, u83_94, u83_97, u83_99, u83_100, u83_101, u83_102, la_0, la_78, lt_78, lr_0_5, kLt, true_and, o_aa, o_al, o_la, o_mm, o_ml, o_lm, o_ss, o_sl, o_ls, o_tn, o_tl, o_lt, o_ltl, o_llt, o_le, o_lel, o_lle, o_eq, o_eql, o_leq, o_inb, o_inl, o_neg, x1, p1, p3, hnk, if_false, show k < 8 by omega, show k1 < 8 by omega]
            by_cases c1 : w1 < w3
            · simp only [if_pos (Or.inl c1)] at ih
              simp (disch := first | assumption | omega | decide | exact la_87 | exact la_88 | exact la_90 | exact la_91 | exact la_92 | exact la_93 | exact la_94 | exact la_95 | exact la_96 | exact la_97 | exact la_98 | exact la_99 | exact la_10 | exact la_23 | exact la_77 | exact la_78 | exact la_18 | exact la_19 | exact la_20) only [if_pos c1, u83_109, u83_110, u83_112, u83_113, u83_116, u83_117, u83_119, u83_120, u83_121, u83_122, u83_125, u83_126, u83_128, u83_129, u83_130, u83_131, u83_132, la_0, la_78, lt_78, lr_0_5, kLt, true_and, o_aa, o_al, o_la, o_mm, o_ml, o_lm, o_ss, o_sl, o_ls, o_tn, o_tl, o_lt, o_ltl, o_llt, o_le, o_lel, o_lle, o_eq, o_eql, o_leq, o_inb, o_inl, o_neg, x2, p2, p4, show 4 + k < 8 by omega, show 4 + k2 < 8 by omega]
              by_cases c2 : w2 < w4
              · simp (disch := first | assumption | omega | decide | exact la_87 | exact la_88 | exact la_90 | exact la_91 | exact la_92 | exact la_93 | exact la_94 | exact la_95 | exact la_96 | exact la_97 | exact la_98 | exact la_99 | exact la_10 | exact la_23 | exact la_77 | exact la_78 | exact la_18 | exact la_19 | exact la_20) only [if_pos c2, u83_139, u83_140, u83_142, u83_144, u83_161, if_true, o_aa, o_al, o_la, o_mm, o_ml, o_lm, o_ss, o_sl, o_ls, o_tn, o_tl, o_lt, o_ltl, o_llt, o_le, o_lel, o_lle, o_eq, o_eql, o_leq, o_inb, o_inl, o_neg]
                exact (u83_164 ..).mpr (ih (_, _))
              · simp (disch := first | assumption | omega | decide | exact la_87 | exact la_88 | exact la_90 | exact la_91 | exact la_92 | exact la_93 | exact la_94 | exact la_95 | exact la_96 | exact la_97 | exact la_98 | exact la_99 | exact la_10 | exact la_23 | exact la_77 | exact la_78 | exact la_18 | exact la_19 | exact la_20) only [if_neg c2, u83_135, u83_136, u83_139, u83_140, u83_142, u83_144, u83_161, if_true, o_aa, o_al, o_la, o_mm, o_ml, o_lm, o_ss, o_sl, o_ls, o_tn, o_tl, o_lt, o_ltl, o_llt, o_le, o_lel, o_lle, o_eq, o_eql, o_leq, o_inb, o_inl, o_neg]
                exact (u83_164 ..).mpr (ih (_, _))
            · simp (disch := first | assumption | omega | decide | exact la_87 | exact la_88 | exact la_90 | exact la_91 | exact la_92 | exact la_93 | exact la_94 | exact la_95 | exact la_96 | exact la_97 | exact la_98 | exact la_99 | exact la_10 | exact la_23 | exact la_77 | exact la_78 | exact la_18 | exact la_19 | exact la_20) only [if_neg c1, u83_105, u83_106, u83_109, u83_110, u83_112, u83_113, u83_116, u83_117, u83_119, u83_120, u83_121, u83_122, u83_125, u83_126, u83_128, u83_129, u83_130, u83_131, u83_132, la_0, la_78, lt_78, lr_0_5, kLt, true_and, o_aa, o_al, o_la, o_mm, o_ml, o_lm, o_ss, o_sl, o_ls, o_tn, o_tl, o_lt, o_ltl, o_llt, o_le, o_lel, o_lle, o_eq, o_eql, o_leq, o_inb, o_inl, o_neg, x2, p2, p4, show 4 + k < 8 by omega, show 4 + k2 < 8 by omega]
              by_cases c2 : w2 < w4
              · simp only [if_pos (Or.inr c2)] at ih
                simp (disch := first | assumption | omega | decide | exact la_87 | exact la_88 | exact la_90 | exact la_91 | exact la_92 | exact la_93 | exact la_94 | exact la_95 | exact la_96 | exact la_97 | exact la_98 | exact la_99 | exact la_10 | exact la_23 | exact la_77 | exact la_78 | exact la_18 | exact la_19 | exact la_20) only [if_pos c2, u83_139, u83_140, u83_142, u83_144, u83_147, u83_149, u83_161, if_true, if_false, show ¬ (1 : Int32) = 0 by decide, o_aa, o_al, o_la, o_mm, o_ml, o_lm, o_ss, o_sl, o_ls, o_tn, o_tl, o_lt, o_ltl, o_llt, o_le, o_lel, o_lle, o_eq, o_eql, o_leq, o_inb, o_inl, o_neg]
                exact (u83_164 ..).mpr (ih (_, _))
              · simp only [if_neg (fun q => Or.elim q c1 c2)] at ih
                simp (disch := first | assumption | omega | decide | exact la_87 | exact la_88 | exact la_90 | exact la_91 | exact la_92 | exact la_93 | exact la_94 | exact la_95 | exact la_96 | exact la_97 | exact la_98 | exact la_99 | exact la_10 | exact la_23 | exact la_77 | exact la_78 | exact la_18 | exact la_19 | exact la_20) only [if_neg c2, u83_135, u83_136, u83_139, u83_140, u83_142, u83_144, u83_147, u83_149, u83_152, u83_154, u83_155, u83_157, u83_158, u83_159, u83_161, if_false, show ¬ (1 : Int32) = 0 by decide, o_aa, o_al, o_la, o_mm, o_ml, o_lm, o_ss, o_sl, o_ls, o_tn, o_tl, o_lt, o_ltl, o_llt, o_le, o_lel, o_lle, o_eq, o_eql, o_leq, o_inb, o_inl, o_neg]
                exact (u83_164 ..).mpr (ih (_, _))
          · intro v
            simp (disch := first | assumption | omega | decide | exact la_87 | exact la_88 | exact la_90 | exact la_91 | exact la_92 | exact la_93 | exact la_94 | exact la_95 | exact la_96 | exact la_97 | exact la_98 | exact la_99 | exact la_10 | exact la_23 | exact la_77 | exact la_78 | exact la_18 | exact la_19 | exact la_20) only [u83_80, u83_82, u83_83, u83_167, u83_169, o_aa, o_al, o_la, o_mm, o_ml, o_lm, o_ss, o_sl, o_ls, o_tn, o_tl, o_lt, o_ltl, o_llt, o_le, o_lel, o_lle, o_eq, o_eql, o_leq, o_inb, o_inl, o_neg, Nat.le_refl, if_true]
            refine ⟨_, _, _, rfl, rfl, hX.2 999 (by decide), hX.2 1000 (by decide), ?_⟩
            have g0 : X 87 0 = Int32.ofNat n := by rw [hX.2 87 (by decide)]; exact e87
            clear hO
            simp (disch := decide) only [u157_0, u157_1, u157_2, u157_5, u157_8, u157_9, u157_10, u157_13, u157_16, u157_17, u157_18, u157_21, u157_22, u157_23, u157_24, u157_27, u157_30, u157_33, u157_34, u157_36, u157_39, u157_40, u157_41, c121 n hn g0, c113n, bi_0, h1, h2, h3, h4, not_true, not_false_eq_true, if_true, if_false, la_86, kLt, true_and]
            refine ch_m hBs (by omega) (by omega) (by omega) hN hsA hsB a2 b2 (fun Z hZ hO => ?_) 4 0 X (by omega) hX.1 (fun r hr => by omega)
            simp only [u157_156, u157_157, u157_159, u157_160]
            refine Rn_fr (n := 4) (X := Value) (fun k v => [.ref 86, .int (Int32.ofNat ka), .int (Int32.ofNat kb), .int (Int32.ofNat N), .int (rs (fun q => chW I n N ka kb q sA) (fun q => chW I n N ka kb q sB) k), .int (Int32.ofNat k), v]) (fun _ _ => Sg Z J) .null rfl rfl ?_ ?_
            · intro k hk v ih
              obtain ⟨-, x1, x2, x3, x4⟩ := b_q k hk
              have hnk : ¬ 4 ≤ k := by omega
              obtain ⟨p1, p2⟩ := hO k hk
              have p3 := (hO (k ^^^ 1) x3).1
              have p4 := (hO (k ^^^ 2) x4).2
              simp only [rs_s] at ih
              generalize rs (fun q => chW I n N ka kb q sA) (fun q => chW I n N ka kb q sB) k = z at ih ⊢
              generalize chW I n N ka kb k sA = w1 at ih p1
              generalize chW I n N ka kb k sB = w2 at ih p2
              generalize chW I n N ka kb (k ^^^ 1) sA = w3 at ih p3
              generalize chW I n N ka kb (k ^^^ 2) sB = w4 at ih p4
              generalize k ^^^ 1 = k1 at x1 x3 p3
              generalize k ^^^ 2 = k2 at x2 x4 p4
              clear hR hBs hX hO hZ
              simp (disch := first | assumption | omega | decide | exact la_87 | exact la_88 | exact la_90 | exact la_91 | exact la_92 | exact la_93 | exact la_94 | exact la_95 | exact la_96 | exact la_97 | exact la_98 | exact la_99 | exact la_10 | exact la_23 | exact la_77 | exact la_78 | exact la_18 | exact la_19 | exact la_20) only [u157_162, u157_164, u157_165, u157_168, u157_169, u157_172, u157_174, u157_175, u157_176, u157_179, u157_181, u157_182, u157_183, u157_184, la_86, la_94, lt_94, lr_86_11, kLt, true_and, o_aa, o_al, o_la, o_mm, o_ml, o_lm, o_ss, o_sl, o_ls, o_tn, o_tl, o_lt, o_ltl, o_llt, o_le, o_lel, o_lle, o_eq, o_eql, o_leq, o_inb, o_inl, o_neg, x1, p1, p3, hnk, hk, x3, if_false]
              by_cases c1 : w1 < w3
              · simp only [if_pos (Or.inl c1)] at ih
                simp (disch := first | assumption | omega | decide | exact la_87 | exact la_88 | exact la_90 | exact la_91 | exact la_92 | exact la_93 | exact la_94 | exact la_95 | exact la_96 | exact la_97 | exact la_98 | exact la_99 | exact la_10 | exact la_23 | exact la_77 | exact la_78 | exact la_18 | exact la_19 | exact la_20) only [if_pos c1, u157_210, u157_211, u157_213, u157_215, u157_217, u157_227, u157_228, u157_229, u157_231, if_true, Int32.or_zero, o_aa, o_al, o_la, o_mm, o_ml, o_lm, o_ss, o_sl, o_ls, o_tn, o_tl, o_lt, o_ltl, o_llt, o_le, o_lel, o_lle, o_eq, o_eql, o_leq, o_inb, o_inl, o_neg]
                exact (u157_234 ..).mpr (ih _)
              · simp (disch := first | assumption | omega | decide | exact la_87 | exact la_88 | exact la_90 | exact la_91 | exact la_92 | exact la_93 | exact la_94 | exact la_95 | exact la_96 | exact la_97 | exact la_98 | exact la_99 | exact la_10 | exact la_23 | exact la_77 | exact la_78 | exact la_18 | exact la_19 | exact la_20) only [if_neg c1, u157_187, u157_188, u157_191, u157_193, u157_194, u157_195, u157_198, u157_200, u157_201, u157_202, u157_203, la_86, la_95, lt_95, lr_86_12, kLt, true_and, o_aa, o_al, o_la, o_mm, o_ml, o_lm, o_ss, o_sl, o_ls, o_tn, o_tl, o_lt, o_ltl, o_llt, o_le, o_lel, o_lle, o_eq, o_eql, o_leq, o_inb, o_inl, o_neg, x2, p2, p4, hk, x4]
                by_cases c2 : w2 < w4
                · simp only [if_pos (Or.inr c2)] at ih
                  simp (disch := first | assumption | omega | decide | exact la_87 | exact la_88 | exact la_90 | exact la_91 | exact la_92 | exact la_93 | exact la_94 | exact la_95 | exact la_96 | exact la_97 | exact la_98 | exact la_99 | exact la_10 | exact la_23 | exact la_77 | exact la_78 | exact la_18 | exact la_19 | exact la_20) only [if_pos c2, u157_210, u157_211, u157_213, u157_215, u157_217, u157_227, u157_228, u157_229, u157_231, if_true, Int32.or_zero, o_aa, o_al, o_la, o_mm, o_ml, o_lm, o_ss, o_sl, o_ls, o_tn, o_tl, o_lt, o_ltl, o_llt, o_le, o_lel, o_lle, o_eq, o_eql, o_leq, o_inb, o_inl, o_neg]
                  exact (u157_234 ..).mpr (ih _)
                · simp only [if_neg (fun q => Or.elim q c1 c2)] at ih
                  simp (disch := first | assumption | omega | decide | exact la_87 | exact la_88 | exact la_90 | exact la_91 | exact la_92 | exact la_93 | exact la_94 | exact la_95 | exact la_96 | exact la_97 | exact la_98 | exact la_99 | exact la_10 | exact la_23 | exact la_77 | exact la_78 | exact la_18 | exact la_19 | exact la_20) only [if_neg c2, u157_206, u157_207, u157_210, u157_211, u157_213, u157_215, u157_217, u157_220, u157_221, u157_223, u157_224, u157_227, u157_228, u157_229, u157_231, if_false, show ¬ (1 : Int32) = 0 by decide, o_aa, o_al, o_la, o_mm, o_ml, o_lm, o_ss, o_sl, o_ls, o_tn, o_tl, o_lt, o_ltl, o_llt, o_le, o_lel, o_lle, o_eq, o_eql, o_leq, o_inb, o_inl, o_neg]
                  exact (u157_234 ..).mpr (ih _)
            · intro v
              clear hO
              simp (disch := first | assumption | omega | decide | exact la_87 | exact la_88 | exact la_90 | exact la_91 | exact la_92 | exact la_93 | exact la_94 | exact la_95 | exact la_96 | exact la_97 | exact la_98 | exact la_99 | exact la_10 | exact la_23 | exact la_77 | exact la_78 | exact la_18 | exact la_19 | exact la_20) only [u157_162, u157_164, u157_165, u157_237, u157_239, o_aa, o_al, o_la, o_mm, o_ml, o_lm, o_ss, o_sl, o_ls, o_tn, o_tl, o_lt, o_ltl, o_llt, o_le, o_lel, o_lle, o_eq, o_eql, o_leq, o_inb, o_inl, o_neg, Nat.le_refl, if_true]
              have hf := fin_sc (x := 0) (y := 0) hR hZ rfl
              simpa only [true_and] using hf
        · have g0 : bdI I 87 0 = Int32.ofNat n := by rw [bd_87]; exact e87
          simp (disch := decide) only [u83_0, u83_1, u83_4, u83_7, u83_8, u83_11, u83_14, u83_15, u83_18, u83_21, u83_22, u83_25, u83_28, u83_29, u83_30, u83_33, u83_34, u83_35, u83_37, u83_40, u83_43, u83_44, u83_46, u83_49, c30 11 lisT_11, c100, c103b, bi_0, h1, h2, h3, h4, e11, not_true, not_false_eq_true, if_true, if_false, la_0, la_8, la_11, lr_0_0, lr_8_2, kLt, true_and]
          refine ⟨_, _, _, rfl, rfl, up_o _ _ (by decide), up_o _ _ (by decide), ?_⟩
          simp (disch := decide) only [u157_0, u157_1, u157_2, u157_5, u157_8, u157_9, u157_10, u157_13, u157_16, u157_17, u157_18, u157_21, u157_22, u157_23, u157_24, u157_27, u157_30, u157_33, u157_34, u157_36, u157_39, c121 n hn g0, c113n, c114, bi_0, h1, h2, h3, h4, not_true, not_false_eq_true, if_true, if_false, la_86, kLt, true_and]
          exact fin_bad' hR
    · have g0 : bdI I 87 0 = Int32.ofNat n := by rw [bd_87]; exact e87
      simp (disch := decide) only [u83_0, u83_1, u83_4, u83_7, u83_8, u83_11, u83_14, u83_15, u83_18, u83_21, u83_22, u83_25, u83_28, u83_29, u83_30, u83_33, u83_34, u83_35, u83_37, u83_40, u83_43, u83_44, u83_46, u83_49, c30 11 lisT_11, c103b, bi_0, h1, h2, e11, not_true, not_false_eq_true, if_true, if_false, la_0, la_8, la_11, lr_0_0, lr_8_2, kLt, true_and]
      refine ⟨_, _, _, rfl, rfl, up_o _ _ (by decide), up_o _ _ (by decide), ?_⟩
      simp (disch := decide) only [u157_0, u157_1, u157_2, u157_5, u157_8, u157_9, u157_10, u157_13, u157_16, u157_17, u157_18, u157_21, u157_22, u157_23, u157_24, u157_27, u157_30, u157_33, u157_34, u157_36, u157_39, c121 n hn g0, c114, bi_0, h1, h2, not_true, not_false_eq_true, if_true, if_false, la_86, kLt, true_and]
      exact fin_bad' hR
  · have g0 : bdI I 87 0 = Int32.ofNat n := by rw [bd_87]; exact e87
    simp (disch := decide) only [u83_0, u83_1, u83_4, u83_7, u83_8, u83_11, u83_14, u83_15, u83_18, u83_21, u83_22, u83_25, u83_28, u83_29, u83_30, u83_33, u83_34, u83_35, u83_37, u83_40, u83_43, u83_44, u83_46, u83_49, c30 11 lisT_11, c103b, bi_0, h1, e11, not_true, not_false_eq_true, if_true, if_false, la_0, la_8, la_11, lr_0_0, lr_8_2, kLt, true_and]
    refine ⟨_, _, _, rfl, rfl, up_o _ _ (by decide), up_o _ _ (by decide), ?_⟩
    simp (disch := decide) only [u157_0, u157_1, u157_2, u157_5, u157_8, u157_9, u157_10, u157_13, u157_16, u157_17, u157_18, u157_21, u157_22, u157_23, u157_24, u157_27, u157_30, u157_33, u157_34, u157_36, u157_39, c121 n hn g0, c114, bi_0, h1, not_true, not_false_eq_true, if_true, if_false, la_86, kLt, true_and]
    exact fin_bad' hR
