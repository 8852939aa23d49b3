/-! THE CALL: choose -/
def lgi (W : Nat → Int32) (k : Nat) : Nat := Nat.rec 0 (fun j b => if W (j + 1) ≤ W b then b else j + 1) k
theorem lgi_s (W : Nat → Int32) (k : Nat) : lgi W (k + 1) = if W (k + 1) ≤ W (lgi W k) then lgi W k else k + 1 := rfl
theorem lgi_le (W : Nat → Int32) : ∀ k, lgi W k ≤ k := by
  intro k
  induction k with
  | zero => exact Nat.le_refl 0
  | succ k ih =>
    rw [lgi_s]
    by_cases h : W (k + 1) ≤ W (lgi W k)
    · rw [if_pos h]; omega
    · rw [if_neg h]; omega
theorem lgi_eq {W V : Nat → Int32} (h : ∀ j, j < 8 → W j = V j) : ∀ k, k ≤ 7 → lgi W k = lgi V k := by
  intro k
  induction k with
  | zero => intro _; rfl
  | succ k ih =>
    intro hk
    have hl := lgi_le V k
    rw [lgi_s, lgi_s, ih (by omega), h (k + 1) (by omega), h (lgi V k) (by omega)]
section LONGEST
variable {m pc : Nat} {ls st : Vs} {X : Nat → Nat → Int32} {J : Nat → Nat → Int64} {Q : Option Value → Sto → Prop}
theorem c61 : Ca 61 [.ref 9, .null, .null] (Sg X J) m pc ls st Q ↔ Rn m pc ls (.int (Int32.ofNat (lgi (X 10) 7)) :: st) (Sg X J) Q := Ca_of (r := some (.int (Int32.ofNat (lgi (X 10) 7)))) (fun Q h => by
  simp only [u61_0, u61_1, u61_2, u61_3]
  refine Rn_fr (n := 7) (X := Unit) (fun k _ => [.ref 9, .int (Int32.ofNat (lgi (X 10) k)), .int (Int32.ofNat (k + 1))]) (fun _ _ => Sg X J) () rfl rfl ?_ ?_
  · intro k hk _ ih
    have ih := ih ()
    have hl := lgi_le (X 10) k
    rw [lgi_s] at ih
    generalize lgi (X 10) k = c at ih hl ⊢
    have hnk : ¬ 8 ≤ k + 1 := by omega
    clear h
    simp (disch := first | assumption | omega | decide | exact la_87 | exact la_88 | exact la_90 | exact la_91 | exact la_92 | exact la_93 | exact la_94 | exact la_95 | exact la_96 | exact la_97 | exact la_98 | exact la_99 | exact la_10 | exact la_23 | exact la_77 | exact la_78 | exact la_18 | exact la_19 | exact la_20) only [u61_4, u61_5, u61_7, u61_10, u61_11, u61_14, u61_15, u61_16, u61_17, u61_20, u61_21, u61_22, la_9, la_10, lt_10, lr_9_0, kLt, true_and, o_aa, o_al, o_la, o_mm, o_ml, o_lm, o_ss, o_sl, o_ls, o_tn, o_tl, o_lt, o_ltl, o_llt, o_le, o_lel, o_lle, o_eq, o_eql, o_leq, o_inb, o_inl, o_neg, hnk, if_false, show k + 1 < 8 by omega, show c < 8 by omega]
    by_cases hc : X 10 (k + 1) ≤ X 10 c
    · rw [if_pos hc] at ih ⊢
      simp (disch := first | assumption | omega | decide | exact la_87 | exact la_88 | exact la_90 | exact la_91 | exact la_92 | exact la_93 | exact la_94 | exact la_95 | exact la_96 | exact la_97 | exact la_98 | exact la_99 | exact la_10 | exact la_23 | exact la_77 | exact la_78 | exact la_18 | exact la_19 | exact la_20) only [u61_27, o_aa, o_al, o_la, o_mm, o_ml, o_lm, o_ss, o_sl, o_ls, o_tn, o_tl, o_lt, o_ltl, o_llt, o_le, o_lel, o_lle, o_eq, o_eql, o_leq, o_inb, o_inl, o_neg]
      exact (u61_30 ..).mpr ih
    · rw [if_neg hc] at ih ⊢
      simp (disch := first | assumption | omega | decide | exact la_87 | exact la_88 | exact la_90 | exact la_91 | exact la_92 | exact la_93 | exact la_94 | exact la_95 | exact la_96 | exact la_97 | exact la_98 | exact la_99 | exact la_10 | exact la_23 | exact la_77 | exact la_78 | exact la_18 | exact la_19 | exact la_20) only [u61_25, u61_26, u61_27, o_aa, o_al, o_la, o_mm, o_ml, o_lm, o_ss, o_sl, o_ls, o_tn, o_tl, o_lt, o_ltl, o_llt, o_le, o_lel, o_lle, o_eq, o_eql, o_leq, o_inb, o_inl, o_neg]
      exact (u61_30 ..).mpr ih
  · intro _
    generalize lgi (X 10) 7 = c at h ⊢
    simp (disch := first | assumption | omega | decide | exact la_87 | exact la_88 | exact la_90 | exact la_91 | exact la_92 | exact la_93 | exact la_94 | exact la_95 | exact la_96 | exact la_97 | exact la_98 | exact la_99 | exact la_10 | exact la_23 | exact la_77 | exact la_78 | exact la_18 | exact la_19 | exact la_20) only [u61_4, u61_5, u61_7, u61_33, u61_34, o_aa, o_al, o_la, o_mm, o_ml, o_lm, o_ss, o_sl, o_ls, o_tn, o_tl, o_lt, o_ltl, o_llt, o_le, o_lel, o_lle, o_eq, o_eql, o_leq, o_inb, o_inl, o_neg, Nat.le_refl, if_true]
    exact h)
theorem c156 : Ca 156 [.ref 86, .null, .null] (Sg X J) m pc ls st Q ↔ Rn m pc ls (.int (Int32.ofNat (lgi (fun j => X 87 (5 + j)) 7)) :: st) (Sg X J) Q := Ca_of (r := some (.int (Int32.ofNat (lgi (fun j => X 87 (5 + j)) 7)))) (fun Q h => by
  simp only [u156_0, u156_1, u156_2, u156_3]
  refine Rn_fr (n := 7) (X := Unit) (fun k _ => [.ref 86, .int (Int32.ofNat (lgi (fun j => X 87 (5 + j)) k)), .int (Int32.ofNat (k + 1))]) (fun _ _ => Sg X J) () rfl rfl ?_ ?_
  · intro k hk _ ih
    have ih := ih ()
    have hl := lgi_le (fun j => X 87 (5 + j)) k
    rw [lgi_s] at ih
    generalize lgi (fun j => X 87 (5 + j)) k = c at ih hl ⊢
    have hnk : ¬ 8 ≤ k + 1 := by omega
    clear h
    simp (disch := first | assumption | omega | decide | exact la_87 | exact la_88 | exact la_90 | exact la_91 | exact la_92 | exact la_93 | exact la_94 | exact la_95 | exact la_96 | exact la_97 | exact la_98 | exact la_99 | exact la_10 | exact la_23 | exact la_77 | exact la_78 | exact la_18 | exact la_19 | exact la_20) only [u156_4, u156_5, u156_7, u156_10, u156_11, u156_14, u156_15, u156_16, u156_17, u156_18, u156_19, u156_22, u156_23, u156_24, u156_25, u156_26, la_86, la_87, lt_87, lr_86_0, kLt, true_and, o_aa, o_al, o_la, o_mm, o_ml, o_lm, o_ss, o_sl, o_ls, o_tn, o_tl, o_lt, o_ltl, o_llt, o_le, o_lel, o_lle, o_eq, o_eql, o_leq, o_inb, o_inl, o_neg, hnk, if_false, show 5 + (k + 1) < 142 by omega, show 5 + c < 142 by omega]
    by_cases hc : X 87 (5 + (k + 1)) ≤ X 87 (5 + c)
    · rw [if_pos hc] at ih ⊢
      simp (disch := first | assumption | omega | decide | exact la_87 | exact la_88 | exact la_90 | exact la_91 | exact la_92 | exact la_93 | exact la_94 | exact la_95 | exact la_96 | exact la_97 | exact la_98 | exact la_99 | exact la_10 | exact la_23 | exact la_77 | exact la_78 | exact la_18 | exact la_19 | exact la_20) only [u156_33, u156_34, u156_35, o_aa, o_al, o_la, o_mm, o_ml, o_lm, o_ss, o_sl, o_ls, o_tn, o_tl, o_lt, o_ltl, o_llt, o_le, o_lel, o_lle, o_eq, o_eql, o_leq, o_inb, o_inl, o_neg]
      exact (u156_38 ..).mpr ih
    · rw [if_neg hc] at ih ⊢
      simp (disch := first | assumption | omega | decide | exact la_87 | exact la_88 | exact la_90 | exact la_91 | exact la_92 | exact la_93 | exact la_94 | exact la_95 | exact la_96 | exact la_97 | exact la_98 | exact la_99 | exact la_10 | exact la_23 | exact la_77 | exact la_78 | exact la_18 | exact la_19 | exact la_20) only [u156_29, u156_30, u156_33, u156_34, u156_35, o_aa, o_al, o_la, o_mm, o_ml, o_lm, o_ss, o_sl, o_ls, o_tn, o_tl, o_lt, o_ltl, o_llt, o_le, o_lel, o_lle, o_eq, o_eql, o_leq, o_inb, o_inl, o_neg]
      exact (u156_38 ..).mpr ih
  · intro _
    generalize lgi (fun j => X 87 (5 + j)) 7 = c at h ⊢
    simp (disch := first | assumption | omega | decide | exact la_87 | exact la_88 | exact la_90 | exact la_91 | exact la_92 | exact la_93 | exact la_94 | exact la_95 | exact la_96 | exact la_97 | exact la_98 | exact la_99 | exact la_10 | exact la_23 | exact la_77 | exact la_78 | exact la_18 | exact la_19 | exact la_20) only [u156_4, u156_5, u156_7, u156_41, u156_42, o_aa, o_al, o_la, o_mm, o_ml, o_lm, o_ss, o_sl, o_ls, o_tn, o_tl, o_lt, o_ltl, o_llt, o_le, o_lel, o_lle, o_eq, o_eql, o_leq, o_inb, o_inl, o_neg, Nat.le_refl, if_true]
    exact h)
end LONGEST
theorem TJ_sn {Y Z : Nat → Nat → Int32} {n T a g : Nat} (h : TJ Y Z n T) (hg : g < 8) : TJ (kcI Y (a * 3 + 2) (Int32.ofNat g)) (wI Z 93 a (Int32.ofNat g)) n T := by
  obtain ⟨hn, a1, a2, a3, t1, t2, p1, w1⟩ := h
  unfold TJ
  rw [kc_25, kc_f (q := 22) _ _ _ (by decide), kc_f (q := 23) _ _ _ (by decide), kc_f (q := 24) _ _ _ (by decide), wI_d]
  simp (disch := decide) only [up_o, up_s]
  refine ⟨hn, a1, a2, fun k hk => ?_, t1, t2, p1, w1⟩
  obtain ⟨c1, s1, s2⟩ := a3 k hk
  rw [ud_o _ _ (show ¬ k * 3 = a * 3 + 2 by omega), ud_o _ _ (show ¬ k * 3 + 1 = a * 3 + 2 by omega)]
  refine ⟨c1, s1, ?_⟩
  by_cases hka : k = a
  · subst hka
    rw [ud_s, ud_s]
    exact ⟨g, hg, rfl, rfl⟩
  · rw [ud_o _ _ hka, ud_o _ _ (by omega)]
    exact s2
def pcI (Y : Nat → Nat → Int32) (q a b : Nat) (g : Int32) : Nat → Nat → Int32 := if 2 ≤ q then kcI (if q % 2 = 1 then kcI Y (a * 3 + 2) g else Y) (b * 3 + 2) g else (if q % 2 = 1 then kcI Y (a * 3 + 2) g else Y)
def phI (Z : Nat → Nat → Int32) (q a b : Nat) (g : Int32) : Nat → Nat → Int32 := if 2 ≤ q then wI (if q % 2 = 1 then wI Z 93 a g else Z) 93 b g else (if q % 2 = 1 then wI Z 93 a g else Z)
theorem TJ_pp {Y Z : Nat → Nat → Int32} {n T a b g : Nat} (q : Nat) (h : TJ Y Z n T) (hg : g < 8) : TJ (pcI Y q a b (Int32.ofNat g)) (phI Z q a b (Int32.ofNat g)) n T := by
  unfold pcI phI
  by_cases h1 : q % 2 = 1
  · rw [if_pos h1, if_pos h1]
    by_cases h2 : 2 ≤ q
    · rw [if_pos h2, if_pos h2]; exact TJ_sn (TJ_sn h hg) hg
    · rw [if_neg h2, if_neg h2]; exact TJ_sn h hg
  · rw [if_neg h1, if_neg h1]
    by_cases h2 : 2 ≤ q
    · rw [if_pos h2, if_pos h2]; exact TJ_sn h hg
    · rw [if_neg h2, if_neg h2]; exact h
theorem pc_f (Y : Nat → Nat → Int32) (q a b : Nat) (g : Int32) {r : Nat} (h : ¬ r = 25) : pcI Y q a b g r = Y r := by
  unfold pcI
  by_cases h1 : q % 2 = 1
  · rw [if_pos h1]
    by_cases h2 : 2 ≤ q
    · rw [if_pos h2, kc_f _ _ _ h, kc_f _ _ _ h]
    · rw [if_neg h2, kc_f _ _ _ h]
  · rw [if_neg h1]
    by_cases h2 : 2 ≤ q
    · rw [if_pos h2, kc_f _ _ _ h]
    · rw [if_neg h2]
theorem ph_f (Y : Nat → Nat → Int32) (q a b : Nat) (g : Int32) {r : Nat} (h : ¬ r = 93) : phI Y q a b g r = Y r := by
  unfold phI
  by_cases h1 : q % 2 = 1
  · rw [if_pos h1]
    by_cases h2 : 2 ≤ q
    · rw [if_pos h2, wI_d, up_o _ _ h, wI_d, up_o _ _ h]
    · rw [if_neg h2, wI_d, up_o _ _ h]
  · rw [if_neg h1]
    by_cases h2 : 2 ≤ q
    · rw [if_pos h2, wI_d, up_o _ _ h]
    · rw [if_neg h2]
/-- scratch of the class alone -/
def Fw (I X : Nat → Nat → Int32) : Prop := Sc I X ∧ ∀ q, 86 ≤ q → X q = I q
theorem Fw.ns {I X : Nat → Nat → Int32} (h : Fw I X) {q : Nat} (h1 : scr q = false) (h2 : ¬ q = 62) : X q = I q := by
  by_cases h3 : q = 86
  · exact h.2 q (by omega)
  · exact h.1.1 q h1 h2 h3
theorem Fw.ch {I X Y : Nat → Nat → Int32} (h : Fw I X) (f : ∀ q, q < 22 ∨ (33 < q ∧ ¬ q = 78) → Y q = X q) : Fw I Y := by
  obtain ⟨⟨s1, s2, s3⟩, h2⟩ := h
  refine ⟨⟨fun a g1 g2 g3 => ?_, ?_, ?_⟩, fun q hq => ?_⟩
  · rw [f a ?_]
    · exact s1 a g1 g2 g3
    · unfold scr at g1
      simp only [Bool.or_eq_false_iff, Bool.and_eq_false_iff, decide_eq_false_iff_not, beq_eq_false_iff_ne] at g1
      omega
  · rw [f _ (by omega)]; exact s2
  · rw [f _ (by omega)]; exact s3
  · rw [f _ (by omega)]; exact h2 q hq
theorem b_q : ∀ q, q < 4 → ((Int32.ofNat q &&& 1 = 0 ↔ ¬ q % 2 = 1) ∧ (Int32.ofNat q &&& 2 = 0 ↔ ¬ 2 ≤ q) ∧ (Int32.ofNat q &&& 1 = 1 ↔ q % 2 = 1) ∧ (Int32.ofNat q ≤ 1 ↔ ¬ 2 ≤ q)) ∧ Int32.ofNat q ^^^ 1 = Int32.ofNat (q ^^^ 1) ∧ Int32.ofNat q ^^^ 2 = Int32.ofNat (q ^^^ 2) ∧ q ^^^ 1 < 4 ∧ q ^^^ 2 < 4 := by decide +kernel
section PAIR
variable {m pc : Nat} {ls st : Vs} {I X Z : Nat → Nat → Int32} {J : Nat → Nat → Int64} {Q : Option Value → Sto → Prop} {n n2 T B a b N q sA sB : Nat}
theorem c106 (hq : q < 4) (ha : a < 6) (hb : b < 6) (hN : N ≤ 6) (hsA : sA < 8) (hsB : sB < 8) (eA : X 12 (a * 3 + 2) = Int32.ofNat sA) (eB : X 12 (b * 3 + 2) = Int32.ofNat sB) (hT : Tm (pcI (tk_21_8 X) q a b (Int32.ofNat (lgi (X 10) 7))) 21 n) : Ca 106 [.ref 0, .int (Int32.ofNat q), .int (Int32.ofNat a), .int (Int32.ofNat b), .int (Int32.ofNat N), .null] (Sg X J) m pc ls st Q ↔ Rn m pc ls st (Sg (va_up (psI (pcI (tk_21_8 X) q a b (Int32.ofNat (lgi (X 10) 7))) 21 (-1) n N) 78 (upd (upd (X 78) q (psI (pcI (tk_21_8 X) q a b (Int32.ofNat (lgi (X 10) 7))) 21 (-1) n N 23 sA)) (4 + q) (psI (pcI (tk_21_8 X) q a b (Int32.ofNat (lgi (X 10) 7))) 21 (-1) n N 23 sB))) J) Q := Ca_of (r := none) (fun Q h => by
  obtain ⟨⟨b1, b2, -, -⟩, -⟩ := b_q q hq
  have h47 := fun (pc : Nat) (ls st : Vs) => @c47 106 pc ls st (pcI (tk_21_8 X) q a b (Int32.ofNat (lgi (X 10) 7))) J Q 21 lisV_21 (-1) n N hT (by omega)
  have f12 : psI (pcI (tk_21_8 X) q a b (Int32.ofNat (lgi (X 10) 7))) 21 (-1) n N 12 = X 12 := by rw [ps_f _ _ _ _ (by decide) (by decide), pc_f _ _ _ _ _ (by decide), tk_f _ (by omega)]
  have f78 : psI (pcI (tk_21_8 X) q a b (Int32.ofNat (lgi (X 10) 7))) 21 (-1) n N 78 = X 78 := by rw [ps_f _ _ _ _ (by decide) (by decide), pc_f _ _ _ _ _ (by decide), tk_f _ (by omega)]
  simp (disch := decide) only [u106_0, u106_1, u106_4, u106_7, u106_10, u106_12, u106_13, u106_16, u106_17, u106_20, c61, c43_21_8, la_0, la_8, la_9, la_21, lr_0_0, lr_0_1, lr_8_1, kLt, true_and]
  have hP : pcI (tk_21_8 X) q a b (Int32.ofNat (lgi (X 10) 7)) = if 2 ≤ q then kcI (if q % 2 = 1 then kcI (tk_21_8 X) (a * 3 + 2) (Int32.ofNat (lgi (X 10) 7)) else tk_21_8 X) (b * 3 + 2) (Int32.ofNat (lgi (X 10) 7)) else (if q % 2 = 1 then kcI (tk_21_8 X) (a * 3 + 2) (Int32.ofNat (lgi (X 10) 7)) else tk_21_8 X) := rfl
  generalize lgi (X 10) 7 = g at h h47 f12 f78 hP ⊢
  generalize psI (pcI (tk_21_8 X) q a b (Int32.ofNat g)) 21 (-1) n N = Y at h h47 f12 f78
  generalize pcI (tk_21_8 X) q a b (Int32.ofNat g) = Y2 at h47 hP
  have s3 : Rn 106 63 [.ref 0, .int (Int32.ofNat q), .int (Int32.ofNat a), .int (Int32.ofNat b), .int (Int32.ofNat N), .int (Int32.ofNat g)] [] (Sg Y2 J) Q := by
    clear hT hP b1 b2
    simp (disch := first | assumption | omega | decide | exact la_87 | exact la_88 | exact la_90 | exact la_91 | exact la_92 | exact la_93 | exact la_94 | exact la_95 | exact la_96 | exact la_97 | exact la_98 | exact la_99 | exact la_10 | exact la_23 | exact la_77 | exact la_78 | exact la_18 | exact la_19 | exact la_20) only [u106_63, u106_64, u106_67, u106_68, u106_70, u106_73, u106_74, u106_77, u106_78, u106_79, u106_82, u106_85, u106_88, u106_89, u106_92, u106_95, u106_96, u106_97, u106_100, u106_101, u106_102, u106_103, u106_106, u106_107, u106_108, u106_109, u106_110, u106_113, u106_116, u106_119, u106_120, u106_123, u106_126, u106_127, u106_128, u106_131, u106_132, u106_133, h47, c35 11 lisT_11, la_0, la_8, la_11, la_21, la_22, la_23, lt_23, la_78, lt_78, lr_0_0, lr_0_1, lr_0_5, lr_8_2, lr_21_1, lr_22_0, kLt, true_and, o_aa, o_al, o_la, o_mm, o_ml, o_lm, o_ss, o_sl, o_ls, o_tn, o_tl, o_lt, o_ltl, o_llt, o_le, o_lel, o_lle, o_eq, o_eql, o_leq, o_inb, o_inl, o_neg, Nat.reduceAdd, f12, f78, eA, eB, hsA, hsB, wI_d, up_o, up_s, up_u, show a * 3 + 2 < 18 by omega, show b * 3 + 2 < 18 by omega, show q < 8 by omega, show 4 + q < 8 by omega]
    exact h
  clear h h47 f12 f78 hT
  have h36 : ∀ (X : Nat → Nat → Int32) (pc : Nat) (ls st : Vs) (c : Nat) (x : Int32), c < 6 → (Ca 36 [.ref 24, .int (Int32.ofNat c), .int 2, .int x] (Sg X J) 106 pc ls st Q ↔ Rn 106 pc ls st (Sg (kcI X (c * 3 + 2) x) J) Q) := fun X pc ls st c x hc => c36t (col := 2) x hc (by decide)
  generalize tk_21_8 X = Y0 at hP ⊢
  subst hP
  by_cases h1 : q % 2 = 1
  · rw [if_pos h1] at s3
    have n1 : ¬ (Int32.ofNat q &&& 1 = 0) := fun z => b1.mp z h1
    by_cases h2 : 2 ≤ q
    · rw [if_pos h2] at s3
      have n2 : ¬ (Int32.ofNat q &&& 2 = 0) := fun z => b2.mp z h2
      clear b1 b2
      simp (disch := first | assumption | omega | decide | exact la_87 | exact la_88 | exact la_90 | exact la_91 | exact la_92 | exact la_93 | exact la_94 | exact la_95 | exact la_96 | exact la_97 | exact la_98 | exact la_99 | exact la_10 | exact la_23 | exact la_77 | exact la_78 | exact la_18 | exact la_19 | exact la_20) only [u106_23, u106_24, u106_25, u106_26, u106_29, u106_30, u106_33, u106_36, u106_37, u106_38, u106_40, u106_43, u106_44, u106_45, u106_46, u106_49, u106_50, u106_53, u106_56, u106_57, u106_58, u106_60, n1, n2, h36, la_0, la_21, la_24, lr_0_1, lr_21_2, kLt, true_and, if_false]
      exact s3
    · rw [if_neg h2] at s3
      have n2 : Int32.ofNat q &&& 2 = 0 := b2.mpr h2
      clear b1 b2
      simp (disch := first | assumption | omega | decide | exact la_87 | exact la_88 | exact la_90 | exact la_91 | exact la_92 | exact la_93 | exact la_94 | exact la_95 | exact la_96 | exact la_97 | exact la_98 | exact la_99 | exact la_10 | exact la_23 | exact la_77 | exact la_78 | exact la_18 | exact la_19 | exact la_20) only [u106_23, u106_24, u106_25, u106_26, u106_29, u106_30, u106_33, u106_36, u106_37, u106_38, u106_40, u106_43, u106_44, u106_45, u106_46, u106_49, u106_50, u106_53, u106_56, u106_57, u106_58, u106_60, n1, n2, h36, la_0, la_21, la_24, lr_0_1, lr_21_2, kLt, true_and, if_true, if_false]
      exact s3
  · rw [if_neg h1] at s3
    have n1 : Int32.ofNat q &&& 1 = 0 := b1.mpr h1
    by_cases h2 : 2 ≤ q
    · rw [if_pos h2] at s3
      have n2 : ¬ (Int32.ofNat q &&& 2 = 0) := fun z => b2.mp z h2
      clear b1 b2
      simp (disch := first | assumption | omega | decide | exact la_87 | exact la_88 | exact la_90 | exact la_91 | exact la_92 | exact la_93 | exact la_94 | exact la_95 | exact la_96 | exact la_97 | exact la_98 | exact la_99 | exact la_10 | exact la_23 | exact la_77 | exact la_78 | exact la_18 | exact la_19 | exact la_20) only [u106_23, u106_24, u106_25, u106_26, u106_29, u106_30, u106_33, u106_36, u106_37, u106_38, u106_40, u106_43, u106_44, u106_45, u106_46, u106_49, u106_50, u106_53, u106_56, u106_57, u106_58, u106_60, n1, n2, h36, la_0, la_21, la_24, lr_0_1, lr_21_2, kLt, true_and, if_true, if_false]
      exact s3
    · rw [if_neg h2] at s3
      have n2 : Int32.ofNat q &&& 2 = 0 := b2.mpr h2
      clear b1 b2
      simp (disch := first | assumption | omega | decide | exact la_87 | exact la_88 | exact la_90 | exact la_91 | exact la_92 | exact la_93 | exact la_94 | exact la_95 | exact la_96 | exact la_97 | exact la_98 | exact la_99 | exact la_10 | exact la_23 | exact la_77 | exact la_78 | exact la_18 | exact la_19 | exact la_20) only [u106_23, u106_24, u106_25, u106_26, u106_29, u106_30, u106_33, u106_36, u106_37, u106_38, u106_40, u106_43, u106_44, u106_45, u106_46, u106_49, u106_50, u106_53, u106_56, u106_57, u106_58, u106_60, n1, n2, la_0, kLt, true_and, if_true]
      exact s3)
end PAIR
