/-! THE CALLS: peg, valley, undo -/
theorem op2 (a : Int32) : OpI 66 [.ref 0, .int a] 129 [.ref 86, .int a] := by
  intro I J B hR hB
  have hR0 := hR
  obtain ⟨⟨ra, rb, rc, rd, ⟨o, u, ho, hu, f1, f2, f3, f4⟩⟩, -⟩ := hR0
  have rd0 := rd
  obtain ⟨y1, y3, y4⟩ := rd0
  by_cases h1 : 0 ≤ a ∧ a ≤ 6
  · simp (disch := first | assumption | omega | decide | exact la_87 | exact la_88 | exact la_90 | exact la_91 | exact la_92 | exact la_93 | exact la_94 | exact la_95 | exact la_96 | exact la_97 | exact la_98 | exact la_99 | exact la_10 | exact la_23 | exact la_77 | exact la_78) only [u66_0, u66_1, u66_2, u66_4, u66_7, u66_10, u66_11, u66_13, u66_16, u66_17, u66_18, u66_21, u66_24, u66_25, u66_28, u66_31, u66_34, u66_35, u66_38, u66_41, u66_42, u66_45, u66_46, u66_49, u66_52, u66_53, u66_56, c100, c11 o u ho hu f1 f2, c56 9 lisY_9, c55 9 lisY_9, bi_0, h1, not_true, not_false_eq_true, if_true, if_false, la_0, la_8, la_9, la_17, lr_0_0, lr_8_1, lr_8_5, kLt, true_and, up_o, up_s, ud_s, wI_d]
    refine ⟨_, _, _, rfl, rfl, ?_, ?_, ?_⟩
    · simp (disch := decide) only [up_o]
    · simp (disch := decide) only [up_o]
    generalize hI1 : va_up (kpC I o u) 9 (upd (I 9) 1 (I 9 1 ^^^ (1 <<< (a &&& 31)))) = I1
    have hm : ∀ q, 86 ≤ q → I1 q = I q := by
      intro q hq
      rw [← hI1]
      simp (disch := omega) only [kpC, up_o]
    have g3 : I1 87 4 = Int32.ofNat u := by rw [hm 87 (by omega)]; exact f3
    have k13 : kpM (I1 87) u 13 = I 87 13 := by rw [kp_o (by omega) (by omega), hm 87 (by omega)]
    simp (disch := first | assumption | omega | decide | exact la_87 | exact la_88 | exact la_90 | exact la_91 | exact la_92 | exact la_93 | exact la_94 | exact la_95 | exact la_96 | exact la_97 | exact la_98 | exact la_99 | exact la_10 | exact la_23 | exact la_77 | exact la_78) only [u129_0, u129_1, u129_2, u129_3, u129_6, u129_9, u129_12, u129_13, u129_15, u129_18, u129_19, u129_20, u129_23, u129_24, u129_27, u129_29, u129_30, u129_31, u129_32, u129_33, u129_34, u129_35, u129_36, u129_37, u129_40, u129_42, u129_43, u129_44, u129_45, u129_46, u129_47, c113n, c127 u hu g3, bi_0, h1, not_true, not_false_eq_true, if_true, if_false, la_86, la_87, lt_87, lr_86_0, kLt, true_and, o_aa, o_al, o_la, o_mm, o_ml, o_lm, o_ss, o_sl, o_ls, o_tn, o_tl, o_lt, o_ltl, o_llt, o_le, o_lel, o_lle, o_eq, o_eql, o_leq, o_inb, o_inl, o_neg, Nat.reduceLT, up_s, up_u, ud_s, wI_d, k13]
    refine ⟨_, _, ?_, rfl, ?_, ?_, ?_⟩
    · rw [y3]
    · rw [up_o _ _ (by decide), hm 999 (by omega)]
    · rw [up_o _ _ (by decide), hm 1000 (by omega)]
    · rw [hm 87 (by omega), ← hI1]
      refine Rel_now hR (by omega) ?_ (fun q g1 g2 g3 g4 g5 => by simp (disch := omega) only [kpC, up_o]) (by simp (disch := decide) only [kpC, up_o]) (by simp (disch := decide) only [kpC, up_o]) ⟨rfl, rfl, rfl, rfl⟩
      unfold VR
      simp (disch := decide) only [kpC, up_s, up_o, Nat.reduceAdd]
      refine ⟨VT_M ra (fun k hk => ?_), VW_M rb (fun k hk => ?_), VM_M rc (fun k hk => ?_), ⟨?_, ?_, fun j hj => ?_⟩, VP_M (VP_keep ho hu f1 f2 f4 rd) (fun k hk => ?_) (by omega)⟩
      · rw [ud_o _ _ (by omega), kp_o (by omega) (by omega)]
      · rw [ud_o _ _ (by omega), kp_o (by omega) (by omega)]
      · rw [ud_o _ _ (by omega), kp_o (by omega) (by omega)]
      · obtain ⟨T, hT, t1, t2⟩ := y1
        refine ⟨T, by omega, ?_, ?_⟩
        · rw [ud_o _ _ (by omega)]; exact t1
        · rw [ud_o _ _ (by omega), kp_o (by omega) (by omega)]
          exact t2
      · rw [ud_s, ud_s, y3]
      · rw [ud_o _ _ (by omega), kp_o (by omega) (by omega)]
        exact y4 j hj
      · rw [ud_o _ _ (by omega)]
  · simp (disch := decide) only [u66_0, u66_1, u66_2, u66_4, u66_7, u66_10, u66_11, u66_13, u66_16, u66_17, u66_18, u66_21, u66_24, u66_25, u66_28, u66_31, u66_34, u66_35, u66_38, u66_41, u66_42, u66_45, u66_46, u66_49, u66_52, u66_53, u66_56, c100, c103b, bi_0, h1, not_true, not_false_eq_true, if_true, if_false, la_0, kLt, true_and]
    refine ⟨_, _, _, rfl, rfl, up_o _ _ (by decide), up_o _ _ (by decide), ?_⟩
    simp (disch := first | assumption | omega | decide | exact la_87 | exact la_88 | exact la_90 | exact la_91 | exact la_92 | exact la_93 | exact la_94 | exact la_95 | exact la_96 | exact la_97 | exact la_98 | exact la_99 | exact la_10 | exact la_23 | exact la_77 | exact la_78) only [u129_0, u129_1, u129_2, u129_3, u129_6, u129_9, u129_12, u129_13, u129_15, u129_18, u129_19, u129_20, u129_23, u129_24, u129_27, u129_29, u129_30, u129_31, u129_32, u129_33, u129_34, u129_35, u129_36, u129_37, u129_40, u129_42, u129_43, u129_44, u129_45, u129_46, u129_47, c113n, c114, bi_0, h1, not_true, not_false_eq_true, if_true, if_false, la_86, kLt, true_and]
    exact fin_bad' hR
def sev (M : Nat → Int32) (k : Nat) : Nat → Int32 := fun j => if 5 ≤ j ∧ j < 5 + k then 7 else M j
theorem sev_0 (M : Nat → Int32) : sev M 0 = M := by
  funext j
  unfold sev
  rw [if_neg (by omega)]
theorem sev_s (M : Nat → Int32) (k : Nat) : upd (sev M k) (5 + k) 7 = sev M (k + 1) := by
  funext j
  show (if j = 5 + k then 7 else if 5 ≤ j ∧ j < 5 + k then 7 else M j) = if 5 ≤ j ∧ j < 5 + (k + 1) then 7 else M j
  by_cases h : j = 5 + k
  · rw [if_pos h, if_pos (by omega)]
  · rw [if_neg h]
    by_cases h2 : 5 ≤ j ∧ j < 5 + k
    · rw [if_pos h2, if_pos (by omega)]
    · rw [if_neg h2, if_neg (by omega)]
/-- an array of the reference that begins -/
abbrev beg (M : Nat → Int32) : Nat → Int32 := sev (fil M 0 62) 8
section BEG
variable {m pc : Nat} {ls st : Vs} {I : Nat → Nat → Int32} {J : Nat → Nat → Int64} {Q : Option Value → Sto → Prop}
theorem c118 (a : Nat) (ha : kA a 20) (hl : 62 ≤ (tg a).2) : Ca 118 [.ref a, .null] (Sg I J) m pc ls st Q ↔ Rn m pc ls st (Sg (va_up I a (beg (I a))) J) Q := Ca_of (r := none) (fun Q h => by
  have hL : kL a := Or.inl (Nat.lt_trans ha.1 (by omega))
  simp only [u118_0, u118_1]
  refine Rn_fr (n := 62) (X := Unit) (fun k _ => [.ref a, .int (Int32.ofNat k)]) (fun k _ => Sg (va_up I a (fil (I a) 0 k)) J) () rfl (by rw [fil_0, up_i]) ?_ ?_
  · intro k hk _ ih
    have ih := ih ()
    have hnk : ¬ 62 ≤ k := by omega
    have hkl : k < (tg a).2 := by omega
    simp (disch := omega) only [u118_2, u118_3, u118_5, u118_8, u118_9, u118_10, u118_11, u118_12, ha, hL, true_and, o_aa, o_al, o_la, o_mm, o_ml, o_lm, o_ss, o_sl, o_ls, o_tn, o_tl, o_lt, o_ltl, o_llt, o_le, o_lel, o_lle, o_eq, o_eql, o_leq, o_inb, o_inl, o_neg, hnk, hkl, if_false, up_s, up_u, wI_d, fil_s]
    exact (u118_15 ..).mpr ih
  · intro _
    simp (disch := omega) only [u118_2, u118_3, u118_5, u118_8, u118_9, u118_10, u118_11, u118_12, u118_18, u118_19, o_aa, o_al, o_la, o_mm, o_ml, o_lm, o_ss, o_sl, o_ls, o_tn, o_tl, o_lt, o_ltl, o_llt, o_le, o_lel, o_lle, o_eq, o_eql, o_leq, o_inb, o_inl, o_neg, Nat.le_refl, if_true]
    refine Rn_fr (n := 8) (X := Unit) (fun k _ => [.ref a, .int (Int32.ofNat k)]) (fun k _ => Sg (va_up I a (sev (fil (I a) 0 62) k)) J) () rfl (by rw [sev_0]) ?_ ?_
    · intro k hk _ ih
      have ih := ih ()
      have hnk : ¬ 8 ≤ k := by omega
      have hkl : 5 + k < (tg a).2 := by omega
      simp (disch := omega) only [u118_20, u118_21, u118_23, u118_26, u118_27, u118_28, u118_29, u118_30, u118_32, u118_33, ha, hL, true_and, o_aa, o_al, o_la, o_mm, o_ml, o_lm, o_ss, o_sl, o_ls, o_tn, o_tl, o_lt, o_ltl, o_llt, o_le, o_lel, o_lle, o_eq, o_eql, o_leq, o_inb, o_inl, o_neg, hnk, hkl, if_false, up_s, up_u, wI_d, sev_s]
      exact (u118_36 ..).mpr ih
    · intro _
      simp (disch := omega) only [u118_20, u118_21, u118_23, u118_26, u118_27, u118_28, u118_29, u118_30, u118_32, u118_33, u118_39, o_aa, o_al, o_la, o_mm, o_ml, o_lm, o_ss, o_sl, o_ls, o_tn, o_tl, o_lt, o_ltl, o_llt, o_le, o_lel, o_lle, o_eq, o_eql, o_leq, o_inb, o_inl, o_neg, Nat.le_refl, if_true]
      exact h)
end BEG
theorem beg_0 (M : Nat → Int32) {k : Nat} (h : k < 5 ∨ (13 ≤ k ∧ k < 62)) : beg M k = 0 := by
  show sev (fil M 0 62) 8 k = 0
  unfold sev fil
  rw [if_neg (by omega), if_pos (by omega)]
theorem beg_7 (M : Nat → Int32) {j : Nat} (h : j < 8) : beg M (5 + j) = 7 := by
  show sev (fil M 0 62) 8 (5 + j) = 7
  unfold sev
  rw [if_pos (by omega)]
/-- a valley that begins, and an array that begins -/
theorem VR_beg (R3 C3 R5 C5 R7 C7 Y W P A D E M : Nat → Int32) (B o : Nat) (ho : o < 8) (f1 : P 3 = Int32.ofNat o) : VT (upd R3 1 0) C3 (beg M) ∧ VW (upd R5 1 0) C5 (beg M) ∧ VM (upd R7 1 0) C7 (beg M) ∧ VY (upd (upd Y 1 0) 2 0) (fil W 7 8) (beg M) B ∧ VP (upd P 4 0) A D E (beg M) B := by
  refine ⟨⟨0, by omega, ud_s .., beg_0 _ (by omega), fun k hk => absurd hk (by omega)⟩, ⟨0, by omega, ud_s .., beg_0 _ (by omega), fun k hk => absurd hk (by omega)⟩, ⟨0, by omega, ud_s .., beg_0 _ (by omega), fun k hk => absurd hk (by omega)⟩, ⟨⟨0, by omega, ud_s .., beg_0 _ (by omega)⟩, ?_, fun j hj => ⟨7, by omega, ?_, beg_7 _ hj⟩⟩, ⟨o, 0, ho, by omega, ?_, ud_s .., beg_0 _ (by omega), fun k hk => absurd hk (by omega)⟩⟩
  · rw [ud_o _ _ (by omega), ud_s, beg_0 _ (by omega)]
  · unfold fil
    rw [if_pos hj]
    rfl
  · rw [ud_o _ _ (by omega)]; exact f1
theorem op0 : OpI 64 [.ref 0, .null] 126 [.ref 86, .null] := by
  intro I J B hR hB
  have hR0 := hR
  obtain ⟨⟨⟨n, hn, b1, b2, b3⟩, rb, rc, rd, ⟨o, u, ho, hu, f1, f2, f3, f4⟩⟩, -⟩ := hR0
  simp (disch := decide) only [u64_0, u64_1, u64_4, u64_7, u64_10, u64_11, u64_12, u64_15, u64_18, u64_19, c42 8 lisV_8, la_0, la_8, la_11, lr_0_0, lr_8_2, kLt, true_and, Nat.reduceAdd]
  refine ⟨_, _, _, rfl, rfl, ?_, ?_, ?_⟩
  · simp (disch := decide) only [up_o]
  · simp (disch := decide) only [up_o]
  simp (disch := decide) only [u126_0, u126_1, u126_4, u126_5, u126_6, u126_9, u126_12, u126_13, c119, c118 87 la_87 (by decide), la_86, lr_86_0, kLt, true_and, up_o]
  refine ⟨_, _, ?_, rfl, ?_, ?_, ?_⟩
  · rw [b1, b2]
  · simp (disch := decide) only [up_o]
  · simp (disch := decide) only [up_o]
  · refine Rel_now hR (by omega) ?_ (fun q g1 g2 g3 g4 g5 => by simp (disch := omega) only [up_o]) (by simp (disch := decide) only [up_o]) (by simp (disch := decide) only [up_o]) ⟨rfl, rfl, rfl, rfl⟩
    unfold VR
    simp (disch := decide) only [up_s, up_o, Nat.reduceAdd]
    exact VR_beg _ _ _ _ _ _ _ _ _ _ _ _ _ _ o ho f1
