/-! THE CALL: pegIt -/
def xpI (Y : Nat → Nat → Int32) (m : Int32) : Nat → Nat → Int32 := va_up Y 22 (upd (Y 22) 1 (Y 22 1 ^^^ m))
def xhI (Z : Nat → Nat → Int32) (m : Int32) : Nat → Nat → Int32 := va_up Z 86 (upd (Z 86) 7 (Z 86 7 ^^^ m))
theorem xp_0 (Y : Nat → Nat → Int32) : xpI Y 0 = Y := by
  unfold xpI
  rw [Int32.xor_zero, ud_i, up_i]
theorem TJ_xp {X Z : Nat → Nat → Int32} {n T : Nat} (h : TJ X Z n T) (m : Int32) : TJ (xpI X m) (xhI Z m) n T := by
  obtain ⟨hn, a1, a2, a3, t1, t2, p1, w1⟩ := h
  unfold TJ xpI xhI
  simp (disch := decide) only [up_o, up_s, ud_s, ud_o]
  exact ⟨hn, a1, a2, a3, t1, t2, by rw [p1], w1⟩
theorem Fr.xp {I X : Nat → Nat → Int32} {e : Nat} (h : Fr I e X) (m : Int32) : Fr I e (xpI X m) := h.of (fun q h1 _ => up_o _ _ h1)
theorem Sc.xh {I Z : Nat → Nat → Int32} (h : Sc I Z) (m : Int32) : Sc I (xhI Z m) := h.u86 (ud_o _ _ (by decide))
def pgr (b : Int32) (W : Nat → Int32) (k : Nat) : Int32 × Int32 := Nat.rec (b, -1) (fun k p => if W k ≤ p.2 then p else (Int32.ofNat k, W k)) k
theorem pgr_s (b : Int32) (W : Nat → Int32) (k : Nat) : pgr b W (k + 1) = if W k ≤ (pgr b W k).2 then pgr b W k else (Int32.ofNat k, W k) := rfl
theorem pgr_eq (b b' : Int32) (W : Nat → Int32) (h : ¬ W 0 ≤ -1) : ∀ k, pgr b W (k + 1) = pgr b' W (k + 1) := by
  intro k
  induction k with
  | zero =>
    rw [pgr_s, pgr_s]
    show (if W 0 ≤ -1 then _ else _) = if W 0 ≤ -1 then _ else _
    rw [if_neg h, if_neg h]
  | succ k ih => rw [pgr_s, pgr_s b', ih]
def mkp (i : Nat) : Int32 := if i < 7 then 1 <<< (Int32.ofNat i &&& 31) else 0
def pgW (I : Nat → Nat → Int32) (n M s i : Nat) : Int32 := psI (xpI (tk_21_8 I) (mkp i)) 21 (-1) n M 23 s
theorem w99 : ∀ w, w < 100 → ¬ Int32.ofNat w ≤ -1 := by decide +kernel
section PEGIT
variable {I : Nat → Nat → Int32} {J : Nat → Nat → Int64} {Q : Option Value → Sto → Prop} {n n2 T B s : Nat}
theorem pgW_n (hB : Bs I n n2 T B) {M : Nat} (hM : T + M < 1000000) (hs : s < 8) (i : Nat) : ¬ pgW I n M s i ≤ -1 := by
  obtain ⟨w, hw, e, -⟩ := (TJ_ps (TJ_xp (TJ_tk (I1 := I) hB rfl) (mkp i)) (fun k hk => bit_a n hB.1.1 k hk) M hM).2.2.2.2.2.2.2 s hs
  unfold pgW
  rw [e]
  exact w99 w (by omega)
theorem pg_c (M : Nat) (hs : s < 8) (hB : Bs I n n2 T B) (hM : M ≤ 20) (hT : T < 100000) {X0 : Nat → Nat → Int32} (hX : Fr I 99 X0) (h : ∀ X, Fr I 99 X → Q (some (.int (pgr 7 (pgW I n M s) 8).1)) (Sg X J)) : Rn 82 41 [.ref 0, .int (Int32.ofNat s), .int (Int32.ofNat M), .int 7, .int (-1), .null] [] (Sg X0 J) Q := by
  have hn := hB.1.1
  simp only [u82_41, u82_42]
  refine Rn_fr (n := 8) (X := {X : Nat → Nat → Int32 // Fr I 99 X}) (fun k _ => [.ref 0, .int (Int32.ofNat s), .int (Int32.ofNat M), .int (pgr 7 (pgW I n M s) k).1, .int (pgr 7 (pgW I n M s) k).2, .int (Int32.ofNat k)]) (fun _ x => Sg x.1 J) ⟨X0, hX⟩ rfl rfl ?_ ?_
  · rintro k hk ⟨X, hx⟩ ih
    dsimp only
    have hnk : ¬ 7 < k := by omega
    have h47 := fun (pc : Nat) (ls st : Vs) => @c47 82 pc ls st (xpI (ytI X) (mkp k)) J Q 21 lisV_21 (-1) n M (TJ_xp (hx.tj (I1 := I) hB rfl) (mkp k)).tm (by omega)
    have h23 : psI (xpI (ytI X) (mkp k)) 21 (-1) n M 23 s = pgW I n M s k := ((TJ_ps (TJ_xp (hx.tj (I1 := I) hB rfl) (mkp k)) (fun k hk => bit_a n hn k hk) M (by omega)).wk s hs).trans ((TJ_ps (TJ_xp (TJ_tk (I1 := I) hB rfl) (mkp k)) (fun k hk => bit_a n hn k hk) M (by omega)).wk s hs).symm
    have f2 := ih ⟨_, (hx.yt.xp (mkp k)).ps (-1) n M⟩
    simp only [pgr_s] at f2
    generalize pgr 7 (pgW I n M s) k = p at f2 ⊢
    generalize pgW I n M s k = d at f2 h23 ⊢
    generalize psI (xpI (ytI X) (mkp k)) 21 (-1) n M = X2 at h47 h23 f2 ⊢
    clear ih h hB hx
    have hg : Rn 82 87 [.ref 0, .int (Int32.ofNat s), .int (Int32.ofNat M), .int p.1, .int p.2, .int (Int32.ofNat k)] [] (Sg (xpI (ytI X) (mkp k)) J) Q := by
      simp (disch := first | assumption | omega | decide | exact la_87 | exact la_88 | exact la_90 | exact la_91 | exact la_92 | exact la_93 | exact la_94 | exact la_95 | exact la_96 | exact la_97 | exact la_98 | exact la_99 | exact la_10 | exact la_23 | exact la_77 | exact la_78 | exact la_18 | exact la_19 | exact la_20) only [u82_87, u82_88, u82_91, u82_92, u82_93, u82_96, u82_97, u82_100, u82_103, u82_106, u82_107, u82_108, u82_110, u82_113, u82_114, u82_117, u82_120, u82_123, u82_124, u82_125, u82_127, u82_129, u82_130, h47, h23, hs, la_0, la_21, la_22, la_23, lt_23, lr_0_1, lr_21_1, lr_22_0, kLt, true_and, o_aa, o_al, o_la, o_mm, o_ml, o_lm, o_ss, o_sl, o_ls, o_tn, o_tl, o_lt, o_ltl, o_llt, o_le, o_lel, o_lle, o_eq, o_eql, o_leq, o_inb, o_inl, o_neg]
      by_cases h1 : d ≤ p.2
      · simp only [if_pos h1] at f2 ⊢
        exact (u82_133 ..).mpr f2
      · simp only [if_neg h1] at f2 ⊢
        exact (u82_133 ..).mpr f2
    clear h47 h23 f2
    by_cases h7 : k < 7
    · have hge : ¬ 7 ≤ k := by omega
      simp (disch := first | assumption | omega | decide | exact la_87 | exact la_88 | exact la_90 | exact la_91 | exact la_92 | exact la_93 | exact la_94 | exact la_95 | exact la_96 | exact la_97 | exact la_98 | exact la_99 | exact la_10 | exact la_23 | exact la_77 | exact la_78 | exact la_18 | exact la_19 | exact la_20) only [u82_44, u82_46, u82_48, u82_51, u82_52, u82_55, u82_58, u82_59, u82_62, u82_65, u82_68, u82_70, u82_72, u82_75, u82_76, u82_79, u82_82, u82_84, c54t, c56 22 lisY_22, la_0, la_8, la_9, la_21, la_22, lr_0_0, lr_0_1, lr_8_1, lr_21_1, kLt, true_and, o_aa, o_al, o_la, o_mm, o_ml, o_lm, o_ss, o_sl, o_ls, o_tn, o_tl, o_lt, o_ltl, o_llt, o_le, o_lel, o_lle, o_eq, o_eql, o_leq, o_inb, o_inl, o_neg, hnk, hge, if_false]
      unfold mkp at hg
      rw [if_pos h7] at hg
      exact hg
    · obtain rfl : k = 7 := by omega
      rw [show mkp 7 = 0 from rfl, xp_0] at hg
      simp (disch := first | assumption | omega | decide | exact la_87 | exact la_88 | exact la_90 | exact la_91 | exact la_92 | exact la_93 | exact la_94 | exact la_95 | exact la_96 | exact la_97 | exact la_98 | exact la_99 | exact la_10 | exact la_23 | exact la_77 | exact la_78 | exact la_18 | exact la_19 | exact la_20) only [u82_44, u82_46, u82_48, u82_51, u82_52, u82_55, u82_58, u82_59, u82_62, u82_65, u82_68, u82_70, u82_72, u82_75, u82_76, u82_79, u82_82, u82_84, c54t, la_0, la_8, la_9, la_21, la_22, lr_0_0, lr_0_1, lr_8_1, lr_21_1, kLt, true_and, o_aa, o_al, o_la, o_mm, o_ml, o_lm, o_ss, o_sl, o_ls, o_tn, o_tl, o_lt, o_ltl, o_llt, o_le, o_lel, o_lle, o_eq, o_eql, o_leq, o_inb, o_inl, o_neg, hnk, Nat.le_refl, if_true, if_false]
      exact hg
  · rintro ⟨X, hx⟩
    dsimp only
    have f := h X hx
    generalize pgr 7 (pgW I n M s) 8 = p at f ⊢
    clear h hB hx
    simp (disch := first | assumption | omega | decide | exact la_87 | exact la_88 | exact la_90 | exact la_91 | exact la_92 | exact la_93 | exact la_94 | exact la_95 | exact la_96 | exact la_97 | exact la_98 | exact la_99 | exact la_10 | exact la_23 | exact la_77 | exact la_78 | exact la_18 | exact la_19 | exact la_20) only [u82_44, u82_46, u82_48, u82_136, u82_137, o_aa, o_al, o_la, o_mm, o_ml, o_lm, o_ss, o_sl, o_ls, o_tn, o_tl, o_lt, o_ltl, o_llt, o_le, o_lel, o_lle, o_eq, o_eql, o_leq, o_inb, o_inl, o_neg, Nat.reduceLT, if_true]
    exact f
theorem pg_m (M : Nat) (hs : s < 8) (hB : Bs I n n2 T B) (hM : M ≤ 20) (hT : T < 100000) {X0 : Nat → Nat → Int32} (hX : Sc I X0) (h : ∀ X, Sc I X → Q (some (.int (pgr 0 (pgW I n M s) 8).1)) (Sg X J)) : Rn 155 21 [.ref 86, .int (Int32.ofNat s), .int (Int32.ofNat M), .null, .null, .null] [] (Sg X0 J) Q := by
  have hn := hB.1.1
  simp only [u155_21, u155_22, u155_23, u155_24, u155_26, u155_27]
  refine Rn_fr (n := 8) (X := {X : Nat → Nat → Int32 // Sc I X}) (fun k _ => [.ref 86, .int (Int32.ofNat s), .int (Int32.ofNat M), .int (pgr 0 (pgW I n M s) k).1, .int (pgr 0 (pgW I n M s) k).2, .int (Int32.ofNat k)]) (fun _ x => Sg x.1 J) ⟨X0, hX⟩ rfl rfl ?_ ?_
  · rintro k hk ⟨X, hx⟩ ih
    dsimp only
    have hnk : ¬ 8 ≤ k := by omega
    have g0 : X 87 0 = Int32.ofNat n := by rw [hx.z87]; exact hB.1.2.2.1
    have hJ := TJ_xp (TJ_tk hB hx.z87) (mkp k)
    have g1 : xhI (lhI X n) (mkp k) 87 0 = Int32.ofNat n := hJ.2.2.1
    have h135 := fun (pc : Nat) (ls st : Vs) => @c135 155 pc ls st X J Q n hn g0
    have h141 := fun (pc : Nat) (ls st : Vs) => @c141 155 pc ls st (xhI (lhI X n) (mkp k)) J Q (1 <<< (Int32.ofNat n &&& 31) - 1) n T M hJ.hm (by omega) (by omega)
    have h91 : pmI (xhI (lhI X n) (mkp k)) (1 <<< (Int32.ofNat n &&& 31) - 1) n M 91 s = pgW I n M s k := ((TJ_ps hJ (fun k hk => bit_a n hn k hk) M (by omega)).wk s hs).symm
    have f2 := ih ⟨_, ((hx.tr (Sc_lh X n)).xh (mkp k)).tr (Sc_pm _ (1 <<< (Int32.ofNat n &&& 31) - 1) n M)⟩
    simp only [pgr_s] at f2
    generalize pgr 0 (pgW I n M s) k = p at f2 ⊢
    generalize pgW I n M s k = d at f2 h91 ⊢
    generalize pmI (xhI (lhI X n) (mkp k)) (1 <<< (Int32.ofNat n &&& 31) - 1) n M = X2 at h141 h91 f2 ⊢
    clear ih h hB hx hJ
    have hg : Rn 155 64 [.ref 86, .int (Int32.ofNat s), .int (Int32.ofNat M), .int p.1, .int p.2, .int (Int32.ofNat k)] [] (Sg (xhI (lhI X n) (mkp k)) J) Q := by
      simp (disch := first | assumption | omega | decide | exact la_87 | exact la_88 | exact la_90 | exact la_91 | exact la_92 | exact la_93 | exact la_94 | exact la_95 | exact la_96 | exact la_97 | exact la_98 | exact la_99 | exact la_10 | exact la_23 | exact la_77 | exact la_78 | exact la_18 | exact la_19 | exact la_20) only [u155_64, u155_65, u155_66, u155_67, u155_70, u155_73, u155_74, u155_77, u155_78, u155_79, u155_81, u155_84, u155_86, u155_89, u155_90, u155_91, u155_92, u155_95, u155_96, u155_97, u155_99, u155_102, u155_103, u155_106, u155_107, u155_108, u155_111, u155_113, u155_115, c140, g1, h141, h91, hs, la_86, la_91, lt_91, lr_86_6, kLt, true_and, o_aa, o_al, o_la, o_mm, o_ml, o_lm, o_ss, o_sl, o_ls, o_tn, o_tl, o_lt, o_ltl, o_llt, o_le, o_lel, o_lle, o_eq, o_eql, o_leq, o_inb, o_inl, o_neg]
      by_cases h1 : d ≤ p.2
      · simp only [if_pos h1] at f2 ⊢
        exact (u155_118 ..).mpr f2
      · simp only [if_neg h1] at f2 ⊢
        exact (u155_118 ..).mpr f2
    clear h141 h91 f2
    generalize lhI X n = X1 at hg h135 ⊢
    by_cases h7 : k < 7
    · have hge : ¬ 7 ≤ k := by omega
      simp (disch := first | assumption | omega | decide | exact la_87 | exact la_88 | exact la_90 | exact la_91 | exact la_92 | exact la_93 | exact la_94 | exact la_95 | exact la_96 | exact la_97 | exact la_98 | exact la_99 | exact la_10 | exact la_23 | exact la_77 | exact la_78 | exact la_18 | exact la_19 | exact la_20) only [u155_29, u155_31, u155_33, u155_36, u155_37, u155_40, u155_41, u155_42, u155_45, u155_47, u155_49, u155_52, u155_53, u155_55, u155_56, u155_59, u155_60, u155_61, h135, la_86, kLt, true_and, o_aa, o_al, o_la, o_mm, o_ml, o_lm, o_ss, o_sl, o_ls, o_tn, o_tl, o_lt, o_ltl, o_llt, o_le, o_lel, o_lle, o_eq, o_eql, o_leq, o_inb, o_inl, o_neg, hnk, hge, if_false]
      unfold mkp at hg
      rw [if_pos h7] at hg
      exact hg
    · have hge : 7 ≤ k := by omega
      simp (disch := first | assumption | omega | decide | exact la_87 | exact la_88 | exact la_90 | exact la_91 | exact la_92 | exact la_93 | exact la_94 | exact la_95 | exact la_96 | exact la_97 | exact la_98 | exact la_99 | exact la_10 | exact la_23 | exact la_77 | exact la_78 | exact la_18 | exact la_19 | exact la_20) only [u155_29, u155_31, u155_33, u155_36, u155_37, u155_40, u155_41, u155_42, u155_45, u155_47, u155_49, u155_52, u155_53, u155_55, u155_56, u155_59, u155_60, u155_61, h135, la_86, kLt, true_and, o_aa, o_al, o_la, o_mm, o_ml, o_lm, o_ss, o_sl, o_ls, o_tn, o_tl, o_lt, o_ltl, o_llt, o_le, o_lel, o_lle, o_eq, o_eql, o_leq, o_inb, o_inl, o_neg, hnk, hge, if_true, if_false]
      unfold mkp at hg
      rw [if_neg h7] at hg
      exact hg
  · rintro ⟨X, hx⟩
    dsimp only
    have f := h X hx
    generalize pgr 0 (pgW I n M s) 8 = p at f ⊢
    clear h hB hx
    simp (disch := first | assumption | omega | decide | exact la_87 | exact la_88 | exact la_90 | exact la_91 | exact la_92 | exact la_93 | exact la_94 | exact la_95 | exact la_96 | exact la_97 | exact la_98 | exact la_99 | exact la_10 | exact la_23 | exact la_77 | exact la_78 | exact la_18 | exact la_19 | exact la_20) only [u155_29, u155_31, u155_33, u155_121, u155_122, o_aa, o_al, o_la, o_mm, o_ml, o_lm, o_ss, o_sl, o_ls, o_tn, o_tl, o_lt, o_ltl, o_llt, o_le, o_lel, o_lle, o_eq, o_eql, o_leq, o_inb, o_inl, o_neg, Nat.le_refl, if_true]
    exact f
end PEGIT
theorem op18 (a b : Int32) : OpI 82 [.ref 0, .int a, .int b, .null, .null, .null] 155 [.ref 86, .int a, .int b, .null, .null, .null] := by
  intro I J B hR hB
  obtain ⟨n, n2, T, hBs⟩ := Bs_of hR
  have hT := hBs.2.2.1
  by_cases h1 : 0 ≤ a ∧ a ≤ 7
  · by_cases h2 : 0 ≤ b ∧ b ≤ 20
    · obtain ⟨s, hs, rfl⟩ := o_in (m := 7) h1.1 h1.2 (by omega)
      obtain ⟨M, hM, rfl⟩ := o_in (m := 20) h2.1 h2.2 (by omega)
      simp (disch := first | assumption | omega | decide | exact la_87 | exact la_88 | exact la_90 | exact la_91 | exact la_92 | exact la_93 | exact la_94 | exact la_95 | exact la_96 | exact la_97 | exact la_98 | exact la_99 | exact la_10 | exact la_23 | exact la_77 | exact la_78 | exact la_18 | exact la_19 | exact la_20) only [u82_0, u82_1, u82_4, u82_7, u82_8, u82_9, u82_11, u82_14, u82_17, u82_18, u82_20, u82_23, u82_24, u82_26, u82_27, u82_28, u82_30, u82_31, u82_34, u82_35, u82_38, c100, c101, c43_21_8, bi_0, h1, h2, not_true, not_false_eq_true, if_true, if_false, la_0, la_21, lr_0_0, lr_0_1, kLt, true_and]
      refine pg_c M (by omega) hBs hM (by omega) (Fr_tk I 99) (fun X hX => ?_)
      refine ⟨_, _, _, rfl, rfl, hX.2.1 999 (by decide), hX.2.1 1000 (by decide), ?_⟩
      simp (disch := decide) only [u155_0, u155_1, u155_4, u155_7, u155_8, u155_11, u155_14, u155_15, u155_17, u155_20, c122, c153, bi_0, h1, h2, not_true, not_false_eq_true, if_true, if_false]
      refine pg_m M (by omega) hBs hM (by omega) hX.1 (fun Z hZ => ?_)
      exact fin_sc hR hZ (by rw [pgr_eq 0 7 _ (pgW_n hBs (by omega) (by omega) 0) 7])
    · simp (disch := decide) only [u82_0, u82_1, u82_4, u82_7, u82_8, u82_9, u82_11, u82_14, u82_17, u82_18, u82_20, u82_23, c100, c101, c103b, bi_0, h1, h2, not_true, not_false_eq_true, if_true, if_false, la_0, kLt, true_and]
      refine ⟨_, _, _, rfl, rfl, up_o _ _ (by decide), up_o _ _ (by decide), ?_⟩
      simp (disch := decide) only [u155_0, u155_1, u155_4, u155_7, u155_8, u155_11, u155_14, u155_15, u155_17, u155_20, c122, c153, c114, bi_0, h1, h2, not_true, not_false_eq_true, if_true, if_false, la_86, kLt, true_and]
      exact fin_bad' hR
  · simp (disch := decide) only [u82_0, u82_1, u82_4, u82_7, u82_8, u82_9, u82_11, u82_14, u82_17, u82_18, u82_20, u82_23, c101, c103b, bi_0, h1, not_true, not_false_eq_true, if_true, if_false, la_0, kLt, true_and]
    refine ⟨_, _, _, rfl, rfl, up_o _ _ (by decide), up_o _ _ (by decide), ?_⟩
    simp (disch := decide) only [u155_0, u155_1, u155_4, u155_7, u155_8, u155_11, u155_14, u155_15, u155_17, u155_20, c122, c114, bi_0, h1, not_true, not_false_eq_true, if_true, if_false, la_86, kLt, true_and]
    exact fin_bad' hR
