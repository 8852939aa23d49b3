/-! THE CALL: again -/
def alk (W V : Nat → Int32) (k : Nat) : Bool := Nat.rec true (fun j b => b && decide (W j = V j)) k
theorem alk_s (W V : Nat → Int32) (k : Nat) : alk W V (k + 1) = (alk W V k && decide (W k = V k)) := rfl
theorem alk_eq {W V W' V' : Nat → Int32} {n : Nat} (h : ∀ j, j < n → W j = W' j ∧ V j = V' j) : ∀ k, k ≤ n → alk W V k = alk W' V' k := by
  intro k
  induction k with
  | zero => intro _; rfl
  | succ k ih => intro hk; rw [alk_s, alk_s, ih (by omega), (h k (by omega)).1, (h k (by omega)).2]
theorem alk_f {W V : Nat → Int32} {k : Nat} (h : ¬ W k = V k) : ∀ n, k < n → alk W V n = false := by
  intro n
  induction n with
  | zero => intro h; omega
  | succ n ih =>
    intro hk
    rw [alk_s]
    by_cases q : k = n
    · subst q
      simp [h]
    · rw [ih (by omega)]
      rfl
section AGAIN
variable {m pc : Nat} {ls st : Vs} {I : Nat → Nat → Int32} {J : Nat → Nat → Int64} {Q : Option Value → Sto → Prop}
theorem k62 : ∀ d k, k + d = 8 → alk (I 23) (I 10) k = true → Q (some (.int (bi (alk (I 23) (I 10) 8 = true)))) (Sg I J) → Rn 62 2 [.ref 22, .ref 9, .int (Int32.ofNat k)] [] (Sg I J) Q := by
  intro d
  induction d with
  | zero =>
    intro k hk ha h
    obtain rfl : k = 8 := by omega
    simp (disch := first | assumption | omega | decide | exact la_87 | exact la_88 | exact la_90 | exact la_91 | exact la_92 | exact la_93 | exact la_94 | exact la_95 | exact la_96 | exact la_97 | exact la_98 | exact la_99 | exact la_10 | exact la_23 | exact la_77 | exact la_78 | exact la_18 | exact la_19 | exact la_20) only [u62_2, u62_3, u62_5, u62_8, u62_9, u62_12, u62_13, u62_14, u62_15, u62_18, u62_19, u62_20, u62_23, u62_24, u62_25, u62_31, u62_32, o_aa, o_al, o_la, o_mm, o_ml, o_lm, o_ss, o_sl, o_ls, o_tn, o_tl, o_lt, o_ltl, o_llt, o_le, o_lel, o_lle, o_eq, o_eql, o_leq, o_inb, o_inl, o_neg, Nat.le_refl, if_true]
    rw [ha] at h
    exact ⟨Or.inr trivial, h⟩
  | succ d ih =>
    intro k hk ha h
    have hk8 : k < 8 := by omega
    have hnk : ¬ 8 ≤ k := by omega
    simp (disch := first | assumption | omega | decide | exact la_87 | exact la_88 | exact la_90 | exact la_91 | exact la_92 | exact la_93 | exact la_94 | exact la_95 | exact la_96 | exact la_97 | exact la_98 | exact la_99 | exact la_10 | exact la_23 | exact la_77 | exact la_78 | exact la_18 | exact la_19 | exact la_20) only [u62_2, u62_3, u62_5, u62_8, u62_9, u62_12, u62_13, u62_14, u62_15, u62_18, u62_19, u62_20, u62_23, u62_24, u62_25, u62_31, u62_32, la_22, la_9, la_23, la_10, lt_23, lt_10, lr_22_0, lr_9_0, kLt, true_and, o_aa, o_al, o_la, o_mm, o_ml, o_lm, o_ss, o_sl, o_ls, o_tn, o_tl, o_lt, o_ltl, o_llt, o_le, o_lel, o_lle, o_eq, o_eql, o_leq, o_inb, o_inl, o_neg, hk8, hnk, if_false]
    by_cases hc : I 23 k = I 10 k
    · rw [if_pos hc]
      refine (u62_28 ..).mpr (ih (k + 1) (by omega) ?_ h)
      rw [alk_s, ha]
      simp [hc]
    · rw [if_neg hc]
      rw [alk_f hc 8 hk8] at h
      exact ⟨Or.inl trivial, h⟩
theorem c62 : Ca 62 [.ref 22, .ref 9, .null] (Sg I J) m pc ls st Q ↔ Rn m pc ls (.int (bi (alk (I 23) (I 10) 8 = true)) :: st) (Sg I J) Q := Ca_of (r := some (.int (bi (alk (I 23) (I 10) 8 = true)))) (fun Q h => by
  simp only [u62_0, u62_1]
  exact k62 8 0 (by omega) rfl h)
theorem c160 : Ca 160 [.ref 86, .null, .null] (Sg I J) m pc ls st Q ↔ Rn m pc ls (.int (bi (alk (I 91) (fun j => I 87 (5 + j)) 8 = true)) :: st) (Sg I J) Q := Ca_of (r := some (.int (bi (alk (I 91) (fun j => I 87 (5 + j)) 8 = true)))) (fun Q h => by
  simp only [u160_0, u160_1, u160_2, u160_3]
  refine Rn_fr (n := 8) (X := Unit) (fun k _ => [.ref 86, .int (bi (alk (I 91) (fun j => I 87 (5 + j)) k = true)), .int (Int32.ofNat k)]) (fun k _ => Sg I J) () rfl rfl ?_ ?_
  · intro k hk _ ih
    have ih := ih ()
    rw [alk_s] at ih
    have hnk : ¬ 8 ≤ k := by omega
    simp (disch := first | assumption | omega | decide | exact la_87 | exact la_88 | exact la_90 | exact la_91 | exact la_92 | exact la_93 | exact la_94 | exact la_95 | exact la_96 | exact la_97 | exact la_98 | exact la_99 | exact la_10 | exact la_23 | exact la_77 | exact la_78 | exact la_18 | exact la_19 | exact la_20) only [u160_4, u160_5, u160_7, u160_10, u160_11, u160_14, u160_15, u160_18, u160_19, u160_20, u160_21, u160_24, u160_25, u160_26, u160_27, u160_28, u160_31, u160_32, u160_35, u160_36, u160_37, u160_43, u160_44, bi_0, la_86, la_91, la_87, lt_91, lt_87, lr_86_6, lr_86_0, kLt, true_and, o_aa, o_al, o_la, o_mm, o_ml, o_lm, o_ss, o_sl, o_ls, o_tn, o_tl, o_lt, o_ltl, o_llt, o_le, o_lel, o_lle, o_eq, o_eql, o_leq, o_inb, o_inl, o_neg, hk, hnk, if_false, show 5 + k < 142 by omega]
    by_cases hb : alk (I 91) (fun j => I 87 (5 + j)) k = true
    · by_cases hc : I 91 k = I 87 (5 + k)
      · simp only [hb, hc, not_true, if_false, Bool.true_and, decide_true] at ih ⊢
        exact (u160_40 ..).mpr ih
      · simp only [hb, hc, not_true, not_false_eq_true, if_true, if_false, Bool.true_and, decide_false] at ih ⊢
        exact (u160_40 ..).mpr ih
    · rw [Bool.not_eq_true] at hb
      simp only [hb, Bool.false_eq_true, not_false_eq_true, if_true, Bool.false_and] at ih ⊢
      exact (u160_40 ..).mpr ih
  · intro _
    simp (disch := first | assumption | omega | decide | exact la_87 | exact la_88 | exact la_90 | exact la_91 | exact la_92 | exact la_93 | exact la_94 | exact la_95 | exact la_96 | exact la_97 | exact la_98 | exact la_99 | exact la_10 | exact la_23 | exact la_77 | exact la_78 | exact la_18 | exact la_19 | exact la_20) only [u160_4, u160_5, u160_7, u160_10, u160_11, u160_14, u160_15, u160_18, u160_19, u160_20, u160_21, u160_24, u160_25, u160_26, u160_27, u160_28, u160_31, u160_32, u160_35, u160_36, u160_37, u160_43, u160_44, o_aa, o_al, o_la, o_mm, o_ml, o_lm, o_ss, o_sl, o_ls, o_tn, o_tl, o_lt, o_ltl, o_llt, o_le, o_lel, o_lle, o_eq, o_eql, o_leq, o_inb, o_inl, o_neg, Nat.le_refl, if_true, bi_1, true_and]
    exact h)
end AGAIN
/-- the first turn, behind k, at which E holds, d left -/
def fa (E : Nat → Bool) (d : Nat) : Nat → Int32 := Nat.rec (fun _ => -1) (fun _ f k => if E (k + 1) = true then Int32.ofNat (k + 1) else f (k + 1)) d
theorem fa_s (E : Nat → Bool) (d k : Nat) : fa E (d + 1) k = if E (k + 1) = true then Int32.ofNat (k + 1) else fa E d (k + 1) := rfl
theorem fa_eq {E F : Nat → Bool} (h : ∀ k, E k = F k) : ∀ d k, fa E d k = fa F d k := by
  intro d
  induction d with
  | zero => intro k; rfl
  | succ d ih => intro k; rw [fa_s, fa_s, h, ih]
section AGAIN2
variable {X : Nat → Nat → Int32} {J : Nat → Nat → Int64} {Q : Option Value → Sto → Prop}
theorem ag_c {n : Nat} (hT : Tm X 21 n) : ∀ d k, k + d = 60 → (∀ k', Q (some (.int (fa (fun q => alk (psI X 21 (-1) n q 23) (psI X 21 (-1) n q 10) 8) d k))) (Sg (psI X 21 (-1) n k') J)) → Rn 86 13 [.ref 0, .int (Int32.ofNat (k + 1))] [] (Sg (psI X 21 (-1) n k) J) Q := by
  intro d
  induction d with
  | zero =>
    intro k hk h
    obtain rfl : k = 60 := by omega
    simp (disch := first | assumption | omega | decide | exact la_87 | exact la_88 | exact la_90 | exact la_91 | exact la_92 | exact la_93 | exact la_94 | exact la_95 | exact la_96 | exact la_97 | exact la_98 | exact la_99 | exact la_10 | exact la_23 | exact la_77 | exact la_78 | exact la_18 | exact la_19 | exact la_20) only [u86_13, u86_14, u86_16, u86_19, u86_20, u86_23, u86_24, u86_27, u86_28, u86_31, u86_34, u86_35, u86_38, u86_41, u86_44, u86_47, u86_48, u86_49, u86_55, u86_56, o_aa, o_al, o_la, o_mm, o_ml, o_lm, o_ss, o_sl, o_ls, o_tn, o_tl, o_lt, o_ltl, o_llt, o_le, o_lel, o_lle, o_eq, o_eql, o_leq, o_inb, o_inl, o_neg, Nat.reduceAdd, Nat.reduceLT, if_true]
    exact h _
  | succ d ih =>
    intro k hk h
    have hnk : ¬ 60 < k + 1 := by omega
    have h46 := fun (pc : Nat) (ls st : Vs) => @c46 86 pc ls st (psI X 21 (-1) n k) J Q 21 lisV_21 (-1) n (Tm_ps hT (-1) k)
    have hst := ih (k + 1) (by omega)
    simp only [fa_s] at h
    rw [ps_s] at h46
    clear ih hT
    simp (disch := first | assumption | omega | decide | exact la_87 | exact la_88 | exact la_90 | exact la_91 | exact la_92 | exact la_93 | exact la_94 | exact la_95 | exact la_96 | exact la_97 | exact la_98 | exact la_99 | exact la_10 | exact la_23 | exact la_77 | exact la_78 | exact la_18 | exact la_19 | exact la_20) only [u86_13, u86_14, u86_16, u86_19, u86_20, u86_23, u86_24, u86_27, u86_28, u86_31, u86_34, u86_35, u86_38, u86_41, u86_44, u86_47, u86_48, u86_49, u86_55, u86_56, h46, c62, bi_0, la_0, la_8, la_21, la_22, lr_0_0, lr_0_1, lr_8_1, lr_21_1, kLt, true_and, o_aa, o_al, o_la, o_mm, o_ml, o_lm, o_ss, o_sl, o_ls, o_tn, o_tl, o_lt, o_ltl, o_llt, o_le, o_lel, o_lle, o_eq, o_eql, o_leq, o_inb, o_inl, o_neg, hnk, if_false]
    by_cases hc : alk (psI X 21 (-1) n (k + 1) 23) (psI X 21 (-1) n (k + 1) 10) 8 = true
    · rw [if_pos hc] at h
      rw [if_neg (fun q => q hc)]
      exact h (k + 1)
    · rw [if_neg hc] at h
      rw [if_pos hc]
      exact (u86_52 ..).mpr (hst h)
theorem ag_m {n T : Nat} (hH : Hm X n T) (hT : T < 100000) : ∀ d k, k + d = 60 → (∀ k', Q (some (.int (fa (fun q => alk (pmI X (1 <<< (Int32.ofNat n &&& 31) - 1) n q 91) (fun j => pmI X (1 <<< (Int32.ofNat n &&& 31) - 1) n q 87 (5 + j)) 8) d k))) (Sg (pmI X (1 <<< (Int32.ofNat n &&& 31) - 1) n k') J)) → Rn 161 6 [.ref 86, .int (Int32.ofNat (k + 1))] [] (Sg (pmI X (1 <<< (Int32.ofNat n &&& 31) - 1) n k) J) Q := by
  intro d
  induction d with
  | zero =>
    intro k hk h
    obtain rfl : k = 60 := by omega
    simp (disch := first | assumption | omega | decide | exact la_87 | exact la_88 | exact la_90 | exact la_91 | exact la_92 | exact la_93 | exact la_94 | exact la_95 | exact la_96 | exact la_97 | exact la_98 | exact la_99 | exact la_10 | exact la_23 | exact la_77 | exact la_78 | exact la_18 | exact la_19 | exact la_20) only [u161_6, u161_7, u161_9, u161_12, u161_13, u161_14, u161_17, u161_20, u161_21, u161_24, u161_27, u161_28, u161_29, u161_35, u161_36, o_aa, o_al, o_la, o_mm, o_ml, o_lm, o_ss, o_sl, o_ls, o_tn, o_tl, o_lt, o_ltl, o_llt, o_le, o_lel, o_lle, o_eq, o_eql, o_leq, o_inb, o_inl, o_neg, Nat.reduceAdd, Nat.reduceLT, if_true]
    exact h _
  | succ d ih =>
    intro k hk h
    have hnk : ¬ 60 < k + 1 := by omega
    have g0 : pmI X (1 <<< (Int32.ofNat n &&& 31) - 1) n k 87 0 = Int32.ofNat n := by rw [pm_87]; exact hH.2.1
    have h139 := fun (pc : Nat) (ls st : Vs) => @c139 161 pc ls st (pmI X (1 <<< (Int32.ofNat n &&& 31) - 1) n k) J Q (1 <<< (Int32.ofNat n &&& 31) - 1) n (T + k) (Hm_pm hH _ k) (by omega)
    have hst := ih (k + 1) (by omega)
    simp only [fa_s] at h
    rw [pm_s] at h139
    clear ih hH
    simp (disch := first | assumption | omega | decide | exact la_87 | exact la_88 | exact la_90 | exact la_91 | exact la_92 | exact la_93 | exact la_94 | exact la_95 | exact la_96 | exact la_97 | exact la_98 | exact la_99 | exact la_10 | exact la_23 | exact la_77 | exact la_78 | exact la_18 | exact la_19 | exact la_20) only [u161_6, u161_7, u161_9, u161_12, u161_13, u161_14, u161_17, u161_20, u161_21, u161_24, u161_27, u161_28, u161_29, u161_35, u161_36, h139, c140, c160, bi_0, g0, la_86, kLt, true_and, o_aa, o_al, o_la, o_mm, o_ml, o_lm, o_ss, o_sl, o_ls, o_tn, o_tl, o_lt, o_ltl, o_llt, o_le, o_lel, o_lle, o_eq, o_eql, o_leq, o_inb, o_inl, o_neg, hnk, if_false]
    by_cases hc : alk (pmI X (1 <<< (Int32.ofNat n &&& 31) - 1) n (k + 1) 91) (fun j => pmI X (1 <<< (Int32.ofNat n &&& 31) - 1) n (k + 1) 87 (5 + j)) 8 = true
    · rw [if_pos hc] at h
      rw [if_neg (fun q => q hc)]
      exact h (k + 1)
    · rw [if_neg hc] at h
      rw [if_pos hc]
      exact (u161_32 ..).mpr (hst h)
end AGAIN2
theorem op22 : OpI 86 [.ref 0, .null] 161 [.ref 86, .null] := by
  intro I J B hR hB
  have hR0 := hR
  obtain ⟨⟨⟨n, hT⟩, rb, rc, rd, re⟩, -⟩ := hR0
  have hTn : VTn (I 11) (I 12) (I 87) n := hT
  have rd0 := rd
  obtain ⟨⟨T, hTB, t1, t2⟩, p1, w1⟩ := rd0
  simp (disch := decide) only [u86_0, u86_1, u86_4, u86_5, u86_8, u86_11, u86_12, c43_21_8, la_0, la_21, lr_0_0, lr_0_1, kLt, true_and]
  rw [← ps_0 (tk_21_8 I) 21 (-1) n]
  refine ag_c (Tm_tk hTn) 60 0 (by omega) (fun k' => ?_)
  refine ⟨_, _, _, rfl, rfl, ah_hm _ _ _ _ _ (by decide), ah_hm _ _ _ _ _ (by decide), ?_⟩
  have hm := ah_hm I (-1) n k'
  have hS := (Sc_tk I).tr (Sc_ps (tk_21_8 I) (-1) n k')
  generalize psI (tk_21_8 I) 21 (-1) n k' = I1 at hm hS ⊢
  have g0 : I1 87 0 = Int32.ofNat n := by rw [hm 87 (by omega)]; exact hTn.2.2.1
  simp (disch := first | assumption | omega | decide | exact la_87 | exact la_88 | exact la_90 | exact la_91 | exact la_92 | exact la_93 | exact la_94 | exact la_95 | exact la_96 | exact la_97 | exact la_98 | exact la_99 | exact la_10 | exact la_23 | exact la_77 | exact la_78 | exact la_18 | exact la_19 | exact la_20) only [u161_0, u161_1, u161_4, u161_5, c135 n hTn.1 g0, la_86, kLt, true_and]
  rw [← pm_0 (lhI I1 n) (1 <<< (Int32.ofNat n &&& 31) - 1) n]
  refine ag_m (Hm_lh hTn t2 (hm 87 (by omega))) (by omega) 60 0 (by omega) (fun k2 => ?_)
  refine fin_sc hR ((hS.tr (Sc_lh I1 n)).tr (Sc_pm _ _ n k2)) (fa_eq (fun q => ?_) 60 0)
  refine alk_eq (n := 8) (fun j hj => ⟨?_, ?_⟩) 8 (Nat.le_refl 8)
  · rw [ps_23, pm_91]
    exact (jn hTn rd (hm 87 (by omega)) (fun k hk => bit_a n hTn.1 k hk) q j hj).symm
  · rw [pm_87, lh_87, hm 87 (by omega)]
    obtain ⟨w, hw, q1, q2⟩ := w1 j hj
    have : psI (tk_21_8 I) 21 (-1) n q 10 = I 10 := by simp (disch := decide) only [psI, tk_21_8, up_o, Nat.reduceAdd]
    rw [this, q2]
    exact q1.symm
