/-! THE CALL: hands -/
section CAND
variable {X Z I : Nat → Nat → Int32} {n n2 T B : Nat}
theorem Sc.z87 (h : Sc I Z) : Z 87 = I 87 := h.1 87 (by decide) (by decide) (by decide)
theorem wk_f (h : Fr I 99 X) (hB : Bs I n n2 T B) {wc wm : Int32} (hw : ∀ k, k < n → decide (¬ wc &&& (1 <<< (Int32.ofNat k &&& 31)) = 0) = decide ((wm >>> (Int32.ofNat k &&& 31)) &&& 1 = 1)) (M : Nat) (hM : T + M < 1000000) : ∀ j, j < 8 → psI (ytI X) 21 wc n M 23 j = psI (tk_21_8 I) 21 wc n M 23 j := fun j hj => ((TJ_ps (h.tj (I1 := I) hB rfl) hw M hM).wk j hj).trans ((TJ_ps (TJ_tk (I1 := I) hB rfl) hw M hM).wk j hj).symm
theorem dn_f (h : Fr I 99 X) (hB : Bs I n n2 T B) {wc wm : Int32} (hw : ∀ k, k < n → decide (¬ wc &&& (1 <<< (Int32.ofNat k &&& 31)) = 0) = decide ((wm >>> (Int32.ofNat k &&& 31)) &&& 1 = 1)) (M : Nat) (hM : T + M < 1000000) : dnV (psI (ytI X) 21 wc n M) 21 n2 = dnV (psI (tk_21_8 I) 21 wc n M) 21 n2 := (dn_tj (TJ_ps (h.tj (I1 := I) hB rfl) hw M hM) ((h.yt.ps wc n M).vw hB (by rw [pm_87, lh_87]))).symm.trans (dn_tj (TJ_ps (TJ_tk (I1 := I) hB rfl) hw M hM) (((Fr_tk I 99).ps wc n M).vw hB (by rw [pm_87, lh_87])))
theorem dn_m (h : Sc I Z) (hB : Bs I n n2 T B) {wc wm : Int32} (hw : ∀ k, k < n → decide (¬ wc &&& (1 <<< (Int32.ofNat k &&& 31)) = 0) = decide ((wm >>> (Int32.ofNat k &&& 31)) &&& 1 = 1)) (M : Nat) (hM : T + M < 1000000) : dnM (pmI (lhI Z n) wm n M) n2 = dnV (psI (tk_21_8 I) 21 wc n M) 21 n2 := dn_tj (TJ_ps (TJ_tk hB h.z87) hw M hM) (((Fr_tk I 99).ps wc n M).vw hB (by rw [pm_87, lh_87, h.z87]))
theorem Bs_w (hB : Bs I n n2 T B) (h : Z 87 = I 87) : ∀ k, k < n2 → ∃ s, s < 8 ∧ Z 87 (32 + 2 * k) = Int32.ofNat s := fun k hk => by
  obtain ⟨⟨s, hs, s1, s2⟩, e⟩ := hB.2.1.2.2.2 k hk
  exact ⟨s, hs, by rw [h]; exact s2⟩
end CAND
theorem all_n : ∀ n, n < 7 → (1 <<< (Int32.ofNat n &&& 31) - 1 : Int32) = Int32.ofNat (2 ^ n - 1) := by decide +kernel
theorem all_e {n : Nat} (hn : n ≤ 6) : ∃ P, P < 64 ∧ (1 <<< (Int32.ofNat n &&& 31) - 1 : Int32) = Int32.ofNat P ∧ 2 ^ n = P + 1 := by
  have h1 := p2_le n hn
  have h2 : 0 < 2 ^ n := Nat.two_pow_pos n
  exact ⟨2 ^ n - 1, by omega, all_n n (by omega), by omega⟩
def hc (D : Nat → Int32) (w N : Int32) (k : Nat) : Int32 × Int32 := Nat.rec (-1, N) (fun k p => if bc (Int32.ofNat k) < p.2 then (if D k = w then (Int32.ofNat k, bc (Int32.ofNat k)) else p) else p) k
theorem hc_s (D : Nat → Int32) (w N : Int32) (k : Nat) : hc D w N (k + 1) = if bc (Int32.ofNat k) < (hc D w N k).2 then (if D k = w then (Int32.ofNat k, bc (Int32.ofNat k)) else hc D w N k) else hc D w N k := rfl
def hm (D : Nat → Int32) (w : Int32) (k : Nat) : Int32 := Nat.rec (-1) (fun k b => if b = -1 ∨ bc (Int32.ofNat k) < bc b then (if D k = w then Int32.ofNat k else b) else b) k
theorem hm_s (D : Nat → Int32) (w : Int32) (k : Nat) : hm D w (k + 1) = if hm D w k = -1 ∨ bc (Int32.ofNat k) < bc (hm D w k) then (if D k = w then Int32.ofNat k else hm D w k) else hm D w k := rfl
theorem bc_le : ∀ n, n < 7 → ∀ k, k < 64 → k < 2 ^ n → bc (Int32.ofNat k) < Int32.ofNat (n + 1) := by decide +kernel
theorem of_m1 : ∀ w, w < 64 → ¬ Int32.ofNat w = -1 := by decide +kernel
theorem hh (D : Nat → Int32) (w : Int32) {n : Nat} (hn : n ≤ 6) : ∀ k, k ≤ 2 ^ n → (hc D w (Int32.ofNat (n + 1)) k).1 = hm D w k ∧ ((hm D w k = -1 ∧ (hc D w (Int32.ofNat (n + 1)) k).2 = Int32.ofNat (n + 1)) ∨ ∃ b, b < 64 ∧ hm D w k = Int32.ofNat b ∧ (hc D w (Int32.ofNat (n + 1)) k).2 = bc (Int32.ofNat b)) := by
  intro k
  induction k with
  | zero => intro _; exact ⟨rfl, Or.inl ⟨rfl, rfl⟩⟩
  | succ k ih =>
    intro hk
    have h64 := p2_le n hn
    obtain ⟨e1, e2⟩ := ih (by omega)
    have hb := bc_le n (by omega) k (by omega) (by omega)
    rw [hc_s, hm_s]
    rcases e2 with ⟨e2, e3⟩ | ⟨b, hb64, e2, e3⟩
    · rw [e3, e2, if_pos hb, if_pos (Or.inl rfl)]
      by_cases hD : D k = w
      · rw [if_pos hD, if_pos hD]
        exact ⟨rfl, Or.inr ⟨k, by omega, rfl, rfl⟩⟩
      · rw [if_neg hD, if_neg hD]
        exact ⟨e1.trans e2, Or.inl ⟨rfl, e3⟩⟩
    · have hne := of_m1 b hb64
      rw [e3, e2]
      by_cases hc1 : bc (Int32.ofNat k) < bc (Int32.ofNat b)
      · rw [if_pos hc1, if_pos (Or.inr hc1)]
        by_cases hD : D k = w
        · rw [if_pos hD, if_pos hD]
          exact ⟨rfl, Or.inr ⟨k, by omega, rfl, rfl⟩⟩
        · rw [if_neg hD, if_neg hD]
          exact ⟨e1.trans e2, Or.inr ⟨b, hb64, rfl, e3⟩⟩
      · rw [if_neg hc1, if_neg (fun h => h.elim hne hc1)]
        exact ⟨e1.trans e2, Or.inr ⟨b, hb64, rfl, e3⟩⟩
section HANDS
variable {I : Nat → Nat → Int32} {J : Nat → Nat → Int64} {Q : Option Value → Sto → Prop} {n n2 T B : Nat}
theorem hd_c (M : Nat) (w : Int32) (hB : Bs I n n2 T B) (hM : M ≤ 20) (hT : T < 100000) {X0 : Nat → Nat → Int32} (hX : Fr I 99 X0) (h : ∀ X, Fr I 99 X → Q (some (.int (hc (fun k => dnV (psI (tk_21_8 I) 21 (Int32.ofNat k) n M) 21 n2) w (Int32.ofNat (n + 1)) (2 ^ n)).1)) (Sg X J)) : Rn 81 55 [.ref 0, .int (Int32.ofNat M), .int (-1), .int (Int32.ofNat (n + 1)), .int w, .null] [] (Sg X0 J) Q := by
  obtain ⟨P, hP, eP, eP2⟩ := all_e hB.1.1
  rw [eP2] at h
  have hn := hB.1.1
  simp only [u81_55, u81_56]
  refine Rn_fr (n := P + 1) (X := {X : Nat → Nat → Int32 // Fr I 99 X}) (fun k _ => [.ref 0, .int (Int32.ofNat M), .int (hc (fun k => dnV (psI (tk_21_8 I) 21 (Int32.ofNat k) n M) 21 n2) w (Int32.ofNat (n + 1)) k).1, .int (hc (fun k => dnV (psI (tk_21_8 I) 21 (Int32.ofNat k) n M) 21 n2) w (Int32.ofNat (n + 1)) k).2, .int w, .int (Int32.ofNat k)]) (fun _ x => Sg x.1 J) ⟨X0, hX⟩ rfl rfl ?_ ?_
  · rintro k hk ⟨X, hx⟩ ih
    dsimp only
    have hnk : ¬ P < k := by omega
    have hbw := fun j (hj : j < n) => bit_w k (by omega) j (by omega)
    have e11 : X 11 1 = Int32.ofNat n := by rw [hx.ns (by decide) (by decide)]; exact hB.1.2.1
    have h47 := fun (pc : Nat) (ls st : Vs) => @c47 81 pc ls st (ytI X) J Q 21 lisV_21 (Int32.ofNat k) n M (hx.tj (I1 := I) hB rfl).tm (by omega)
    have h48 := fun (pc : Nat) (ls st : Vs) => @c48 81 pc ls st (psI (ytI X) 21 (Int32.ofNat k) n M) J Q 21 n2 lisV_21 ((hx.yt.ps _ n M).wm hB)
    rw [dn_f hx hB hbw M (by omega)] at h48
    have f1 := ih ⟨X, hx⟩
    have f2 := ih ⟨_, hx.yt.ps (Int32.ofNat k) n M⟩
    simp only [hc_s] at f1 f2
    generalize hc (fun k => dnV (psI (tk_21_8 I) 21 (Int32.ofNat k) n M) 21 n2) w (Int32.ofNat (n + 1)) k = p at f1 f2 ⊢
    generalize dnV (psI (tk_21_8 I) 21 (Int32.ofNat k) n M) 21 n2 = d at f1 f2 h48 ⊢
    generalize psI (ytI X) 21 (Int32.ofNat k) n M = X2 at h47 h48 f2 ⊢
    clear ih h hbw hB hx
    simp (disch := first | assumption | omega | decide | exact la_87 | exact la_88 | exact la_90 | exact la_91 | exact la_92 | exact la_93 | exact la_94 | exact la_95 | exact la_96 | exact la_97 | exact la_98 | exact la_99 | exact la_10 | exact la_23 | exact la_77 | exact la_78 | exact la_18 | exact la_19 | exact la_20) only [u81_58, u81_60, u81_61, u81_64, u81_67, u81_70, u81_73, u81_75, u81_78, u81_79, u81_82, u81_85, u81_86, u81_89, u81_92, u81_93, u81_96, u81_99, u81_102, u81_103, u81_106, u81_108, u81_109, u81_112, u81_113, u81_116, u81_119, u81_121, u81_124, u81_126, u81_127, u81_129, u81_132, u81_133, c31 11 lisT_11, c196, c54t, h47, h48, la_0, la_8, la_9, la_11, la_21, la_22, lr_0_0, lr_0_1, lr_8_1, lr_8_2, lr_21_1, kLt, true_and, e11, eP, o_aa, o_al, o_la, o_mm, o_ml, o_lm, o_ss, o_sl, o_ls, o_tn, o_tl, o_lt, o_ltl, o_llt, o_le, o_lel, o_lle, o_eq, o_eql, o_leq, o_inb, o_inl, o_neg, hnk, if_false]
    by_cases h1 : bc (Int32.ofNat k) < p.2
    · simp only [if_pos h1] at f2 ⊢
      by_cases h2 : d = w
      · simp only [h2, not_true, if_true, if_false] at f2 ⊢
        exact (u81_136 ..).mpr f2
      · simp only [h2, not_false_eq_true, if_true, if_false] at f2 ⊢
        exact (u81_136 ..).mpr f2
    · simp only [if_neg h1] at f1 ⊢
      exact (u81_136 ..).mpr f1
  · rintro ⟨X, hx⟩
    dsimp only
    have e11 : X 11 1 = Int32.ofNat n := by rw [hx.ns (by decide) (by decide)]; exact hB.1.2.1
    have f := h X hx
    generalize hc (fun k => dnV (psI (tk_21_8 I) 21 (Int32.ofNat k) n M) 21 n2) w (Int32.ofNat (n + 1)) (P + 1) = p at f ⊢
    clear h hB hx
    simp (disch := first | assumption | omega | decide | exact la_87 | exact la_88 | exact la_90 | exact la_91 | exact la_92 | exact la_93 | exact la_94 | exact la_95 | exact la_96 | exact la_97 | exact la_98 | exact la_99 | exact la_10 | exact la_23 | exact la_77 | exact la_78 | exact la_18 | exact la_19 | exact la_20) only [u81_58, u81_60, u81_61, u81_64, u81_67, u81_70, u81_139, u81_140, c31 11 lisT_11, la_0, la_8, la_11, lr_0_0, lr_8_2, kLt, true_and, e11, eP, o_aa, o_al, o_la, o_mm, o_ml, o_lm, o_ss, o_sl, o_ls, o_tn, o_tl, o_lt, o_ltl, o_llt, o_le, o_lel, o_lle, o_eq, o_eql, o_leq, o_inb, o_inl, o_neg, Nat.lt_succ_self, if_true]
    exact f
theorem hd_m (M : Nat) (hB : Bs I n n2 T B) (hM : M ≤ 20) (hT : T < 100000) {X0 : Nat → Nat → Int32} (hX : Sc I X0) (h : ∀ X, Sc I X → Q (some (.int (hm (fun k => dnV (psI (tk_21_8 I) 21 (Int32.ofNat k) n M) 21 n2) (1 <<< (Int32.ofNat n2 &&& 31) - 1) (2 ^ n)))) (Sg X J)) : Rn 154 14 [.ref 86, .int (Int32.ofNat M), .null, .null] [] (Sg X0 J) Q := by
  obtain ⟨P, hP, eP, eP2⟩ := all_e hB.1.1
  have hh1 := fun k (hk : k ≤ P + 1) => (hh (fun k => dnV (psI (tk_21_8 I) 21 (Int32.ofNat k) n M) 21 n2) (1 <<< (Int32.ofNat n2 &&& 31) - 1) hB.1.1 k (by omega)).2
  rw [eP2] at h
  have hn := hB.1.1
  have hn2 := hB.2.1.1
  simp only [u154_14, u154_15, u154_16, u154_17]
  refine Rn_fr (n := P + 1) (X := {X : Nat → Nat → Int32 // Sc I X}) (fun k _ => [.ref 86, .int (Int32.ofNat M), .int (hm (fun k => dnV (psI (tk_21_8 I) 21 (Int32.ofNat k) n M) 21 n2) (1 <<< (Int32.ofNat n2 &&& 31) - 1) k), .int (Int32.ofNat k)]) (fun _ x => Sg x.1 J) ⟨X0, hX⟩ rfl rfl ?_ ?_
  · rintro k hk ⟨X, hx⟩ ih
    dsimp only
    have hnk : ¬ P < k := by omega
    have hk64 : k < 64 := by omega
    have hbw := fun j (hj : j < n) => bit_w k (by omega) j (by omega)
    have g0 : X 87 0 = Int32.ofNat n := by rw [hx.z87]; exact hB.1.2.2.1
    have g1 : pmI (lhI X n) (Int32.ofNat k) n M 87 1 = Int32.ofNat n2 := by rw [pm_87, lh_87, hx.z87]; exact hB.2.1.2.2.1
    have h135 := fun (pc : Nat) (ls st : Vs) => @c135 154 pc ls st X J Q n hn g0
    have h141 := fun (pc : Nat) (ls st : Vs) => @c141 154 pc ls st (lhI X n) J Q (Int32.ofNat k) n T M (TJ_tk hB hx.z87).hm (by omega) (by omega)
    have h149 := fun (pc : Nat) (ls st : Vs) => @c149 154 pc ls st (pmI (lhI X n) (Int32.ofNat k) n M) J Q n2 hn2 g1 (Bs_w hB (by rw [pm_87, lh_87, hx.z87]))
    rw [dn_m hx hB hbw M (by omega)] at h149
    have f1 := ih ⟨X, hx⟩
    have f2 := ih ⟨_, (hx.tr (Sc_lh X n)).tr (Sc_pm (lhI X n) (Int32.ofNat k) n M)⟩
    simp only [hm_s] at f1 f2
    have hb := hh1 k (by omega)
    generalize hm (fun k => dnV (psI (tk_21_8 I) 21 (Int32.ofNat k) n M) 21 n2) (1 <<< (Int32.ofNat n2 &&& 31) - 1) k = p at f1 f2 hb ⊢
    generalize dnV (psI (tk_21_8 I) 21 (Int32.ofNat k) n M) 21 n2 = d at f1 f2 h149 ⊢
    generalize pmI (lhI X n) (Int32.ofNat k) n M = X2 at h141 h149 f2 g1 ⊢
    generalize lhI X n = X1 at h135 h141
    clear ih h hbw hB hx hh1
    have f3 : (if d = 1 <<< (Int32.ofNat n2 &&& 31) - 1 then Rn 154 69 [.ref 86, .int (Int32.ofNat M), .int (Int32.ofNat k), .int (Int32.ofNat k)] [] (Sg X2 J) Q else Rn 154 69 [.ref 86, .int (Int32.ofNat M), .int p, .int (Int32.ofNat k)] [] (Sg X2 J) Q) → Rn 154 42 [.ref 86, .int (Int32.ofNat M), .int p, .int (Int32.ofNat k)] [] (Sg X J) Q := by
      intro f
      simp (disch := first | assumption | omega | decide | exact la_87 | exact la_88 | exact la_90 | exact la_91 | exact la_92 | exact la_93 | exact la_94 | exact la_95 | exact la_96 | exact la_97 | exact la_98 | exact la_99 | exact la_10 | exact la_23 | exact la_77 | exact la_78 | exact la_18 | exact la_19 | exact la_20) only [u154_42, u154_43, u154_46, u154_47, u154_48, u154_49, u154_52, u154_53, u154_56, u154_57, u154_60, u154_63, u154_64, u154_67, u154_68, h135, h141, h149, c150, g1, la_86, kLt, true_and]
      by_cases h2 : d = 1 <<< (Int32.ofNat n2 &&& 31) - 1
      · simp only [h2, not_true, if_true, if_false] at f ⊢
        exact f
      · simp only [h2, not_false_eq_true, if_true, if_false] at f ⊢
        exact f
    have f4 : ∀ b X, Rn 154 18 [.ref 86, .int (Int32.ofNat M), .int b, .int (Int32.ofNat (k + 1))] [] (Sg X J) Q → Rn 154 69 [.ref 86, .int (Int32.ofNat M), .int b, .int (Int32.ofNat k)] [] (Sg X J) Q := by
      intro b X f
      simp (disch := first | assumption | omega | decide | exact la_87 | exact la_88 | exact la_90 | exact la_91 | exact la_92 | exact la_93 | exact la_94 | exact la_95 | exact la_96 | exact la_97 | exact la_98 | exact la_99 | exact la_10 | exact la_23 | exact la_77 | exact la_78 | exact la_18 | exact la_19 | exact la_20) only [u154_69, o_aa, o_al, o_la, o_mm, o_ml, o_lm, o_ss, o_sl, o_ls, o_tn, o_tl, o_lt, o_ltl, o_llt, o_le, o_lel, o_lle, o_eq, o_eql, o_leq, o_inb, o_inl, o_neg]
      exact (u154_72 ..).mpr f
    rcases hb with ⟨hb, -⟩ | ⟨b, hb64, hb, -⟩
    · subst hb
      simp only [true_or, if_true] at f2
      simp (disch := first | assumption | omega | decide | exact la_87 | exact la_88 | exact la_90 | exact la_91 | exact la_92 | exact la_93 | exact la_94 | exact la_95 | exact la_96 | exact la_97 | exact la_98 | exact la_99 | exact la_10 | exact la_23 | exact la_77 | exact la_78 | exact la_18 | exact la_19 | exact la_20) only [u154_18, u154_19, u154_20, u154_23, u154_26, u154_27, u154_28, u154_31, u154_32, u154_35, u154_36, u154_39, c140, g0, eP, la_86, kLt, true_and, o_aa, o_al, o_la, o_mm, o_ml, o_lm, o_ss, o_sl, o_ls, o_tn, o_tl, o_lt, o_ltl, o_llt, o_le, o_lel, o_lle, o_eq, o_eql, o_leq, o_inb, o_inl, o_neg, hnk, if_true, if_false]
      refine f3 ?_
      by_cases h2 : d = 1 <<< (Int32.ofNat n2 &&& 31) - 1
      · rw [if_pos h2] at f2 ⊢
        exact f4 _ _ f2
      · rw [if_neg h2] at f2 ⊢
        exact f4 _ _ f2
    · subst hb
      have hne := of_m1 b hb64
      simp (disch := first | assumption | omega | decide | exact la_87 | exact la_88 | exact la_90 | exact la_91 | exact la_92 | exact la_93 | exact la_94 | exact la_95 | exact la_96 | exact la_97 | exact la_98 | exact la_99 | exact la_10 | exact la_23 | exact la_77 | exact la_78 | exact la_18 | exact la_19 | exact la_20) only [u154_18, u154_19, u154_20, u154_23, u154_26, u154_27, u154_28, u154_31, u154_32, u154_35, u154_36, u154_39, c140, c117, g0, eP, la_86, kLt, true_and, o_aa, o_al, o_la, o_mm, o_ml, o_lm, o_ss, o_sl, o_ls, o_tn, o_tl, o_lt, o_ltl, o_llt, o_le, o_lel, o_lle, o_eq, o_eql, o_leq, o_inb, o_inl, o_neg, hnk, hne, if_true, if_false]
      by_cases h1 : bc (Int32.ofNat k) < bc (Int32.ofNat b)
      · rw [if_neg (Int32.not_le.mpr h1)]
        rw [if_pos (Or.inr h1)] at f2
        refine f3 ?_
        by_cases h2 : d = 1 <<< (Int32.ofNat n2 &&& 31) - 1
        · rw [if_pos h2] at f2 ⊢
          exact f4 _ _ f2
        · rw [if_neg h2] at f2 ⊢
          exact f4 _ _ f2
      · rw [if_pos (Int32.not_lt.mp h1)]
        rw [if_neg (fun q => q.elim hne h1)] at f1
        exact f4 _ _ f1
  · rintro ⟨X, hx⟩
    dsimp only
    have g0 : X 87 0 = Int32.ofNat n := by rw [hx.z87]; exact hB.1.2.2.1
    have f := h X hx
    generalize hm (fun k => dnV (psI (tk_21_8 I) 21 (Int32.ofNat k) n M) 21 n2) (1 <<< (Int32.ofNat n2 &&& 31) - 1) (P + 1) = p at f ⊢
    clear h hB hx hh1
    simp (disch := first | assumption | omega | decide | exact la_87 | exact la_88 | exact la_90 | exact la_91 | exact la_92 | exact la_93 | exact la_94 | exact la_95 | exact la_96 | exact la_97 | exact la_98 | exact la_99 | exact la_10 | exact la_23 | exact la_77 | exact la_78 | exact la_18 | exact la_19 | exact la_20) only [u154_18, u154_19, u154_20, u154_23, u154_75, u154_76, c140, g0, la_86, kLt, true_and, eP, o_aa, o_al, o_la, o_mm, o_ml, o_lm, o_ss, o_sl, o_ls, o_tn, o_tl, o_lt, o_ltl, o_llt, o_le, o_lel, o_lle, o_eq, o_eql, o_leq, o_inb, o_inl, o_neg, Nat.lt_succ_self, if_true]
    exact f
end HANDS
theorem op17 (a : Int32) : OpI 81 [.ref 0, .int a, .null, .null, .null, .null] 154 [.ref 86, .int a, .null, .null] := by
  intro I J B hR hB
  obtain ⟨n, n2, T, hBs⟩ := Bs_of hR
  have hT := hBs.2.2.1
  have e11 : I 11 1 = Int32.ofNat n := hBs.1.2.1
  have e13 : I 13 1 = Int32.ofNat n2 := hBs.2.1.2.1
  by_cases h1 : 0 ≤ a ∧ a ≤ 20
  · obtain ⟨M, hM, rfl⟩ := o_in (m := 20) h1.1 h1.2 (by omega)
    simp (disch := first | assumption | omega | decide | exact la_87 | exact la_88 | exact la_90 | exact la_91 | exact la_92 | exact la_93 | exact la_94 | exact la_95 | exact la_96 | exact la_97 | exact la_98 | exact la_99 | exact la_10 | exact la_23 | exact la_77 | exact la_78 | exact la_18 | exact la_19 | exact la_20) only [u81_0, u81_1, u81_2, u81_4, u81_7, u81_10, u81_11, u81_13, u81_16, u81_17, u81_18, u81_19, u81_20, u81_23, u81_26, u81_29, u81_30, u81_31, u81_32, u81_33, u81_36, u81_39, u81_42, u81_44, u81_45, u81_48, u81_49, u81_52, c100, c43_21_8, c31 13 lisT_13, bi_0, h1, e11, e13, not_true, not_false_eq_true, if_true, if_false, la_0, la_8, la_11, la_13, la_21, lr_0_0, lr_0_1, lr_8_2, lr_8_3, kLt, true_and, o_aa, o_al, o_la, o_mm, o_ml, o_lm, o_ss, o_sl, o_ls, o_tn, o_tl, o_lt, o_ltl, o_llt, o_le, o_lel, o_lle, o_eq, o_eql, o_leq, o_inb, o_inl, o_neg]
    refine hd_c M _ hBs hM (by omega) (Fr_tk I 99) (fun X hX => ?_)
    refine ⟨_, _, _, rfl, rfl, hX.2.1 999 (by decide), hX.2.1 1000 (by decide), ?_⟩
    simp (disch := decide) only [u154_0, u154_1, u154_4, u154_7, u154_8, u154_10, u154_13, c153, bi_0, h1, not_true, not_false_eq_true, if_true, if_false]
    refine hd_m M hBs hM (by omega) hX.1 (fun Z hZ => ?_)
    exact fin_sc hR hZ (hh _ _ hBs.1.1 _ (Nat.le_refl _)).1.symm
  · simp (disch := decide) only [u81_0, u81_1, u81_2, u81_4, u81_7, u81_10, u81_11, u81_13, u81_16, c100, c103b, bi_0, h1, not_true, not_false_eq_true, if_true, if_false, la_0, kLt, true_and]
    refine ⟨_, _, _, rfl, rfl, up_o _ _ (by decide), up_o _ _ (by decide), ?_⟩
    simp (disch := decide) only [u154_0, u154_1, u154_4, u154_7, u154_8, u154_10, u154_13, c153, c114, bi_0, h1, not_true, not_false_eq_true, if_true, if_false, la_86, kLt, true_and]
    exact fin_bad' hR
