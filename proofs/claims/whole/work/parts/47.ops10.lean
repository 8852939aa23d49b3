/-! THE CALLS: about, when -/
theorem le_m1 {n : Nat} (hn : n ≤ 6) (x : Int32) : (0 ≤ x ∧ x ≤ Int32.ofNat n - 1) ↔ (0 ≤ x ∧ x < Int32.ofNat n) := by
  rw [Int32.le_iff_toInt_le, Int32.le_iff_toInt_le, Int32.lt_iff_toInt_lt, Int32.toInt_sub, Int32.toInt_ofNat_of_lt (by omega)]
  have a1 : (0 : Int32).toInt = 0 := rfl
  have a2 : (1 : Int32).toInt = 1 := rfl
  rw [a1, a2, Int.bmod_eq_of_le (by omega) (by omega)]
  omega
theorem bi_c {p q : Prop} [Decidable p] [Decidable q] (h : p ↔ q) : bi p = bi q := by
  unfold bi
  by_cases hp : p
  · rw [if_pos hp, if_pos (h.mp hp)]
  · rw [if_neg hp, if_neg (fun hq => hp (h.mpr hq))]
section ABOUT
variable {m pc : Nat} {ls st : Vs} {I : Nat → Nat → Int32} {J : Nat → Nat → Int64} {Q : Option Value → Sto → Prop}
theorem c121 (n : Nat) (hn : n ≤ 6) (en : I 87 0 = Int32.ofNat n) (x : Int32) : Ca 121 [.ref 86, .int x] (Sg I J) m pc ls st Q ↔ Rn m pc ls (.int (bi (0 ≤ x ∧ x < Int32.ofNat n)) :: st) (Sg I J) Q := by
  unfold Ca
  simp (disch := decide) only [u121_0, u121_1, u121_2, u121_3, u121_4, u121_7, u121_8, u121_9, u121_10, u121_13, c119, en, la_86, kLt, true_and]
  rw [show (0 : Int64) = (0 : Int32).toInt64 from rfl, c113i]
  simp only [u121_13, bi_1, true_and]
  rw [bi_c (le_m1 hn x)]
  rfl
theorem c150 : Ca 150 [.ref 86] (Sg I J) m pc ls st Q ↔ Rn m pc ls (.int (1 <<< (I 87 1 &&& 31) - 1) :: st) (Sg I J) Q := Ca_of (r := some (.int (1 <<< (I 87 1 &&& 31) - 1))) (fun Q h => by
  simp (disch := decide) only [u150_0, u150_1, u150_2, u150_5, u150_6, u150_7, u150_8, c120, la_86, kLt, true_and]
  exact h)
end ABOUT
/-- the first m, from m on, d left, at which all that is wanted is done -/
def fw (D : Nat → Int32) (w : Int32) (d : Nat) : Nat → Int32 := Nat.rec (fun _ => -1) (fun _ f m => if D m &&& w = w then Int32.ofNat m else f (m + 1)) d
theorem fw_s (D : Nat → Int32) (w : Int32) (d m : Nat) : fw D w (d + 1) m = if D m &&& w = w then Int32.ofNat m else fw D w d (m + 1) := rfl
theorem fw_eq {D E : Nat → Int32} (w : Int32) (h : ∀ m, D m = E m) : ∀ d m, fw D w d m = fw E w d m := by
  intro d
  induction d with
  | zero => intro m; rfl
  | succ d ih => intro m; rw [fw_s, fw_s, h m, ih (m + 1)]
section WHEN
variable {X : Nat → Nat → Int32} {J : Nat → Nat → Int64} {Q : Option Value → Sto → Prop}
theorem wh_c {n n2 : Nat} (a w : Int32) (hT : Tm X 21 n) (hW : Wm X 21 n2) : ∀ d k, k + d = 61 → (∀ k', Q (some (.int (fw (fun q => dnV (psI X 21 (-1) n q) 21 n2) w d k))) (Sg (psI X 21 (-1) n k') J)) → Rn 80 64 [.ref 0, .int a, .int w, .int (Int32.ofNat k)] [] (Sg (psI X 21 (-1) n k) J) Q := by
  intro d
  induction d with
  | zero =>
    intro k hk h
    obtain rfl : k = 61 := by omega
    simp (disch := first | assumption | omega | decide | exact la_87 | exact la_88 | exact la_90 | exact la_91 | exact la_92 | exact la_93 | exact la_94 | exact la_95 | exact la_96 | exact la_97 | exact la_98 | exact la_99 | exact la_10 | exact la_23 | exact la_77 | exact la_78 | exact la_18 | exact la_19 | exact la_20) only [u80_64, u80_65, u80_67, u80_70, u80_71, u80_74, u80_77, u80_78, u80_79, u80_80, u80_83, u80_84, u80_85, u80_86, u80_89, u80_90, u80_93, u80_99, u80_100, o_aa, o_al, o_la, o_mm, o_ml, o_lm, o_ss, o_sl, o_ls, o_tn, o_tl, o_lt, o_ltl, o_llt, o_le, o_lel, o_lle, o_eq, o_eql, o_leq, o_inb, o_inl, o_neg, Nat.reduceLT, if_true]
    exact h _
  | succ d ih =>
    intro k hk h
    have hnk : ¬ 60 < k := by omega
    have h48 := fun (pc : Nat) (ls st : Vs) => @c48 80 pc ls st (psI X 21 (-1) n k) J Q 21 n2 lisV_21 (Wm_ps hW (-1) n k)
    have h46 := fun (pc : Nat) (ls st : Vs) => @c46 80 pc ls st (psI X 21 (-1) n k) J Q 21 lisV_21 (-1) n (Tm_ps hT (-1) k)
    have hst := ih (k + 1) (by omega)
    rw [← ps_s] at hst
    simp only [fw_s] at h
    clear ih hT hW
    simp (disch := first | assumption | omega | decide | exact la_87 | exact la_88 | exact la_90 | exact la_91 | exact la_92 | exact la_93 | exact la_94 | exact la_95 | exact la_96 | exact la_97 | exact la_98 | exact la_99 | exact la_10 | exact la_23 | exact la_77 | exact la_78 | exact la_18 | exact la_19 | exact la_20) only [u80_64, u80_65, u80_67, u80_70, u80_71, u80_74, u80_77, u80_78, u80_79, u80_80, u80_83, u80_84, u80_85, u80_86, u80_89, u80_90, u80_93, u80_99, u80_100, h48, h46, la_0, la_21, lr_0_1, kLt, true_and, o_aa, o_al, o_la, o_mm, o_ml, o_lm, o_ss, o_sl, o_ls, o_tn, o_tl, o_lt, o_ltl, o_llt, o_le, o_lel, o_lle, o_eq, o_eql, o_leq, o_inb, o_inl, o_neg, hnk, if_false]
    by_cases hc : dnV (psI X 21 (-1) n k) 21 n2 &&& w = w
    · rw [if_pos hc] at h
      simp only [hc, not_true, if_false]
      exact h k
    · rw [if_neg hc] at h
      simp only [hc, not_false_eq_true, if_true]
      exact (u80_96 ..).mpr (hst h)
theorem wh_m {n n2 T : Nat} (a w : Int32) (hH : Hm X n T) (hT : T < 100000) (hn2 : n2 ≤ 6) (e1 : X 87 1 = Int32.ofNat n2) (e2 : ∀ k, k < n2 → ∃ s, s < 8 ∧ X 87 (32 + 2 * k) = Int32.ofNat s) : ∀ d k, k + d = 61 → (∀ k', Q (some (.int (fw (fun q => dnM (pmI X (1 <<< (Int32.ofNat n &&& 31) - 1) n q) n2) w d k))) (Sg (pmI X (1 <<< (Int32.ofNat n &&& 31) - 1) n k') J)) → Rn 152 47 [.ref 86, .int a, .int w, .int (Int32.ofNat k)] [] (Sg (pmI X (1 <<< (Int32.ofNat n &&& 31) - 1) n k) J) Q := by
  intro d
  induction d with
  | zero =>
    intro k hk h
    obtain rfl : k = 61 := by omega
    simp (disch := first | assumption | omega | decide | exact la_87 | exact la_88 | exact la_90 | exact la_91 | exact la_92 | exact la_93 | exact la_94 | exact la_95 | exact la_96 | exact la_97 | exact la_98 | exact la_99 | exact la_10 | exact la_23 | exact la_77 | exact la_78 | exact la_18 | exact la_19 | exact la_20) only [u152_47, u152_48, u152_50, u152_53, u152_54, u152_57, u152_58, u152_59, u152_60, u152_63, u152_64, u152_65, u152_66, u152_67, u152_70, u152_73, u152_79, u152_80, o_aa, o_al, o_la, o_mm, o_ml, o_lm, o_ss, o_sl, o_ls, o_tn, o_tl, o_lt, o_ltl, o_llt, o_le, o_lel, o_lle, o_eq, o_eql, o_leq, o_inb, o_inl, o_neg, Nat.reduceLT, if_true]
    exact h _
  | succ d ih =>
    intro k hk h
    have hnk : ¬ 60 < k := by omega
    have g0 : pmI X (1 <<< (Int32.ofNat n &&& 31) - 1) n k 87 0 = Int32.ofNat n := by rw [pm_87]; exact hH.2.1
    have h149 := fun (pc : Nat) (ls st : Vs) => @c149 152 pc ls st (pmI X (1 <<< (Int32.ofNat n &&& 31) - 1) n k) J Q n2 hn2 (by rw [pm_87]; exact e1) (by rw [pm_87]; exact e2)
    have h139 := fun (pc : Nat) (ls st : Vs) => @c139 152 pc ls st (pmI X (1 <<< (Int32.ofNat n &&& 31) - 1) n k) J Q (1 <<< (Int32.ofNat n &&& 31) - 1) n (T + k) (Hm_pm hH _ k) (by omega)
    have hst := ih (k + 1) (by omega)
    rw [← pm_s] at hst
    simp only [fw_s] at h
    clear ih hH e2
    simp (disch := first | assumption | omega | decide | exact la_87 | exact la_88 | exact la_90 | exact la_91 | exact la_92 | exact la_93 | exact la_94 | exact la_95 | exact la_96 | exact la_97 | exact la_98 | exact la_99 | exact la_10 | exact la_23 | exact la_77 | exact la_78 | exact la_18 | exact la_19 | exact la_20) only [u152_47, u152_48, u152_50, u152_53, u152_54, u152_57, u152_58, u152_59, u152_60, u152_63, u152_64, u152_65, u152_66, u152_67, u152_70, u152_73, u152_79, u152_80, h149, h139, c140, g0, la_86, kLt, true_and, o_aa, o_al, o_la, o_mm, o_ml, o_lm, o_ss, o_sl, o_ls, o_tn, o_tl, o_lt, o_ltl, o_llt, o_le, o_lel, o_lle, o_eq, o_eql, o_leq, o_inb, o_inl, o_neg, hnk, if_false]
    by_cases hc : dnM (pmI X (1 <<< (Int32.ofNat n &&& 31) - 1) n k) n2 &&& w = w
    · rw [if_pos hc] at h
      simp only [hc, not_true, if_false]
      exact h k
    · rw [if_neg hc] at h
      simp only [hc, not_false_eq_true, if_true]
      exact (u152_76 ..).mpr (hst h)
end WHEN
theorem wh_fin {I : Nat → Nat → Int32} {J : Nat → Nat → Int64} {B n n2 T : Nat} (a w : Int32) (hR : Rel I J B) (hB : B ≤ 4000) (hTn : VTn (I 11) (I 12) (I 87) n) (hWn : VWn (I 13) (I 14) (I 87) n2) (rd : VY (I 9) (I 10) (I 87) B) (hTB : T ≤ B) (t2 : I 87 2 = Int32.ofNat T) (k' : Nat) : Rn 152 41 [.ref 86, .int a, .int w, .null] [] (Sg (psI (tk_21_8 I) 21 (-1) n k') J) (fun r' σ' => ∃ I2 J2, r' = some (.int (fw (fun q => dnV (psI (tk_21_8 I) 21 (-1) n q) 21 n2) w 61 0)) ∧ σ' = Sg I2 J2 ∧ I2 999 = I 999 ∧ I2 1000 = I 1000 ∧ Rel I2 J2 (B + 60)) := by
  have hm := ah_hm I (-1) n k'
  have hS := (Sc_tk I).tr (Sc_ps (tk_21_8 I) (-1) n k')
  generalize psI (tk_21_8 I) 21 (-1) n k' = I1 at hm hS ⊢
  have g0 : I1 87 0 = Int32.ofNat n := by rw [hm 87 (by omega)]; exact hTn.2.2.1
  have hHm := Hm_lh hTn t2 (hm 87 (by omega))
  simp (disch := first | assumption | omega | decide | exact la_87 | exact la_88 | exact la_90 | exact la_91 | exact la_92 | exact la_93 | exact la_94 | exact la_95 | exact la_96 | exact la_97 | exact la_98 | exact la_99 | exact la_10 | exact la_23 | exact la_77 | exact la_78 | exact la_18 | exact la_19 | exact la_20) only [u152_41, u152_42, u152_45, u152_46, c135 n hTn.1 g0, la_86, kLt, true_and]
  rw [← pm_0 (lhI I1 n) (1 <<< (Int32.ofNat n &&& 31) - 1) n]
  refine wh_m a w hHm (by omega) hWn.1 (by rw [lh_87, hm 87 (by omega)]; exact hWn.2.2.1) (fun k hk => ?_) 61 0 (by omega) (fun k2 => ?_)
  · obtain ⟨⟨s, hs, s1, s2⟩, -⟩ := hWn.2.2.2 k hk
    exact ⟨s, hs, by rw [lh_87, hm 87 (by omega)]; exact s2⟩
  · refine fin_sc hR ((hS.tr (Sc_lh I1 n)).tr (Sc_pm _ _ n k2)) (fw_eq w (fun q => ?_) 61 0)
    refine dn_eq hWn ?_ (by rw [pm_87, lh_87, hm 87 (by omega)]) (fun j hj => ?_)
    · simp (disch := decide) only [psI, up_o, Nat.reduceAdd]
    · rw [ps_23, pm_91]
      exact jn hTn rd (hm 87 (by omega)) (fun k hk => bit_a n hTn.1 k hk) q j hj
