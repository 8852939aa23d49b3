/-! THE CALL: read -/
def prs (c : Nat → Nat) (z d : Nat) : Nat → Nat → (Nat → Int32) → Sum Nat (Nat × (Nat → Int32)) := Nat.rec (fun _ k A => .inr (k, A)) (fun _ f q k A => if sr c z q = 0 then .inr (k, A) else match stp1 c z q A with
  | .inl p => .inl p
  | .inr x => f x.1 (k + 1) x.2) d
theorem prs_z {c : Nat → Nat} {z q : Nat} (h : sr c z q = 0) (d k : Nat) (A : Nat → Int32) : prs c z (d + 1) q k A = .inr (k, A) := by
  show (if sr c z q = 0 then _ else _) = _
  rw [if_pos h]
theorem prs_l {c : Nat → Nat} {z q p : Nat} {A : Nat → Int32} (h : ¬ sr c z q = 0) (e : stp1 c z q A = .inl p) (d k : Nat) : prs c z (d + 1) q k A = .inl p := by
  show (if sr c z q = 0 then _ else match stp1 c z q A with
    | .inl p => Sum.inl p
    | .inr x => prs c z d x.1 (k + 1) x.2) = _
  rw [if_neg h, e]
theorem prs_r {c : Nat → Nat} {z q e : Nat} {A A' : Nat → Int32} (h : ¬ sr c z q = 0) (g : stp1 c z q A = .inr (e, A')) (d k : Nat) : prs c z (d + 1) q k A = prs c z d e (k + 1) A' := by
  show (if sr c z q = 0 then _ else match stp1 c z q A with
    | .inl p => Sum.inl p
    | .inr x => prs c z d x.1 (k + 1) x.2) = _
  rw [if_neg h, g]
def rdT (c : Nat → Nat) (z : Nat) (A : Nat → Int32) : Sum Nat (Nat × (Nat → Int32)) := match stf c z 0 A with
  | .inl p => .inl p
  | .inr x => prs c z z x.1 1 x.2
theorem rdT_l {c : Nat → Nat} {z p : Nat} {A : Nat → Int32} (e : stf c z 0 A = .inl p) : rdT c z A = .inl p := by
  unfold rdT
  rw [e]
theorem rdT_r {c : Nat → Nat} {z e : Nat} {A A' : Nat → Int32} (g : stf c z 0 A = .inr (e, A')) : rdT c z A = prs c z z e 1 A' := by
  unfold rdT
  rw [g]
section PUREP
variable {c : Nat → Nat} {z q e : Nat} {A A' : Nat → Int32}
theorem bnd_ok {r : Sum Nat (Nat × (Nat → Int32))} (h : bnd c z r = .inr (e, A')) : ∃ qs, r = .inr (qs, A') ∧ sr c z qs = 3 ∧ e = en c z qs := by
  cases r with
  | inl p => cases h
  | inr x =>
    obtain ⟨qs, A2⟩ := x
    rw [bnd_r] at h
    by_cases s3 : sr c z qs = 3
    · rw [if_pos s3] at h
      injection h with h
      obtain ⟨h1, h2⟩ := Prod.mk.inj h
      exact ⟨qs, by rw [h2], s3, h1.symm⟩
    · rw [if_neg s3] at h
      cases h
theorem stp1_ok (hq : q ≤ z) (hA : AV A) (h : stp1 c z q A = .inr (e, A')) : q < e ∧ e ≤ z ∧ AV A' := by
  obtain ⟨qs, h1, s3, rfl⟩ := bnd_ok h
  obtain ⟨g1, g2, g3⟩ := pI_ok hq hA h1
  have h2 := sk_le c g2
  have h3 := en_le c g2
  have h4 := h3.2.2 (by rw [s3]; decide)
  exact ⟨by omega, by omega, g3⟩
theorem stf_ok (h : stf c z 0 A = .inr (e, A')) : 1 ≤ e ∧ e ≤ z ∧ A' = A := by
  unfold stf at h
  by_cases w0 : wm c z 0 0 = true
  · rw [if_pos w0] at h
    obtain ⟨qs, h1, s3, rfl⟩ := bnd_ok h
    injection h1 with h1
    obtain ⟨h2, h3⟩ := Prod.mk.inj h1
    have g1 := en_c (c := c) (q := 0) (Nat.zero_le z)
    have g2 : qs ≤ z := by omega
    have h4 := sk_le c g2
    have h5 := en_le c g2
    have h6 := h5.2.2 (by rw [s3]; decide)
    exact ⟨by omega, by omega, h3.symm⟩
  · rw [if_neg w0] at h
    cases h
end PUREP
section LOOPS
variable {m pc : Nat} {ls st : Vs} {I : Nat → Nat → Int32} {J : Nat → Nat → Int64} {Q : Option Value → Sto → Prop} {c : Nat → Nat} {z : Nat}
theorem it_c (hT : TX I c z) : ∀ d k q A Y, k + d = z + 1 → 1 ≤ k → k ≤ q → q ≤ z → AV A → CS I A Y → Y 62 5 = Int32.ofNat q → (∀ p Y, prs c z d q k A = .inl p → Fw I Y → Y 62 4 = Int32.ofNat p → Q (some (.int (-1))) (Sg Y J)) → (∀ k' A' Y, prs c z d q k A = .inr (k', A') → 1 ≤ k' → k' ≤ 151 → CS I A' Y → Q (some (.int (Int32.ofNat k'))) (Sg Y J)) → Rn 19 16 [.ref 62, .int (Int32.ofNat k), .int (Int32.ofNat k)] [] (Sg Y J) Q := by
  have hz := hT.1
  intro d
  induction d with
  | zero => intro k q A Y h1 h2 h3 h4; omega
  | succ d ih =>
    intro k q A Y h1 h2 h3 hq hA hC e5 f0 f1
    have hn : ¬ z < k := by omega
    have e3 : Y 62 3 = Int32.ofNat z := (hT.tc hC.1.1).2.1
    have h23 := fun (pc : Nat) (ls st : Vs) => @c23 19 pc ls st Y J Q c z q (hT.tc hC.1.1) hq e5
    have hC2 : CS I A (scX c z Y q) := hC.sc q
    have hk := Tk_sc (c := c) (z := z) Y q
    have hsr := sr_le c z q
    have k6 := hk.2.2
    have hk0 : ¬ k = 0 := by omega
    have hk00 : ¬ Int32.ofNat k = 0 := by
      rw [show (0 : Int32) = Int32.ofNat 0 from rfl, o_eq (by omega) (by omega)]
      exact hk0
    by_cases s0 : sr c z q = 0
    · have f1 := f1 k A (scX c z Y q) (prs_z s0 d k A) h2 (by omega) hC2
      rw [s0] at k6
      generalize scX c z Y q = Y2 at f1 h23 k6
      clear ih hT hC hC2 hk f0
      simp (disch := first | assumption | omega | decide | exact la_87 | exact la_88 | exact la_90 | exact la_91 | exact la_92 | exact la_93 | exact la_94 | exact la_95 | exact la_96 | exact la_97 | exact la_98 | exact la_99 | exact la_10 | exact la_23 | exact la_77 | exact la_78 | exact la_18 | exact la_19 | exact la_20) only [u19_16, u19_17, u19_18, u19_21, u19_24, u19_25, u19_28, u19_29, u19_32, u19_35, u19_65, u19_66, u19_69, u19_70, u19_73, u19_74, h23, la_62, kLt, true_and, e3, k6, o_aa, o_al, o_la, o_mm, o_ml, o_lm, o_ss, o_sl, o_ls, o_tn, o_tl, o_lt, o_ltl, o_llt, o_le, o_lel, o_lle, o_eq, o_eql, o_leq, o_inb, o_inl, o_neg, hn, hk00, if_true, if_false, show Int32.ofNat 0 = 0 from rfl, not_true, not_false_eq_true]
      exact f1
    · have s00 : ¬ Int32.ofNat (sr c z q) = 0 := by
        rw [show (0 : Int32) = Int32.ofNat 0 from rfl, o_eq (by omega) (by omega)]
        exact s0
      have hgo : Ca 20 [.ref 62, .int 0, .null, .null, .null] (Sg (scX c z Y q) J) 19 51 [.ref 62, .int (Int32.ofNat k), .int (Int32.ofNat k)] [] Q := by
        unfold Ca
        refine ri_n hA hT hC2 hq hk (fun p Y3 g1 g2 g3 => ?_) (fun e A' Y3 g1 g2 g3 => ?_)
        · have f0 := f0 p Y3 (prs_l s0 g1 d k) g2 g3
          simp only [Option.toList, List.cons_append, List.nil_append, u19_51, u19_54, u19_55, not_true, if_false]
          exact f0
        · obtain ⟨q1, q2, q3⟩ := stp1_ok hq hA g1
          have hr := prs_r s0 g1 d k
          rw [hr] at f0 f1
          have hst := ih (k + 1) e A' Y3 (by omega) (by omega) (by omega) q2 q3 g2 g3 f0 f1
          simp only [Option.toList, List.cons_append, List.nil_append, u19_51, u19_54, u19_55, u19_56, u19_59, show ¬ (1 : Int32) = 0 by decide, not_false_eq_true, if_true]
          rw [show Int32.ofNat k + 1 = Int32.ofNat (k + 1) from o_aa]
          exact (u19_62 ..).mpr hst
      generalize scX c z Y q = Y2 at hgo h23 k6
      clear ih hT hC hC2 hk f0 f1
      simp (disch := first | assumption | omega | decide | exact la_87 | exact la_88 | exact la_90 | exact la_91 | exact la_92 | exact la_93 | exact la_94 | exact la_95 | exact la_96 | exact la_97 | exact la_98 | exact la_99 | exact la_10 | exact la_23 | exact la_77 | exact la_78 | exact la_18 | exact la_19 | exact la_20) only [u19_16, u19_17, u19_18, u19_21, u19_24, u19_25, u19_28, u19_29, u19_32, u19_35, u19_38, u19_39, u19_40, u19_43, u19_44, u19_47, u19_48, h23, la_62, kLt, true_and, e3, k6, o_aa, o_al, o_la, o_mm, o_ml, o_lm, o_ss, o_sl, o_ls, o_tn, o_tl, o_lt, o_ltl, o_llt, o_le, o_lel, o_lle, o_eq, o_eql, o_leq, o_inb, o_inl, o_neg, hn, hk00, s00, if_true, if_false, not_true, not_false_eq_true]
      exact hgo
theorem bg_c (I : Nat → Nat → Int32) : CS I (beg (I 98)) (va_up (va_up (va_up (va_up (va_up (va_up I (63 + 2) (fil (I (63 + 2)) 7 8)) (63 + 1) (upd (upd (I (63 + 1)) 1 0) 2 0)) (63 + 3) (upd (I (63 + 3)) 1 0)) (63 + 5) (upd (I (63 + 5)) 1 0)) (63 + 7) (upd (I (63 + 7)) 1 0)) (63 + 9) (upd (I (63 + 9)) 4 0)) := by
  have h0 : Fw I I := ⟨Sc.rf I, fun _ _ => rfl⟩
  refine ⟨(((((h0.up (by decide) (by decide) _).up (by decide) (by decide) _).up (by decide) (by decide) _).up (by decide) (by decide) _).up (by decide) (by decide) _).up (by decide) (by decide) _, ?_⟩
  obtain ⟨r1, r2, r3, r4, r5⟩ := VR_beg (I 66) (I 67) (I 68) (I 69) (I 70) (I 71) (I 64) (I 65) (fun _ => 0) (I 1) (I 1) (I 1) (I 98) 0 0 (by decide) rfl
  unfold DR
  simp (disch := decide) only [up_s, up_o, Nat.reduceAdd]
  exact ⟨r1, r2, ⟨ud_s .., beg_0 _ (by omega)⟩, r4, beg_0 _ (by omega)⟩
theorem AV_b (M : Nat → Int32) : AV (beg M) := ⟨⟨0, by omega, beg_0 _ (by omega)⟩, 0, by omega, beg_0 _ (by omega)⟩
theorem c19' (hT : TX I c z) (h0 : ∀ p Y, rdT c z (beg (I 98)) = .inl p → Fw I Y → Y 62 4 = Int32.ofNat p → Rn m pc ls (.int (-1) :: st) (Sg Y J) Q) (h1 : ∀ k A Y, rdT c z (beg (I 98)) = .inr (k, A) → 1 ≤ k → k ≤ 151 → CS I A Y → Rn m pc ls (.int (Int32.ofNat k) :: st) (Sg Y J) Q) : Ca 19 [.ref 62, .null, .null] (Sg I J) m pc ls st Q := by
  unfold Ca
  have hz := hT.1
  have hA := AV_b (I 98)
  simp (disch := decide) only [u19_0, u19_1, u19_4, u19_7, u19_8, u19_9, u19_12, u19_13, u19_14, u19_15, c42 63 lisV_63, la_62, la_63, lr_62_0, kLt, true_and, wI_d]
  have hC := bg_c I
  generalize va_up (va_up (va_up (va_up (va_up (va_up I (63 + 2) (fil (I (63 + 2)) 7 8)) (63 + 1) (upd (upd (I (63 + 1)) 1 0) 2 0)) (63 + 3) (upd (I (63 + 3)) 1 0)) (63 + 5) (upd (I (63 + 5)) 1 0)) (63 + 7) (upd (I (63 + 7)) 1 0)) (63 + 9) (upd (I (63 + 9)) 4 0) = Y0 at hC ⊢
  have hC1 : CS I (beg (I 98)) (va_up Y0 62 (upd (Y0 62) 5 0)) := ⟨hC.1.u62 (ud_o _ _ (by decide)), DR_eq hC.2 (fun r h1 h2 => up_o _ _ (by omega))⟩
  have e5 : va_up Y0 62 (upd (Y0 62) 5 0) 62 5 = Int32.ofNat 0 := by rw [up_s, ud_s]; rfl
  generalize va_up Y0 62 (upd (Y0 62) 5 0) = Y at hC1 e5 ⊢
  clear hC
  generalize beg (I 98) = A at h0 h1 hA hC1
  have e3 : Y 62 3 = Int32.ofNat z := (hT.tc hC1.1.1).2.1
  have h23 := fun (pc : Nat) (ls st : Vs) (Q : Option Value → Sto → Prop) => @c23 19 pc ls st Y J Q c z 0 (hT.tc hC1.1.1) (Nat.zero_le z) e5
  have hC2 : CS I A (scX c z Y 0) := hC1.sc 0
  have hk := Tk_sc (c := c) (z := z) Y 0
  have hsr := sr_le c z 0
  have k6 := hk.2.2
  have hn : ¬ Int32.ofNat z < 0 := o_neg (by omega)
  by_cases s0 : sr c z 0 = 0
  · have hw : stf c z 0 A = .inl (sk c z 0) := by
      unfold stf
      have : wm c z 0 0 = false := by unfold wm; rw [if_neg (by rw [s0]; decide)]
      rw [this]
      simp only [Bool.false_eq_true, if_false]
    have f0 := h0 _ _ (rdT_l hw) hC2.1 hk.1
    rw [s0] at k6
    generalize scX c z Y 0 = Y2 at f0 h23 k6
    clear hT hC1 hC2 hk h0 h1
    simp (disch := decide) only [u19_16, u19_17, u19_18, u19_21, u19_24, u19_25, u19_28, u19_29, u19_32, u19_35, u19_65, u19_66, u19_69, u19_70, u19_73, u19_74, h23, la_62, kLt, true_and, e3, k6, hn, if_true, if_false, show Int32.ofNat 0 = 0 from rfl, not_true, not_false_eq_true]
    exact f0
  · have s00 : ¬ Int32.ofNat (sr c z 0) = 0 := by
      rw [show (0 : Int32) = Int32.ofNat 0 from rfl, o_eq (by omega) (by omega)]
      exact s0
    have hgo : Ca 20 [.ref 62, .int 1, .null, .null, .null] (Sg (scX c z Y 0) J) 19 51 [.ref 62, .int 0, .int 0] [] (fun r σ' => Rn m pc ls (r.toList ++ st) σ' Q) := by
      unfold Ca
      refine ri_f hT hC2 (Nat.zero_le z) hk (fun p Y3 g1 g2 g3 => ?_) (fun e A' Y3 g1 g2 g3 => ?_)
      · have f0 := h0 p Y3 (rdT_l g1) g2 g3
        simp only [Option.toList, List.cons_append, List.nil_append, u19_51, u19_54, u19_55, not_true, if_false]
        exact f0
      · obtain ⟨q1, q2, q3⟩ := stf_ok g1
        have hr := rdT_r g1
        rw [hr] at h0 h1
        have hst := it_c (J := J) (Q := fun r σ' => Rn m pc ls (r.toList ++ st) σ' Q) hT z 1 e A' Y3 (by omega) (by omega) q1 q2 (by rw [q3]; exact hA) g2 g3 h0 h1
        simp only [Option.toList, List.cons_append, List.nil_append, u19_51, u19_54, u19_55, u19_56, u19_59, show ¬ (1 : Int32) = 0 by decide, not_false_eq_true, if_true]
        rw [show (0 : Int32) + 1 = Int32.ofNat 1 by decide]
        exact (u19_62 ..).mpr hst
    generalize scX c z Y 0 = Y2 at hgo h23 k6
    clear hT hC1 hC2 hk h0 h1
    simp (disch := decide) only [u19_16, u19_17, u19_18, u19_21, u19_24, u19_25, u19_28, u19_29, u19_32, u19_35, u19_38, u19_39, u19_40, u19_43, u19_44, u19_47, u19_48, h23, la_62, kLt, true_and, e3, k6, hn, s00, if_true, if_false, not_true, not_false_eq_true]
    exact hgo
theorem it_m (hT : TX I c z) : ∀ d k q A Z, k + d = z + 1 → 1 ≤ k → k ≤ q → q ≤ z → AV A → MS I c z A q Z → (∀ p Z, prs c z d q k A = .inl p → Sc I Z → Q (some (.int (-10 - Int32.ofNat p))) (Sg Z J)) → (∀ k' A' Z, prs c z d q k A = .inr (k', A') → Sc I Z → Z 98 = A' → Rn 186 107 [.ref 86, .int (Int32.ofNat k'), .null] [] (Sg Z J) Q) → Rn 186 67 [.ref 86, .int (Int32.ofNat k), .null] [] (Sg Z J) Q := by
  have hz := hT.1
  intro d
  induction d with
  | zero => intro k q A Y h1 h2 h3 h4; omega
  | succ d ih =>
    intro k q A Z h1 h2 h3 hq hA hM f0 f1
    have e18 := hM.2.2.2.2.1
    have hsl := @srm_le c z q
    by_cases s0 : sr c z q = 0
    · have f1 := f1 k A Z (prs_z s0 d k A) hM.1 hM.2.1
      rw [srm_0.mpr s0] at e18
      clear ih hT hM f0
      simp (disch := decide) only [u186_67, u186_68, u186_71, la_86, kLt, true_and, e18, show Int32.ofNat 0 = 0 from rfl, if_true]
      exact f1
    · have s00 : ¬ Int32.ofNat (srm c z q) = 0 := by
        rw [show (0 : Int32) = Int32.ofNat 0 from rfl, o_eq (by omega) (by omega), srm_0]
        exact s0
      simp (disch := decide) only [u186_67, u186_68, u186_71, u186_74, u186_75, la_86, kLt, true_and, e18, s00, if_false]
      refine t185 hT hq hA hM (fun p Z2 g1 g2 g3 => ?_) (fun e A' Z2 g1 g2 => ?_)
      · have f0 := f0 p Z2 (prs_l s0 (by unfold stp1; rw [g1, bnd_l]) d k) g2
        simp (disch := decide) only [u186_78, u186_89, u186_91, u186_92, u186_95, u186_96, la_86, kLt, true_and, g3, if_true]
        exact f0
      · obtain ⟨q1, q2, q3⟩ := pI_ok hq hA g1
        have e182 := g2.2.2.2.2.1
        have hsl2 := @srm_le c z e
        by_cases s3 : sr c z e = 3
        · have hs : stp1 c z q A = .inr (en c z e, A') := by unfold stp1; rw [g1, bnd_r, if_pos s3]
          obtain ⟨p1, p2, p3⟩ := stp1_ok hq hA hs
          rw [prs_r s0 hs d k] at f0 f1
          have h178 := fun (pc : Nat) (ls st : Vs) => @c178 186 pc ls st I Z2 J Q c z e A' hT g2 q2
          have hst := ih (k + 1) (en c z e) A' (lkX c z Z2 (en c z e)) (by omega) (by omega) (by omega) p2 p3 (MS_lk g2.1 g2.2.1 _) f0 f1
          rw [srm_3.mpr s3] at e182
          generalize lkX c z Z2 (en c z e) = Z3 at h178 hst
          clear ih hT hM f0 f1 g2
          simp (disch := decide) only [u186_78, u186_81, u186_82, u186_85, u186_86, u186_89, u186_91, u186_92, u186_95, u186_96, u186_97, u186_98, u186_101, h178, la_86, kLt, true_and, e182, show ¬ (1 : Int32) = 0 by decide, show Int32.ofNat 3 = 3 from rfl, if_true, if_false]
          rw [show Int32.ofNat k + 1 = Int32.ofNat (k + 1) from o_aa]
          exact (u186_104 ..).mpr hst
        · have s33 : ¬ Int32.ofNat (srm c z e) = 3 := by
            rw [show (3 : Int32) = Int32.ofNat 3 from rfl, o_eq (by omega) (by omega), srm_3]
            exact s3
          have f0 := f0 (sk c z e) Z2 (prs_l s0 (by unfold stp1; rw [g1, bnd_r, if_neg s3]) d k) g2.1
          have g3 := g2.2.2.1
          simp (disch := decide) only [u186_78, u186_81, u186_82, u186_85, u186_86, u186_89, u186_91, u186_92, u186_95, u186_96, la_86, kLt, true_and, e182, s33, g3, show ¬ (1 : Int32) = 0 by decide, if_false]
          exact f0
theorem rd_m {Z0 : Nat → Nat → Int32} (hT : TX I c z) (hZ : Sc I Z0) (f0 : ∀ p Z, rdT c z (beg (Z0 98)) = .inl p → Sc I Z → Q (some (.int (-10 - Int32.ofNat p))) (Sg Z J)) (f1 : ∀ k A Z, rdT c z (beg (Z0 98)) = .inr (k, A) → Sc I Z → Z 98 = A → Rn 186 107 [.ref 86, .int (Int32.ofNat k), .null] [] (Sg Z J) Q) : Rn 186 0 [.ref 86, .null, .null] [] (Sg Z0 J) Q := by
  have hz := hT.1
  have hq := Nat.zero_le z
  have g1 := en_c (c := c) hq
  have g2 := en_c (c := c) g1.2
  have hM := MS_lk (c := c) (z := z) hZ (rfl : Z0 98 = Z0 98) 0
  have h177 : ∀ (pc : Nat) (ls st : Vs), Ca 177 [.ref 86, .int 0, .null, .null, .null] (Sg Z0 J) 186 pc ls st Q ↔ Rn 186 pc ls st (Sg (lkX c z Z0 0) J) Q := fun pc ls st => c177 0 (hT.tm hZ) hq
  have w0 := fun (pc : Nat) (ls st : Vs) => @c179 186 pc ls st I (lkX c z Z0 0) J Q c z 0 (Z0 98) 0 6 118 97 108 108 101 121 (by decide) (by decide) x_v hT hM hq
  simp (disch := decide) only [u186_0, u186_1, u186_2, u186_5, u186_6, u186_8, u186_10, u186_12, u186_14, u186_16, u186_18, u186_20, u186_23, h177, w0, la_86, kLt, true_and, bb_0]
  cases b0 : wm c z 0 0 with
  | false =>
    have hs : stf c z 0 (beg (Z0 98)) = .inl (sk c z 0) := by
      unfold stf
      rw [b0]
      simp only [Bool.false_eq_true, if_false]
    have f0 := f0 _ _ (rdT_l hs) hM.1
    have g3 := hM.2.2.1
    simp (disch := decide) only [not_true, if_false, u186_26, u186_28, u186_29, u186_32, u186_33, la_86, kLt, true_and, g3]
    exact f0
  | true =>
    have h178 := fun (pc : Nat) (ls st : Vs) => @c178 186 pc ls st I (lkX c z Z0 0) J Q c z 0 (Z0 98) hT hM hq
    have hM2 := MS_lk (c := c) (z := z) hM.1 hM.2.1 (en c z 0)
    generalize lkX c z (lkX c z Z0 0) (en c z 0) = Z2 at h178 hM2
    have e18 := hM2.2.2.2.2.1
    have hsl := @srm_le c z (en c z 0)
    simp (disch := decide) only [Bool.true_eq_false, not_false_eq_true, if_true, u186_34, u186_35, u186_38, u186_39, u186_42, u186_43, h178, la_86, kLt, true_and, e18]
    by_cases s3 : sr c z (en c z 0) = 3
    · have hs : stf c z 0 (beg (Z0 98)) = .inr (en c z (en c z 0), beg (Z0 98)) := by
        unfold stf
        rw [if_pos b0, bnd_r, if_pos s3]
      obtain ⟨q1, q2, q3⟩ := stf_ok hs
      rw [rdT_r hs] at f0 f1
      have h178b := fun (pc : Nat) (ls st : Vs) => @c178 186 pc ls st I Z2 J Q c z (en c z 0) (Z0 98) hT hM2 g1.2
      have hM3 := MS_lk (c := c) (z := z) hM2.1 hM2.2.1 (en c z (en c z 0))
      generalize lkX c z Z2 (en c z (en c z 0)) = Z3 at h178b hM3
      have e98 := hM3.2.1
      have hM4 := hM3.u98 (beg (Z0 98))
      have h118 := fun (pc : Nat) (ls st : Vs) => @c118 186 pc ls st Z3 J Q 98 la_98 (by decide)
      rw [e98] at h118
      have hst := it_m (J := J) (Q := Q) hT z 1 (en c z (en c z 0)) (beg (Z0 98)) _ (by omega) (by omega) q1 q2 (AV_b _) hM4 f0 f1
      generalize va_up Z3 98 (beg (Z0 98)) = Z4 at h118 hst
      clear hM hM2 hM3 hM4 f0 f1 hT hZ
      rw [srm_3.mpr s3]
      simp (disch := first | decide | exact la_98) only [show Int32.ofNat 3 = 3 from rfl, if_true, u186_54, u186_55, u186_58, u186_59, u186_62, u186_65, u186_66, h178b, h118, la_86, la_98, lr_86_20, kLt, true_and]
      exact hst
    · have s33 : ¬ Int32.ofNat (srm c z (en c z 0)) = 3 := by
        rw [show (3 : Int32) = Int32.ofNat 3 from rfl, o_eq (by omega) (by omega), srm_3]
        exact s3
      have hs : stf c z 0 (beg (Z0 98)) = .inl (sk c z (en c z 0)) := by
        unfold stf
        rw [if_pos b0, bnd_r, if_neg s3]
      have f0 := f0 _ _ (rdT_l hs) hM2.1
      have g3 := hM2.2.2.1
      simp (disch := decide) only [s33, if_false, u186_46, u186_48, u186_49, u186_52, u186_53, la_86, kLt, true_and, g3]
      exact f0
end LOOPS
