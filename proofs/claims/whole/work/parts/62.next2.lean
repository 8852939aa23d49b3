/-! THE CALL: next, told -/
theorem Fr.tk2 {I X : Nat → Nat → Int32} {e : Nat} (h : Fr I e X) : Fr I e (tk_21_8 X) := by
  obtain ⟨h1, h2, h3, h4, h5, h6, h7, h8⟩ := Fr_tk X e
  refine ⟨h.1.tr h1, fun q hq => (h2 q hq).trans (h.2.1 q hq), h3.trans (by rw [h.ns (by decide) (by decide)]), fun j hj hne => (h4 j hj hne).trans (by rw [h.ns (by decide) (by decide)]), h5.trans (by rw [h.ns (by decide) (by decide)]), fun j hj => (h6 j hj).trans (by rw [h.ns (by decide) (by decide)]), h7.trans (by rw [h.ns (by decide) (by decide)]), fun j hj => (h8 j hj).trans (by rw [h.ns (by decide) (by decide)])⟩
theorem Fr.oc {I X : Nat → Nat → Int32} {e c : Nat} (h : Fr I e X) (hc : 77 ≤ c ∧ c ≤ 85) (f : Nat → Int32) : Fr I e (va_up X c f) := by
  obtain ⟨h1, h2, h3, h4, h5, h6, h7, h8⟩ := h
  refine ⟨h1.up (by unfold scr; simp only [Bool.or_eq_true, Bool.and_eq_true, decide_eq_true_eq, beq_iff_eq]; omega) _, fun q hq => ?_, ?_, ?_, ?_, ?_, ?_, ?_⟩
  · rw [up_o _ _ (by omega)]; exact h2 q hq
  · rw [up_o _ _ (by omega)]; exact h3
  · rw [up_o _ _ (by omega)]; exact h4
  · rw [up_o _ _ (by omega)]; exact h5
  · rw [up_o _ _ (by omega)]; exact h6
  · rw [up_o _ _ (by omega)]; exact h7
  · rw [up_o _ _ (by omega)]; exact h8
def cpo (b : Nat) (f g : Nat → Int32) (k : Nat) : Nat → Int32 := fun j => if b ≤ j ∧ j < b + k then g (j - b) else f j
theorem cpo_0 (b : Nat) (f g : Nat → Int32) : cpo b f g 0 = f := by
  funext j
  unfold cpo
  rw [if_neg (by omega)]
theorem cpo_s (b : Nat) (f g : Nat → Int32) (k : Nat) : upd (cpo b f g k) (b + k) (g k) = cpo b f g (k + 1) := by
  funext j
  show (if j = b + k then g k else if b ≤ j ∧ j < b + k then g (j - b) else f j) = if b ≤ j ∧ j < b + (k + 1) then g (j - b) else f j
  by_cases h : j = b + k
  · subst h
    rw [if_pos rfl, if_pos (by omega), Nat.add_sub_cancel_left]
  · rw [if_neg h]
    by_cases h2 : b ≤ j ∧ j < b + k
    · rw [if_pos h2, if_pos (by omega)]
    · rw [if_neg h2, if_neg (by omega)]
def sel (b f : Int32) (A : Nat → Nat) (k : Nat) : Int32 × Int32 := Nat.rec (b, f) (fun s p => if Int32.ofNat (A s) < p.2 then (Int32.ofNat s, Int32.ofNat (A s)) else p) k
theorem sel_s (b f : Int32) (A : Nat → Nat) (k : Nat) : sel b f A (k + 1) = if Int32.ofNat (A k) < (sel b f A k).2 then (Int32.ofNat k, Int32.ofNat (A k)) else sel b f A k := rfl
theorem sel_eq (b f b' f' : Int32) (A : Nat → Nat) (h : Int32.ofNat (A 0) < f) (h' : Int32.ofNat (A 0) < f') : ∀ k, sel b f A (k + 1) = sel b' f' A (k + 1) := by
  intro k
  induction k with
  | zero =>
    rw [sel_s, sel_s]
    show (if Int32.ofNat (A 0) < f then _ else _) = if Int32.ofNat (A 0) < f' then _ else _
    rw [if_pos h, if_pos h']
  | succ k ih => rw [sel_s, sel_s b', ih]
theorem ftt_n (F : Nat → Bool) : ∀ k, k ≤ 6 → ∃ p, p < 2 ^ k ∧ ftt F k = Int32.ofNat p := by
  intro k
  induction k with
  | zero => intro _; exact ⟨0, by decide, rfl⟩
  | succ k ih =>
    intro hk
    obtain ⟨d, hd, e⟩ := ih (by omega)
    rw [ftt_s]
    by_cases h : F k = true
    · rw [if_pos h]; exact or_n (by omega) hd e
    · rw [if_neg h]; exact ⟨d, by rw [Nat.pow_succ]; omega, e⟩
section NEXT
variable {m pc : Nat} {ls st : Vs} {I X Z : Nat → Nat → Int32} {J : Nat → Nat → Int64} {Q : Option Value → Sto → Prop} {n n2 T B a y p M : Nat}
theorem fs_c (hB : Bs I n n2 T B) (hT : T < 100000) (ha : a < 6) (hM : M ≤ 20) (hc : Cd I a (a * 3 + 0) 6 (fun c => c) (fun _ => y)) (h : ∀ X, Fr I (a * 3 + 0) X → (∀ q, q < 6 → bF p q = true → ∀ j, j < 8 → X (80 + q) j = cW I n a q y M j) → Rn m pc ls st (Sg X J) Q) : ∀ d k X, k + d = 6 → Fr I (a * 3 + 0) X → (∀ q, q < k → bF p q = true → ∀ j, j < 8 → X (80 + q) j = cW I n a q y M j) → Rn 108 14 [.ref 0, .int (Int32.ofNat a), .int (Int32.ofNat p), .int (Int32.ofNat M), .int (Int32.ofNat k)] [] (Sg X J) (fun r σ' => Rn m pc ls (r.toList ++ st) σ' Q) := by
  intro d
  induction d with
  | zero =>
    intro k X hk hX hO
    obtain rfl : k = 6 := by omega
    have f := h X hX hO
    clear h hB hc hX hO
    simp (disch := first | assumption | omega | decide | exact la_87 | exact la_88 | exact la_90 | exact la_91 | exact la_92 | exact la_93 | exact la_94 | exact la_95 | exact la_96 | exact la_97 | exact la_98 | exact la_99 | exact la_10 | exact la_23 | exact la_77 | exact la_78 | exact la_18 | exact la_19 | exact la_20) only [u108_14, u108_16, u108_18, u108_103, o_aa, o_al, o_la, o_mm, o_ml, o_lm, o_ss, o_sl, o_ls, o_tn, o_tl, o_lt, o_ltl, o_llt, o_le, o_lel, o_lle, o_eq, o_eql, o_leq, o_inb, o_inl, o_neg, Nat.le_refl, if_true]
    exact f
  | succ d ih =>
    intro k X hk hX hO
    have hnk : ¬ 6 ≤ k := by omega
    have hk6 : k < 6 := by omega
    have hfc := bF_c p
    cases hF : bF p k with
    | false =>
      have f := ih (k + 1) X (by omega) hX (fun q hq hq2 => hO q (by
        by_cases hqk : q = k
        · subst hqk; rw [hF] at hq2; cases hq2
        · omega) hq2)
      clear ih hB hc hX hO h
      simp (disch := first | assumption | omega | decide | exact la_87 | exact la_88 | exact la_90 | exact la_91 | exact la_92 | exact la_93 | exact la_94 | exact la_95 | exact la_96 | exact la_97 | exact la_98 | exact la_99 | exact la_10 | exact la_23 | exact la_77 | exact la_78 | exact la_18 | exact la_19 | exact la_20) only [u108_14, u108_16, u108_18, u108_21, u108_22, u108_23, u108_25, u108_26, u108_27, u108_30, u108_97, o_aa, o_al, o_la, o_mm, o_ml, o_lm, o_ss, o_sl, o_ls, o_tn, o_tl, o_lt, o_ltl, o_llt, o_le, o_lel, o_lle, o_eq, o_eql, o_leq, o_inb, o_inl, o_neg, hnk, if_false, hfc, hF, not_true]
      exact (u108_100 ..).mpr f
    | true =>
      obtain ⟨r1, r2, r3⟩ := oc_k k hk6
      have hJ := tj_c (Z := I) hB rfl hc hk6 hX
      have hW := cw_c hB hT hc hk6 hX M (by omega)
      have hX2 := (hX.yt.kc (Int32.ofNat k)).ps (-1) n M
      have hO2 : ∀ q, ¬ q = k → psI (kcI (ytI X) (a * 3 + 0) (Int32.ofNat k)) 21 (-1) n M (80 + q) = X (80 + q) := fun q _ => by
        rw [ps_f _ _ _ _ (by omega) (by omega), kc_f _ _ _ (by omega), yt_f _ (by omega) (by omega)]
      have h36 : ∀ (X : Nat → Nat → Int32) (pc : Nat) (ls st : Vs) (x : Int32) (Q : Option Value → Sto → Prop), Ca 36 [.ref 24, .int (Int32.ofNat a), .int 0, .int x] (Sg X J) 108 pc ls st Q ↔ Rn 108 pc ls st (Sg (kcI X (a * 3 + 0) x) J) Q := fun X pc ls st x Q => c36t (col := 0) x ha (by decide)
      have h47 := fun (pc : Nat) (ls st : Vs) (Q : Option Value → Sto → Prop) => @c47 108 pc ls st (kcI (ytI X) (a * 3 + 0) (Int32.ofNat k)) J Q 21 lisV_21 (-1) n M hJ.tm (by omega)
      generalize psI (kcI (ytI X) (a * 3 + 0) (Int32.ofNat k)) 21 (-1) n M = X2 at hW hX2 hO2 h47
      have f := ih (k + 1) (va_up X2 (80 + k) (va_cpy (X2 23) (X2 (80 + k)) 0 0 8)) (by omega) (hX2.oc (by omega) _) (fun q hq hq2 j hj => by
        by_cases hqk : q = k
        · subst hqk
          rw [up_s, sb_cpy0 hj]
          exact hW j hj
        · rw [up_o _ _ (by omega), hO2 q hqk]
          exact hO q (by omega) hq2 j hj)
      clear ih hB hc hX hO h hJ hW hX2 hO2
      simp (disch := first | assumption | omega | decide | exact la_87 | exact la_88 | exact la_90 | exact la_91 | exact la_92 | exact la_93 | exact la_94 | exact la_95 | exact la_96 | exact la_97 | exact la_98 | exact la_99 | exact la_10 | exact la_23 | exact la_77 | exact la_78 | exact la_18 | exact la_19 | exact la_20) only [u108_14, u108_16, u108_18, u108_21, u108_22, u108_23, u108_25, u108_26, u108_27, u108_30, u108_33, u108_34, u108_37, u108_40, u108_41, u108_44, u108_47, u108_50, u108_51, u108_54, u108_57, u108_58, u108_59, u108_61, u108_64, u108_65, u108_68, u108_69, u108_70, u108_73, u108_74, u108_77, u108_80, u108_83, u108_84, u108_85, u108_88, u108_90, u108_91, u108_92, u108_94, u108_97, c54t, h36, h47, la_0, la_8, la_9, la_21, la_22, la_23, lt_23, la_24, la_79, lk_79, lt_79, lr_0_0, lr_0_1, lr_0_6, lr_8_1, lr_21_1, lr_21_2, lr_22_0, kLt, true_and, and_self, o_aa, o_al, o_la, o_mm, o_ml, o_lm, o_ss, o_sl, o_ls, o_tn, o_tl, o_lt, o_ltl, o_llt, o_le, o_lel, o_lle, o_eq, o_eql, o_leq, o_inb, o_inl, o_neg, hnk, hk6, if_true, if_false, hfc, hF, Bool.true_eq_false, not_false_eq_true, r1, r2, r3, z0, z8, Nat.zero_add, Nat.le_refl]
      exact (u108_100 ..).mpr f
theorem k92 (ha : a < n) (e : Z 87 (14 + 3 * a + 2) = Int32.ofNat y) (x : Int32) : wI (lhI Z n) 92 a x = chI (lhI Z n) a x (Int32.ofNat y) := by
  have e2 : wI (lhI Z n) 92 a x 93 a = Int32.ofNat y := by
    rw [wI_d, up_o _ _ (by decide)]
    simp (disch := decide) only [lhI, up_s]
    rw [cpf_i _ _ ha]
    exact e
  unfold chI
  rw [← e2, wI_d (wI (lhI Z n) 92 a x), ud_i, up_i]
theorem nx_m (hB : Bs I n n2 T B) (hT : T < 100000) (ha : a < n) (hM : M ≤ 20) (hy : I 87 (14 + 3 * a + 2) = Int32.ofNat y) (hc : Cd I a (a * 3 + 0) 6 (fun c => c) (fun _ => y)) (h : ∀ Z v, Sc I Z → (∀ q, q < 6 → ∀ j, j < 8 → Z 96 (8 * q + j) = cW I n a q y M j) → Rn 168 101 [.ref 86, .int (Int32.ofNat a), .int (Int32.ofNat M), .int (Int32.ofNat p), .int (Int32.ofNat 6), v, .null, .null] [] (Sg Z J) Q) : ∀ d k Z v, k + d = 6 → Sc I Z → (∀ q, q < k → ∀ j, j < 8 → Z 96 (8 * q + j) = cW I n a q y M j) → Rn 168 31 [.ref 86, .int (Int32.ofNat a), .int (Int32.ofNat M), .int (Int32.ofNat p), .int (Int32.ofNat k), v, .null, .null] [] (Sg Z J) Q := by
  intro d
  induction d with
  | zero =>
    intro k Z v hk hZ hO
    obtain rfl : k = 6 := by omega
    have f := h Z v hZ hO
    clear h hB hc hZ hO
    simp (disch := first | assumption | omega | decide | exact la_87 | exact la_88 | exact la_90 | exact la_91 | exact la_92 | exact la_93 | exact la_94 | exact la_95 | exact la_96 | exact la_97 | exact la_98 | exact la_99 | exact la_10 | exact la_23 | exact la_77 | exact la_78 | exact la_18 | exact la_19 | exact la_20) only [u168_31, u168_33, u168_35, o_aa, o_al, o_la, o_mm, o_ml, o_lm, o_ss, o_sl, o_ls, o_tn, o_tl, o_lt, o_ltl, o_llt, o_le, o_lel, o_lle, o_eq, o_eql, o_leq, o_inb, o_inl, o_neg, Nat.le_refl, if_true]
    exact f
  | succ d ih =>
    intro k Z v hk hZ hO
    have hnk : ¬ 6 ≤ k := by omega
    have hk6 : k < 6 := by omega
    have hn := hB.1.1
    have e0 : Z 87 0 = Int32.ofNat n := by rw [hZ.z87]; exact hB.1.2.2.1
    have hJ := tj_c hB hZ.z87 hc hk6 (Fr_tk I (a * 3 + 0))
    have hW := cw_m hB hT hc hk6 hZ.z87 M (by omega)
    have e92 := k92 (n := n) ha (Z := Z) (y := y) (by rw [hZ.z87]; exact hy) (Int32.ofNat k)
    have c87 : chI (lhI Z n) a (Int32.ofNat k) (Int32.ofNat y) 87 0 = Int32.ofNat n := by rw [ch_f _ _ _ _ (by decide) (by decide), lh_87]; exact e0
    have hS2 := ((hZ.tr (Sc_lh Z n)).ch a (Int32.ofNat k) (Int32.ofNat y)).tr (Sc_pm _ (1 <<< (Int32.ofNat n &&& 31) - 1) n M)
    have h96 : pmI (chI (lhI Z n) a (Int32.ofNat k) (Int32.ofNat y)) (1 <<< (Int32.ofNat n &&& 31) - 1) n M 96 = Z 96 := by
      rw [pm_f _ _ _ _ (by decide) (by decide), ch_f _ _ _ _ (by decide) (by decide)]
      simp (disch := decide) only [lhI, up_o]
    have h135 := fun (pc : Nat) (ls st : Vs) => @c135 168 pc ls st Z J Q n hn e0
    have h141 := fun (pc : Nat) (ls st : Vs) => @c141 168 pc ls st (chI (lhI Z n) a (Int32.ofNat k) (Int32.ofNat y)) J Q (1 <<< (Int32.ofNat n &&& 31) - 1) n T M hJ.hm (by omega) (by omega)
    have ha6 : a < 6 := by omega
    generalize pmI (chI (lhI Z n) a (Int32.ofNat k) (Int32.ofNat y)) (1 <<< (Int32.ofNat n &&& 31) - 1) n M = Z2 at hS2 h141 hW h96 ⊢
    have f := fun v => ih (k + 1) (va_up Z2 96 (cpo (8 * k) (Z2 96) (Z2 91) 8)) v (by omega) (hS2.up (by decide) _) (fun q hq j hj => by
      rw [up_s]
      unfold cpo
      by_cases hqk : q = k
      · subst hqk
        rw [if_pos (by omega), Nat.add_sub_cancel_left]
        exact hW j hj
      · rw [if_neg (by omega), h96]
        exact hO q (by omega) j hj)
    clear ih hB hc hZ hS2 hO h hJ hW
    simp (disch := first | assumption | omega | decide | exact la_87 | exact la_88 | exact la_90 | exact la_91 | exact la_92 | exact la_93 | exact la_94 | exact la_95 | exact la_96 | exact la_97 | exact la_98 | exact la_99 | exact la_10 | exact la_23 | exact la_77 | exact la_78 | exact la_18 | exact la_19 | exact la_20) only [u168_31, u168_33, u168_35, u168_38, u168_39, u168_42, u168_43, u168_46, u168_47, u168_49, u168_50, u168_51, u168_52, u168_53, u168_56, u168_59, u168_60, h135, e92, h141, c140, c87, la_86, la_92, lt_92, lr_86_9, kLt, true_and, o_aa, o_al, o_la, o_mm, o_ml, o_lm, o_ss, o_sl, o_ls, o_tn, o_tl, o_lt, o_ltl, o_llt, o_le, o_lel, o_lle, o_eq, o_eql, o_leq, o_inb, o_inl, o_neg, hnk, ha6, if_false]
    refine Rn_fr (n := 8) (X := Unit) (fun j _ => [.ref 86, .int (Int32.ofNat a), .int (Int32.ofNat M), .int (Int32.ofNat p), .int (Int32.ofNat k), .int (Int32.ofNat j), .null, .null]) (fun j _ => Sg (va_up Z2 96 (cpo (8 * k) (Z2 96) (Z2 91) j)) J) () rfl (by rw [cpo_0, up_i]) ?_ ?_
    · intro j hj _ ih2
      have ih2 := ih2 ()
      rw [← cpo_s] at ih2
      have hnj : ¬ 8 ≤ j := by omega
      clear f h135 h141
      simp (disch := first | assumption | omega | decide | exact la_87 | exact la_88 | exact la_90 | exact la_91 | exact la_92 | exact la_93 | exact la_94 | exact la_95 | exact la_96 | exact la_97 | exact la_98 | exact la_99 | exact la_10 | exact la_23 | exact la_77 | exact la_78 | exact la_18 | exact la_19 | exact la_20) only [u168_62, u168_64, u168_66, u168_69, u168_70, u168_73, u168_75, u168_77, u168_78, u168_80, u168_81, u168_82, u168_85, u168_87, u168_88, u168_89, la_86, la_91, lt_91, la_96, lt_96, lr_86_6, lr_86_13, kLt, true_and, o_aa, o_al, o_la, o_mm, o_ml, o_lm, o_ss, o_sl, o_ls, o_tn, o_tl, o_lt, o_ltl, o_llt, o_le, o_lel, o_lle, o_eq, o_eql, o_leq, o_inb, o_inl, o_neg, hnj, hj, if_false, wI_d, up_s, up_o, up_u, show 8 * k + j < 48 by omega]
      exact (u168_92 ..).mpr ih2
    · intro _
      simp (disch := first | assumption | omega | decide | exact la_87 | exact la_88 | exact la_90 | exact la_91 | exact la_92 | exact la_93 | exact la_94 | exact la_95 | exact la_96 | exact la_97 | exact la_98 | exact la_99 | exact la_10 | exact la_23 | exact la_77 | exact la_78 | exact la_18 | exact la_19 | exact la_20) only [u168_62, u168_64, u168_66, u168_95, o_aa, o_al, o_la, o_mm, o_ml, o_lm, o_ss, o_sl, o_ls, o_tn, o_tl, o_lt, o_ltl, o_llt, o_le, o_lel, o_lle, o_eq, o_eql, o_leq, o_inb, o_inl, o_neg, Nat.le_refl, if_true]
      exact (u168_98 ..).mpr (f _)
end NEXT
theorem p_0 : ∀ p, p < 64 → (Int32.ofNat p ≤ 0 ↔ p = 0) := by decide +kernel
theorem p_1 : ∀ p, p < 64 → (Int32.ofNat p = 0 ↔ p = 0) := by decide +kernel
theorem a_7 : ∀ a, a < 7 → Int32.ofNat a < 7 ∧ Int32.ofNat a < 1000000 := by decide +kernel
theorem op26 (a b : Int32) : OpI 90 [.ref 0, .int a, .int b, .null, .null, .null, .null, .null] 168 [.ref 86, .int a, .int b, .null, .null, .null, .null, .null] := by
  intro I J B hR hB
  obtain ⟨n, n2, T, hBs⟩ := Bs_of hR
  obtain ⟨n3, t, s, w, hM⟩ := Ms_of hR
  have hT := hBs.2.2.1
  have hn := hBs.1.1
  have e11 : I 11 1 = Int32.ofNat n := hBs.1.2.1
  have e87 : I 87 0 = Int32.ofNat n := hBs.1.2.2.1
  by_cases h1 : 0 ≤ a ∧ a < Int32.ofNat n
  · by_cases h2 : 0 ≤ b ∧ b ≤ 20
    · obtain ⟨k, hk, rfl⟩ := lt_n hn h1
      obtain ⟨M, hMM, rfl⟩ := o_in (m := 20) h2.1 h2.2 (by omega)
      obtain ⟨-, -, ⟨y, hy, y1, y2⟩⟩ := hBs.1.2.2.2 k hk
      have hc := Cd_k hy (by omega) y1
      obtain ⟨p, hp, ep⟩ := ftt_n (ftF I n k n3 (fun c => c) (fun _ => y) t s w) 6 (by omega)
      have hp : p < 64 := hp
      simp (disch := decide) only [u90_0, u90_1, u90_4, u90_7, u90_8, u90_11, u90_14, u90_15, u90_16, u90_18, u90_21, u90_24, u90_25, u90_27, u90_30, u90_31, u90_32, u90_33, u90_34, u90_36, c30 11 lisT_11, c100, bi_0, h1, h2, e11, not_true, not_false_eq_true, if_true, if_false, la_0, la_8, la_11, lr_0_0, lr_8_2, kLt, true_and]
      refine c107' (a := k) (col := 0) (K := 6) hBs (by omega) hM (by omega) (by decide) (by decide) hc (fun X hX => ?_)
      rw [ep]
      have hmod : ∀ (X : Nat → Nat → Int32) (x : Int32), Fr I (k * 3 + 0) X → (∀ Z v, Sc I Z → (∀ q, q < 6 → ∀ j, j < 8 → Z 96 (8 * q + j) = cW I n k q y M j) → Rn 168 101 [.ref 86, .int (Int32.ofNat k), .int (Int32.ofNat M), .int (Int32.ofNat p), .int (Int32.ofNat 6), v, .null, .null] [] (Sg Z J) (fun r' σ' => ∃ I2 J2, r' = some (.int x) ∧ σ' = Sg I2 J2 ∧ I2 999 = I 999 ∧ I2 1000 = I 1000 ∧ Rel I2 J2 (B + 60))) → Rn 168 0 [.ref 86, .int (Int32.ofNat k), .int (Int32.ofNat M), .null, .null, .null, .null, .null] [] (Sg X J) (fun r' σ' => ∃ I2 J2, r' = some (.int x) ∧ σ' = Sg I2 J2 ∧ I2 999 = I 999 ∧ I2 1000 = I 1000 ∧ Rel I2 J2 (B + 60)) := by
        intro X x hX hgo
        have g0 : X 87 0 = Int32.ofNat n := by rw [hX.2.1 87 (by decide)]; exact e87
        simp (disch := decide) only [u168_0, u168_1, u168_2, u168_5, u168_8, u168_9, u168_12, u168_15, u168_16, u168_18, u168_21, u168_22, u168_23, u168_24, c121 n hn g0, c153, bi_0, h1, h2, not_true, not_false_eq_true, if_true, if_false, la_86, kLt, true_and]
        refine c165' hBs (by omega) hM (by omega) y2 hc hX.1 (fun Z hZ => ?_)
        rw [ep]
        simp only [u168_27, u168_28, u168_29]
        exact nx_m hBs (by omega) hk hMM y2 hc hgo 6 0 Z .null (by omega) hZ (fun q hq => by omega)
      simp only [u90_39, u90_40, u90_41]
      by_cases hp0 : p = 0
      · subst hp0
        simp only [show Int32.ofNat 0 = 0 from rfl, not_true, if_false, u90_44, u90_45]
        refine ⟨_, _, _, rfl, rfl, hX.2.1 999 (by decide), hX.2.1 1000 (by decide), ?_⟩
        refine hmod X (-1) hX (fun Z v hZ hO => ?_)
        simp (disch := decide) only [u168_101, u168_102, u168_104, u168_106, u168_108, u168_109, u168_111, u168_113, u168_115, u168_118, u168_119, u168_162, u168_164, show ¬ (8 : Int32) ≤ 0 by decide, show Int32.ofNat 0 ≤ 0 by decide, if_true, if_false]
        have hf := fin_sc (x := -1) (y := -1) hR hZ rfl
        simpa only [true_and] using hf
      · have hpz : ¬ Int32.ofNat p = 0 := fun q => hp0 ((p_1 p hp).mp q)
        have hpl : ¬ Int32.ofNat p ≤ 0 := fun q => hp0 ((p_0 p hp).mp q)
        simp (disch := decide) only [hpz, not_false_eq_true, if_true, u90_46, u90_47, u90_48, u90_49, u90_50, la_0, kLt, true_and]
        unfold Ca
        simp (disch := decide) only [u108_0, u108_1, u108_4, u108_5, u108_8, u108_11, u108_12, c43_21_8, la_0, la_21, lr_0_0, lr_0_1, kLt, true_and]
        refine fs_c (p := p) (M := M) hBs (by omega) (by omega) hMM hc (fun X hX hO => ?_) 6 0 _ (by omega) hX.tk2 (fun q hq => by omega)
        simp only [u90_53, u90_54, u90_56, u90_58, u90_60, u90_61]
        refine Rn_fr (n := 8) (X := Value) (fun q v => [.ref 0, .int (Int32.ofNat k), .int (Int32.ofNat M), .int (Int32.ofNat p), .int (sel 0 7 (fun s => mos (bF p) (fun q => cW I n k q y M) s 6) q).1, .int (sel 0 7 (fun s => mos (bF p) (fun q => cW I n k q y M) s 6) q).2, .int (Int32.ofNat q), v]) (fun _ _ => Sg X J) .null rfl rfl ?_ ?_
        · intro q hq v ih
          have hnq : ¬ 8 ≤ q := by omega
          have h109 := fun (pc : Nat) (ls st : Vs) (Q : Option Value → Sto → Prop) => @c109 90 pc ls st X J Q p q (fun q => cW I n k q y M) hq (fun r hr hr2 => hO r hr hr2 q hq)
          simp only [sel_s] at ih
          generalize sel 0 7 (fun s => mos (bF p) (fun q => cW I n k q y M) s 6) q = u at ih ⊢
          generalize mos (bF p) (fun q => cW I n k q y M) q 6 = z at ih h109
          clear hO hX hmod hR hBs hM hc
          simp (disch := first | assumption | omega | decide | exact la_87 | exact la_88 | exact la_90 | exact la_91 | exact la_92 | exact la_93 | exact la_94 | exact la_95 | exact la_96 | exact la_97 | exact la_98 | exact la_99 | exact la_10 | exact la_23 | exact la_77 | exact la_78 | exact la_18 | exact la_19 | exact la_20) only [u90_63, u90_65, u90_67, u90_70, u90_71, u90_72, u90_74, u90_77, u90_79, u90_81, u90_83, h109, la_0, kLt, true_and, o_aa, o_al, o_la, o_mm, o_ml, o_lm, o_ss, o_sl, o_ls, o_tn, o_tl, o_lt, o_ltl, o_llt, o_le, o_lel, o_lle, o_eq, o_eql, o_leq, o_inb, o_inl, o_neg, hnq, if_false]
          by_cases hz : Int32.ofNat z < u.2
          · simp only [if_pos hz] at ih
            simp (disch := first | assumption | omega | decide | exact la_87 | exact la_88 | exact la_90 | exact la_91 | exact la_92 | exact la_93 | exact la_94 | exact la_95 | exact la_96 | exact la_97 | exact la_98 | exact la_99 | exact la_10 | exact la_23 | exact la_77 | exact la_78 | exact la_18 | exact la_19 | exact la_20) only [if_neg (Int32.not_le.mpr hz), u90_86, u90_88, u90_90, u90_92, u90_94, o_aa, o_al, o_la, o_mm, o_ml, o_lm, o_ss, o_sl, o_ls, o_tn, o_tl, o_lt, o_ltl, o_llt, o_le, o_lel, o_lle, o_eq, o_eql, o_leq, o_inb, o_inl, o_neg]
            exact (u90_97 ..).mpr (ih _)
          · simp only [if_neg hz] at ih
            simp (disch := first | assumption | omega | decide | exact la_87 | exact la_88 | exact la_90 | exact la_91 | exact la_92 | exact la_93 | exact la_94 | exact la_95 | exact la_96 | exact la_97 | exact la_98 | exact la_99 | exact la_10 | exact la_23 | exact la_77 | exact la_78 | exact la_18 | exact la_19 | exact la_20) only [if_pos (Int32.not_lt.mp hz), u90_94, o_aa, o_al, o_la, o_mm, o_ml, o_lm, o_ss, o_sl, o_ls, o_tn, o_tl, o_lt, o_ltl, o_llt, o_le, o_lel, o_lle, o_eq, o_eql, o_leq, o_inb, o_inl, o_neg]
            exact (u90_97 ..).mpr (ih _)
        · intro v
          have ha7 := a_7 (mos (bF p) (fun q => cW I n k q y M) 0 6) (by have := mos_le (bF p) (fun q => cW I n k q y M) 0 6; omega)
          rw [sel_eq 0 7 (-1) 1000000 (fun s => mos (bF p) (fun q => cW I n k q y M) s 6) ha7.1 ha7.2 7]
          simp (disch := first | assumption | omega | decide | exact la_87 | exact la_88 | exact la_90 | exact la_91 | exact la_92 | exact la_93 | exact la_94 | exact la_95 | exact la_96 | exact la_97 | exact la_98 | exact la_99 | exact la_10 | exact la_23 | exact la_77 | exact la_78 | exact la_18 | exact la_19 | exact la_20) only [u90_63, u90_65, u90_67, u90_100, u90_102, o_aa, o_al, o_la, o_mm, o_ml, o_lm, o_ss, o_sl, o_ls, o_tn, o_tl, o_lt, o_ltl, o_llt, o_le, o_lel, o_lle, o_eq, o_eql, o_leq, o_inb, o_inl, o_neg, Nat.le_refl, if_true]
          refine ⟨_, _, _, rfl, rfl, hX.2.1 999 (by decide), hX.2.1 1000 (by decide), ?_⟩
          refine hmod X _ hX (fun Z v hZ hO => ?_)
          simp only [u168_101, u168_102, u168_104, u168_106, u168_108, u168_109]
          refine Rn_fr (n := 8) (X := Value) (fun q v => [.ref 86, .int (Int32.ofNat k), .int (Int32.ofNat M), .int (Int32.ofNat p), .int (sel (-1) 1000000 (fun s => mos (bF p) (fun q => cW I n k q y M) s 6) q).1, .int (sel (-1) 1000000 (fun s => mos (bF p) (fun q => cW I n k q y M) s 6) q).2, .int (Int32.ofNat q), v]) (fun _ _ => Sg Z J) .null rfl rfl ?_ ?_
          · intro q hq v ih
            have hnq : ¬ 8 ≤ q := by omega
            have h167 := fun (pc : Nat) (ls st : Vs) (Q : Option Value → Sto → Prop) => @c167 168 pc ls st Z J Q p q (fun q => cW I n k q y M) hp hq (fun r hr => hO r hr q hq)
            simp only [sel_s] at ih
            generalize sel (-1) 1000000 (fun s => mos (bF p) (fun q => cW I n k q y M) s 6) q = u at ih ⊢
            generalize mos (bF p) (fun q => cW I n k q y M) q 6 = z at ih h167
            clear hO hX hZ hmod hR hBs hM hc
            simp (disch := first | assumption | omega | decide | exact la_87 | exact la_88 | exact la_90 | exact la_91 | exact la_92 | exact la_93 | exact la_94 | exact la_95 | exact la_96 | exact la_97 | exact la_98 | exact la_99 | exact la_10 | exact la_23 | exact la_77 | exact la_78 | exact la_18 | exact la_19 | exact la_20) only [u168_111, u168_113, u168_115, u168_118, u168_119, u168_122, u168_123, u168_124, u168_126, u168_129, u168_131, u168_133, u168_135, h167, la_86, kLt, true_and, o_aa, o_al, o_la, o_mm, o_ml, o_lm, o_ss, o_sl, o_ls, o_tn, o_tl, o_lt, o_ltl, o_llt, o_le, o_lel, o_lle, o_eq, o_eql, o_leq, o_inb, o_inl, o_neg, hnq, hpl, if_false]
            by_cases hz : Int32.ofNat z < u.2
            · simp only [if_pos hz] at ih
              simp (disch := first | assumption | omega | decide | exact la_87 | exact la_88 | exact la_90 | exact la_91 | exact la_92 | exact la_93 | exact la_94 | exact la_95 | exact la_96 | exact la_97 | exact la_98 | exact la_99 | exact la_10 | exact la_23 | exact la_77 | exact la_78 | exact la_18 | exact la_19 | exact la_20) only [if_neg (Int32.not_le.mpr hz), u168_138, u168_140, u168_143, u168_145, u168_147, u168_149, u168_151, u168_154, u168_156, c138, mn, if_pos hz, o_aa, o_al, o_la, o_mm, o_ml, o_lm, o_ss, o_sl, o_ls, o_tn, o_tl, o_lt, o_ltl, o_llt, o_le, o_lel, o_lle, o_eq, o_eql, o_leq, o_inb, o_inl, o_neg]
              exact (u168_159 ..).mpr (ih _)
            · simp only [if_neg hz] at ih
              simp (disch := first | assumption | omega | decide | exact la_87 | exact la_88 | exact la_90 | exact la_91 | exact la_92 | exact la_93 | exact la_94 | exact la_95 | exact la_96 | exact la_97 | exact la_98 | exact la_99 | exact la_10 | exact la_23 | exact la_77 | exact la_78 | exact la_18 | exact la_19 | exact la_20) only [if_pos (Int32.not_lt.mp hz), u168_143, u168_145, u168_147, u168_149, u168_151, u168_154, u168_156, c138, mn, if_neg hz, o_aa, o_al, o_la, o_mm, o_ml, o_lm, o_ss, o_sl, o_ls, o_tn, o_tl, o_lt, o_ltl, o_llt, o_le, o_lel, o_lle, o_eq, o_eql, o_leq, o_inb, o_inl, o_neg]
              exact (u168_159 ..).mpr (ih _)
          · intro v
            clear hO
            simp (disch := first | assumption | omega | decide | exact la_87 | exact la_88 | exact la_90 | exact la_91 | exact la_92 | exact la_93 | exact la_94 | exact la_95 | exact la_96 | exact la_97 | exact la_98 | exact la_99 | exact la_10 | exact la_23 | exact la_77 | exact la_78 | exact la_18 | exact la_19 | exact la_20) only [u168_111, u168_113, u168_115, u168_162, u168_164, o_aa, o_al, o_la, o_mm, o_ml, o_lm, o_ss, o_sl, o_ls, o_tn, o_tl, o_lt, o_ltl, o_llt, o_le, o_lel, o_lle, o_eq, o_eql, o_leq, o_inb, o_inl, o_neg, Nat.le_refl, if_true]
            have hf := fin_sc (x := -1) (y := -1) hR hZ rfl
            simpa only [true_and] using hf
    · simp (disch := decide) only [u90_0, u90_1, u90_4, u90_7, u90_8, u90_11, u90_14, u90_15, u90_16, u90_18, u90_21, u90_24, u90_25, u90_27, u90_30, c30 11 lisT_11, c100, c103b, bi_0, h1, h2, e11, not_true, not_false_eq_true, if_true, if_false, la_0, la_8, la_11, lr_0_0, lr_8_2, kLt, true_and]
      refine ⟨_, _, _, rfl, rfl, up_o _ _ (by decide), up_o _ _ (by decide), ?_⟩
      have g0 : bdI I 87 0 = Int32.ofNat n := by rw [bd_87]; exact e87
      simp (disch := decide) only [u168_0, u168_1, u168_2, u168_5, u168_8, u168_9, u168_12, u168_15, u168_16, u168_18, u168_21, c121 n hn g0, c153, c114, bi_0, h1, h2, not_true, not_false_eq_true, if_true, if_false, la_86, kLt, true_and]
      exact fin_bad' hR
  · simp (disch := decide) only [u90_0, u90_1, u90_4, u90_7, u90_8, u90_11, u90_14, u90_15, u90_16, u90_18, u90_21, u90_24, u90_25, u90_27, u90_30, c30 11 lisT_11, c103b, bi_0, h1, e11, not_true, not_false_eq_true, if_true, if_false, la_0, la_8, la_11, lr_0_0, lr_8_2, kLt, true_and]
    refine ⟨_, _, _, rfl, rfl, up_o _ _ (by decide), up_o _ _ (by decide), ?_⟩
    have g0 : bdI I 87 0 = Int32.ofNat n := by rw [bd_87]; exact e87
    simp (disch := decide) only [u168_0, u168_1, u168_2, u168_5, u168_8, u168_9, u168_12, u168_15, u168_16, u168_18, u168_21, c121 n hn g0, c114, bi_0, h1, not_true, not_false_eq_true, if_true, if_false, la_86, kLt, true_and]
    exact fin_bad' hR
