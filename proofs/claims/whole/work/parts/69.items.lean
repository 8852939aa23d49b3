/-! THE TEXT: the items, and how the reference takes them -/
def wkA (A : Nat → Int32) (v w : Int32) : Nat → Int32 := upd A (5 + v.toNatClampNeg) w
def pgA (A : Nat → Int32) (v : Int32) : Nat → Int32 := upd A 13 (A 13 ||| (1 <<< (v &&& 31)))
def tmA (A : Nat → Int32) (v w x : Int32) : Nat → Int32 := upd (upd (upd (upd A (14 + 3 * (A 0).toNatClampNeg) v) (14 + 3 * (A 0).toNatClampNeg + 1) w) (14 + 3 * (A 0).toNatClampNeg + 2) x) 0 (Int32.ofNat ((A 0).toNatClampNeg + 1))
def woA (A : Nat → Int32) (v w : Int32) : Nat → Int32 := upd (upd (upd A (32 + 2 * (A 1).toNatClampNeg) v) (32 + 2 * (A 1).toNatClampNeg + 1) w) 1 (Int32.ofNat ((A 1).toNatClampNeg + 1))
section ITEMS
variable (c : Nat → Nat) (z q : Nat) (A : Nat → Int32)
def pW : Sum Nat (Nat × (Nat → Int32)) := if gd c z (en c z q) 0 7 then (if gd c z (en c z (en c z q)) 0 99 then .inr (en c z (en c z (en c z q)), wkA A (vI c z (en c z q)) (vI c z (en c z (en c z q)))) else .inl (sk c z (en c z (en c z q)))) else .inl (sk c z (en c z q))
def pP : Sum Nat (Nat × (Nat → Int32)) := if gd c z (en c z q) 0 6 then .inr (en c z (en c z q), pgA A (vI c z (en c z q))) else .inl (sk c z (en c z q))
def pT : Sum Nat (Nat × (Nat → Int32)) := if A 0 = 6 then .inl (sk c z q) else if gd c z (en c z q) 0 5 then (if gd c z (en c z (en c z q)) 1 9 then (if gd c z (en c z (en c z (en c z q))) 0 7 then .inr (en c z (en c z (en c z (en c z q))), tmA A (vI c z (en c z q)) (vI c z (en c z (en c z q))) (vI c z (en c z (en c z (en c z q))))) else .inl (sk c z (en c z (en c z (en c z q))))) else .inl (sk c z (en c z (en c z q)))) else .inl (sk c z (en c z q))
def pO : Sum Nat (Nat × (Nat → Int32)) := if A 1 = 6 then .inl (sk c z q) else if gd c z (en c z q) 0 7 then (if gd c z (en c z (en c z q)) 1 60 then .inr (en c z (en c z (en c z q)), woA A (vI c z (en c z q)) (vI c z (en c z (en c z q)))) else .inl (sk c z (en c z (en c z q)))) else .inl (sk c z (en c z q))
def pI : Sum Nat (Nat × (Nat → Int32)) := if wm c z 1 q = true then pW c z q A else if wm c z 2 q = true then pP c z q A else if wm c z 3 q = true then pT c z q A else if wm c z 4 q = true then pO c z q A else .inl (sk c z q)
end ITEMS
def AV (A : Nat → Int32) : Prop := (∃ n, n ≤ 6 ∧ A 0 = Int32.ofNat n) ∧ ∃ n, n ≤ 6 ∧ A 1 = Int32.ofNat n
theorem AV_w {A : Nat → Int32} (h : AV A) (v w : Int32) : AV (wkA A v w) := by
  obtain ⟨h1, h2⟩ := h
  unfold AV wkA
  rw [ud_o _ _ (by omega), ud_o _ _ (by omega)]
  exact ⟨h1, h2⟩
theorem AV_p {A : Nat → Int32} (h : AV A) (v : Int32) : AV (pgA A v) := by
  obtain ⟨h1, h2⟩ := h
  unfold AV pgA
  rw [ud_o _ _ (by omega), ud_o _ _ (by omega)]
  exact ⟨h1, h2⟩
theorem n6 {A : Nat → Int32} {k n : Nat} (hn : n ≤ 6) (e : A k = Int32.ofNat n) (h : ¬ A k = 6) : n < 6 := by
  apply Classical.byContradiction
  intro h2
  obtain rfl : n = 6 := by omega
  exact h e
theorem AV_t {A : Nat → Int32} (h : AV A) (h6 : ¬ A 0 = 6) (v w x : Int32) : AV (tmA A v w x) := by
  obtain ⟨⟨n, hn, e⟩, n2, hn2, e2⟩ := h
  have hn6 := n6 hn e h6
  unfold AV tmA
  rw [ud_s, ud_o _ _ (show ¬ 1 = 0 by decide), ud_o _ _ (by omega), ud_o _ _ (by omega), ud_o _ _ (by omega), e, o_tn (by omega)]
  exact ⟨⟨n + 1, by omega, rfl⟩, n2, hn2, e2⟩
theorem AV_o {A : Nat → Int32} (h : AV A) (h6 : ¬ A 1 = 6) (v w : Int32) : AV (woA A v w) := by
  obtain ⟨⟨n, hn, e⟩, n2, hn2, e2⟩ := h
  have hn6 := n6 hn2 e2 h6
  unfold AV woA
  rw [ud_o _ _ (show ¬ 0 = 1 by decide), ud_s, ud_o _ _ (by omega), ud_o _ _ (by omega), e2, o_tn (by omega)]
  exact ⟨⟨n, hn, e⟩, n2 + 1, by omega, rfl⟩
section PUREI
variable {c : Nat → Nat} {z q e : Nat} {A A' : Nat → Int32}
theorem en_c (h : q ≤ z) : q ≤ en c z q ∧ en c z q ≤ z := by
  have h1 := sk_le c h
  have h2 := en_le c h
  omega
theorem pI_ok (hq : q ≤ z) (hA : AV A) (h : pI c z q A = .inr (e, A')) : q ≤ e ∧ e ≤ z ∧ AV A' := by
  have g1 := en_c (c := c) hq
  have g2 := en_c (c := c) g1.2
  have g3 := en_c (c := c) g2.2
  have g4 := en_c (c := c) g3.2
  unfold pI at h
  by_cases w1 : wm c z 1 q = true
  · rw [if_pos w1] at h
    unfold pW at h
    split at h
    · split at h
      · injection h with h
        obtain ⟨rfl, rfl⟩ := Prod.mk.inj h
        exact ⟨by omega, by omega, AV_w hA _ _⟩
      · cases h
    · cases h
  · rw [if_neg w1] at h
    by_cases w2 : wm c z 2 q = true
    · rw [if_pos w2] at h
      unfold pP at h
      split at h
      · injection h with h
        obtain ⟨rfl, rfl⟩ := Prod.mk.inj h
        exact ⟨by omega, by omega, AV_p hA _⟩
      · cases h
    · rw [if_neg w2] at h
      by_cases w3 : wm c z 3 q = true
      · rw [if_pos w3] at h
        unfold pT at h
        by_cases h6 : A 0 = 6
        · rw [if_pos h6] at h; cases h
        · rw [if_neg h6] at h
          split at h
          · split at h
            · split at h
              · injection h with h
                obtain ⟨rfl, rfl⟩ := Prod.mk.inj h
                exact ⟨by omega, by omega, AV_t hA h6 _ _ _⟩
              · cases h
            · cases h
          · cases h
      · rw [if_neg w3] at h
        by_cases w4 : wm c z 4 q = true
        · rw [if_pos w4] at h
          unfold pO at h
          by_cases h6 : A 1 = 6
          · rw [if_pos h6] at h; cases h
          · rw [if_neg h6] at h
            split at h
            · split at h
              · injection h with h
                obtain ⟨rfl, rfl⟩ := Prod.mk.inj h
                exact ⟨by omega, by omega, AV_o hA h6 _ _⟩
              · cases h
            · cases h
        · rw [if_neg w4] at h; cases h
end PUREI
section TAKE
variable {m pc : Nat} {ls st : Vs} {I Z : Nat → Nat → Int32} {J : Nat → Nat → Int64} {Q : Option Value → Sto → Prop} {c : Nat → Nat} {z q : Nat} {A : Nat → Int32}
theorem MS_tk (hM : MS I c z A q Z) (k : Nat) (v : Int32) : MS I c z A (en c z q) (lkX c z (va_up Z 99 (upd (Z 99) k v)) (en c z q)) := MS_lk (hM.1.up (by decide) _) (by rw [up_o _ _ (by decide)]; exact hM.2.1) _
theorem lk_99 (Z : Nat → Nat → Int32) (f : Nat → Int32) (q : Nat) : lkX c z (va_up Z 99 f) q 99 = f := by rw [lk_f _ _ (by decide), up_s]
theorem t181 (hT : TX I c z) (hq : q ≤ z) (hM : MS I c z A q Z) (h0 : ∀ p Z, pW c z q A = .inl p → Sc I Z → Z 86 16 = Int32.ofNat p → Rn m pc ls (.int 0 :: st) (Sg Z J) Q) (h1 : ∀ e A' Z, pW c z q A = .inr (e, A') → MS I c z A' e Z → Rn m pc ls (.int 1 :: st) (Sg Z J) Q) : Ca 181 [.ref 86] (Sg Z J) m pc ls st Q := by
  unfold Ca
  have g1 := en_c (c := c) hq
  have g2 := en_c (c := c) g1.2
  have hM1 := MS_lk (c := c) (z := z) hM.1 hM.2.1 (en c z q)
  have h178 := fun (pc : Nat) (ls st : Vs) (Q : Option Value → Sto → Prop) => @c178 181 pc ls st I Z J Q c z q A hT hM hq
  simp (disch := decide) only [u181_0, u181_1, u181_4, u181_5, u181_6, u181_7, u181_9, h178, la_86, kLt, true_and]
  refine c180' 0 0 7 (by decide) (by decide) hT hM1 g1.2 (fun f1 => ?_) (fun f0 => ?_)
  · simp (disch := decide) only [u181_12, u181_15, u181_16, u181_17, u181_18, u181_20, la_86, kLt, true_and, show ¬ (1 : Int32) = 0 by decide, if_false]
    have hM2 := MS_tk hM1 0 (vI c z (en c z q))
    refine c180' 1 0 99 (by decide) (by decide) hT hM2 g2.2 (fun f2 => ?_) (fun f0 => ?_)
    · have hM3 := MS_tk hM2 1 (vI c z (en c z (en c z q)))
      have h1 := h1 _ _ _ (by unfold pW; rw [if_pos f1, if_pos f2]) (hM3.u98 (wkA A (vI c z (en c z q)) (vI c z (en c z (en c z q)))))
      have v1 : lkX c z (va_up (lkX c z (va_up (lkX c z Z (en c z q)) 99 (upd (lkX c z Z (en c z q) 99) 0 (vI c z (en c z q)))) (en c z (en c z q))) 99 (upd (lkX c z (va_up (lkX c z Z (en c z q)) 99 (upd (lkX c z Z (en c z q) 99) 0 (vI c z (en c z q)))) (en c z (en c z q)) 99) 1 (vI c z (en c z (en c z q))))) (en c z (en c z (en c z q))) 99 0 = vI c z (en c z q) := by rw [lk_99, ud_o _ _ (by decide), lk_99, ud_s]
      have v2 : lkX c z (va_up (lkX c z (va_up (lkX c z Z (en c z q)) 99 (upd (lkX c z Z (en c z q) 99) 0 (vI c z (en c z q)))) (en c z (en c z q))) 99 (upd (lkX c z (va_up (lkX c z Z (en c z q)) 99 (upd (lkX c z Z (en c z q) 99) 0 (vI c z (en c z q)))) (en c z (en c z q)) 99) 1 (vI c z (en c z (en c z q))))) (en c z (en c z (en c z q))) 99 1 = vI c z (en c z (en c z q)) := by rw [lk_99, ud_s]
      have e98 := hM3.2.1
      generalize lkX c z (va_up (lkX c z (va_up (lkX c z Z (en c z q)) 99 (upd (lkX c z Z (en c z q) 99) 0 (vI c z (en c z q)))) (en c z (en c z q))) 99 (upd (lkX c z (va_up (lkX c z Z (en c z q)) 99 (upd (lkX c z Z (en c z q) 99) 0 (vI c z (en c z q)))) (en c z (en c z q)) 99) 1 (vI c z (en c z (en c z q))))) (en c z (en c z (en c z q))) = Z3 at h1 v1 v2 e98 ⊢
      obtain ⟨k, hk, ek⟩ := o_in (m := 7) f1.1 f1.2 (by omega)
      unfold wkA at h1
      rw [ek] at v1 h1
      rw [o_tn (by omega)] at h1
      clear hM hM1 hM2 hM3 h0 h178 hT
      simp (disch := first | assumption | omega | decide | exact la_87 | exact la_88 | exact la_90 | exact la_91 | exact la_92 | exact la_93 | exact la_94 | exact la_95 | exact la_96 | exact la_97 | exact la_98 | exact la_99 | exact la_10 | exact la_23 | exact la_77 | exact la_78 | exact la_18 | exact la_19 | exact la_20) only [u181_23, u181_26, u181_27, u181_28, u181_29, u181_32, u181_33, u181_34, u181_37, u181_38, u181_39, u181_40, u181_41, u181_44, u181_45, u181_46, u181_47, u181_48, la_86, la_98, lt_98, la_99, lt_99, lr_86_20, lr_86_21, kLt, true_and, v1, v2, e98, wI_d, o_aa, o_al, o_la, o_mm, o_ml, o_lm, o_ss, o_sl, o_ls, o_tn, o_tl, o_lt, o_ltl, o_llt, o_le, o_lel, o_lle, o_eq, o_eql, o_leq, o_inb, o_inl, o_neg, Nat.reduceLT, show ¬ (1 : Int32) = 0 by decide, not_false_eq_true, if_true, show 5 + k < 62 by omega]
      exact ⟨Or.inr trivial, h1⟩
    · have h0 := h0 _ _ (by unfold pW; rw [if_pos f1, if_neg f0]) hM2.1 hM2.2.2.1
      simp only [u181_23, u181_26, u181_27, not_true, if_false]
      exact ⟨Or.inl trivial, h0⟩
  · have h0 := h0 _ _ (by unfold pW; rw [if_neg f0]) hM1.1 hM1.2.2.1
    simp only [u181_12, u181_26, u181_27, if_true]
    exact ⟨Or.inl trivial, h0⟩
theorem t182 (hT : TX I c z) (hq : q ≤ z) (hM : MS I c z A q Z) (h0 : ∀ p Z, pP c z q A = .inl p → Sc I Z → Z 86 16 = Int32.ofNat p → Rn m pc ls (.int 0 :: st) (Sg Z J) Q) (h1 : ∀ e A' Z, pP c z q A = .inr (e, A') → MS I c z A' e Z → Rn m pc ls (.int 1 :: st) (Sg Z J) Q) : Ca 182 [.ref 86] (Sg Z J) m pc ls st Q := by
  unfold Ca
  have g1 := en_c (c := c) hq
  have hM1 := MS_lk (c := c) (z := z) hM.1 hM.2.1 (en c z q)
  have h178 := fun (pc : Nat) (ls st : Vs) (Q : Option Value → Sto → Prop) => @c178 182 pc ls st I Z J Q c z q A hT hM hq
  simp (disch := decide) only [u182_0, u182_1, u182_4, u182_5, u182_6, u182_7, u182_9, h178, la_86, kLt, true_and]
  refine c180' 0 0 6 (by decide) (by decide) hT hM1 g1.2 (fun f1 => ?_) (fun f0 => ?_)
  · have hM2 := MS_tk hM1 0 (vI c z (en c z q))
    have h1 := h1 _ _ _ (by unfold pP; rw [if_pos f1]) (hM2.u98 (pgA A (vI c z (en c z q))))
    have v1 : lkX c z (va_up (lkX c z Z (en c z q)) 99 (upd (lkX c z Z (en c z q) 99) 0 (vI c z (en c z q)))) (en c z (en c z q)) 99 0 = vI c z (en c z q) := by rw [lk_99, ud_s]
    have e98 := hM2.2.1
    generalize lkX c z (va_up (lkX c z Z (en c z q)) 99 (upd (lkX c z Z (en c z q) 99) 0 (vI c z (en c z q)))) (en c z (en c z q)) = Z3 at h1 v1 e98 ⊢
    unfold pgA at h1
    clear hM hM1 hM2 h0 h178 hT
    simp (disch := first | assumption | omega | decide | exact la_87 | exact la_88 | exact la_90 | exact la_91 | exact la_92 | exact la_93 | exact la_94 | exact la_95 | exact la_96 | exact la_97 | exact la_98 | exact la_99 | exact la_10 | exact la_23 | exact la_77 | exact la_78 | exact la_18 | exact la_19 | exact la_20) only [u182_12, u182_15, u182_16, u182_17, u182_18, u182_21, u182_23, u182_24, u182_25, u182_26, u182_27, u182_30, u182_31, u182_32, u182_33, u182_34, u182_35, u182_36, la_86, la_98, lt_98, la_99, lt_99, lr_86_20, lr_86_21, kLt, true_and, v1, e98, wI_d, o_tl, o_inl, Nat.reduceLT, show ¬ (1 : Int32) = 0 by decide, not_false_eq_true, if_true]
    exact ⟨Or.inr trivial, h1⟩
  · have h0 := h0 _ _ (by unfold pP; rw [if_neg f0]) hM1.1 hM1.2.2.1
    simp only [u182_12, u182_15, u182_16, not_true, if_false]
    exact ⟨Or.inl trivial, h0⟩
theorem t183 (hT : TX I c z) (hq : q ≤ z) (hA : AV A) (hM : MS I c z A q Z) (h0 : ∀ p Z, pT c z q A = .inl p → Sc I Z → Z 86 16 = Int32.ofNat p → Rn m pc ls (.int 0 :: st) (Sg Z J) Q) (h1 : ∀ e A' Z, pT c z q A = .inr (e, A') → MS I c z A' e Z → Rn m pc ls (.int 1 :: st) (Sg Z J) Q) : Ca 183 [.ref 86] (Sg Z J) m pc ls st Q := by
  unfold Ca
  have g1 := en_c (c := c) hq
  have g2 := en_c (c := c) g1.2
  have g3 := en_c (c := c) g2.2
  have e98 := hM.2.1
  by_cases h6 : A 0 = 6
  · have h0 := h0 _ _ (by unfold pT; rw [if_pos h6]) hM.1 hM.2.2.1
    clear hT hM h1 hA
    simp (disch := first | assumption | omega | decide | exact la_87 | exact la_88 | exact la_90 | exact la_91 | exact la_92 | exact la_93 | exact la_94 | exact la_95 | exact la_96 | exact la_97 | exact la_98 | exact la_99 | exact la_10 | exact la_23 | exact la_77 | exact la_78 | exact la_18 | exact la_19 | exact la_20) only [u183_0, u183_1, u183_4, u183_5, u183_6, u183_8, u183_11, u183_12, la_86, la_98, lt_98, lr_86_20, kLt, true_and, e98, h6, o_tl, o_inl, Nat.reduceLT, not_true, if_false]
    exact ⟨Or.inl trivial, h0⟩
  · have hM1 := MS_lk (c := c) (z := z) hM.1 hM.2.1 (en c z q)
    have h178 := fun (pc : Nat) (ls st : Vs) (Q : Option Value → Sto → Prop) => @c178 183 pc ls st I Z J Q c z q A hT hM hq
    simp (disch := first | decide | exact la_98) only [u183_0, u183_1, u183_4, u183_5, u183_6, u183_8, u183_11, u183_12, u183_13, u183_14, u183_17, u183_18, u183_19, u183_20, u183_21, h178, la_86, la_98, lt_98, lr_86_20, kLt, true_and, e98, h6, o_tl, o_inl, Nat.reduceLT, not_false_eq_true, if_true]
    refine c180' 0 0 5 (by decide) (by decide) hT hM1 g1.2 (fun f1 => ?_) (fun f0 => ?_)
    · simp (disch := decide) only [u183_24, u183_27, u183_28, u183_29, u183_30, u183_32, la_86, kLt, true_and, show ¬ (1 : Int32) = 0 by decide, if_false]
      have hM2 := MS_tk hM1 0 (vI c z (en c z q))
      have a0 := lk_99 (c := c) (z := z) (lkX c z Z (en c z q)) (upd (lkX c z Z (en c z q) 99) 0 (vI c z (en c z q))) (en c z (en c z q))
      generalize lkX c z (va_up (lkX c z Z (en c z q)) 99 (upd (lkX c z Z (en c z q) 99) 0 (vI c z (en c z q)))) (en c z (en c z q)) = Z2 at hM2 a0 ⊢
      have v1 : Z2 99 0 = vI c z (en c z q) := by rw [a0, ud_s]
      refine c180' 1 1 9 (by decide) (by decide) hT hM2 g2.2 (fun f2 => ?_) (fun f0 => ?_)
      · simp (disch := decide) only [u183_35, u183_38, u183_39, u183_40, u183_41, u183_43, la_86, kLt, true_and, show ¬ (1 : Int32) = 0 by decide, if_false]
        have hM3 := MS_tk hM2 1 (vI c z (en c z (en c z q)))
        have a1 := lk_99 (c := c) (z := z) Z2 (upd (Z2 99) 1 (vI c z (en c z (en c z q)))) (en c z (en c z (en c z q)))
        generalize lkX c z (va_up Z2 99 (upd (Z2 99) 1 (vI c z (en c z (en c z q))))) (en c z (en c z (en c z q))) = Z3 at hM3 a1 ⊢
        have v2 : Z3 99 1 = vI c z (en c z (en c z q)) := by rw [a1, ud_s]
        have v1 : Z3 99 0 = vI c z (en c z q) := by rw [a1, ud_o _ _ (by decide)]; exact v1
        refine c180' 2 0 7 (by decide) (by decide) hT hM3 g3.2 (fun f3 => ?_) (fun f0 => ?_)
        · have hM4 := MS_tk hM3 2 (vI c z (en c z (en c z (en c z q))))
          have a2 := lk_99 (c := c) (z := z) Z3 (upd (Z3 99) 2 (vI c z (en c z (en c z (en c z q))))) (en c z (en c z (en c z (en c z q))))
          generalize lkX c z (va_up Z3 99 (upd (Z3 99) 2 (vI c z (en c z (en c z (en c z q)))))) (en c z (en c z (en c z (en c z q)))) = Z4 at hM4 a2 ⊢
          have v3 : Z4 99 2 = vI c z (en c z (en c z (en c z q))) := by rw [a2, ud_s]
          have v2 : Z4 99 1 = vI c z (en c z (en c z q)) := by rw [a2, ud_o _ _ (by decide)]; exact v2
          have v1 : Z4 99 0 = vI c z (en c z q) := by rw [a2, ud_o _ _ (by decide)]; exact v1
          have h1 := h1 _ _ _ (by unfold pT; rw [if_neg h6, if_pos f1, if_pos f2, if_pos f3]) (hM4.u98 (tmA A (vI c z (en c z q)) (vI c z (en c z (en c z q))) (vI c z (en c z (en c z (en c z q))))))
          have e98 := hM4.2.1
          obtain ⟨n, hn, en0⟩ := hA.1
          have hn6 := n6 hn en0 h6
          have e0 : Z4 98 0 = Int32.ofNat n := by rw [e98]; exact en0
          have h130 := fun (pc : Nat) (ls st : Vs) (x y w : Int32) (Q : Option Value → Sto → Prop) => @c130 183 pc ls st Z4 J Q 98 la_98 (by decide) n hn6 e0 x y w
          unfold tmA at h1
          rw [en0, o_tn (by omega)] at h1
          rw [e98] at h130
          clear hM hM1 hM2 hM3 hM4 h0 h178 hT hA f1 f2 f3
          simp (disch := first | assumption | omega | decide | exact la_87 | exact la_88 | exact la_90 | exact la_91 | exact la_92 | exact la_93 | exact la_94 | exact la_95 | exact la_96 | exact la_97 | exact la_98 | exact la_99 | exact la_10 | exact la_23 | exact la_77 | exact la_78 | exact la_18 | exact la_19 | exact la_20) only [u183_46, u183_49, u183_50, u183_51, u183_52, u183_55, u183_56, u183_59, u183_60, u183_61, u183_62, u183_65, u183_66, u183_67, u183_68, u183_71, u183_72, u183_73, u183_76, u183_77, h130, la_86, la_98, la_99, lt_99, lr_86_20, lr_86_21, kLt, true_and, v1, v2, v3, o_tl, o_inl, Nat.reduceLT, show ¬ (1 : Int32) = 0 by decide, not_false_eq_true, if_true]
          exact ⟨Or.inr trivial, h1⟩
        · have h0 := h0 _ _ (by unfold pT; rw [if_neg h6, if_pos f1, if_pos f2, if_neg f0]) hM3.1 hM3.2.2.1
          simp only [u183_46, u183_49, u183_50, not_true, if_false]
          exact ⟨Or.inl trivial, h0⟩
      · have h0 := h0 _ _ (by unfold pT; rw [if_neg h6, if_pos f1, if_neg f0]) hM2.1 hM2.2.2.1
        simp only [u183_35, u183_49, u183_50, if_true]
        exact ⟨Or.inl trivial, h0⟩
    · have h0 := h0 _ _ (by unfold pT; rw [if_neg h6, if_neg f0]) hM1.1 hM1.2.2.1
      simp only [u183_24, u183_49, u183_50, if_true]
      exact ⟨Or.inl trivial, h0⟩
theorem t184 (hT : TX I c z) (hq : q ≤ z) (hA : AV A) (hM : MS I c z A q Z) (h0 : ∀ p Z, pO c z q A = .inl p → Sc I Z → Z 86 16 = Int32.ofNat p → Rn m pc ls (.int 0 :: st) (Sg Z J) Q) (h1 : ∀ e A' Z, pO c z q A = .inr (e, A') → MS I c z A' e Z → Rn m pc ls (.int 1 :: st) (Sg Z J) Q) : Ca 184 [.ref 86] (Sg Z J) m pc ls st Q := by
  unfold Ca
  have g1 := en_c (c := c) hq
  have g2 := en_c (c := c) g1.2
  have e98 := hM.2.1
  by_cases h6 : A 1 = 6
  · have h0 := h0 _ _ (by unfold pO; rw [if_pos h6]) hM.1 hM.2.2.1
    clear hT hM h1 hA
    simp (disch := first | assumption | omega | decide | exact la_87 | exact la_88 | exact la_90 | exact la_91 | exact la_92 | exact la_93 | exact la_94 | exact la_95 | exact la_96 | exact la_97 | exact la_98 | exact la_99 | exact la_10 | exact la_23 | exact la_77 | exact la_78 | exact la_18 | exact la_19 | exact la_20) only [u184_0, u184_1, u184_4, u184_5, u184_6, u184_8, u184_11, u184_12, la_86, la_98, lt_98, lr_86_20, kLt, true_and, e98, h6, o_tl, o_inl, Nat.reduceLT, not_true, if_false]
    exact ⟨Or.inl trivial, h0⟩
  · have hM1 := MS_lk (c := c) (z := z) hM.1 hM.2.1 (en c z q)
    have h178 := fun (pc : Nat) (ls st : Vs) (Q : Option Value → Sto → Prop) => @c178 184 pc ls st I Z J Q c z q A hT hM hq
    simp (disch := first | decide | exact la_98) only [u184_0, u184_1, u184_4, u184_5, u184_6, u184_8, u184_11, u184_12, u184_13, u184_14, u184_17, u184_18, u184_19, u184_20, u184_22, h178, la_86, la_98, lt_98, lr_86_20, kLt, true_and, e98, h6, o_tl, o_inl, Nat.reduceLT, not_false_eq_true, if_true]
    refine c180' 0 0 7 (by decide) (by decide) hT hM1 g1.2 (fun f1 => ?_) (fun f0 => ?_)
    · simp (disch := decide) only [u184_25, u184_28, u184_29, u184_30, u184_31, u184_33, la_86, kLt, true_and, show ¬ (1 : Int32) = 0 by decide, if_false]
      have hM2 := MS_tk hM1 0 (vI c z (en c z q))
      have a0 := lk_99 (c := c) (z := z) (lkX c z Z (en c z q)) (upd (lkX c z Z (en c z q) 99) 0 (vI c z (en c z q))) (en c z (en c z q))
      generalize lkX c z (va_up (lkX c z Z (en c z q)) 99 (upd (lkX c z Z (en c z q) 99) 0 (vI c z (en c z q)))) (en c z (en c z q)) = Z2 at hM2 a0 ⊢
      have v1 : Z2 99 0 = vI c z (en c z q) := by rw [a0, ud_s]
      refine c180' 1 1 60 (by decide) (by decide) hT hM2 g2.2 (fun f2 => ?_) (fun f0 => ?_)
      · have hM3 := MS_tk hM2 1 (vI c z (en c z (en c z q)))
        have a1 := lk_99 (c := c) (z := z) Z2 (upd (Z2 99) 1 (vI c z (en c z (en c z q)))) (en c z (en c z (en c z q)))
        generalize lkX c z (va_up Z2 99 (upd (Z2 99) 1 (vI c z (en c z (en c z q))))) (en c z (en c z (en c z q))) = Z3 at hM3 a1 ⊢
        have v2 : Z3 99 1 = vI c z (en c z (en c z q)) := by rw [a1, ud_s]
        have v1 : Z3 99 0 = vI c z (en c z q) := by rw [a1, ud_o _ _ (by decide)]; exact v1
        have h1 := h1 _ _ _ (by unfold pO; rw [if_neg h6, if_pos f1, if_pos f2]) (hM3.u98 (woA A (vI c z (en c z q)) (vI c z (en c z (en c z q)))))
        have e98 := hM3.2.1
        obtain ⟨n, hn, en0⟩ := hA.2
        have hn6 := n6 hn en0 h6
        have e0 : Z3 98 1 = Int32.ofNat n := by rw [e98]; exact en0
        have h132 := fun (pc : Nat) (ls st : Vs) (x y : Int32) (Q : Option Value → Sto → Prop) => @c132 184 pc ls st Z3 J Q 98 la_98 (by decide) n hn6 e0 x y
        unfold woA at h1
        rw [en0, o_tn (by omega)] at h1
        rw [e98] at h132
        clear hM hM1 hM2 hM3 h0 h178 hT hA f1 f2
        simp (disch := first | assumption | omega | decide | exact la_87 | exact la_88 | exact la_90 | exact la_91 | exact la_92 | exact la_93 | exact la_94 | exact la_95 | exact la_96 | exact la_97 | exact la_98 | exact la_99 | exact la_10 | exact la_23 | exact la_77 | exact la_78 | exact la_18 | exact la_19 | exact la_20) only [u184_36, u184_39, u184_40, u184_41, u184_42, u184_45, u184_46, u184_49, u184_50, u184_51, u184_52, u184_55, u184_56, u184_57, u184_60, u184_61, h132, la_86, la_98, la_99, lt_99, lr_86_20, lr_86_21, kLt, true_and, v1, v2, o_tl, o_inl, Nat.reduceLT, show ¬ (1 : Int32) = 0 by decide, not_false_eq_true, if_true]
        exact ⟨Or.inr trivial, h1⟩
      · have h0 := h0 _ _ (by unfold pO; rw [if_neg h6, if_pos f1, if_neg f0]) hM2.1 hM2.2.2.1
        simp only [u184_36, u184_39, u184_40, not_true, if_false]
        exact ⟨Or.inl trivial, h0⟩
    · have h0 := h0 _ _ (by unfold pO; rw [if_neg h6, if_neg f0]) hM1.1 hM1.2.2.1
      simp only [u184_25, u184_39, u184_40, if_true]
      exact ⟨Or.inl trivial, h0⟩
theorem x_v : ∀ i, i < 6 → i < wln 0 → pk6 118 97 108 108 101 121 i = wg 0 i := by decide +kernel
theorem x_w : ∀ i, i < 6 → i < wln 1 → pk6 119 101 101 107 115 0 i = wg 1 i := by decide +kernel
theorem x_p : ∀ i, i < 6 → i < wln 2 → pk6 112 101 103 0 0 0 i = wg 2 i := by decide +kernel
theorem x_t : ∀ i, i < 6 → i < wln 3 → pk6 116 101 97 109 0 0 i = wg 3 i := by decide +kernel
theorem x_o : ∀ i, i < 6 → i < wln 4 → pk6 119 111 114 107 0 0 i = wg 4 i := by decide +kernel
theorem t185 (hT : TX I c z) (hq : q ≤ z) (hA : AV A) (hM : MS I c z A q Z) (h0 : ∀ p Z, pI c z q A = .inl p → Sc I Z → Z 86 16 = Int32.ofNat p → Rn m pc ls (.int 0 :: st) (Sg Z J) Q) (h1 : ∀ e A' Z, pI c z q A = .inr (e, A') → MS I c z A' e Z → Rn m pc ls (.int 1 :: st) (Sg Z J) Q) : Ca 185 [.ref 86] (Sg Z J) m pc ls st Q := by
  unfold Ca
  have w1 := fun (pc : Nat) (ls st : Vs) (Q : Option Value → Sto → Prop) => @c179 185 pc ls st I Z J Q c z q A 1 5 119 101 101 107 115 0 (by decide) (by decide) x_w hT hM hq
  have w2 := fun (pc : Nat) (ls st : Vs) (Q : Option Value → Sto → Prop) => @c179 185 pc ls st I Z J Q c z q A 2 3 112 101 103 0 0 0 (by decide) (by decide) x_p hT hM hq
  have w3 := fun (pc : Nat) (ls st : Vs) (Q : Option Value → Sto → Prop) => @c179 185 pc ls st I Z J Q c z q A 3 4 116 101 97 109 0 0 (by decide) (by decide) x_t hT hM hq
  have w4 := fun (pc : Nat) (ls st : Vs) (Q : Option Value → Sto → Prop) => @c179 185 pc ls st I Z J Q c z q A 4 4 119 111 114 107 0 0 (by decide) (by decide) x_o hT hM hq
  unfold pI at h0 h1
  simp (disch := decide) only [u185_0, u185_1, u185_2, u185_4, u185_6, u185_8, u185_10, u185_12, u185_13, u185_16, w1, la_86, kLt, true_and, bb_0]
  cases b1 : wm c z 1 q with
  | true =>
    rw [if_pos b1] at h0 h1
    simp (disch := decide) only [Bool.true_eq_false, if_false, u185_19, u185_20, la_86, kLt, true_and]
    refine t181 hT hq hM (fun p Z e1 e2 e3 => ?_) (fun e A' Z e1 e2 => ?_)
    · simp only [u185_23]
      exact ⟨Or.inl trivial, h0 p Z e1 e2 e3⟩
    · simp only [u185_23]
      exact ⟨Or.inr trivial, h1 e A' Z e1 e2⟩
  | false =>
    have b1 : ¬ wm c z 1 q = true := by rw [b1]; decide
    rw [if_neg b1] at h0 h1
    simp (disch := decide) only [if_true, u185_24, u185_25, u185_26, u185_28, u185_30, u185_32, u185_33, u185_34, u185_35, u185_38, w2, la_86, kLt, true_and, bb_0]
    cases b2 : wm c z 2 q with
    | true =>
      rw [if_pos b2] at h0 h1
      simp (disch := decide) only [Bool.true_eq_false, if_false, u185_41, u185_42, la_86, kLt, true_and]
      refine t182 hT hq hM (fun p Z e1 e2 e3 => ?_) (fun e A' Z e1 e2 => ?_)
      · simp only [u185_45]
        exact ⟨Or.inl trivial, h0 p Z e1 e2 e3⟩
      · simp only [u185_45]
        exact ⟨Or.inr trivial, h1 e A' Z e1 e2⟩
    | false =>
      have b2 : ¬ wm c z 2 q = true := by rw [b2]; decide
      rw [if_neg b2] at h0 h1
      simp (disch := decide) only [if_true, u185_46, u185_47, u185_48, u185_50, u185_52, u185_54, u185_56, u185_57, u185_58, u185_61, w3, la_86, kLt, true_and, bb_0]
      cases b3 : wm c z 3 q with
      | true =>
        rw [if_pos b3] at h0 h1
        simp (disch := decide) only [Bool.true_eq_false, if_false, u185_64, u185_65, la_86, kLt, true_and]
        refine t183 hT hq hA hM (fun p Z e1 e2 e3 => ?_) (fun e A' Z e1 e2 => ?_)
        · simp only [u185_68]
          exact ⟨Or.inl trivial, h0 p Z e1 e2 e3⟩
        · simp only [u185_68]
          exact ⟨Or.inr trivial, h1 e A' Z e1 e2⟩
      | false =>
        have b3 : ¬ wm c z 3 q = true := by rw [b3]; decide
        rw [if_neg b3] at h0 h1
        simp (disch := decide) only [if_true, u185_69, u185_70, u185_71, u185_73, u185_75, u185_77, u185_79, u185_80, u185_81, u185_84, w4, la_86, kLt, true_and, bb_0]
        cases b4 : wm c z 4 q with
        | true =>
          rw [if_pos b4] at h0 h1
          simp (disch := decide) only [Bool.true_eq_false, if_false, u185_87, u185_88, la_86, kLt, true_and]
          refine t184 hT hq hA hM (fun p Z e1 e2 e3 => ?_) (fun e A' Z e1 e2 => ?_)
          · simp only [u185_91, u185_98, u185_99, if_true]
            exact ⟨Or.inl trivial, h0 p Z e1 e2 e3⟩
          · simp only [u185_91, u185_94, u185_95, u185_99, show ¬ (1 : Int32) = 0 by decide, if_false]
            exact ⟨Or.inr trivial, h1 e A' Z e1 e2⟩
        | false =>
          have b4 : ¬ wm c z 4 q = true := by rw [b4]; decide
          rw [if_neg b4] at h0
          simp only [if_true, u185_98, u185_99]
          exact ⟨Or.inl trivial, h0 _ Z rfl hM.1 hM.2.2.1⟩
end TAKE
