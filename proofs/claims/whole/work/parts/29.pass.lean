/-! THE CLASS, 2: a turn -/
def mvW (W : Nat → Int32) (s o : Nat) (w : Int32) : Nat → Int32 := upd (upd W o (W o - mn w (mn (W o) (99 - W s)))) s (W s + mn w (mn (W o) (99 - W s)))
/-- the weeks behind the pulls of the teams below k -/
def gt (wh : Nat → Bool) (kd sg sn : Nat → Int32) (pg t : Int32) (W : Nat → Int32) (k : Nat) : Nat → Int32 := Nat.rec W (fun k W1 => if wh k = true ∧ ¬ src pg t (sn k) = -1 then mvW W1 (sn k).toNatClampNeg (src pg t (sn k)).toNatClampNeg (pl (kd k).toNatClampNeg (sg k) t (W1 (sn k).toNatClampNeg) (W1 (src pg t (sn k)).toNatClampNeg)) else W1) k
theorem gt_s (wh : Nat → Bool) (kd sg sn : Nat → Int32) (pg t : Int32) (W : Nat → Int32) (k : Nat) : gt wh kd sg sn pg t W (k + 1) = if wh k = true ∧ ¬ src pg t (sn k) = -1 then mvW (gt wh kd sg sn pg t W k) (sn k).toNatClampNeg (src pg t (sn k)).toNatClampNeg (pl (kd k).toNatClampNeg (sg k) t (gt wh kd sg sn pg t W k (sn k).toNatClampNeg) (gt wh kd sg sn pg t W k (src pg t (sn k)).toNatClampNeg)) else gt wh kd sg sn pg t W k := rfl
theorem up_s {α : Type} (I : Nat → α) (a : Nat) (f : α) : va_up I a f a = f := by simp [va_up]
theorem up_o {α : Type} (I : Nat → α) (f : α) {a b : Nat} (h : ¬ b = a) : va_up I a f b = I b := by simp [va_up, h]
theorem up_i {α : Type} (I : Nat → α) (a : Nat) : va_up I a (I a) = I := by
  funext b
  by_cases h : b = a
  · subst h; exact up_s _ _ _
  · exact up_o _ _ h
theorem up_u {α : Type} (I : Nat → α) (a : Nat) (f g : α) : va_up (va_up I a f) a g = va_up I a g := by
  funext b
  by_cases h : b = a
  · subst h; rw [up_s, up_s]
  · rw [up_o _ _ h, up_o _ _ h, up_o _ _ h]
theorem up_c {α : Type} (I : Nat → α) (f g : α) {a b : Nat} (h : ¬ a = b) : va_up (va_up I a f) b g = va_up (va_up I b g) a f := by
  funext c
  by_cases h1 : c = a
  · subst h1; rw [up_s, up_o _ _ h, up_s]
  · by_cases h2 : c = b
    · subst h2; rw [up_s, up_o _ _ h1, up_s]
    · rw [up_o _ _ h2, up_o _ _ h1, up_o _ _ h1, up_o _ _ h2]
theorem wI_d (I : Nat → Nat → Int32) (a k : Nat) (x : Int32) : wI I a k x = va_up I a (upd (I a) k x) := rfl
theorem ud_s (f : Nat → Int32) (k : Nat) (x : Int32) : upd f k x k = x := by simp [upd]
theorem ud_o (f : Nat → Int32) (x : Int32) {k j : Nat} (h : ¬ j = k) : upd f k x j = f j := by simp [upd, h]
theorem src_ok (pg t : Int32) {s : Nat} (hs : s < 8) (h : ¬ src pg t (Int32.ofNat s) = -1) : ∃ o, o < 8 ∧ src pg t (Int32.ofNat s) = Int32.ofNat o ∧ ¬ o = s := by
  unfold src at h ⊢
  generalize hX : (if t - t / 2 * 2 = 0 then Int32.ofNat s - 1 else Int32.ofNat s + 1) = x at h ⊢
  by_cases hc : (0 ≤ x ∧ x ≤ 7) ∧ pg >>> (mn (Int32.ofNat s) x &&& 31) &&& 1 = 0
  · rw [if_pos hc]
    obtain ⟨o, ho, he⟩ := o_in (m := 7) hc.1.1 hc.1.2 (by omega)
    refine ⟨o, by omega, he, ?_⟩
    rintro rfl
    rw [he] at hX
    by_cases h2 : t - t / 2 * 2 = 0
    · rw [if_pos h2] at hX
      have h1 := congrArg (fun z : Int32 => z + 1) hX
      simp only [Int32.sub_add_cancel, o_al] at h1
      rw [o_eq (by omega) (by omega)] at h1
      omega
    · rw [if_neg h2] at hX
      simp only [o_al] at hX
      rw [o_eq (by omega) (by omega)] at hX
      omega
  · rw [if_neg hc] at h
    exact absurd rfl h
theorem Rn_fr {m h n : Nat} {X : Type} {Q : Option Value → Sto → Prop} {l0 : Vs} {σ0 : Sto} (L : Nat → X → Vs) (S : Nat → X → Sto) (x : X) (hl : l0 = L 0 x) (hσ : σ0 = S 0 x) (hs : ∀ k, k < n → ∀ x, (∀ x', Rn m h (L (k + 1) x') [] (S (k + 1) x') Q) → Rn m h (L k x) [] (S k x) Q) (he : ∀ x, Rn m h (L n x) [] (S n x) Q) : Rn m h l0 [] σ0 Q := by
  subst hl hσ
  exact Rn_for L S hs he (Nat.zero_le n) x
theorem Sg_i (I : Nat → Nat → Int32) (J : Nat → Nat → Int64) (a : Nat) : Sg I J = Sg (va_up I a (I a)) J := by rw [up_i]
section PASS
variable {m pc : Nat} {ls st : Vs} {σ : Sto} {I : Nat → Nat → Int32} {J : Nat → Nat → Int64} {Q : Option Value → Sto → Prop}
theorem isT_f {t : Nat} (h : isT t) : kA t 7 ∧ kA (t + 1) 20 ∧ (tg (t + 1)).2 = 18 ∧ rf t 0 = t + 1 ∧ kL t ∧ kL (t + 1) := ⟨⟨by omega, h.2.1⟩, ⟨by omega, by rw [h.2.2.2]⟩, by rw [h.2.2.2], h.2.2.1, Or.inl (by omega), Or.inl (by omega)⟩
theorem c35 (t : Nat) (ht : isT t) (r c : Int32) : Ca 35 [.ref t, .int r, .int c] (Sg I J) m pc ls st Q ↔ inb (r * 3 + c) 18 ∧ Rn m pc ls (.int (I (t + 1) (r * 3 + c).toNatClampNeg) :: st) (Sg I J) Q := by
  obtain ⟨f1, f2, f3, f4, f5, f6⟩ := isT_f ht
  unfold Ca
  simp only [u35_0, u35_1, u35_4, u35_5, u35_6, u35_7, u35_8, u35_9, u35_10, f1, f2, f3, f4, f5, f6, true_and]
  rfl
theorem c58 (y : Nat) (hy : isY y) (o s : Nat) (ho : o < 8) (hs : s < 8) (hos : ¬ o = s) (w : Int32) : Ca 58 [.ref y, .int (Int32.ofNat o), .int (Int32.ofNat s), .int w, .null] (Sg I J) m pc ls st Q ↔ Rn m pc ls st (Sg (va_up I (y + 1) (mvW (I (y + 1)) s o w)) J) Q := Ca_of (r := none) (fun Q h => by
  obtain ⟨f1, f2, f3, f4, f5, f6⟩ := isY_f hy
  have e1 : (Int32.ofNat o).toNatClampNeg = o := o_tn (by omega)
  have e2 : (Int32.ofNat s).toNatClampNeg = s := o_tn (by omega)
  have e3 : inb (Int32.ofNat o) 8 := (o_inb (by omega)).mpr ho
  have e4 : inb (Int32.ofNat s) 8 := (o_inb (by omega)).mpr hs
  have e5 : ¬ s = o := fun q => hos q.symm
  simp only [u58_0, u58_1, u58_2, u58_5, u58_6, u58_7, u58_9, u58_10, u58_13, u58_14, u58_15, u58_16, u58_19, u58_22, u58_24, u58_25, u58_28, u58_29, u58_30, u58_31, u58_33, u58_34, u58_35, u58_36, u58_39, u58_40, u58_41, u58_42, u58_44, u58_45, u58_46, c198, f1, f2, f3, f4, f5, f6, e1, e2, e3, e4, true_and, wI_d, up_s, up_u, ud_o _ _ e5]
  exact h)
theorem isV_f {v : Nat} (h : isV v) : kA v 9 ∧ kL v ∧ isY (v + 1) ∧ isT (v + 3) ∧ isT (v + 5) ∧ isT (v + 7) ∧ isP (v + 9) ∧ (kA (v + 1) 10 ∧ kA (v + 2) 20 ∧ (tg (v + 2)).2 = 8 ∧ rf (v + 1) 0 = v + 2 ∧ kL (v + 1) ∧ kL (v + 2)) ∧ (kA (v + 3) 7 ∧ kA (v + 4) 20 ∧ (tg (v + 4)).2 = 18 ∧ rf (v + 3) 0 = v + 4 ∧ kL (v + 3) ∧ kL (v + 4)) ∧ (kA (v + 5) 7 ∧ kA (v + 6) 20 ∧ (tg (v + 6)).2 = 18 ∧ rf (v + 5) 0 = v + 6 ∧ kL (v + 5) ∧ kL (v + 6)) ∧ (kA (v + 7) 7 ∧ kA (v + 8) 20 ∧ (tg (v + 8)).2 = 18 ∧ rf (v + 7) 0 = v + 8 ∧ kL (v + 7) ∧ kL (v + 8)) ∧ rf v 0 = 1 ∧ rf v 1 = v + 1 ∧ rf v 2 = v + 3 ∧ rf v 3 = v + 5 ∧ rf v 4 = v + 7 ∧ rf v 5 = v + 9 := by
  obtain ⟨h0, h1, r0, r1, r2, r3, r4, r5, hy, ht1, ht2, ht3, hp⟩ := h
  exact ⟨⟨by omega, h1⟩, Or.inl (by omega), hy, ht1, ht2, ht3, hp, isY_f hy, isT_f ht1, isT_f ht2, isT_f ht3, r0, r1, r2, r3, r4, r5⟩
theorem c44 (v : Nat) (hv : isV v) (k : Nat) (hk : k < 6) : Ca 44 [.ref v, .int (Int32.ofNat k)] (Sg I J) m pc ls st Q ↔ Rn m pc ls (.int (src (I (v + 1) 1) (I (v + 1) 2) (I (v + 4) (k * 3 + 2))) :: st) (Sg I J) Q := Ca_of (r := some (.int (src (I (v + 1) 1) (I (v + 1) 2) (I (v + 4) (k * 3 + 2))))) (fun Q h => by
  obtain ⟨f1, f2, hy, ht1, ht2, ht3, hp, ⟨y1, y2, y3, y4, y5, y6⟩, ⟨t1, t2, t3, t4, t5, t6⟩, ⟨w1, w2, w3, w4, w5, w6⟩, ⟨m1, m2, m3, m4, m5, m6⟩, r0, r1, r2, r3, r4, r5⟩ := isV_f hv
  simp (disch := omega) only [u44_0, u44_1, u44_4, u44_5, u44_8, u44_9, u44_10, u44_13, u44_16, c35 _ ht1, c57 _ hy, f1, f2, r1, r2, y5, t5, t1, y1, true_and, o_aa, o_al, o_la, o_mm, o_ml, o_lm, o_ss, o_sl, o_ls, o_tn, o_tl, o_lt, o_ltl, o_llt, o_le, o_lel, o_lle, o_eq, o_eql, o_leq, o_inb, o_inl, o_neg, show k * 3 + 2 < 18 by omega]
  exact h)
theorem lk1 : kR 1 := lk_1
theorem c45 (v : Nat) (hv : isV v) (k o s c : Nat) (hk : k < 6) (ho : o < 8) (hs : s < 8) (hc : c < 6) (es : I (v + 4) (k * 3 + 2) = Int32.ofNat s) (ec : I (v + 4) (k * 3) = Int32.ofNat c) : Ca 45 [.ref v, .int (Int32.ofNat k), .int (Int32.ofNat o), .null, .null] (Sg I J) m pc ls st Q ↔ Rn m pc ls (.int (pl c (I (v + 4) (k * 3 + 1)) (I (v + 1) 2) (I (v + 2) s) (I (v + 2) o)) :: st) (Sg I J) Q := Ca_of (r := some (.int (pl c (I (v + 4) (k * 3 + 1)) (I (v + 1) 2) (I (v + 2) s) (I (v + 2) o)))) (fun Q h => by
  obtain ⟨f1, f2, hy, ht1, ht2, ht3, hp, ⟨y1, y2, y3, y4, y5, y6⟩, ⟨t1, t2, t3, t4, t5, t6⟩, ⟨w1, w2, w3, w4, w5, w6⟩, ⟨m1, m2, m3, m4, m5, m6⟩, r0, r1, r2, r3, r4, r5⟩ := isV_f hv
  simp (disch := omega) only [u45_0, u45_1, u45_4, u45_5, u45_6, u45_9, u45_10, u45_11, u45_14, u45_15, u45_18, u45_19, u45_20, u45_23, u45_24, u45_26, u45_28, u45_29, u45_32, u45_33, u45_34, u45_37, u45_38, u45_41, u45_44, u45_45, u45_48, u45_51, u45_52, u45_53, u45_54, u45_57, u45_60, u45_61, c35 _ ht1, f1, f2, r0, r1, r2, y1, y2, y3, y4, y5, y6, t5, t1, true_and, o_aa, o_al, o_la, o_mm, o_ml, o_lm, o_ss, o_sl, o_ls, o_tn, o_tl, o_lt, o_ltl, o_llt, o_le, o_lel, o_lle, o_eq, o_eql, o_leq, o_inb, o_inl, o_neg, show k * 3 + 2 < 18 by omega, show k * 3 + 1 < 18 by omega, show k * 3 < 18 by omega, Nat.add_zero, es, ec, lk_1, lt_1, hc, ho, hs]
  obtain rfl | rfl | rfl | rfl | rfl | rfl : c = 0 ∨ c = 1 ∨ c = 2 ∨ c = 3 ∨ c = 4 ∨ c = 5 := by omega
  · simp only [lr_1_0, kLt (show 2 < 1000 by omega), true_and, u45_62_5 _ _ _ _ _ la_2, c14, u45_65]
    exact h
  · simp only [lr_1_1, kLt (show 3 < 1000 by omega), true_and, u45_62_1 _ _ _ _ _ la_3, c3 _ lo_3, u45_65]
    exact h
  · simp only [lr_1_2, kLt (show 4 < 1000 by omega), true_and, u45_62_0 _ _ _ _ _ la_4, c1 _ lo_4, u45_65]
    exact h
  · simp only [lr_1_3, kLt (show 5 < 1000 by omega), true_and, u45_62_3 _ _ _ _ _ la_5, c7 _ lo_5, u45_65]
    exact h
  · simp only [lr_1_4, kLt (show 6 < 1000 by omega), true_and, u45_62_8 _ _ _ _ _ la_6, c40 _ lo_6, u45_65]
    exact h
  · simp only [lr_1_5, kLt (show 7 < 1000 by omega), true_and, u45_62_2 _ _ _ _ _ la_7, c5 _ lo_7, u45_65]
    exact h)
/-- the teams of a valley -/
abbrev Tm (I : Nat → Nat → Int32) (v n : Nat) : Prop := n ≤ 6 ∧ I (v + 3) 1 = Int32.ofNat n ∧ ∀ k, k < n → (∃ c, c < 6 ∧ I (v + 4) (k * 3) = Int32.ofNat c) ∧ (∃ s, s < 8 ∧ I (v + 4) (k * 3 + 2) = Int32.ofNat s)
/-- the weeks of a valley behind a turn -/
abbrev gtV (I : Nat → Nat → Int32) (v : Nat) (who : Int32) (k : Nat) : Nat → Int32 := gt (fun j => decide (¬ who &&& (1 <<< (Int32.ofNat j &&& 31)) = 0)) (fun j => I (v + 4) (j * 3)) (fun j => I (v + 4) (j * 3 + 1)) (fun j => I (v + 4) (j * 3 + 2)) (I (v + 1) 1) (I (v + 1) 2) (I (v + 2)) k
abbrev paI (I : Nat → Nat → Int32) (v : Nat) (who : Int32) (n : Nat) : Nat → Nat → Int32 := va_up (va_up I (v + 2) (gtV I v who n)) (v + 1) (upd (I (v + 1)) 2 (I (v + 1) 2 + 1))
theorem c46 (v : Nat) (hv : isV v) (who : Int32) (n : Nat) (hT : Tm I v n) : Ca 46 [.ref v, .int who, .null, .null] (Sg I J) m pc ls st Q ↔ Rn m pc ls st (Sg (paI I v who n) J) Q := Ca_of (r := none) (fun Q h => by
  obtain ⟨f1, f2, hy, ht1, ht2, ht3, hp, ⟨y1, y2, y3, y4, y5, y6⟩, ⟨t1, t2, t3, t4, t5, t6⟩, ⟨w1, w2, w3, w4, w5, w6⟩, ⟨m1, m2, m3, m4, m5, m6⟩, r0, r1, r2, r3, r4, r5⟩ := isV_f hv
  obtain ⟨hn, hT1, hT2⟩ := hT
  simp only [u46_0, u46_1]
  refine Rn_fr (n := n) (X := Value) (fun k x => [.ref v, .int who, .int (Int32.ofNat k), x]) (fun k x => Sg (va_up I (v + 2) (gtV I v who k)) J) .null rfl (Sg_i I J (v + 2)) ?_ ?_
  · intro k hk x ih
    obtain ⟨⟨c, hc, ec⟩, ⟨s, hs, es⟩⟩ := hT2 k hk
    have es1 : (va_up I (v + 2) (gtV I v who k)) (v + 4) (k * 3 + 2) = Int32.ofNat s := by rw [up_o _ _ (by omega)]; exact es
    have ec1 : (va_up I (v + 2) (gtV I v who k)) (v + 4) (k * 3) = Int32.ofNat c := by rw [up_o _ _ (by omega)]; exact ec
    have ih1 := ih x
    have hnk : ¬ n ≤ k := by omega
    simp only [gtV, gt_s, es, ec] at ih ih1
    simp (disch := omega) only [u46_2, u46_3, u46_4, u46_7, u46_10, u46_13, u46_14, u46_15, u46_16, u46_17, u46_18, u46_21, u46_24, u46_25, u46_26, u46_29, u46_30, u46_31, u46_32, u46_35, u46_36, u46_39, u46_40, u46_41, u46_44, u46_45, u46_46, u46_49, u46_50, u46_51, u46_52, u46_55, u46_58, c35 _ ht1, c44 v hv, f1, f2, r0, r1, r2, y1, y5, t1, t5, true_and, up_o, hT1, o_aa, o_al, o_la, o_mm, o_ml, o_lm, o_ss, o_sl, o_ls, o_tn, o_tl, o_lt, o_ltl, o_llt, o_le, o_lel, o_lle, o_eq, o_eql, o_leq, o_inb, o_inl, o_neg, hk, hnk, if_true, if_false, es, show k * 3 + 2 < 18 by omega]
    by_cases hw : who &&& (1 <<< (Int32.ofNat k &&& 31)) = 0
    · simp only [hw, not_true, if_false, decide_false, Bool.false_eq_true, false_and] at ih1 ⊢
      exact (u46_61 ..).mpr ih1
    · by_cases hq : src (I (v + 1) 1) (I (v + 1) 2) (Int32.ofNat s) = -1
      · simp only [hw, hq, not_false_eq_true, not_true, and_false, if_true, if_false] at ih ⊢
        exact (u46_61 ..).mpr (ih _)
      · obtain ⟨o, ho, eo, hos⟩ := src_ok _ _ hs hq
        have hno : ¬ Int32.ofNat o = -1 := by rw [← eo]; exact hq
        simp (disch := omega) only [hw, hno, eo, not_false_eq_true, not_true, and_true, true_and, decide_true, if_true, if_false, o_aa, o_al, o_la, o_mm, o_ml, o_lm, o_ss, o_sl, o_ls, o_tn, o_tl, o_lt, o_ltl, o_llt, o_le, o_lel, o_lle, o_eq, o_eql, o_leq, o_inb, o_inl, o_neg] at ih ⊢
        simp (disch := omega) only [c45 v hv k o s c (by omega) ho hs hc es1 ec1, c58 _ hy o s ho hs hos, u46_2, u46_3, u46_4, u46_7, u46_10, u46_13, u46_14, u46_15, u46_16, u46_17, u46_18, u46_21, u46_24, u46_25, u46_26, u46_29, u46_30, u46_31, u46_32, u46_35, u46_36, u46_39, u46_40, u46_41, u46_44, u46_45, u46_46, u46_49, u46_50, u46_51, u46_52, u46_55, u46_58, up_o, up_s, up_u, y1, true_and, o_aa, o_al, o_la, o_mm, o_ml, o_lm, o_ss, o_sl, o_ls, o_tn, o_tl, o_lt, o_ltl, o_llt, o_le, o_lel, o_lle, o_eq, o_eql, o_leq, o_inb, o_inl, o_neg, Nat.add_assoc, Nat.reduceAdd]
        exact (u46_61 ..).mpr (ih _)
  · intro x
    simp (disch := omega) only [u46_0, u46_1, u46_2, u46_3, u46_4, u46_7, u46_10, u46_13, u46_14, u46_15, u46_16, u46_17, u46_18, u46_21, u46_24, u46_25, u46_26, u46_29, u46_30, u46_31, u46_32, u46_35, u46_36, u46_39, u46_40, u46_41, u46_44, u46_45, u46_46, u46_49, u46_50, u46_51, u46_52, u46_55, u46_58, u46_64, u46_65, u46_68, u46_69, u46_72, u46_73, u46_74, u46_77, f1, f2, r1, r2, y1, y5, t1, true_and, up_o, hT1, o_aa, o_al, o_la, o_mm, o_ml, o_lm, o_ss, o_sl, o_ls, o_tn, o_tl, o_lt, o_ltl, o_llt, o_le, o_lel, o_lle, o_eq, o_eql, o_leq, o_inb, o_inl, o_neg, Nat.lt_irrefl, Nat.le_refl, if_true, wI_d, up_s]
    exact h)
end PASS
