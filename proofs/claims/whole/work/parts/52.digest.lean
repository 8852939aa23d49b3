/-! THE CALL: digest -/
def hs (h : Int64) (F : Nat → Int32) (k : Nat) : Int64 := Nat.rec h (fun j t => 31 * t + (F j).toInt64) k
theorem hs_s (h : Int64) (F : Nat → Int32) (k : Nat) : hs h F (k + 1) = 31 * hs h F k + (F k).toInt64 := rfl
theorem hs_eq {F G : Nat → Int32} {n : Nat} (h : Int64) (he : ∀ j, j < n → F j = G j) : ∀ k, k ≤ n → hs h F k = hs h G k := by
  intro k
  induction k with
  | zero => intro _; rfl
  | succ k ih => intro hk; rw [hs_s, hs_s, ih (by omega), he k (by omega)]
theorem hs_add (h : Int64) (F : Nat → Int32) (a : Nat) : ∀ b, hs h F (a + b) = hs (hs h F a) (fun j => F (a + j)) b := by
  intro b
  induction b with
  | zero => rfl
  | succ b ih => rw [show a + (b + 1) = (a + b) + 1 from rfl, hs_s, hs_s, ih]
def hs2 (h : Int64) (G : Nat → Nat → Int32) (c n : Nat) : Int64 := Nat.rec h (fun k t => hs t (G k) c) n
theorem hs2_s (h : Int64) (G : Nat → Nat → Int32) (c n : Nat) : hs2 h G c (n + 1) = hs (hs2 h G c n) (G n) c := rfl
theorem hs_flat {G : Nat → Nat → Int32} {F : Nat → Int32} {c n : Nat} (h : Int64) (he : ∀ k, k < n → ∀ j, j < c → F (c * k + j) = G k j) : ∀ k, k ≤ n → hs h F (c * k) = hs2 h G c k := by
  intro k
  induction k with
  | zero => intro _; rfl
  | succ k ih =>
    intro hk
    rw [hs2_s, ← ih (by omega), show c * (k + 1) = c * k + c from Nat.mul_succ c k, hs_add]
    exact hs_eq (n := c) _ (fun j hj => he k (by omega) j hj) c (Nat.le_refl c)
section DIG
variable {m pc : Nat} {ls st : Vs} {σ : Sto} {I : Nat → Nat → Int32} {J : Nat → Nat → Int64} {Q : Option Value → Sto → Prop}
theorem c102 (h v : Int64) : Ca 102 [.long h, .null, .long v, .null] σ m pc ls st Q ↔ Rn m pc ls (.long (31 * h + v) :: st) σ Q := Ca_of (r := some (.long (31 * h + v))) (fun Q hq => by
  simp only [u102_0, u102_3, u102_4, u102_5, u102_6, u102_7]
  exact hq)
theorem c194 (f N : Nat) (hf : f + N ≤ 142) (h0 : Int64) : Ca 194 [.ref 86, .long h0, .null, .int (Int32.ofNat f), .int (Int32.ofNat N), .null, .null, .null] (Sg I J) m pc ls st Q ↔ Rn m pc ls (.long (hs h0 (fun j => I 87 (f + j)) N) :: st) (Sg I J) Q := Ca_of (r := some (.long (hs h0 (fun j => I 87 (f + j)) N))) (fun Q hq => by
  simp only [u194_0, u194_1, u194_3, u194_4]
  refine Rn_fr (n := N) (X := Unit) (fun k _ => [.ref 86, .long h0, .null, .int (Int32.ofNat f), .int (Int32.ofNat N), .long (hs h0 (fun j => I 87 (f + j)) k), .null, .int (Int32.ofNat k)]) (fun k _ => Sg I J) () rfl rfl ?_ ?_
  · intro k hk _ ih
    have ih := ih ()
    rw [hs_s] at ih
    have hnk : ¬ N ≤ k := by omega
    simp (disch := first | assumption | omega | decide | exact la_87 | exact la_88 | exact la_90 | exact la_91 | exact la_92 | exact la_93 | exact la_94 | exact la_95 | exact la_96 | exact la_97 | exact la_98 | exact la_99 | exact la_10 | exact la_23 | exact la_77 | exact la_78 | exact la_18 | exact la_19 | exact la_20) only [u194_6, u194_8, u194_10, u194_13, u194_16, u194_18, u194_19, u194_20, u194_23, u194_24, u194_26, u194_27, u194_28, u194_29, u194_30, u194_32, u194_38, u194_40, la_86, la_87, lt_87, lr_86_0, kLt, true_and, o_aa, o_al, o_la, o_mm, o_ml, o_lm, o_ss, o_sl, o_ls, o_tn, o_tl, o_lt, o_ltl, o_llt, o_le, o_lel, o_lle, o_eq, o_eql, o_leq, o_inb, o_inl, o_neg, hnk, if_false, show f + k < 142 by omega]
    exact (u194_35 ..).mpr ih
  · intro _
    simp (disch := first | assumption | omega | decide | exact la_87 | exact la_88 | exact la_90 | exact la_91 | exact la_92 | exact la_93 | exact la_94 | exact la_95 | exact la_96 | exact la_97 | exact la_98 | exact la_99 | exact la_10 | exact la_23 | exact la_77 | exact la_78 | exact la_18 | exact la_19 | exact la_20) only [u194_6, u194_8, u194_10, u194_13, u194_16, u194_18, u194_19, u194_20, u194_23, u194_24, u194_26, u194_27, u194_28, u194_29, u194_30, u194_32, u194_38, u194_40, o_aa, o_al, o_la, o_mm, o_ml, o_lm, o_ss, o_sl, o_ls, o_tn, o_tl, o_lt, o_ltl, o_llt, o_le, o_lel, o_lle, o_eq, o_eql, o_leq, o_inb, o_inl, o_neg, Nat.le_refl, if_true]
    exact hq)
theorem c38 (t : Nat) (ht : isT t) (n c : Nat) (hn : n ≤ 6) (hc : c ≤ 3) (en : I t 1 = Int32.ofNat n) (h0 : Int64) : Ca 38 [.ref t, .long h0, .null, .int (Int32.ofNat c), .null, .null, .null, .null] (Sg I J) m pc ls st Q ↔ Rn m pc ls (.long (hs2 h0 (fun k j => I (t + 1) (k * 3 + j)) c n) :: st) (Sg I J) Q := Ca_of (r := some (.long (hs2 h0 (fun k j => I (t + 1) (k * 3 + j)) c n))) (fun Q hq => by
  have hcell := fun (pc : Nat) (ls st : Vs) (r q : Int32) => @c35 38 pc ls st I J Q t ht r q
  obtain ⟨f1, f2, f3, f4, f5, f6⟩ := isT_f ht
  clear ht
  simp only [u38_0, u38_1, u38_3, u38_4]
  refine Rn_fr (n := n) (X := Value) (fun k x => [.ref t, .long h0, .null, .int (Int32.ofNat c), .long (hs2 h0 (fun k j => I (t + 1) (k * 3 + j)) c k), .null, .int (Int32.ofNat k), x]) (fun k _ => Sg I J) .null rfl rfl ?_ ?_
  · intro k hk x ih
    have hnk : ¬ n ≤ k := by omega
    simp only [hs2_s] at ih
    simp (disch := first | assumption | omega | decide | exact la_87 | exact la_88 | exact la_90 | exact la_91 | exact la_92 | exact la_93 | exact la_94 | exact la_95 | exact la_96 | exact la_97 | exact la_98 | exact la_99 | exact la_10 | exact la_23 | exact la_77 | exact la_78 | exact la_18 | exact la_19 | exact la_20) only [u38_6, u38_8, u38_9, u38_12, u38_15, u38_16, f1, f5, true_and, en, o_aa, o_al, o_la, o_mm, o_ml, o_lm, o_ss, o_sl, o_ls, o_tn, o_tl, o_lt, o_ltl, o_llt, o_le, o_lel, o_lle, o_eq, o_eql, o_leq, o_inb, o_inl, o_neg, hnk, if_false]
    generalize hs2 h0 (fun k j => I (t + 1) (k * 3 + j)) c k = h1 at ih ⊢
    refine Rn_fr (n := c) (X := Unit) (fun j _ => [.ref t, .long h0, .null, .int (Int32.ofNat c), .long (hs h1 (fun j => I (t + 1) (k * 3 + j)) j), .null, .int (Int32.ofNat k), .int (Int32.ofNat j)]) (fun k _ => Sg I J) () rfl rfl ?_ ?_
    · intro j hj _ ihj
      have ihj := ihj ()
      rw [hs_s] at ihj
      have hnj : ¬ c ≤ j := by omega
      simp (disch := first | assumption | omega | decide | exact la_87 | exact la_88 | exact la_90 | exact la_91 | exact la_92 | exact la_93 | exact la_94 | exact la_95 | exact la_96 | exact la_97 | exact la_98 | exact la_99 | exact la_10 | exact la_23 | exact la_77 | exact la_78 | exact la_18 | exact la_19 | exact la_20) only [u38_18, u38_20, u38_21, u38_24, u38_26, u38_27, u38_29, u38_31, u38_34, u38_35, u38_38, u38_40, hcell, c102, f5, f1, true_and, o_aa, o_al, o_la, o_mm, o_ml, o_lm, o_ss, o_sl, o_ls, o_tn, o_tl, o_lt, o_ltl, o_llt, o_le, o_lel, o_lle, o_eq, o_eql, o_leq, o_inb, o_inl, o_neg, hnj, if_false, show k * 3 + j < 18 by omega]
      exact (u38_43 ..).mpr ihj
    · intro _
      simp (disch := first | assumption | omega | decide | exact la_87 | exact la_88 | exact la_90 | exact la_91 | exact la_92 | exact la_93 | exact la_94 | exact la_95 | exact la_96 | exact la_97 | exact la_98 | exact la_99 | exact la_10 | exact la_23 | exact la_77 | exact la_78 | exact la_18 | exact la_19 | exact la_20) only [u38_18, u38_20, u38_21, u38_46, o_aa, o_al, o_la, o_mm, o_ml, o_lm, o_ss, o_sl, o_ls, o_tn, o_tl, o_lt, o_ltl, o_llt, o_le, o_lel, o_lle, o_eq, o_eql, o_leq, o_inb, o_inl, o_neg, Nat.le_refl, if_true]
      exact (u38_49 ..).mpr (ih _)
  · intro x
    simp (disch := first | assumption | omega | decide | exact la_87 | exact la_88 | exact la_90 | exact la_91 | exact la_92 | exact la_93 | exact la_94 | exact la_95 | exact la_96 | exact la_97 | exact la_98 | exact la_99 | exact la_10 | exact la_23 | exact la_77 | exact la_78 | exact la_18 | exact la_19 | exact la_20) only [u38_6, u38_8, u38_9, u38_12, u38_52, u38_54, f1, f5, true_and, en, o_aa, o_al, o_la, o_mm, o_ml, o_lm, o_ss, o_sl, o_ls, o_tn, o_tl, o_lt, o_ltl, o_llt, o_le, o_lel, o_lle, o_eq, o_eql, o_leq, o_inb, o_inl, o_neg, Nat.le_refl, if_true]
    exact hq)
end DIG
