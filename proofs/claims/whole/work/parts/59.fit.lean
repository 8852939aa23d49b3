/-! WHAT FITS the measured weeks -/
def bb (b : Bool) : Int32 := if b = true then 1 else 0
theorem bb_0 (b : Bool) : bb b = 0 ↔ b = false := by cases b <;> decide
theorem bb_1 (b : Bool) : (bb b = 0 ∨ bb b = 1) ↔ True := by cases b <;> decide
section PURE
variable (W1 : Nat → Int32) (W : Nat → Nat → Int32) (t s : Nat → Nat) (w : Nat → Int32)
def amf (m d : Nat) : Nat → Bool := Nat.rec (fun _ => true) (fun _ f r => if t r = m ∧ ¬ W1 (s r) = w r then false else f (r + 1)) d
theorem amf_s (m d r : Nat) : amf W1 t s w m (d + 1) r = if t r = m ∧ ¬ W1 (s r) = w r then false else amf W1 t s w m d (r + 1) := rfl
theorem amf_iff (m : Nat) : ∀ d r, amf W1 t s w m d r = true ↔ ∀ q, r ≤ q → q < r + d → t q = m → W1 (s q) = w q := by
  intro d
  induction d with
  | zero => intro r; exact ⟨fun _ q h1 h2 => by omega, fun _ => rfl⟩
  | succ d ih =>
    intro r
    rw [amf_s]
    by_cases h : t r = m ∧ ¬ W1 (s r) = w r
    · rw [if_pos h]
      constructor
      · intro q; cases q
      · intro f; exact absurd (f r (Nat.le_refl r) (by omega) h.1) h.2
    · rw [if_neg h, ih]
      constructor
      · intro f q h1 h2 h3
        by_cases hq : q = r
        · subst hq
          exact Classical.not_not.mp (fun z => h ⟨h3, z⟩)
        · exact f q (by omega) (by omega) h3
      · intro f q h1 h2; exact f q (by omega) (by omega)
def pmf (n3 d : Nat) : Nat → Bool := Nat.rec (fun _ => true) (fun _ f m => if amf (W m) t s w m n3 0 = true then f (m + 1) else false) d
theorem pmf_s (n3 d m : Nat) : pmf W t s w n3 (d + 1) m = if amf (W m) t s w m n3 0 = true then pmf W t s w n3 d (m + 1) else false := rfl
theorem pmf_iff (n3 : Nat) : ∀ d m, pmf W t s w n3 d m = true ↔ ∀ q, m ≤ q → q < m + d → amf (W q) t s w q n3 0 = true := by
  intro d
  induction d with
  | zero => intro r; exact ⟨fun _ q h1 h2 => by omega, fun _ => rfl⟩
  | succ d ih =>
    intro m
    rw [pmf_s]
    by_cases h : amf (W m) t s w m n3 0 = true
    · rw [if_pos h, ih]
      constructor
      · intro f q h1 h2
        by_cases hq : q = m
        · subst hq; exact h
        · exact f q (by omega) (by omega)
      · intro f q h1 h2; exact f q (by omega) (by omega)
    · rw [if_neg h]
      constructor
      · intro q; cases q
      · intro f; exact absurd (f m (Nat.le_refl m) (by omega)) h
def cbf (d : Nat) : Nat → Bool := Nat.rec (fun _ => true) (fun _ f r => if W (t r) (s r) = w r then f (r + 1) else false) d
theorem cbf_s (d r : Nat) : cbf W t s w (d + 1) r = if W (t r) (s r) = w r then cbf W t s w d (r + 1) else false := rfl
theorem cbf_iff : ∀ d r, cbf W t s w d r = true ↔ ∀ q, r ≤ q → q < r + d → W (t q) (s q) = w q := by
  intro d
  induction d with
  | zero => intro r; exact ⟨fun _ q h1 h2 => by omega, fun _ => rfl⟩
  | succ d ih =>
    intro m
    rw [cbf_s]
    by_cases h : W (t m) (s m) = w m
    · rw [if_pos h, ih]
      constructor
      · intro f q h1 h2
        by_cases hq : q = m
        · subst hq; exact h
        · exact f q (by omega) (by omega)
      · intro f q h1 h2; exact f q (by omega) (by omega)
    · rw [if_neg h]
      constructor
      · intro q; cases q
      · intro f; exact absurd (f m (Nat.le_refl m) (by omega)) h
theorem fit_eq {n3 L : Nat} (h : ∀ r, r < n3 → t r < L) : pmf W t s w n3 L 0 = cbf W t s w n3 0 := by
  rw [Bool.eq_iff_iff, pmf_iff, cbf_iff]
  constructor
  · intro f q h1 h2
    exact (amf_iff (W (t q)) t s w (t q) n3 0).mp (f (t q) (Nat.zero_le _) (by have := h q (by omega); omega)) q h1 h2 rfl
  · intro f q h1 h2
    rw [amf_iff]
    intro r h3 h4 h5
    rw [← h5]
    exact f r h3 h4
def Lm (k : Nat) : Nat := Nat.rec 0 (fun r L => max L (t r + 1)) k
theorem Lm_s (k : Nat) : Lm t (k + 1) = max (Lm t k) (t k + 1) := rfl
theorem Lm_lt : ∀ k r, r < k → t r < Lm t k := by
  intro k
  induction k with
  | zero => intro r h; omega
  | succ k ih =>
    intro r h
    rw [Lm_s]
    by_cases hr : r = k
    · subst hr; omega
    · have := ih r (by omega); omega
theorem Lm_le {n3 : Nat} (h : ∀ r, r < n3 → t r ≤ 20) : ∀ k, k ≤ n3 → Lm t k ≤ 21 := by
  intro k
  induction k with
  | zero => intro _; exact Nat.zero_le _
  | succ k ih =>
    intro hk
    rw [Lm_s]
    have := ih (by omega)
    have := h k (by omega)
    omega
end PURE
theorem mxd : ∀ L, L < 22 → ∀ t, t < 21 → mx (Int32.ofNat L - 1) (Int32.ofNat t) = Int32.ofNat (max L (t + 1)) - 1 := by decide +kernel
theorem ltd : ∀ L, L < 22 → ∀ m, m < 23 → (Int32.ofNat L - 1 < Int32.ofNat m ↔ L ≤ m) := by decide +kernel
def Ms (I : Nat → Nat → Int32) (n3 : Nat) (t s : Nat → Nat) (w : Nat → Int32) : Prop := n3 ≤ 6 ∧ I 15 1 = Int32.ofNat n3 ∧ I 87 3 = Int32.ofNat n3 ∧ ∀ r, r < n3 → (t r ≤ 20 ∧ I 16 (r * 3) = Int32.ofNat (t r) ∧ I 87 (44 + 3 * r) = Int32.ofNat (t r)) ∧ (s r < 8 ∧ I 16 (r * 3 + 1) = Int32.ofNat (s r) ∧ I 87 (44 + 3 * r + 1) = Int32.ofNat (s r)) ∧ I 16 (r * 3 + 2) = w r ∧ I 87 (44 + 3 * r + 2) = w r
theorem Ms_of {I : Nat → Nat → Int32} {J : Nat → Nat → Int64} {B : Nat} (h : Rel I J B) : ∃ n3 t s w, Ms I n3 t s w := by
  obtain ⟨⟨-, -, ⟨n3, hn, a1, a2, a3⟩, -⟩, -⟩ := h
  refine ⟨n3, fun r => (I 16 (r * 3)).toNatClampNeg, fun r => (I 16 (r * 3 + 1)).toNatClampNeg, fun r => I 16 (r * 3 + 2), hn, a1, a2, fun r hr => ?_⟩
  obtain ⟨⟨t, ht, t1, t2⟩, ⟨s, hs, s1, s2⟩, e⟩ := a3 r hr
  have t1 : I 16 (r * 3) = Int32.ofNat t := t1
  have s1 : I 16 (r * 3 + 1) = Int32.ofNat s := s1
  have e : I 16 (r * 3 + 2) = I 87 (44 + 3 * r + 2) := e
  dsimp only
  rw [t1, s1, o_tn (by omega), o_tn (by omega)]
  exact ⟨⟨ht, rfl, t2⟩, ⟨hs, rfl, s2⟩, rfl, e.symm⟩
abbrev Mt (X : Nat → Nat → Int32) (n3 : Nat) (t s : Nat → Nat) (w : Nat → Int32) : Prop := X 28 1 = Int32.ofNat n3 ∧ ∀ r, r < n3 → (t r ≤ 20 ∧ X 29 (r * 3) = Int32.ofNat (t r)) ∧ (s r < 8 ∧ X 29 (r * 3 + 1) = Int32.ofNat (s r)) ∧ X 29 (r * 3 + 2) = w r
theorem Fr.mt {I X : Nat → Nat → Int32} {e n3 : Nat} {t s : Nat → Nat} {w : Nat → Int32} (h : Fr I e X) (hM : Ms I n3 t s w) : Mt X n3 t s w := by
  obtain ⟨hn, a1, a2, a3⟩ := hM
  obtain ⟨-, -, -, -, -, -, h7, h8⟩ := h
  refine ⟨h7.trans a1, fun r hr => ?_⟩
  rw [h8 _ (by omega), h8 _ (by omega), h8 _ (by omega)]
  obtain ⟨⟨b1, b2, -⟩, ⟨b3, b4, -⟩, b5, -⟩ := a3 r hr
  exact ⟨⟨b1, b2⟩, ⟨b3, b4⟩, b5⟩
theorem Mt_eq {X Y : Nat → Nat → Int32} {n3 : Nat} {t s : Nat → Nat} {w : Nat → Int32} (h : Mt X n3 t s w) (h1 : Y 28 = X 28) (h2 : Y 29 = X 29) : Mt Y n3 t s w := by
  unfold Mt at *
  rw [h1, h2]
  exact h
section FIT
variable {m pc : Nat} {ls st : Vs} {X Y : Nat → Nat → Int32} {J : Nat → Nat → Int64} {Q : Option Value → Sto → Prop} {n n3 : Nat} {t s : Nat → Nat} {w : Nat → Int32}
theorem c50 (hn3 : n3 ≤ 6) (hM : Mt X n3 t s w) : Ca 50 [.ref 21, .null, .null] (Sg X J) m pc ls st Q ↔ Rn m pc ls (.int (Int32.ofNat (Lm t n3) - 1) :: st) (Sg X J) Q := Ca_of (r := some (.int (Int32.ofNat (Lm t n3) - 1))) (fun Q h => by
  obtain ⟨e1, e2⟩ := hM
  simp only [u50_0, u50_1, u50_2, u50_3]
  refine Rn_fr (n := n3) (X := Unit) (fun k _ => [.ref 21, .int (Int32.ofNat (Lm t k) - 1), .int (Int32.ofNat k)]) (fun _ _ => Sg X J) () (by rw [show (-1 : Int32) = Int32.ofNat 0 - 1 by decide]; rfl) rfl ?_ ?_
  · intro k hk _ ih
    have ih := ih ()
    obtain ⟨⟨ht, et⟩, -⟩ := e2 k hk
    have hL := Lm_le t (fun r hr => (e2 r hr).1.1) k (by omega)
    have hx := mxd (Lm t k) (by omega) (t k) (by omega)
    rw [Lm_s] at ih
    have hnk : ¬ n3 ≤ k := by omega
    have h18 : k * 3 < 18 := by omega
    clear h e2
    generalize Int32.ofNat (max (Lm t k) (t k + 1)) - 1 = z at hx ih
    generalize Int32.ofNat (Lm t k) - 1 = z0 at hx ⊢
    simp (disch := first | assumption | omega | decide | exact la_87 | exact la_88 | exact la_90 | exact la_91 | exact la_92 | exact la_93 | exact la_94 | exact la_95 | exact la_96 | exact la_97 | exact la_98 | exact la_99 | exact la_10 | exact la_23 | exact la_77 | exact la_78 | exact la_18 | exact la_19 | exact la_20) only [u50_4, u50_5, u50_6, u50_9, u50_12, u50_15, u50_16, u50_17, u50_20, u50_21, u50_22, u50_25, u50_28, u50_29, c35 28 lisT_28, c197, la_21, la_28, lr_21_4, kLt, true_and, e1, et, hx, o_aa, o_al, o_la, o_mm, o_ml, o_lm, o_ss, o_sl, o_ls, o_tn, o_tl, o_lt, o_ltl, o_llt, o_le, o_lel, o_lle, o_eq, o_eql, o_leq, o_inb, o_inl, o_neg, Nat.add_zero, Nat.reduceAdd, hnk, h18, if_false]
    exact (u50_32 ..).mpr ih
  · intro _
    clear e2
    simp (disch := first | assumption | omega | decide | exact la_87 | exact la_88 | exact la_90 | exact la_91 | exact la_92 | exact la_93 | exact la_94 | exact la_95 | exact la_96 | exact la_97 | exact la_98 | exact la_99 | exact la_10 | exact la_23 | exact la_77 | exact la_78 | exact la_18 | exact la_19 | exact la_20) only [u50_4, u50_5, u50_6, u50_9, u50_12, u50_35, u50_36, la_21, la_28, lr_21_4, kLt, true_and, e1, o_aa, o_al, o_la, o_mm, o_ml, o_lm, o_ss, o_sl, o_ls, o_tn, o_tl, o_lt, o_ltl, o_llt, o_le, o_lel, o_lle, o_eq, o_eql, o_leq, o_inb, o_inl, o_neg, Nat.le_refl, if_true]
    exact h)
theorem am_c (W1 : Nat → Int32) (mm : Nat) (hm : mm < 100) (hn3 : n3 ≤ 6) (hM : Mt X n3 t s w) (hW : ∀ j, j < 8 → X 23 j = W1 j) : ∀ d r, r + d = n3 → ∀ v3 v4, Q (some (.int (bb (amf W1 t s w mm d r)))) (Sg X J) → Rn 51 2 [.ref 21, .int (Int32.ofNat mm), .int (Int32.ofNat r), v3, v4] [] (Sg X J) Q := by
  intro d
  induction d with
  | zero =>
    intro r hr v3 v4 h
    obtain rfl : r = n3 := by omega
    have e1 := hM.1
    clear hM hW
    simp (disch := first | assumption | omega | decide | exact la_87 | exact la_88 | exact la_90 | exact la_91 | exact la_92 | exact la_93 | exact la_94 | exact la_95 | exact la_96 | exact la_97 | exact la_98 | exact la_99 | exact la_10 | exact la_23 | exact la_77 | exact la_78 | exact la_18 | exact la_19 | exact la_20) only [u51_2, u51_3, u51_4, u51_7, u51_10, u51_77, u51_78, la_21, la_28, lr_21_4, kLt, true_and, e1, o_aa, o_al, o_la, o_mm, o_ml, o_lm, o_ss, o_sl, o_ls, o_tn, o_tl, o_lt, o_ltl, o_llt, o_le, o_lel, o_lle, o_eq, o_eql, o_leq, o_inb, o_inl, o_neg, Nat.le_refl, if_true]
    exact ⟨Or.inr trivial, h⟩
  | succ d ih =>
    intro r hr v3 v4 h
    obtain ⟨e1, e2⟩ := hM
    obtain ⟨⟨ht, et⟩, ⟨hs, es⟩, ew⟩ := e2 r (by omega)
    have hw := hW (s r) hs
    have hnk : ¬ n3 ≤ r := by omega
    have h18 : r * 3 < 18 := by omega
    have h19 : r * 3 + 1 < 18 := by omega
    have h20 : r * 3 + 2 < 18 := by omega
    have ih := ih (r + 1) (by omega)
    rw [amf_s] at h
    clear e2 hW
    simp (disch := first | assumption | omega | decide | exact la_87 | exact la_88 | exact la_90 | exact la_91 | exact la_92 | exact la_93 | exact la_94 | exact la_95 | exact la_96 | exact la_97 | exact la_98 | exact la_99 | exact la_10 | exact la_23 | exact la_77 | exact la_78 | exact la_18 | exact la_19 | exact la_20) only [u51_2, u51_3, u51_4, u51_7, u51_10, u51_13, u51_14, u51_17, u51_18, u51_19, u51_22, u51_23, c35 28 lisT_28, la_21, la_28, lr_21_4, kLt, true_and, e1, et, o_aa, o_al, o_la, o_mm, o_ml, o_lm, o_ss, o_sl, o_ls, o_tn, o_tl, o_lt, o_ltl, o_llt, o_le, o_lel, o_lle, o_eq, o_eql, o_leq, o_inb, o_inl, o_neg, Nat.add_zero, Nat.reduceAdd, hnk, h18, if_false]
    by_cases h1 : t r = mm
    · simp (disch := first | assumption | omega | decide | exact la_87 | exact la_88 | exact la_90 | exact la_91 | exact la_92 | exact la_93 | exact la_94 | exact la_95 | exact la_96 | exact la_97 | exact la_98 | exact la_99 | exact la_10 | exact la_23 | exact la_77 | exact la_78 | exact la_18 | exact la_19 | exact la_20) only [h1, not_true, if_false, u51_26, u51_27, u51_30, u51_31, u51_32, u51_33, u51_36, u51_37, u51_38, u51_41, u51_43, u51_44, u51_47, u51_48, u51_51, u51_54, u51_56, u51_57, u51_58, u51_61, u51_62, u51_63, u51_66, c35 28 lisT_28, la_21, la_22, la_23, lt_23, la_28, lr_21_1, lr_22_0, lr_21_4, kLt, true_and, es, ew, hw, hs, o_aa, o_al, o_la, o_mm, o_ml, o_lm, o_ss, o_sl, o_ls, o_tn, o_tl, o_lt, o_ltl, o_llt, o_le, o_lel, o_lle, o_eq, o_eql, o_leq, o_inb, o_inl, o_neg, Nat.reduceAdd, h19, h20, show ¬ (1 : Int32) = 0 by decide]
      by_cases h2 : W1 (s r) = w r
      · rw [if_neg (fun z => z.2 h2)] at h
        simp (disch := first | assumption | omega | decide | exact la_87 | exact la_88 | exact la_90 | exact la_91 | exact la_92 | exact la_93 | exact la_94 | exact la_95 | exact la_96 | exact la_97 | exact la_98 | exact la_99 | exact la_10 | exact la_23 | exact la_77 | exact la_78 | exact la_18 | exact la_19 | exact la_20) only [h2, if_true, u51_71, o_aa, o_al, o_la, o_mm, o_ml, o_lm, o_ss, o_sl, o_ls, o_tn, o_tl, o_lt, o_ltl, o_llt, o_le, o_lel, o_lle, o_eq, o_eql, o_leq, o_inb, o_inl, o_neg]
        exact (u51_74 ..).mpr (ih _ _ h)
      · rw [if_pos ⟨h1, h2⟩] at h
        simp only [h2, if_false, u51_69, u51_70]
        exact ⟨Or.inl trivial, h⟩
    · rw [if_neg (fun z => h1 z.1)] at h
      simp (disch := first | assumption | omega | decide | exact la_87 | exact la_88 | exact la_90 | exact la_91 | exact la_92 | exact la_93 | exact la_94 | exact la_95 | exact la_96 | exact la_97 | exact la_98 | exact la_99 | exact la_10 | exact la_23 | exact la_77 | exact la_78 | exact la_18 | exact la_19 | exact la_20) only [h1, not_false_eq_true, if_true, u51_30, u51_31, u51_32, u51_33, u51_36, u51_37, u51_38, u51_41, u51_43, u51_44, c35 28 lisT_28, la_21, la_28, lr_21_4, kLt, true_and, es, o_aa, o_al, o_la, o_mm, o_ml, o_lm, o_ss, o_sl, o_ls, o_tn, o_tl, o_lt, o_ltl, o_llt, o_le, o_lel, o_lle, o_eq, o_eql, o_leq, o_inb, o_inl, o_neg, Nat.reduceAdd, h19, u51_71]
      exact (u51_74 ..).mpr (ih _ _ h)
theorem c51 (W1 : Nat → Int32) (mm : Nat) (hm : mm < 100) (hn3 : n3 ≤ 6) (hM : Mt X n3 t s w) (hW : ∀ j, j < 8 → X 23 j = W1 j) : Ca 51 [.ref 21, .int (Int32.ofNat mm), .null, .null, .null] (Sg X J) m pc ls st Q ↔ Rn m pc ls (.int (bb (amf W1 t s w mm n3 0)) :: st) (Sg X J) Q := Ca_of (r := some (.int (bb (amf W1 t s w mm n3 0)))) (fun Q h => by
  simp only [u51_0, u51_1]
  exact am_c W1 mm hm hn3 hM hW n3 0 (by omega) _ _ h)
theorem pm_c (W : Nat → Nat → Int32) (L : Nat) (hL : L ≤ 21) (hn3 : n3 ≤ 6) (hT : Tm Y 21 n) (hM : Mt Y n3 t s w) (hW : ∀ k, k ≤ 21 → ∀ j, j < 8 → psI Y 21 (-1) n k 23 j = W k j) : ∀ d k, k + d = L → (∀ q, Q (some (.int (bb (pmf W t s w n3 d k)))) (Sg (psI Y 21 (-1) n q) J)) → Rn 49 7 [.ref 21, .int (Int32.ofNat L - 1), .int (Int32.ofNat k)] [] (Sg (psI Y 21 (-1) n k) J) Q := by
  intro d
  induction d with
  | zero =>
    intro k hk h
    obtain rfl : k = L := by omega
    have e := (ltd k (by omega) k (by omega)).mpr (Nat.le_refl k)
    simp only [u49_7, u49_8, u49_9, u49_33, u49_34, e, if_true]
    exact ⟨Or.inr trivial, h k⟩
  | succ d ih =>
    intro k hk h
    have e : ¬ Int32.ofNat L - 1 < Int32.ofNat k := fun z => by have := (ltd L (by omega) k (by omega)).mp z; omega
    have h51 := fun (pc : Nat) (ls st : Vs) => @c51 49 pc ls st (psI Y 21 (-1) n k) J Q n3 t s w (W k) k (by omega) hn3 (Mt_eq hM (ps_f Y (-1) n k (by decide) (by decide)) (ps_f Y (-1) n k (by decide) (by decide))) (hW k (by omega))
    have h46 := fun (pc : Nat) (ls st : Vs) => @c46 49 pc ls st (psI Y 21 (-1) n k) J Q 21 lisV_21 (-1) n (Tm_ps hT (-1) k)
    have hst := ih (k + 1) (by omega)
    rw [← ps_s] at hst
    simp only [pmf_s] at h
    clear ih hT hM hW
    generalize Int32.ofNat L - 1 = z at e hst ⊢
    simp (disch := first | assumption | omega | decide | exact la_87 | exact la_88 | exact la_90 | exact la_91 | exact la_92 | exact la_93 | exact la_94 | exact la_95 | exact la_96 | exact la_97 | exact la_98 | exact la_99 | exact la_10 | exact la_23 | exact la_77 | exact la_78 | exact la_18 | exact la_19 | exact la_20) only [u49_7, u49_8, u49_9, u49_12, u49_13, u49_14, u49_17, h51, la_21, kLt, true_and, e, if_false, bb_0]
    by_cases h1 : amf (W k) t s w k n3 0 = true
    · rw [if_pos h1] at h
      simp (disch := first | assumption | omega | decide | exact la_87 | exact la_88 | exact la_90 | exact la_91 | exact la_92 | exact la_93 | exact la_94 | exact la_95 | exact la_96 | exact la_97 | exact la_98 | exact la_99 | exact la_10 | exact la_23 | exact la_77 | exact la_78 | exact la_18 | exact la_19 | exact la_20) only [h1, Bool.true_eq_false, not_false_eq_true, if_true, u49_22, u49_23, u49_24, u49_27, h46, la_21, kLt, true_and, o_aa, o_al, o_la, o_mm, o_ml, o_lm, o_ss, o_sl, o_ls, o_tn, o_tl, o_lt, o_ltl, o_llt, o_le, o_lel, o_lle, o_eq, o_eql, o_leq, o_inb, o_inl, o_neg]
      exact (u49_30 ..).mpr (hst h)
    · have h1 : amf (W k) t s w k n3 0 = false := by cases hq : amf (W k) t s w k n3 0 with | true => exact absurd hq h1 | false => rfl
      rw [h1] at h
      simp only [h1, not_true, if_false, u49_20, u49_21]
      refine ⟨Or.inl trivial, ?_⟩
      exact h k
theorem c49' (W : Nat → Nat → Int32) (hn3 : n3 ≤ 6) (hT : Tm Y 21 n) (hM : Mt Y n3 t s w) (hW : ∀ k, k ≤ 21 → ∀ j, j < 8 → psI Y 21 (-1) n k 23 j = W k j) (h : ∀ q, Rn m pc ls (.int (bb (cbf W t s w n3 0)) :: st) (Sg (psI Y 21 (-1) n q) J) Q) : Ca 49 [.ref 21, .null, .null] (Sg Y J) m pc ls st Q := by
  unfold Ca
  have hL := Lm_le t (fun r hr => (hM.2 r hr).1.1) n3 (Nat.le_refl _)
  simp (disch := decide) only [u49_0, u49_1, u49_4, u49_5, u49_6, c50 hn3 hM, la_21, kLt, true_and]
  rw [← ps_0 Y 21 (-1) n]
  refine pm_c W (Lm t n3) hL hn3 hT hM hW (Lm t n3) 0 (by omega) (fun q => ?_)
  rw [fit_eq W t s w (fun r hr => Lm_lt t n3 r hr)]
  exact h q
end FIT
