/-! THE CALL: odds -/
theorem l_aa {a b : Nat} : Int64.ofNat a + Int64.ofNat b = Int64.ofNat (a + b) := (Int64.ofNat_add a b).symm
theorem l_mm {a b : Nat} : Int64.ofNat a * Int64.ofNat b = Int64.ofNat (a * b) := (Int64.ofNat_mul a b).symm
theorem l_tn {a : Nat} (h : a < 9223372036854775808) : (Int64.ofNat a).toInt = a := Int64.toInt_ofNat_of_lt h
theorem l_eq {a b : Nat} (ha : a < 9223372036854775808) (hb : b < 9223372036854775808) : Int64.ofNat a = Int64.ofNat b ↔ a = b := by
  rw [← Int64.toInt_inj, l_tn ha, l_tn hb]
  omega
theorem l_rem {a b : Nat} (ha : a < 9223372036854775808) (hb : b < 9223372036854775808) : Int64.ofNat a - Int64.ofNat a / Int64.ofNat b * Int64.ofNat b = Int64.ofNat (a % b) := by
  rw [← Int64.ofNat_div ha hb, l_mm, ← Int64.ofNat_sub _ _ (Nat.div_mul_le_self a b)]
  congr 1
  have h1 := Nat.div_add_mod a b
  rw [Nat.mul_comm] at h1
  omega
theorem lc_eq (x y : Int64) : lg_cmp x y = 0 ↔ x = y := by
  unfold lg_cmp
  have h2 := @Int64.lt_iff_toInt_lt y x
  split
  · rename_i h
    constructor
    · intro q; exact absurd q (by decide)
    · intro q; subst q; have := h2.mp h; omega
  · split
    · rename_i h
      exact ⟨fun _ => h, fun _ => rfl⟩
    · rename_i h
      exact ⟨fun q => absurd q (by decide), fun q => absurd q h⟩
theorem lc_0 {a : Nat} (ha : a < 9223372036854775808) : lg_cmp (Int64.ofNat a) 0 = 0 ↔ a = 0 := by
  rw [lc_eq, show (0 : Int64) = Int64.ofNat 0 from rfl, l_eq ha (by omega)]
theorem lc_p {a : Nat} (ha : a < 9223372036854775808) : lg_cmp (Int64.ofNat a) 0 ≤ 0 ↔ a = 0 := by
  rw [← Int32.not_lt, lc_gt, Int64.lt_iff_toInt_lt, l_tn ha, show (0 : Int64).toInt = 0 from rfl]
  omega
theorem l_nz {a : Nat} (ha : a < 9223372036854775808) (h : ¬ a = 0) : ¬ Int64.ofNat a = 0 := by
  rw [show (0 : Int64) = Int64.ofNat 0 from rfl, l_eq ha (by omega)]
  exact h
theorem g_st (a b : Nat) : Nat.gcd a b = Nat.gcd b (a % b) := by
  rw [Nat.gcd_comm a b, Nat.gcd_rec b a, Nat.gcd_comm]
theorem md_h {b r d : Nat} (hb : b < 2 ^ (d + 1)) (hr : r < b) (h0 : ¬ r = 0) : b % r < 2 ^ d := by
  have h1 : b % r < r := Nat.mod_lt _ (by omega)
  have h2 : b % r ≤ b - r := by
    rw [Nat.mod_eq_sub_mod (by omega)]
    exact Nat.mod_le _ _
  rw [Nat.pow_succ] at hb
  omega
theorem p20 {d : Nat} (hd : d ≤ 20) : 2 ^ d ≤ 1048576 := Nat.pow_le_pow_right (n := 2) (by decide) hd
section EUCLID
variable {m pc : Nat} {ls st : Vs} {σ : Sto} {I : Nat → Nat → Int32} {J : Nat → Nat → Int64} {Q : Option Value → Sto → Prop}
theorem eu_0 (t u : Int64) (a i : Nat) (hi : i ≤ 100) (v : Value) (f : ∀ i v, Rn 111 44 [.ref 0, .long t, .null, .long u, .null, .long (Int64.ofNat a), .null, .long (Int64.ofNat 0), .null, .int i, v, .null] [] σ Q) : Rn 111 9 [.ref 0, .long t, .null, .long u, .null, .long (Int64.ofNat a), .null, .long (Int64.ofNat 0), .null, .int (Int32.ofNat i), v, .null] [] σ Q := by
  have e : lg_cmp (Int64.ofNat 0) 0 = 0 := (lc_0 (by omega)).mpr rfl
  simp (disch := first | assumption | omega | decide | exact la_87 | exact la_88 | exact la_90 | exact la_91 | exact la_92 | exact la_93 | exact la_94 | exact la_95 | exact la_96 | exact la_97 | exact la_98 | exact la_99 | exact la_10 | exact la_23 | exact la_77 | exact la_78 | exact la_18 | exact la_19 | exact la_20) only [u111_9, u111_11, u111_13, u111_16, u111_18, u111_19, u111_20, o_aa, o_al, o_la, o_mm, o_ml, o_lm, o_ss, o_sl, o_ls, o_tn, o_tl, o_lt, o_ltl, o_llt, o_le, o_lel, o_lle, o_eq, o_eql, o_leq, o_inb, o_inl, o_neg, e, if_true]
  have f := f (Int32.ofNat i) v
  by_cases h : 100 ≤ i
  · rw [if_pos h]; exact f
  · rw [if_neg h]; exact f
theorem eu_s (t u : Int64) (a b i : Nat) (hi : i < 100) (ha : a < 9223372036854775808) (hb : b < 9223372036854775808) (h0 : ¬ b = 0) (v : Value) (f : ∀ v, Rn 111 9 [.ref 0, .long t, .null, .long u, .null, .long (Int64.ofNat b), .null, .long (Int64.ofNat (a % b)), .null, .int (Int32.ofNat (i + 1)), v, .null] [] σ Q) : Rn 111 9 [.ref 0, .long t, .null, .long u, .null, .long (Int64.ofNat a), .null, .long (Int64.ofNat b), .null, .int (Int32.ofNat i), v, .null] [] σ Q := by
  have e : ¬ lg_cmp (Int64.ofNat b) 0 = 0 := fun q => h0 ((lc_0 hb).mp q)
  have e2 := l_nz hb h0
  have hn : ¬ 100 ≤ i := by omega
  simp (disch := first | assumption | omega | decide | exact la_87 | exact la_88 | exact la_90 | exact la_91 | exact la_92 | exact la_93 | exact la_94 | exact la_95 | exact la_96 | exact la_97 | exact la_98 | exact la_99 | exact la_10 | exact la_23 | exact la_77 | exact la_78 | exact la_18 | exact la_19 | exact la_20) only [u111_9, u111_11, u111_13, u111_16, u111_18, u111_19, u111_20, u111_23, u111_25, u111_27, u111_28, u111_30, u111_32, u111_34, u111_36, u111_38, o_aa, o_al, o_la, o_mm, o_ml, o_lm, o_ss, o_sl, o_ls, o_tn, o_tl, o_lt, o_ltl, o_llt, o_le, o_lel, o_lle, o_eq, o_eql, o_leq, o_inb, o_inl, o_neg, e, e2, hn, l_rem ha hb, not_false_eq_true, true_and, if_false]
  exact (u111_41 ..).mpr (f _)
theorem eu_c (t u : Int64) : ∀ d a b i v, a < 9223372036854775808 → b < 2 ^ d → d ≤ 20 → i + 2 * d < 100 → (∀ i v, Rn 111 44 [.ref 0, .long t, .null, .long u, .null, .long (Int64.ofNat (Nat.gcd a b)), .null, .long (Int64.ofNat 0), .null, .int i, v, .null] [] σ Q) → Rn 111 9 [.ref 0, .long t, .null, .long u, .null, .long (Int64.ofNat a), .null, .long (Int64.ofNat b), .null, .int (Int32.ofNat i), v, .null] [] σ Q := by
  intro d
  induction d with
  | zero =>
    intro a b i v ha hb hd hi f
    obtain rfl : b = 0 := by omega
    rw [Nat.gcd_zero_right] at f
    exact eu_0 t u a i (by omega) v f
  | succ d ih =>
    intro a b i v ha hb hd hi f
    have hp := p20 hd
    by_cases h0 : b = 0
    · subst h0
      rw [Nat.gcd_zero_right] at f
      exact eu_0 t u a i (by omega) v f
    · have hr : a % b < b := Nat.mod_lt _ (by omega)
      rw [g_st] at f
      refine eu_s t u a b i (by omega) ha (by omega) h0 v (fun v => ?_)
      generalize a % b = r at f hr ⊢
      by_cases h1 : r = 0
      · subst h1
        rw [Nat.gcd_zero_right] at f
        exact eu_0 t u b (i + 1) (by omega) v f
      · rw [g_st] at f
        refine eu_s t u b r (i + 1) (by omega) (by omega) (by omega) h1 v (fun v => ?_)
        exact ih r (b % r) (i + 1 + 1) v (by omega) (md_h hb hr h1) (by omega) (by omega) f
theorem c111 (t u : Nat) (ht : t < 9223372036854775808) (hu : u < 1048576) (h0 : ¬ u = 0) : Ca 111 [.ref 0, .long (Int64.ofNat t), .null, .long (Int64.ofNat u), .null, .null, .null, .null, .null, .null, .null, .null] (Sg I J) m pc ls st Q ↔ Rn m pc ls st (Sg I (wJ (wJ J 0 7 (Int64.ofNat t / Int64.ofNat (Nat.gcd t u))) 0 8 (Int64.ofNat u / Int64.ofNat (Nat.gcd t u)))) Q := Ca_of (r := none) (fun Q h => by
  have hg : 0 < Nat.gcd t u := Nat.gcd_pos_of_pos_right t (by omega)
  have hg2 : Nat.gcd t u ≤ u := Nat.gcd_le_right t (by omega)
  simp only [u111_0, u111_1, u111_3, u111_4, u111_6, u111_7]
  refine eu_c _ _ 20 t u 0 .null ht hu (by omega) (by omega) (fun i v => ?_)
  have e1 : ¬ lg_cmp (Int64.ofNat (Nat.gcd t u)) 0 ≤ 0 := by rw [lc_p (by omega)]; omega
  have e2 : ¬ Int64.ofNat (Nat.gcd t u) = 0 := l_nz (by omega) (by omega)
  simp (disch := decide) only [u111_44, u111_46, u111_47, u111_48, u111_51, u111_52, u111_53, u111_55, u111_56, u111_59, u111_60, u111_61, u111_63, u111_64, u111_67, e1, e2, la_0, kLt, not_false_eq_true, true_and, if_false]
  exact h)
theorem eu_m (t u : Int64) : ∀ b a v, a < 9223372036854775808 → b < 9223372036854775808 → (∀ v, Rn 170 31 [.ref 86, .long t, .null, .long u, .null, .long (Int64.ofNat (Nat.gcd a b)), .null, .long (Int64.ofNat 0), .null, v, .null] [] σ Q) → Rn 170 6 [.ref 86, .long t, .null, .long u, .null, .long (Int64.ofNat a), .null, .long (Int64.ofNat b), .null, v, .null] [] σ Q := by
  intro b
  induction b using Nat.strongRecOn with
  | _ b ih =>
    intro a v ha hb f
    by_cases h0 : b = 0
    · subst h0
      rw [Nat.gcd_zero_right] at f
      have e : lg_cmp (Int64.ofNat 0) 0 = 0 := (lc_0 (by omega)).mpr rfl
      simp only [u170_6, u170_8, u170_9, u170_10, e, if_true]
      exact f v
    · have hr : a % b < b := Nat.mod_lt _ (by omega)
      rw [g_st] at f
      have e : ¬ lg_cmp (Int64.ofNat b) 0 = 0 := fun q => h0 ((lc_0 hb).mp q)
      have e2 := l_nz hb h0
      simp only [u170_6, u170_8, u170_9, u170_10, u170_13, u170_15, u170_17, u170_18, u170_20, u170_22, u170_24, u170_26, e, e2, l_rem ha hb, not_false_eq_true, true_and, if_false]
      exact (u170_28 ..).mpr (ih (a % b) hr b _ hb (by omega) f)
theorem c170 (t u : Nat) (ht : t < 9223372036854775808) (hu : u < 1048576) (h0 : ¬ u = 0) : Ca 170 [.ref 86, .long (Int64.ofNat t), .null, .long (Int64.ofNat u), .null, .null, .null, .null, .null, .null, .null] (Sg I J) m pc ls st Q ↔ Rn m pc ls st (Sg I (wJ (wJ J 86 4 (Int64.ofNat t / Int64.ofNat (Nat.gcd t u))) 86 5 (Int64.ofNat u / Int64.ofNat (Nat.gcd t u)))) Q := Ca_of (r := none) (fun Q h => by
  have hg : 0 < Nat.gcd t u := Nat.gcd_pos_of_pos_right t (by omega)
  have hg2 : Nat.gcd t u ≤ u := Nat.gcd_le_right t (by omega)
  simp only [u170_0, u170_1, u170_3, u170_4]
  refine eu_m _ _ u t .null ht (by omega) (fun v => ?_)
  have e2 : ¬ Int64.ofNat (Nat.gcd t u) = 0 := l_nz (by omega) (by omega)
  simp (disch := decide) only [u170_31, u170_32, u170_33, u170_35, u170_36, u170_39, u170_40, u170_41, u170_43, u170_44, u170_47, e2, la_86, kLt, not_false_eq_true, true_and]
  exact h)
theorem e64 : ∀ C, C < 11 → (Int32.ofNat C).toInt64 = Int64.ofNat C := by decide +kernel
theorem c110 (C E : Nat) (hC : C ≤ 10) (hE : E ≤ 6) : Ca 110 [.int (Int32.ofNat C), .int (Int32.ofNat E), .null, .null, .null] σ m pc ls st Q ↔ Rn m pc ls (.long (Int64.ofNat (C ^ E)) :: st) σ Q := Ca_of (r := some (.long (Int64.ofNat (C ^ E)))) (fun Q h => by
  have e := e64 C (by omega)
  simp only [u110_0, u110_1, u110_2, u110_3]
  refine Rn_fr (n := E) (X := Unit) (fun k _ => [.int (Int32.ofNat C), .int (Int32.ofNat E), .long (Int64.ofNat (C ^ k)), .null, .int (Int32.ofNat k)]) (fun _ _ => σ) () rfl rfl ?_ ?_
  · intro k hk _ ih
    have ih := ih ()
    rw [Nat.pow_succ] at ih
    have hnk : ¬ E ≤ k := by omega
    simp (disch := first | assumption | omega | decide | exact la_87 | exact la_88 | exact la_90 | exact la_91 | exact la_92 | exact la_93 | exact la_94 | exact la_95 | exact la_96 | exact la_97 | exact la_98 | exact la_99 | exact la_10 | exact la_23 | exact la_77 | exact la_78 | exact la_18 | exact la_19 | exact la_20) only [u110_5, u110_7, u110_8, u110_11, u110_12, u110_13, u110_14, u110_15, u110_16, u110_22, u110_23, o_aa, o_al, o_la, o_mm, o_ml, o_lm, o_ss, o_sl, o_ls, o_tn, o_tl, o_lt, o_ltl, o_llt, o_le, o_lel, o_lle, o_eq, o_eql, o_leq, o_inb, o_inl, o_neg, hnk, if_false, e, l_mm]
    exact (u110_19 ..).mpr ih
  · intro _
    simp (disch := first | assumption | omega | decide | exact la_87 | exact la_88 | exact la_90 | exact la_91 | exact la_92 | exact la_93 | exact la_94 | exact la_95 | exact la_96 | exact la_97 | exact la_98 | exact la_99 | exact la_10 | exact la_23 | exact la_77 | exact la_78 | exact la_18 | exact la_19 | exact la_20) only [u110_5, u110_7, u110_8, u110_11, u110_12, u110_13, u110_14, u110_15, u110_16, u110_22, u110_23, o_aa, o_al, o_la, o_mm, o_ml, o_lm, o_ss, o_sl, o_ls, o_tn, o_tl, o_lt, o_ltl, o_llt, o_le, o_lel, o_lle, o_eq, o_eql, o_leq, o_inb, o_inl, o_neg, Nat.le_refl, if_true]
    exact h)
end EUCLID
def tmo (C n k : Nat) : Nat := C ^ bl 6 k * (10 - C) ^ (n - bl 6 k)
def mpo (C k n : Nat) : Nat := Nat.rec 1 (fun j t => t * (if k / 2 ^ j % 2 = 1 then C else 10 - C)) n
theorem mpo_s (C k n : Nat) : mpo C k (n + 1) = mpo C k n * (if k / 2 ^ n % 2 = 1 then C else 10 - C) := rfl
theorem tm_k : ∀ n, n < 7 → ∀ C, C < 11 → ∀ k, k < 64 → k < 2 ^ n → mpo C k n = tmo C n k ∧ tmo C n k ≤ 1000000 ∧ bl 6 k ≤ n := by decide +kernel
theorem bit_d : ∀ k, k < 64 → ∀ j, j < 6 → ((Int32.ofNat k >>> (Int32.ofNat j &&& 31)) &&& 1 = 1 ↔ k / 2 ^ j % 2 = 1) := by decide +kernel
def od (W : Nat → Int32) (b : Int32) (C n k : Nat) : Nat := Nat.rec 0 (fun k s => if W k < b then s else s + tmo C n k) k
theorem od_s (W : Nat → Int32) (b : Int32) (C n k : Nat) : od W b C n (k + 1) = if W k < b then od W b C n k else od W b C n k + tmo C n k := rfl
theorem od_le (W : Nat → Int32) (b : Int32) {C n : Nat} (hC : C ≤ 10) (hn : n ≤ 6) : ∀ k, k ≤ 2 ^ n → od W b C n k ≤ k * 1000000 := by
  intro k
  induction k with
  | zero => intro _; exact Nat.le_refl 0
  | succ k ih =>
    intro hk
    have h1 := ih (by omega)
    have h2 := (tm_k n (by omega) C (by omega) k (by have := p2_le n hn; omega) (by omega)).2.1
    rw [od_s]
    by_cases h : W k < b
    · rw [if_pos h]; exact Nat.le_trans h1 (Nat.mul_le_mul_right 1000000 (Nat.le_succ k))
    · rw [if_neg h, Nat.succ_mul]; exact Nat.add_le_add h1 h2
def odW (I : Nat → Nat → Int32) (n s k : Nat) : Int32 := paI (tk_21_8 I) 21 (Int32.ofNat k) n 23 s
theorem p10 : ∀ n, n < 7 → 10 ^ n < 1048576 ∧ ¬ 10 ^ n = 0 := by decide +kernel
section ODDS
variable {I : Nat → Nat → Int32} {J : Nat → Nat → Int64} {Q : Option Value → Sto → Prop} {n n2 T B s C : Nat}
theorem od_c (b : Int32) (hs : s < 8) (hC : C ≤ 10) (hB : Bs I n n2 T B) (hT : T < 100000) {X0 : Nat → Nat → Int32} (hX : Fr I 99 X0) (h : ∀ X, Fr I 99 X → Q (some (.int 1)) (Sg X (wJ (wJ J 0 7 (Int64.ofNat (od (odW I n s) b C n (2 ^ n)) / Int64.ofNat (Nat.gcd (od (odW I n s) b C n (2 ^ n)) (10 ^ n)))) 0 8 (Int64.ofNat (10 ^ n) / Int64.ofNat (Nat.gcd (od (odW I n s) b C n (2 ^ n)) (10 ^ n)))))) : Rn 92 48 [.ref 0, .int (Int32.ofNat s), .int b, .int (Int32.ofNat C), .long 0, .null, .null, .null] [] (Sg X0 J) Q := by
  obtain ⟨P, hP, eP, eP2⟩ := all_e hB.1.1
  have hn := hB.1.1
  have hle := od_le (odW I n s) b hC hn (2 ^ n) (Nat.le_refl _)
  have h10 := p10 n (by omega)
  rw [eP2] at h hle
  simp only [u92_48, u92_49]
  refine Rn_fr (n := P + 1) (X := {X : Nat → Nat → Int32 // Fr I 99 X} × Value) (fun k x => [.ref 0, .int (Int32.ofNat s), .int b, .int (Int32.ofNat C), .long (Int64.ofNat (od (odW I n s) b C n k)), .null, .int (Int32.ofNat k), x.2]) (fun _ x => Sg x.1.1 J) (⟨X0, hX⟩, .null) rfl rfl ?_ ?_
  · rintro k hk ⟨⟨X, hx⟩, v⟩ ih
    dsimp only
    have hnk : ¬ P < k := by omega
    have hbw := fun j (hj : j < n) => bit_w k (by omega) j (by omega)
    have e11 : ∀ {Y : Nat → Nat → Int32}, Fr I 99 Y → Y 11 1 = Int32.ofNat n := fun hy => by rw [hy.ns (by decide) (by decide)]; exact hB.1.2.1
    have e1 := e11 hx
    have e2 := e11 (hx.yt.pa (Int32.ofNat k) n)
    have h46 := fun (pc : Nat) (ls st : Vs) => @c46 92 pc ls st (ytI X) J Q 21 lisV_21 (Int32.ofNat k) n (hx.tj (I1 := I) hB rfl).tm
    have h23 : paI (ytI X) 21 (Int32.ofNat k) n 23 s = odW I n s k := ((TJ_pa (hx.tj (I1 := I) hB rfl) (by omega) hbw).wk s hs).trans ((TJ_pa (TJ_tk (I1 := I) hB rfl) (by omega) hbw).wk s hs).symm
    obtain ⟨-, -, k3⟩ := tm_k n (by omega) C (by omega) k (by omega) (by omega)
    have f2 := fun v => ih (⟨_, hx.yt.pa (Int32.ofNat k) n⟩, v)
    simp only [od_s] at f2
    generalize od (odW I n s) b C n k = p at f2 ⊢
    generalize odW I n s k = d at f2 h23 ⊢
    generalize paI (ytI X) 21 (Int32.ofNat k) n = X2 at h46 h23 f2 e2 ⊢
    have ebc := bl_bc k (by omega)
    have q1 := fun (pc : Nat) (ls st : Vs) (σ : Sto) => @c110 92 pc ls st σ Q C (bl 6 k) hC (by omega)
    have q2 := fun (pc : Nat) (ls st : Vs) (σ : Sto) => @c110 92 pc ls st σ Q (10 - C) (n - bl 6 k) (by omega) (by omega)
    unfold tmo at f2
    generalize bl 6 k = z at k3 ebc q1 q2 f2
    clear ih h hB hx hbw e11
    simp (disch := first | assumption | omega | decide | exact la_87 | exact la_88 | exact la_90 | exact la_91 | exact la_92 | exact la_93 | exact la_94 | exact la_95 | exact la_96 | exact la_97 | exact la_98 | exact la_99 | exact la_10 | exact la_23 | exact la_77 | exact la_78 | exact la_18 | exact la_19 | exact la_20) only [u92_51, u92_53, u92_54, u92_57, u92_60, u92_63, u92_66, u92_67, u92_70, u92_73, u92_74, u92_77, u92_80, u92_83, u92_84, u92_87, u92_89, u92_92, u92_93, u92_96, u92_99, u92_102, u92_103, u92_104, u92_105, c31 11 lisT_11, c54t, h46, h23, hs, la_0, la_8, la_9, la_11, la_21, la_22, la_23, lt_23, lr_0_0, lr_0_1, lr_8_1, lr_8_2, lr_21_1, lr_22_0, kLt, true_and, e1, eP, o_aa, o_al, o_la, o_mm, o_ml, o_lm, o_ss, o_sl, o_ls, o_tn, o_tl, o_lt, o_ltl, o_llt, o_le, o_lel, o_lle, o_eq, o_eql, o_leq, o_inb, o_inl, o_neg, hnk, if_false]
    by_cases h1 : d < b
    · simp only [if_pos h1] at f2 ⊢
      simp (disch := first | assumption | omega | decide | exact la_87 | exact la_88 | exact la_90 | exact la_91 | exact la_92 | exact la_93 | exact la_94 | exact la_95 | exact la_96 | exact la_97 | exact la_98 | exact la_99 | exact la_10 | exact la_23 | exact la_77 | exact la_78 | exact la_18 | exact la_19 | exact la_20) only [u92_147, o_aa, o_al, o_la, o_mm, o_ml, o_lm, o_ss, o_sl, o_ls, o_tn, o_tl, o_lt, o_ltl, o_llt, o_le, o_lel, o_lle, o_eq, o_eql, o_leq, o_inb, o_inl, o_neg]
      exact (u92_150 ..).mpr (f2 _)
    · simp only [if_neg h1] at f2 ⊢
      simp (disch := first | assumption | omega | decide | exact la_87 | exact la_88 | exact la_90 | exact la_91 | exact la_92 | exact la_93 | exact la_94 | exact la_95 | exact la_96 | exact la_97 | exact la_98 | exact la_99 | exact la_10 | exact la_23 | exact la_77 | exact la_78 | exact la_18 | exact la_19 | exact la_20) only [u92_108, u92_110, u92_113, u92_115, u92_117, u92_118, u92_120, u92_123, u92_125, u92_126, u92_127, u92_128, u92_131, u92_134, u92_137, u92_139, u92_140, u92_143, u92_144, u92_145, u92_147, c196, ebc, la_0, la_8, la_11, lr_0_0, lr_8_2, kLt, true_and, e2, o_aa, o_al, o_la, o_mm, o_ml, o_lm, o_ss, o_sl, o_ls, o_tn, o_tl, o_lt, o_ltl, o_llt, o_le, o_lel, o_lle, o_eq, o_eql, o_leq, o_inb, o_inl, o_neg, q1, q2, l_mm, l_aa]
      exact (u92_150 ..).mpr (f2 _)
  · rintro ⟨⟨X, hx⟩, v⟩
    dsimp only
    have e1 : X 11 1 = Int32.ofNat n := by rw [hx.ns (by decide) (by decide)]; exact hB.1.2.1
    have f := h X hx
    generalize od (odW I n s) b C n (P + 1) = p at f hle ⊢
    have q1 : ∀ (pc : Nat) (ls st : Vs) (σ : Sto), Ca 110 [.int 10, .int (Int32.ofNat n), .null, .null, .null] σ 92 pc ls st Q ↔ Rn 92 pc ls (.long (Int64.ofNat (10 ^ n)) :: st) σ Q := fun pc ls st σ => c110 10 n (by omega) hn
    have q2 := fun (pc : Nat) (ls st : Vs) => @c111 92 pc ls st X J Q p (10 ^ n) (by omega) h10.1 h10.2
    clear h hB hx
    simp (disch := first | assumption | omega | decide | exact la_87 | exact la_88 | exact la_90 | exact la_91 | exact la_92 | exact la_93 | exact la_94 | exact la_95 | exact la_96 | exact la_97 | exact la_98 | exact la_99 | exact la_10 | exact la_23 | exact la_77 | exact la_78 | exact la_18 | exact la_19 | exact la_20) only [u92_51, u92_53, u92_54, u92_57, u92_60, u92_63, u92_153, u92_154, u92_156, u92_158, u92_159, u92_162, u92_165, u92_168, u92_171, u92_174, u92_175, c31 11 lisT_11, la_0, la_8, la_11, lr_0_0, lr_8_2, kLt, true_and, e1, eP, q1, q2, o_aa, o_al, o_la, o_mm, o_ml, o_lm, o_ss, o_sl, o_ls, o_tn, o_tl, o_lt, o_ltl, o_llt, o_le, o_lel, o_lle, o_eq, o_eql, o_leq, o_inb, o_inl, o_neg, Nat.lt_succ_self, if_true]
    exact f
theorem od_m (b : Int32) (hs : s < 8) (hC : C ≤ 10) (hB : Bs I n n2 T B) (hT : T < 100000) {X0 : Nat → Nat → Int32} (hX : Sc I X0) (h : ∀ X, Sc I X → Q (some (.int 1)) (Sg X (wJ (wJ J 86 4 (Int64.ofNat (od (odW I n s) b C n (2 ^ n)) / Int64.ofNat (Nat.gcd (od (odW I n s) b C n (2 ^ n)) (10 ^ n)))) 86 5 (Int64.ofNat (10 ^ n) / Int64.ofNat (Nat.gcd (od (odW I n s) b C n (2 ^ n)) (10 ^ n)))))) : Rn 171 38 [.ref 86, .int (Int32.ofNat s), .int b, .int (Int32.ofNat C), .null, .null, .null, .null, .null, .null, .null, .null] [] (Sg X0 J) Q := by
  obtain ⟨P, hP, eP, eP2⟩ := all_e hB.1.1
  have hn := hB.1.1
  have hle := od_le (odW I n s) b hC hn (2 ^ n) (Nat.le_refl _)
  have h10 := p10 n (by omega)
  have eC := e64 C (by omega)
  have eD := e64 (10 - C) (by omega)
  rw [eP2] at h hle
  have g0 : ∀ {Y : Nat → Nat → Int32}, Sc I Y → Y 87 0 = Int32.ofNat n := fun hy => by rw [hy.z87]; exact hB.1.2.2.1
  have e0 := g0 hX
  simp only [u171_38, u171_39, u171_41, u171_42, u171_44, u171_45]
  refine Rn_fr (n := n) (X := Unit) (fun k _ => [.ref 86, .int (Int32.ofNat s), .int b, .int (Int32.ofNat C), .long 0, .null, .long (Int64.ofNat (10 ^ k)), .null, .int (Int32.ofNat k), .null, .null, .null]) (fun _ _ => Sg X0 J) () rfl rfl ?_ ?_
  · intro k hk _ ih
    have ih := ih ()
    rw [Nat.pow_succ] at ih
    have hnk : ¬ n ≤ k := by omega
    have e10 : Int64.ofNat (10 ^ k) * 10 = Int64.ofNat (10 ^ k * 10) := l_mm
    clear h hle h10
    simp (disch := first | assumption | omega | decide | exact la_87 | exact la_88 | exact la_90 | exact la_91 | exact la_92 | exact la_93 | exact la_94 | exact la_95 | exact la_96 | exact la_97 | exact la_98 | exact la_99 | exact la_10 | exact la_23 | exact la_77 | exact la_78 | exact la_18 | exact la_19 | exact la_20) only [u171_47, u171_49, u171_50, u171_53, u171_56, u171_58, u171_61, u171_62, u171_64, c119, e0, la_86, kLt, true_and, o_aa, o_al, o_la, o_mm, o_ml, o_lm, o_ss, o_sl, o_ls, o_tn, o_tl, o_lt, o_ltl, o_llt, o_le, o_lel, o_lle, o_eq, o_eql, o_leq, o_inb, o_inl, o_neg, hnk, if_false, e10]
    exact (u171_67 ..).mpr ih
  · intro _
    generalize 10 ^ n = u at h h10 ⊢
    simp (disch := first | assumption | omega | decide | exact la_87 | exact la_88 | exact la_90 | exact la_91 | exact la_92 | exact la_93 | exact la_94 | exact la_95 | exact la_96 | exact la_97 | exact la_98 | exact la_99 | exact la_10 | exact la_23 | exact la_77 | exact la_78 | exact la_18 | exact la_19 | exact la_20) only [u171_47, u171_49, u171_50, u171_53, u171_70, u171_71, c119, e0, la_86, kLt, true_and, o_aa, o_al, o_la, o_mm, o_ml, o_lm, o_ss, o_sl, o_ls, o_tn, o_tl, o_lt, o_ltl, o_llt, o_le, o_lel, o_lle, o_eq, o_eql, o_leq, o_inb, o_inl, o_neg, Nat.le_refl, if_true]
    refine Rn_fr (n := P + 1) (X := {X : Nat → Nat → Int32 // Sc I X} × Value × Value) (fun k x => [.ref 86, .int (Int32.ofNat s), .int b, .int (Int32.ofNat C), .long (Int64.ofNat (od (odW I n s) b C n k)), .null, .long (Int64.ofNat u), .null, .int (Int32.ofNat k), x.2.1, .null, x.2.2]) (fun _ x => Sg x.1.1 J) (⟨X0, hX⟩, .null, .null) rfl rfl ?_ ?_
    · rintro k hk ⟨⟨X, hx⟩, v, v'⟩ ih
      dsimp only
      have hnk : ¬ P < k := by omega
      have hbw := fun j (hj : j < n) => bit_w k (by omega) j (by omega)
      have e1 := g0 hx
      have h135 := fun (pc : Nat) (ls st : Vs) => @c135 171 pc ls st X J Q n hn e1
      have h139 := fun (pc : Nat) (ls st : Vs) => @c139 171 pc ls st (lhI X n) J Q (Int32.ofNat k) n T (TJ_tk hB hx.z87).hm (by omega)
      have h91 : gmI (lhI X n) (Int32.ofNat k) n 91 s = odW I n s k := ((TJ_pa (TJ_tk hB hx.z87) (by omega) hbw).wk s hs).symm
      have k1 := (tm_k n (by omega) C (by omega) k (by omega) (by omega)).1
      have f2 := fun v => ih (⟨_, (hx.tr (Sc_lh X n)).tr (Sc_gm (lhI X n) (Int32.ofNat k) n)⟩, v)
      simp only [od_s] at f2
      rw [← k1] at f2
      generalize od (odW I n s) b C n k = p at f2 ⊢
      generalize odW I n s k = d at f2 h91 ⊢
      generalize gmI (lhI X n) (Int32.ofNat k) n = X2 at h139 h91 f2 ⊢
      generalize lhI X n = X1 at h135 h139
      clear ih h hB hx hbw k1 hle
      simp (disch := first | assumption | omega | decide | exact la_87 | exact la_88 | exact la_90 | exact la_91 | exact la_92 | exact la_93 | exact la_94 | exact la_95 | exact la_96 | exact la_97 | exact la_98 | exact la_99 | exact la_10 | exact la_23 | exact la_77 | exact la_78 | exact la_18 | exact la_19 | exact la_20) only [u171_73, u171_75, u171_76, u171_79, u171_82, u171_83, u171_85, u171_86, c140, e1, eP, la_86, kLt, true_and, o_aa, o_al, o_la, o_mm, o_ml, o_lm, o_ss, o_sl, o_ls, o_tn, o_tl, o_lt, o_ltl, o_llt, o_le, o_lel, o_lle, o_eq, o_eql, o_leq, o_inb, o_inl, o_neg, hnk, if_false]
      refine Rn_fr (n := n) (X := Unit) (fun j _ => [.ref 86, .int (Int32.ofNat s), .int b, .int (Int32.ofNat C), .long (Int64.ofNat p), .null, .long (Int64.ofNat u), .null, .int (Int32.ofNat k), .long (Int64.ofNat (mpo C k j)), .null, .int (Int32.ofNat j)]) (fun _ _ => Sg X J) () rfl rfl ?_ ?_
      · intro j hj _ ih2
        have ih2 := ih2 ()
        rw [mpo_s] at ih2
        have hnj : ¬ n ≤ j := by omega
        have hb := bit_d k (by omega) j (by omega)
        clear f2 h135 h139
        by_cases hc : k / 2 ^ j % 2 = 1
        · have hc2 := hb.mpr hc
          rw [if_pos hc] at ih2
          clear hb hc
          simp (disch := first | assumption | omega | decide | exact la_87 | exact la_88 | exact la_90 | exact la_91 | exact la_92 | exact la_93 | exact la_94 | exact la_95 | exact la_96 | exact la_97 | exact la_98 | exact la_99 | exact la_10 | exact la_23 | exact la_77 | exact la_78 | exact la_18 | exact la_19 | exact la_20) only [u171_88, u171_90, u171_91, u171_94, u171_97, u171_99, u171_101, u171_103, u171_104, u171_105, u171_106, u171_107, u171_110, u171_111, u171_112, u171_115, u171_117, u171_118, u171_119, u171_120, u171_121, u171_123, c119, e1, la_86, kLt, true_and, o_aa, o_al, o_la, o_mm, o_ml, o_lm, o_ss, o_sl, o_ls, o_tn, o_tl, o_lt, o_ltl, o_llt, o_le, o_lel, o_lle, o_eq, o_eql, o_leq, o_inb, o_inl, o_neg, hnj, if_false, hc2, not_true, eC, l_mm]
          exact (u171_126 ..).mpr ih2
        · have hc2 : ¬ (Int32.ofNat k >>> (Int32.ofNat j &&& 31)) &&& 1 = 1 := fun q => hc (hb.mp q)
          rw [if_neg hc] at ih2
          clear hb hc
          simp (disch := first | assumption | omega | decide | exact la_87 | exact la_88 | exact la_90 | exact la_91 | exact la_92 | exact la_93 | exact la_94 | exact la_95 | exact la_96 | exact la_97 | exact la_98 | exact la_99 | exact la_10 | exact la_23 | exact la_77 | exact la_78 | exact la_18 | exact la_19 | exact la_20) only [u171_88, u171_90, u171_91, u171_94, u171_97, u171_99, u171_101, u171_103, u171_104, u171_105, u171_106, u171_107, u171_110, u171_111, u171_112, u171_115, u171_117, u171_118, u171_119, u171_120, u171_121, u171_123, c119, e1, la_86, kLt, true_and, o_aa, o_al, o_la, o_mm, o_ml, o_lm, o_ss, o_sl, o_ls, o_tn, o_tl, o_lt, o_ltl, o_llt, o_le, o_lel, o_lle, o_eq, o_eql, o_leq, o_inb, o_inl, o_neg, hnj, if_true, if_false, hc2, not_false_eq_true, eD, l_mm]
          exact (u171_126 ..).mpr ih2
      · intro _
        generalize mpo C k n = z at f2 ⊢
        simp (disch := first | assumption | omega | decide | exact la_87 | exact la_88 | exact la_90 | exact la_91 | exact la_92 | exact la_93 | exact la_94 | exact la_95 | exact la_96 | exact la_97 | exact la_98 | exact la_99 | exact la_10 | exact la_23 | exact la_77 | exact la_78 | exact la_18 | exact la_19 | exact la_20) only [u171_88, u171_90, u171_91, u171_94, u171_129, u171_130, u171_133, u171_134, u171_136, u171_139, u171_141, u171_142, u171_145, u171_146, u171_147, u171_148, c119, e1, h135, h139, h91, hs, la_86, la_91, lt_91, lr_86_6, kLt, true_and, o_aa, o_al, o_la, o_mm, o_ml, o_lm, o_ss, o_sl, o_ls, o_tn, o_tl, o_lt, o_ltl, o_llt, o_le, o_lel, o_lle, o_eq, o_eql, o_leq, o_inb, o_inl, o_neg, Nat.le_refl, if_true]
        by_cases h1 : d < b
        · simp only [if_pos h1] at f2 ⊢
          simp (disch := first | assumption | omega | decide | exact la_87 | exact la_88 | exact la_90 | exact la_91 | exact la_92 | exact la_93 | exact la_94 | exact la_95 | exact la_96 | exact la_97 | exact la_98 | exact la_99 | exact la_10 | exact la_23 | exact la_77 | exact la_78 | exact la_18 | exact la_19 | exact la_20) only [u171_156, u171_157, u171_158, u171_160, o_aa, o_al, o_la, o_mm, o_ml, o_lm, o_ss, o_sl, o_ls, o_tn, o_tl, o_lt, o_ltl, o_llt, o_le, o_lel, o_lle, o_eq, o_eql, o_leq, o_inb, o_inl, o_neg, Int64.add_zero]
          exact (u171_163 ..).mpr (f2 (_, _))
        · simp only [if_neg h1] at f2 ⊢
          simp (disch := first | assumption | omega | decide | exact la_87 | exact la_88 | exact la_90 | exact la_91 | exact la_92 | exact la_93 | exact la_94 | exact la_95 | exact la_96 | exact la_97 | exact la_98 | exact la_99 | exact la_10 | exact la_23 | exact la_77 | exact la_78 | exact la_18 | exact la_19 | exact la_20) only [u171_151, u171_153, u171_156, u171_157, u171_158, u171_160, o_aa, o_al, o_la, o_mm, o_ml, o_lm, o_ss, o_sl, o_ls, o_tn, o_tl, o_lt, o_ltl, o_llt, o_le, o_lel, o_lle, o_eq, o_eql, o_leq, o_inb, o_inl, o_neg, l_aa]
          exact (u171_163 ..).mpr (f2 (_, _))
    · rintro ⟨⟨X, hx⟩, v, v'⟩
      dsimp only
      have e1 := g0 hx
      have f := h X hx
      generalize od (odW I n s) b C n (P + 1) = p at f hle ⊢
      have q2 := fun (pc : Nat) (ls st : Vs) => @c170 171 pc ls st X J Q p u (by omega) h10.1 h10.2
      clear h hB hx
      simp (disch := first | assumption | omega | decide | exact la_87 | exact la_88 | exact la_90 | exact la_91 | exact la_92 | exact la_93 | exact la_94 | exact la_95 | exact la_96 | exact la_97 | exact la_98 | exact la_99 | exact la_10 | exact la_23 | exact la_77 | exact la_78 | exact la_18 | exact la_19 | exact la_20) only [u171_73, u171_75, u171_76, u171_79, u171_166, u171_167, u171_169, u171_171, u171_174, u171_175, c140, e1, eP, q2, la_86, kLt, true_and, o_aa, o_al, o_la, o_mm, o_ml, o_lm, o_ss, o_sl, o_ls, o_tn, o_tl, o_lt, o_ltl, o_llt, o_le, o_lel, o_lle, o_eq, o_eql, o_leq, o_inb, o_inl, o_neg, Nat.lt_succ_self, if_true]
      exact f
end ODDS
theorem wJ_eq (J : Nat → Nat → Int64) (a k : Nat) (x : Int64) (b j : Nat) : wJ J a k x b j = if b = a then (if j = k then x else J a j) else J b j := by
  unfold wJ va_up
  by_cases h : b = a
  · subst h
    by_cases h2 : j = k <;> simp [h2]
  · simp [h]
theorem Rel_J {I : Nat → Nat → Int32} {J J' : Nat → Nat → Int64} {B : Nat} (h : Rel I J B) (h7 : J' 0 7 = J' 86 4) (h8 : J' 0 8 = J' 86 5) : Rel I J' B := ⟨h.1, h.2.1, h.2.2.1, h.2.2.2.1, ⟨h7, h8⟩, h.2.2.2.2.2⟩
theorem op28 (a b c : Int32) : OpI 92 [.ref 0, .int a, .int b, .int c, .null, .null, .null, .null] 171 [.ref 86, .int a, .int b, .int c, .null, .null, .null, .null, .null, .null, .null, .null] := by
  intro I J B hR hB
  obtain ⟨n, n2, T, hBs⟩ := Bs_of hR
  have hT := hBs.2.2.1
  by_cases h1 : 0 ≤ a ∧ a ≤ 7
  · by_cases h2 : 0 ≤ b ∧ b ≤ 99
    · by_cases h3 : 0 ≤ c ∧ c ≤ 10
      · obtain ⟨s, hs, rfl⟩ := o_in (m := 7) h1.1 h1.2 (by omega)
        obtain ⟨C, hC, rfl⟩ := o_in (m := 10) h3.1 h3.2 (by omega)
        simp (disch := decide) only [u92_0, u92_1, u92_4, u92_7, u92_8, u92_9, u92_11, u92_14, u92_17, u92_18, u92_19, u92_21, u92_24, u92_27, u92_28, u92_30, u92_33, u92_34, u92_35, u92_37, u92_38, u92_41, u92_42, u92_45, c100, c101, c43_21_8, bi_0, h1, h2, h3, not_true, not_false_eq_true, if_true, if_false, la_0, la_21, lr_0_0, lr_0_1, kLt, true_and]
        refine od_c b (by omega) hC hBs (by omega) (Fr_tk I 99) (fun X hX => ?_)
        refine ⟨_, _, _, rfl, rfl, hX.2.1 999 (by decide), hX.2.1 1000 (by decide), ?_⟩
        simp (disch := decide) only [u171_0, u171_1, u171_4, u171_7, u171_8, u171_9, u171_10, u171_13, u171_16, u171_19, u171_20, u171_21, u171_22, u171_25, u171_28, u171_31, u171_32, u171_34, u171_37, c122, c113n, bi_0, h1, h2, h3, not_true, not_false_eq_true, if_true, if_false]
        refine od_m b (by omega) hC hBs (by omega) hX.1 (fun Z hZ => ?_)
        refine ⟨Z, _, rfl, rfl, hZ.1 999 (by decide) (by decide) (by decide), hZ.1 1000 (by decide) (by decide) (by decide), Rel_J (Rel_le (Rel_scr hR hZ.1 hZ.2.1 hZ.2.2 ⟨rfl, rfl, rfl, rfl⟩) (by omega)) ?_ ?_⟩
        · simp (disch := decide) only [wJ_eq, if_true, if_false, Nat.reduceEqDiff, reduceIte]
        · simp (disch := decide) only [wJ_eq, if_true, if_false, Nat.reduceEqDiff, reduceIte]
      · simp (disch := decide) only [u92_0, u92_1, u92_4, u92_7, u92_8, u92_9, u92_11, u92_14, u92_17, u92_18, u92_19, u92_21, u92_24, u92_27, u92_28, u92_30, u92_33, c100, c101, c103b, bi_0, h1, h2, h3, not_true, not_false_eq_true, if_true, if_false, la_0, kLt, true_and]
        refine ⟨_, _, _, rfl, rfl, up_o _ _ (by decide), up_o _ _ (by decide), ?_⟩
        simp (disch := decide) only [u171_0, u171_1, u171_4, u171_7, u171_8, u171_9, u171_10, u171_13, u171_16, u171_19, u171_20, u171_21, u171_22, u171_25, u171_28, u171_31, u171_32, u171_34, u171_37, c122, c113n, c114, bi_0, h1, h2, h3, not_true, not_false_eq_true, if_true, if_false, la_86, kLt, true_and]
        exact fin_bad' hR
    · simp (disch := decide) only [u92_0, u92_1, u92_4, u92_7, u92_8, u92_9, u92_11, u92_14, u92_17, u92_18, u92_19, u92_21, u92_24, u92_27, u92_28, u92_30, u92_33, c100, c101, c103b, bi_0, h1, h2, not_true, not_false_eq_true, if_true, if_false, la_0, kLt, true_and]
      refine ⟨_, _, _, rfl, rfl, up_o _ _ (by decide), up_o _ _ (by decide), ?_⟩
      simp (disch := decide) only [u171_0, u171_1, u171_4, u171_7, u171_8, u171_9, u171_10, u171_13, u171_16, u171_19, u171_20, u171_21, u171_22, u171_25, u171_28, u171_31, u171_32, u171_34, u171_37, c122, c113n, c114, bi_0, h1, h2, not_true, not_false_eq_true, if_true, if_false, la_86, kLt, true_and]
      exact fin_bad' hR
  · simp (disch := decide) only [u92_0, u92_1, u92_4, u92_7, u92_8, u92_9, u92_11, u92_14, u92_17, u92_18, u92_19, u92_21, u92_24, u92_27, u92_28, u92_30, u92_33, c100, c101, c103b, bi_0, h1, not_true, not_false_eq_true, if_true, if_false, la_0, kLt, true_and]
    refine ⟨_, _, _, rfl, rfl, up_o _ _ (by decide), up_o _ _ (by decide), ?_⟩
    simp (disch := decide) only [u171_0, u171_1, u171_4, u171_7, u171_8, u171_9, u171_10, u171_13, u171_16, u171_19, u171_20, u171_21, u171_22, u171_25, u171_28, u171_31, u171_32, u171_34, u171_37, c122, c113n, c114, bi_0, h1, not_true, not_false_eq_true, if_true, if_false, la_86, kLt, true_and]
    exact fin_bad' hR

