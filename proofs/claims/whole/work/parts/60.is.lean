/-! THE CALLS: is, wants -/
def kcI (Y : Nat → Nat → Int32) (e : Nat) (x : Int32) : Nat → Nat → Int32 := va_up Y 25 (upd (Y 25) e x)
def chI (Z : Nat → Nat → Int32) (a : Nat) (x y : Int32) : Nat → Nat → Int32 := wI (wI Z 92 a x) 93 a y
theorem ch_d (Z : Nat → Nat → Int32) (a : Nat) (x y : Int32) : wI (wI Z 92 a x) 93 a y = chI Z a x y := rfl
theorem ch_f (Z : Nat → Nat → Int32) (a : Nat) (x y : Int32) {q : Nat} (h1 : ¬ q = 92) (h2 : ¬ q = 93) : chI Z a x y q = Z q := by
  simp (disch := assumption) only [chI, wI_d, up_o]
theorem ch_92 (Z : Nat → Nat → Int32) (a : Nat) (x y : Int32) : chI Z a x y 92 = upd (Z 92) a x := by
  simp (disch := decide) only [chI, wI_d, up_o, up_s]
theorem ch_93 (Z : Nat → Nat → Int32) (a : Nat) (x y : Int32) : chI Z a x y 93 = upd (Z 93) a y := by
  simp (disch := decide) only [chI, wI_d, up_o, up_s]
theorem kc_f (Y : Nat → Nat → Int32) (e : Nat) (x : Int32) {q : Nat} (h : ¬ q = 25) : kcI Y e x q = Y q := up_o _ _ h
theorem kc_25 (Y : Nat → Nat → Int32) (e : Nat) (x : Int32) : kcI Y e x 25 = upd (Y 25) e x := up_s _ _ _
theorem Sc.ch {I Z : Nat → Nat → Int32} (h : Sc I Z) (a : Nat) (x y : Int32) : Sc I (chI Z a x y) := (h.up (by decide) _).up (by decide) _
theorem Fr.kc {I X : Nat → Nat → Int32} {e : Nat} (h : Fr I e X) (x : Int32) : Fr I e (kcI X e x) := by
  obtain ⟨h1, h2, h3, h4, h5⟩ := h
  refine ⟨h1.up (by decide) _, fun q hq => ?_, ?_, fun j hj he => ?_, ?_⟩
  · rw [kc_f _ _ _ (by omega)]; exact h2 q hq
  · rw [kc_f _ _ _ (by omega)]; exact h3
  · rw [kc_25, ud_o _ _ he]; exact h4 j hj he
  · rw [kc_f _ _ _ (by decide), kc_f _ _ _ (by decide), kc_f _ _ _ (by decide), kc_f _ _ _ (by decide)]; exact h5
theorem TJ_ch {Y Y' Z : Nat → Nat → Int32} {n T a x y : Nat} (h : TJ Y Z n T) (hx : x < 6) (hy : y < 8) (f : ∀ q, ¬ q = 25 → Y' q = Y q) (f25 : ∀ j, j < 18 → ¬ j = a * 3 → ¬ j = a * 3 + 2 → Y' 25 j = Y 25 j) (fx : Y' 25 (a * 3) = Int32.ofNat x) (fy : Y' 25 (a * 3 + 2) = Int32.ofNat y) : TJ Y' (chI Z a (Int32.ofNat x) (Int32.ofNat y)) n T := by
  obtain ⟨hn, a1, a2, a3, t1, t2, p1, w1⟩ := h
  unfold TJ
  rw [f 22 (by decide), f 23 (by decide), f 24 (by decide), ch_92, ch_93, ch_f (q := 86) _ _ _ _ (by decide) (by decide), ch_f (q := 87) _ _ _ _ (by decide) (by decide), ch_f (q := 91) _ _ _ _ (by decide) (by decide)]
  refine ⟨hn, a1, a2, fun k hk => ?_, t1, t2, p1, w1⟩
  obtain ⟨c1, ⟨S, hS, S1, S2⟩, s1⟩ := a3 k hk
  by_cases hka : k = a
  · subst hka
    rw [ud_s, ud_s]
    exact ⟨⟨x, hx, fx, rfl⟩, ⟨S, hS, by rw [f25 _ (by omega) (by omega) (by omega)]; exact S1, S2⟩, ⟨y, hy, fy, rfl⟩⟩
  · rw [ud_o _ _ hka, ud_o _ _ hka, f25 _ (by omega) (by omega) (by omega), f25 _ (by omega) (by omega) (by omega), f25 _ (by omega) (by omega) (by omega)]
    exact ⟨c1, ⟨S, hS, S1, S2⟩, s1⟩
/-- weeks behind m turns, if the team a were x and pulled for y -/
def cW (I : Nat → Nat → Int32) (n a x y m : Nat) : Nat → Int32 := pmI (chI (lhI I n) a (Int32.ofNat x) (Int32.ofNat y)) (1 <<< (Int32.ofNat n &&& 31) - 1) n m 91
/-- what a candidate is -/
def Cd (I : Nat → Nat → Int32) (a e K : Nat) (kx ky : Nat → Nat) : Prop := (e = a * 3 ∨ e = a * 3 + 2) ∧ ∀ c, c < K → kx c < 6 ∧ ky c < 8 ∧ ∀ C : Nat → Int32, (∀ j, j < 18 → ¬ j = e → C j = I 12 j) → upd C e (Int32.ofNat c) (a * 3) = Int32.ofNat (kx c) ∧ upd C e (Int32.ofNat c) (a * 3 + 2) = Int32.ofNat (ky c)
section CANDS
variable {I X Z : Nat → Nat → Int32} {n n2 T B a e K c : Nat} {kx ky : Nat → Nat}
theorem tj_c (hB : Bs I n n2 T B) (hz : Z 87 = I 87) (hc : Cd I a e K kx ky) (hk : c < K) (h : Fr I e X) : TJ (kcI (ytI X) e (Int32.ofNat c)) (chI (lhI Z n) a (Int32.ofNat (kx c)) (Int32.ofNat (ky c))) n T := by
  obtain ⟨he, hc⟩ := hc
  obtain ⟨h1, h2, h3⟩ := hc c hk
  have h25 : ∀ j, j < 18 → ¬ j = e → ytI X 25 j = I 12 j := fun j hj hne => by rw [yt_f X (by decide) (by decide)]; exact h.2.2.2.1 j hj hne
  obtain ⟨g1, g2⟩ := h3 (ytI X 25) h25
  have hY : TJ (va_up (ytI X) 25 (I 12)) (lhI Z n) n T := by
    refine TJ_mk hB hz ?_ ?_ (fun j hj => ?_) ?_ (fun j hj => ?_)
    · rw [up_o _ _ (by decide)]; exact (yt_22 X).1.trans (by rw [h.ns (by decide) (by decide)])
    · rw [up_o _ _ (by decide)]; exact (yt_22 X).2.trans (by rw [h.ns (by decide) (by decide)])
    · rw [up_o _ _ (by decide)]; exact (yt_23 X hj).trans (by rw [h.ns (by decide) (by decide)])
    · rw [up_o _ _ (by decide), yt_f X (by decide) (by decide)]; exact h.2.2.1
    · rw [up_s]
  refine TJ_ch hY h1 h2 (fun q hq => ?_) (fun j hj j1 j2 => ?_) ?_ ?_
  · rw [kc_f _ _ _ hq, up_o _ _ hq]
  · rw [kc_25, up_s]
    have hne : ¬ j = e := by omega
    rw [ud_o _ _ hne]
    exact h25 j hj hne
  · rw [kc_25]; exact g1
  · rw [kc_25]; exact g2
theorem cw_c (hB : Bs I n n2 T B) (hT : T < 100000) (hc : Cd I a e K kx ky) (hk : c < K) (h : Fr I e X) : ∀ m, m ≤ 21 → ∀ j, j < 8 → psI (kcI (ytI X) e (Int32.ofNat c)) 21 (-1) n m 23 j = cW I n a (kx c) (ky c) m j := fun m hm j hj => (TJ_ps (tj_c (Z := I) hB rfl hc hk h) (fun k hk => bit_a n hB.1.1 k hk) m (by omega)).wk j hj
theorem cw_m (hB : Bs I n n2 T B) (hT : T < 100000) (hc : Cd I a e K kx ky) (hk : c < K) (h : Z 87 = I 87) : ∀ m, m ≤ 21 → ∀ j, j < 8 → pmI (chI (lhI Z n) a (Int32.ofNat (kx c)) (Int32.ofNat (ky c))) (1 <<< (Int32.ofNat n &&& 31) - 1) n m 91 j = cW I n a (kx c) (ky c) m j := fun m hm j hj => ((TJ_ps (tj_c hB h hc hk (Fr_tk I e)) (fun k hk => bit_a n hB.1.1 k hk) m (by omega)).wk j hj).symm.trans ((TJ_ps (tj_c (Z := I) hB rfl hc hk (Fr_tk I e)) (fun k hk => bit_a n hB.1.1 k hk) m (by omega)).wk j hj)
end CANDS
def ftt (F : Nat → Bool) (K : Nat) : Int32 := Nat.rec 0 (fun k s => if F k = true then s ||| (1 <<< (Int32.ofNat k &&& 31)) else s) K
theorem ftt_s (F : Nat → Bool) (K : Nat) : ftt F (K + 1) = if F K = true then ftt F K ||| (1 <<< (Int32.ofNat K &&& 31)) else ftt F K := rfl
abbrev ftF (I : Nat → Nat → Int32) (n a n3 : Nat) (kx ky t s : Nat → Nat) (w : Nat → Int32) : Nat → Bool := fun c => cbf (cW I n a (kx c) (ky c)) t s w n3 0
section FITTING
variable {m pc : Nat} {ls st : Vs} {I X Z : Nat → Nat → Int32} {J : Nat → Nat → Int64} {Q : Option Value → Sto → Prop} {n n2 n3 T B a e K col : Nat} {kx ky t s : Nat → Nat} {w : Nat → Int32}
theorem c36t (x : Int32) (ha : a < 6) (hc : col < 3) : Ca 36 [.ref 24, .int (Int32.ofNat a), .int (Int32.ofNat col), .int x] (Sg X J) m pc ls st Q ↔ Rn m pc ls st (Sg (kcI X (a * 3 + col) x) J) Q := by
  rw [c36 24 lisT_24]
  have h18 : a * 3 + col < 18 := by omega
  simp (disch := first | assumption | omega | decide | exact la_87 | exact la_88 | exact la_90 | exact la_91 | exact la_92 | exact la_93 | exact la_94 | exact la_95 | exact la_96 | exact la_97 | exact la_98 | exact la_99 | exact la_10 | exact la_23 | exact la_77 | exact la_78 | exact la_18 | exact la_19 | exact la_20) only [o_aa, o_al, o_la, o_mm, o_ml, o_lm, o_ss, o_sl, o_ls, o_tn, o_tl, o_lt, o_ltl, o_llt, o_le, o_lel, o_lle, o_eq, o_eql, o_leq, o_inb, o_inl, o_neg, h18, true_and]
  rfl
theorem c107' (hB : Bs I n n2 T B) (hT : T < 100000) (hM : Ms I n3 t s w) (ha : a < 6) (hcol : col < 3) (hK : K ≤ 8) (hc : Cd I a (a * 3 + col) K kx ky) (h : ∀ X, Fr I (a * 3 + col) X → Rn m pc ls (.int (ftt (ftF I n a n3 kx ky t s w) K) :: st) (Sg X J) Q) : Ca 107 [.ref 0, .int (Int32.ofNat a), .int (Int32.ofNat col), .int (Int32.ofNat K), .null, .null] (Sg I J) m pc ls st Q := by
  unfold Ca
  simp (disch := decide) only [u107_0, u107_1, u107_3, u107_4, u107_7, u107_8, u107_11, u107_14, u107_15, c43_21_8, la_0, la_21, lr_0_0, lr_0_1, kLt, true_and]
  refine Rn_fr (n := K) (X := {X : Nat → Nat → Int32 // Fr I (a * 3 + col) X}) (fun k _ => [.ref 0, .int (Int32.ofNat a), .int (Int32.ofNat col), .int (Int32.ofNat K), .int (ftt (ftF I n a n3 kx ky t s w) k), .int (Int32.ofNat k)]) (fun _ x => Sg x.1 J) ⟨_, Fr_tk I _⟩ rfl rfl ?_ ?_
  · rintro k hk ⟨X, hx⟩ ih
    dsimp only
    have hnk : ¬ K ≤ k := by omega
    have hJ := tj_c (Z := I) hB rfl hc hk hx
    have hW := cw_c hB hT hc hk hx
    have hMt := (hx.yt.kc (Int32.ofNat k)).mt hM
    have f := fun q => ih ⟨_, (hx.yt.kc (Int32.ofNat k)).ps (-1) n q⟩
    simp only [ftt_s] at f
    have hn3 := hM.1
    generalize ftt (ftF I n a n3 kx ky t s w) k = p at f ⊢
    clear ih h hB hM hc hx
    simp (disch := first | assumption | omega | decide | exact la_87 | exact la_88 | exact la_90 | exact la_91 | exact la_92 | exact la_93 | exact la_94 | exact la_95 | exact la_96 | exact la_97 | exact la_98 | exact la_99 | exact la_10 | exact la_23 | exact la_77 | exact la_78 | exact la_18 | exact la_19 | exact la_20) only [u107_17, u107_19, u107_20, u107_23, u107_24, u107_27, u107_30, u107_31, u107_34, u107_37, u107_40, u107_41, u107_44, u107_47, u107_48, u107_49, u107_51, u107_54, u107_55, u107_58, c54t, c36t, la_0, la_8, la_9, la_21, la_22, la_24, lr_0_0, lr_0_1, lr_8_1, lr_21_1, lr_21_2, kLt, true_and, o_aa, o_al, o_la, o_mm, o_ml, o_lm, o_ss, o_sl, o_ls, o_tn, o_tl, o_lt, o_ltl, o_llt, o_le, o_lel, o_lle, o_eq, o_eql, o_leq, o_inb, o_inl, o_neg, hnk, if_false]
    refine c49' (cW I n a (kx k) (ky k)) hn3 hJ.tm hMt hW (fun q => ?_)
    have f := f q
    generalize psI (kcI (ytI X) (a * 3 + col) (Int32.ofNat k)) 21 (-1) n q = X2 at f ⊢
    clear hJ hW hMt
    simp only [u107_61, bb_0]
    cases hb : cbf (cW I n a (kx k) (ky k)) t s w n3 0 with
    | true =>
      simp only [ftF, hb, if_true] at f
      simp (disch := first | assumption | omega | decide | exact la_87 | exact la_88 | exact la_90 | exact la_91 | exact la_92 | exact la_93 | exact la_94 | exact la_95 | exact la_96 | exact la_97 | exact la_98 | exact la_99 | exact la_10 | exact la_23 | exact la_77 | exact la_78 | exact la_18 | exact la_19 | exact la_20) only [Bool.true_eq_false, if_false, u107_64, u107_66, u107_67, u107_69, u107_70, u107_71, u107_73, o_aa, o_al, o_la, o_mm, o_ml, o_lm, o_ss, o_sl, o_ls, o_tn, o_tl, o_lt, o_ltl, o_llt, o_le, o_lel, o_lle, o_eq, o_eql, o_leq, o_inb, o_inl, o_neg]
      exact (u107_76 ..).mpr f
    | false =>
      simp only [ftF, hb, Bool.false_eq_true, if_false] at f
      simp (disch := first | assumption | omega | decide | exact la_87 | exact la_88 | exact la_90 | exact la_91 | exact la_92 | exact la_93 | exact la_94 | exact la_95 | exact la_96 | exact la_97 | exact la_98 | exact la_99 | exact la_10 | exact la_23 | exact la_77 | exact la_78 | exact la_18 | exact la_19 | exact la_20) only [if_true, u107_73, o_aa, o_al, o_la, o_mm, o_ml, o_lm, o_ss, o_sl, o_ls, o_tn, o_tl, o_lt, o_ltl, o_llt, o_le, o_lel, o_lle, o_eq, o_eql, o_leq, o_inb, o_inl, o_neg]
      exact (u107_76 ..).mpr f
  · rintro ⟨X, hx⟩
    dsimp only
    have f := h X hx
    clear h hB hM hc hx
    generalize ftt (ftF I n a n3 kx ky t s w) K = p at f ⊢
    simp (disch := first | assumption | omega | decide | exact la_87 | exact la_88 | exact la_90 | exact la_91 | exact la_92 | exact la_93 | exact la_94 | exact la_95 | exact la_96 | exact la_97 | exact la_98 | exact la_99 | exact la_10 | exact la_23 | exact la_77 | exact la_78 | exact la_18 | exact la_19 | exact la_20) only [u107_17, u107_19, u107_20, u107_79, u107_81, o_aa, o_al, o_la, o_mm, o_ml, o_lm, o_ss, o_sl, o_ls, o_tn, o_tl, o_lt, o_ltl, o_llt, o_le, o_lel, o_lle, o_eq, o_eql, o_leq, o_inb, o_inl, o_neg, Nat.le_refl, if_true]
    exact f
theorem cb_m (c : Nat) (hB : Bs I n n2 T B) (hT : T < 100000) (hM : Ms I n3 t s w) (ha : a < 6) (hc : Cd I a e K kx ky) (hk : c < K) : ∀ d r v Z, r + d = n3 → Sc I Z → (∀ Z, Sc I Z → Q (some (.int (bb (cbf (cW I n a (kx c) (ky c)) t s w d r)))) (Sg Z J)) → Rn 164 6 [.ref 86, .int (Int32.ofNat a), .int (Int32.ofNat (kx c)), .int (Int32.ofNat (ky c)), .int 1, .int (Int32.ofNat r), v] [] (Sg Z J) Q := by
  intro d
  induction d with
  | zero =>
    intro r v Z hr hZ h
    obtain rfl : r = n3 := by omega
    have e3 : Z 87 3 = Int32.ofNat r := by rw [hZ.z87]; exact hM.2.2.1
    have hn3 := hM.1
    have f := h Z hZ
    clear h hB hM hc hZ
    simp (disch := first | assumption | omega | decide | exact la_87 | exact la_88 | exact la_90 | exact la_91 | exact la_92 | exact la_93 | exact la_94 | exact la_95 | exact la_96 | exact la_97 | exact la_98 | exact la_99 | exact la_10 | exact la_23 | exact la_77 | exact la_78 | exact la_18 | exact la_19 | exact la_20) only [u164_6, u164_8, u164_9, u164_12, u164_13, u164_14, u164_103, u164_105, la_86, la_87, lt_87, lr_86_0, kLt, true_and, e3, o_aa, o_al, o_la, o_mm, o_ml, o_lm, o_ss, o_sl, o_ls, o_tn, o_tl, o_lt, o_ltl, o_llt, o_le, o_lel, o_lle, o_eq, o_eql, o_leq, o_inb, o_inl, o_neg, Nat.le_refl, Nat.reduceLT, if_true]
    exact ⟨Or.inr trivial, f⟩
  | succ d ih =>
    intro r v Z hr hZ h
    have e3 : Z 87 3 = Int32.ofNat n3 := by rw [hZ.z87]; exact hM.2.2.1
    have hn := hB.1.1
    have hn3 := hM.1
    have e0 : Z 87 0 = Int32.ofNat n := by rw [hZ.z87]; exact hB.1.2.2.1
    have hJ := tj_c hB hZ.z87 hc hk (Fr_tk I e)
    obtain ⟨⟨ht, -, et⟩, ⟨hs, -, es⟩, -, ew⟩ := hM.2.2.2 r (by omega)
    have hW := cw_m hB hT hc hk hZ.z87 (t r) (by omega) (s r) hs
    have c87 : chI (lhI Z n) a (Int32.ofNat (kx c)) (Int32.ofNat (ky c)) 87 = I 87 := by rw [ch_f _ _ _ _ (by decide) (by decide), lh_87, hZ.z87]
    have p87 : pmI (chI (lhI Z n) a (Int32.ofNat (kx c)) (Int32.ofNat (ky c))) (1 <<< (Int32.ofNat n &&& 31) - 1) n (t r) 87 = I 87 := by rw [pm_87, c87]
    have i0 : I 87 0 = Int32.ofNat n := hB.1.2.2.1
    have i3 : I 87 3 = Int32.ofNat n3 := hM.2.2.1
    have hS2 := ((hZ.tr (Sc_lh Z n)).ch a (Int32.ofNat (kx c)) (Int32.ofNat (ky c))).tr (Sc_pm _ (1 <<< (Int32.ofNat n &&& 31) - 1) n (t r))
    have h135 := fun (pc : Nat) (ls st : Vs) => @c135 164 pc ls st Z J Q n hn e0
    have h141 := fun (pc : Nat) (ls st : Vs) => @c141 164 pc ls st (chI (lhI Z n) a (Int32.ofNat (kx c)) (Int32.ofNat (ky c))) J Q (1 <<< (Int32.ofNat n &&& 31) - 1) n T (t r) hJ.hm (by omega) (by omega)
    have hst := fun v => ih (r + 1) v _ (by omega) hS2
    simp only [cbf_s] at h
    generalize pmI (chI (lhI Z n) a (Int32.ofNat (kx c)) (Int32.ofNat (ky c))) (1 <<< (Int32.ofNat n &&& 31) - 1) n (t r) = Z2 at p87 hS2 h141 hst hW ⊢
    generalize cW I n a (kx c) (ky c) (t r) (s r) = wk at hW h
    have hf := h Z2 hS2
    generalize lhI Z n = Z1 at h135 h141 c87 ⊢
    have hnk : ¬ n3 ≤ r := by omega
    have q1 : 44 + 3 * r < 142 := by omega
    have q2 : 44 + 3 * r + 1 < 142 := by omega
    have q3 : 44 + 3 * r + 2 < 142 := by omega
    clear ih hB hM hc hZ hS2 hJ
    simp (disch := first | assumption | omega | decide | exact la_87 | exact la_88 | exact la_90 | exact la_91 | exact la_92 | exact la_93 | exact la_94 | exact la_95 | exact la_96 | exact la_97 | exact la_98 | exact la_99 | exact la_10 | exact la_23 | exact la_77 | exact la_78 | exact la_18 | exact la_19 | exact la_20) only [u164_6, u164_8, u164_9, u164_12, u164_13, u164_14, u164_17, u164_19, u164_22, u164_24, u164_25, u164_27, u164_28, u164_29, u164_31, u164_32, u164_35, u164_36, u164_39, u164_40, u164_41, u164_42, u164_43, u164_46, u164_47, u164_48, u164_49, u164_50, u164_51, u164_54, u164_56, u164_57, u164_58, u164_61, u164_64, u164_65, u164_68, u164_69, u164_72, u164_74, u164_75, u164_76, u164_77, u164_78, u164_79, u164_82, u164_84, u164_85, u164_86, u164_87, ch_d, h135, h141, c140, la_86, la_87, lt_87, la_91, lt_91, la_92, lt_92, la_93, lt_93, lr_86_0, lr_86_6, lr_86_9, lr_86_10, kLt, true_and, e3, c87, p87, i0, et, es, ew, hW, hs, ha, o_aa, o_al, o_la, o_mm, o_ml, o_lm, o_ss, o_sl, o_ls, o_tn, o_tl, o_lt, o_ltl, o_llt, o_le, o_lel, o_lle, o_eq, o_eql, o_leq, o_inb, o_inl, o_neg, hnk, q1, q2, q3, Nat.reduceLT, if_false, show ¬ (1 : Int32) = 0 by decide]
    by_cases h2 : wk = w r
    · simp only [if_pos h2] at h
      simp (disch := first | assumption | omega | decide | exact la_87 | exact la_88 | exact la_90 | exact la_91 | exact la_92 | exact la_93 | exact la_94 | exact la_95 | exact la_96 | exact la_97 | exact la_98 | exact la_99 | exact la_10 | exact la_23 | exact la_77 | exact la_78 | exact la_18 | exact la_19 | exact la_20) only [h2, not_true, if_false, u164_90, u164_91, u164_94, u164_95, u164_97, o_aa, o_al, o_la, o_mm, o_ml, o_lm, o_ss, o_sl, o_ls, o_tn, o_tl, o_lt, o_ltl, o_llt, o_le, o_lel, o_lle, o_eq, o_eql, o_leq, o_inb, o_inl, o_neg]
      exact (u164_100 ..).mpr (hst _ h)
    · rw [if_neg h2] at hf
      simp (disch := first | assumption | omega | decide | exact la_87 | exact la_88 | exact la_90 | exact la_91 | exact la_92 | exact la_93 | exact la_94 | exact la_95 | exact la_96 | exact la_97 | exact la_98 | exact la_99 | exact la_10 | exact la_23 | exact la_77 | exact la_78 | exact la_18 | exact la_19 | exact la_20) only [h2, not_false_eq_true, if_true, u164_94, u164_95, u164_97, o_aa, o_al, o_la, o_mm, o_ml, o_lm, o_ss, o_sl, o_ls, o_tn, o_tl, o_lt, o_ltl, o_llt, o_le, o_lel, o_lle, o_eq, o_eql, o_leq, o_inb, o_inl, o_neg]
      rw [u164_100]
      clear h h135 h141 hst
      simp (disch := first | assumption | omega | decide | exact la_87 | exact la_88 | exact la_90 | exact la_91 | exact la_92 | exact la_93 | exact la_94 | exact la_95 | exact la_96 | exact la_97 | exact la_98 | exact la_99 | exact la_10 | exact la_23 | exact la_77 | exact la_78 | exact la_18 | exact la_19 | exact la_20) only [u164_6, u164_8, u164_9, u164_12, u164_13, u164_14, u164_17, u164_19, u164_103, u164_105, la_86, la_87, lt_87, lr_86_0, kLt, true_and, p87, i3, o_aa, o_al, o_la, o_mm, o_ml, o_lm, o_ss, o_sl, o_ls, o_tn, o_tl, o_lt, o_ltl, o_llt, o_le, o_lel, o_lle, o_eq, o_eql, o_leq, o_inb, o_inl, o_neg, Nat.reduceLT, if_true]
      by_cases h3 : n3 ≤ r + 1
      · rw [if_pos h3]
        exact ⟨Or.inl trivial, hf⟩
      · rw [if_neg h3]
        exact ⟨Or.inl trivial, hf⟩
theorem c164' (c : Nat) (hB : Bs I n n2 T B) (hT : T < 100000) (hM : Ms I n3 t s w) (ha : a < 6) (hc : Cd I a e K kx ky) (hk : c < K) (hZ : Sc I Z) (h : ∀ Z, Sc I Z → Rn m pc ls (.int (bb (ftF I n a n3 kx ky t s w c)) :: st) (Sg Z J) Q) : Ca 164 [.ref 86, .int (Int32.ofNat a), .int (Int32.ofNat (kx c)), .int (Int32.ofNat (ky c)), .null, .null, .null] (Sg Z J) m pc ls st Q := by
  unfold Ca
  simp only [u164_0, u164_1, u164_3, u164_4]
  exact cb_m c hB hT hM ha hc hk n3 0 _ Z (by omega) hZ h
theorem c165' (hB : Bs I n n2 T B) (hT : T < 100000) (hM : Ms I n3 t s w) (ha : a < 6) {y : Nat} (hy : I 87 (14 + 3 * a + 2) = Int32.ofNat y) (hc : Cd I a e 6 (fun c => c) (fun _ => y)) (hZ : Sc I Z) (h : ∀ Z, Sc I Z → Rn m pc ls (.int (ftt (ftF I n a n3 (fun c => c) (fun _ => y) t s w) 6) :: st) (Sg Z J) Q) : Ca 165 [.ref 86, .int (Int32.ofNat a), .null, .null] (Sg Z J) m pc ls st Q := by
  unfold Ca
  simp only [u165_0, u165_1, u165_2, u165_3]
  refine Rn_fr (n := 6) (X := {Z : Nat → Nat → Int32 // Sc I Z}) (fun k _ => [.ref 86, .int (Int32.ofNat a), .int (ftt (ftF I n a n3 (fun c => c) (fun _ => y) t s w) k), .int (Int32.ofNat k)]) (fun _ x => Sg x.1 J) ⟨Z, hZ⟩ rfl rfl ?_ ?_
  · rintro k hk ⟨X, hx⟩ ih
    dsimp only
    have hnk : ¬ 6 ≤ k := by omega
    have ey : X 87 (14 + 3 * a + 2) = Int32.ofNat y := by rw [hx.z87]; exact hy
    have q1 : 14 + 3 * a + 2 < 142 := by omega
    have hgo := fun {pc : Nat} {ls st : Vs} {Q : Option Value → Sto → Prop} => @c164' 165 pc ls st I X J Q n n2 n3 T B a e 6 (fun c => c) (fun _ => y) t s w k hB hT hM ha hc hk hx
    simp only [ftt_s] at ih
    generalize ftt (ftF I n a n3 (fun c => c) (fun _ => y) t s w) k = p at ih ⊢
    clear h hB hM hc hx
    simp (disch := first | assumption | omega | decide | exact la_87 | exact la_88 | exact la_90 | exact la_91 | exact la_92 | exact la_93 | exact la_94 | exact la_95 | exact la_96 | exact la_97 | exact la_98 | exact la_99 | exact la_10 | exact la_23 | exact la_77 | exact la_78 | exact la_18 | exact la_19 | exact la_20) only [u165_4, u165_5, u165_7, u165_10, u165_11, u165_12, u165_13, u165_14, u165_15, u165_16, u165_17, u165_20, c123, la_86, kLt, true_and, ey, o_aa, o_al, o_la, o_mm, o_ml, o_lm, o_ss, o_sl, o_ls, o_tn, o_tl, o_lt, o_ltl, o_llt, o_le, o_lel, o_lle, o_eq, o_eql, o_leq, o_inb, o_inl, o_neg, hnk, q1, if_false]
    refine hgo (fun Z2 hZ2 => ?_)
    have f := ih ⟨Z2, hZ2⟩
    clear ih hgo
    simp only [u165_23, bb_0]
    cases hb : ftF I n a n3 (fun c => c) (fun _ => y) t s w k with
    | true =>
      simp only [hb, if_true] at f
      simp (disch := first | assumption | omega | decide | exact la_87 | exact la_88 | exact la_90 | exact la_91 | exact la_92 | exact la_93 | exact la_94 | exact la_95 | exact la_96 | exact la_97 | exact la_98 | exact la_99 | exact la_10 | exact la_23 | exact la_77 | exact la_78 | exact la_18 | exact la_19 | exact la_20) only [Bool.true_eq_false, if_false, u165_26, u165_27, u165_28, u165_29, u165_32, u165_33, u165_34, u165_35, o_aa, o_al, o_la, o_mm, o_ml, o_lm, o_ss, o_sl, o_ls, o_tn, o_tl, o_lt, o_ltl, o_llt, o_le, o_lel, o_lle, o_eq, o_eql, o_leq, o_inb, o_inl, o_neg]
      exact (u165_38 ..).mpr f
    | false =>
      simp only [hb, Bool.false_eq_true, if_false] at f
      simp (disch := first | assumption | omega | decide | exact la_87 | exact la_88 | exact la_90 | exact la_91 | exact la_92 | exact la_93 | exact la_94 | exact la_95 | exact la_96 | exact la_97 | exact la_98 | exact la_99 | exact la_10 | exact la_23 | exact la_77 | exact la_78 | exact la_18 | exact la_19 | exact la_20) only [if_true, u165_32, u165_33, u165_34, u165_35, o_aa, o_al, o_la, o_mm, o_ml, o_lm, o_ss, o_sl, o_ls, o_tn, o_tl, o_lt, o_ltl, o_llt, o_le, o_lel, o_lle, o_eq, o_eql, o_leq, o_inb, o_inl, o_neg, Int32.or_zero]
      exact (u165_38 ..).mpr f
  · rintro ⟨X, hx⟩
    dsimp only
    have f := h X hx
    generalize ftt (ftF I n a n3 (fun c => c) (fun _ => y) t s w) 6 = p at f ⊢
    clear h hB hM hc hx
    simp (disch := first | assumption | omega | decide | exact la_87 | exact la_88 | exact la_90 | exact la_91 | exact la_92 | exact la_93 | exact la_94 | exact la_95 | exact la_96 | exact la_97 | exact la_98 | exact la_99 | exact la_10 | exact la_23 | exact la_77 | exact la_78 | exact la_18 | exact la_19 | exact la_20) only [u165_4, u165_5, u165_7, u165_41, u165_42, o_aa, o_al, o_la, o_mm, o_ml, o_lm, o_ss, o_sl, o_ls, o_tn, o_tl, o_lt, o_ltl, o_llt, o_le, o_lel, o_lle, o_eq, o_eql, o_leq, o_inb, o_inl, o_neg, Nat.le_refl, if_true]
    exact f
end FITTING
theorem Cd_k {I : Nat → Nat → Int32} {a y : Nat} (hy : y < 8) (ha : a < 6) (e : I 12 (a * 3 + 2) = Int32.ofNat y) : Cd I a (a * 3 + 0) 6 (fun c => c) (fun _ => y) := ⟨Or.inl rfl, fun c hc => ⟨hc, hy, fun C hC => ⟨ud_s _ _ _, (ud_o _ _ (by omega)).trans ((hC _ (by omega) (by omega)).trans e)⟩⟩⟩
theorem Cd_s {I : Nat → Nat → Int32} {a x : Nat} (hx : x < 6) (ha : a < 6) (e : I 12 (a * 3) = Int32.ofNat x) : Cd I a (a * 3 + 2) 8 (fun _ => x) (fun c => c) := ⟨Or.inr rfl, fun c hc => ⟨hx, hc, fun C hC => ⟨(ud_o _ _ (by omega)).trans ((hC _ (by omega) (by omega)).trans e), ud_s _ _ _⟩⟩⟩
theorem lt_n {a : Int32} {n : Nat} (hn : n ≤ 6) (h : 0 ≤ a ∧ a < Int32.ofNat n) : ∃ k, k < n ∧ a = Int32.ofNat k := by
  obtain ⟨k, hk, rfl⟩ := o_in (m := n) h.1 (Int32.le_of_lt h.2) (by omega)
  have := h.2
  rw [o_lt (by omega) (by omega)] at this
  exact ⟨k, this, rfl⟩
theorem op25 (a : Int32) : OpI 89 [.ref 0, .int a] 166 [.ref 86, .int a] := by
  intro I J B hR hB
  obtain ⟨n, n2, T, hBs⟩ := Bs_of hR
  obtain ⟨n3, t, s, w, hM⟩ := Ms_of hR
  have hT := hBs.2.2.1
  have hn := hBs.1.1
  have e11 : I 11 1 = Int32.ofNat n := hBs.1.2.1
  have e87 : I 87 0 = Int32.ofNat n := hBs.1.2.2.1
  by_cases h1 : 0 ≤ a ∧ a < Int32.ofNat n
  · obtain ⟨k, hk, rfl⟩ := lt_n hn h1
    obtain ⟨-, -, ⟨y, hy, y1, y2⟩⟩ := hBs.1.2.2.2 k hk
    have hc := Cd_k hy (by omega) y1
    simp (disch := decide) only [u89_0, u89_1, u89_4, u89_7, u89_8, u89_11, u89_14, u89_15, u89_17, u89_20, u89_21, u89_22, u89_23, u89_24, u89_26, c30 11 lisT_11, bi_0, h1, e11, not_true, not_false_eq_true, if_true, if_false, la_0, la_8, la_11, lr_0_0, lr_8_2, kLt, true_and]
    refine c107' (a := k) (col := 0) (K := 6) hBs (by omega) hM (by omega) (by decide) (by decide) hc (fun X hX => ?_)
    rw [u89_29]
    refine ⟨_, _, _, rfl, rfl, hX.2.1 999 (by decide), hX.2.1 1000 (by decide), ?_⟩
    have g0 : X 87 0 = Int32.ofNat n := by rw [hX.2.1 87 (by decide)]; exact e87
    simp (disch := decide) only [u166_0, u166_1, u166_2, u166_5, u166_8, u166_9, u166_10, c121 n hn g0, bi_0, h1, not_true, not_false_eq_true, if_true, if_false, la_86, kLt, true_and]
    refine c165' hBs (by omega) hM (by omega) y2 hc hX.1 (fun Z hZ => ?_)
    simp only [u166_13, u166_16, u166_17, u166_19, u166_22]
    have hf := fin_sc (x := 0) (y := 0) hR hZ rfl
    simpa only [true_and] using hf
  · simp (disch := decide) only [u89_0, u89_1, u89_4, u89_7, u89_8, u89_11, u89_14, u89_15, u89_17, u89_20, c30 11 lisT_11, c103b, bi_0, h1, e11, not_true, not_false_eq_true, if_true, if_false, la_0, la_8, la_11, lr_0_0, lr_8_2, kLt, true_and]
    refine ⟨_, _, _, rfl, rfl, up_o _ _ (by decide), up_o _ _ (by decide), ?_⟩
    have g0 : bdI I 87 0 = Int32.ofNat n := by rw [bd_87]; exact e87
    simp (disch := decide) only [u166_0, u166_1, u166_2, u166_5, u166_16, u166_17, u166_19, u166_22, c121 n hn g0, c114, bi_0, h1, not_true, not_false_eq_true, if_true, if_false, la_86, kLt, true_and]
    exact fin_bad' hR
theorem op27 (a : Int32) : OpI 91 [.ref 0, .int a] 169 [.ref 86, .int a, .null, .null] := by
  intro I J B hR hB
  obtain ⟨n, n2, T, hBs⟩ := Bs_of hR
  obtain ⟨n3, t, s, w, hM⟩ := Ms_of hR
  have hT := hBs.2.2.1
  have hn := hBs.1.1
  have e11 : I 11 1 = Int32.ofNat n := hBs.1.2.1
  have e87 : I 87 0 = Int32.ofNat n := hBs.1.2.2.1
  by_cases h1 : 0 ≤ a ∧ a < Int32.ofNat n
  · obtain ⟨k, hk, rfl⟩ := lt_n hn h1
    obtain ⟨⟨x, hx, x1, x2⟩, -, -⟩ := hBs.1.2.2.2 k hk
    have hc := Cd_s hx (by omega) x1
    simp (disch := decide) only [u91_0, u91_1, u91_4, u91_7, u91_8, u91_11, u91_14, u91_15, u91_17, u91_20, u91_21, u91_22, u91_23, u91_24, u91_26, c30 11 lisT_11, bi_0, h1, e11, not_true, not_false_eq_true, if_true, if_false, la_0, la_8, la_11, lr_0_0, lr_8_2, kLt, true_and]
    refine c107' (a := k) (col := 2) (K := 8) hBs (by omega) hM (by omega) (by decide) (by decide) hc (fun X hX => ?_)
    rw [u91_29]
    refine ⟨_, _, _, rfl, rfl, hX.2.1 999 (by decide), hX.2.1 1000 (by decide), ?_⟩
    have g0 : X 87 0 = Int32.ofNat n := by rw [hX.2.1 87 (by decide)]; exact e87
    simp (disch := decide) only [u169_0, u169_1, u169_2, u169_5, u169_8, u169_9, u169_11, u169_14, u169_15, u169_16, u169_17, u169_18, c121 n hn g0, bi_0, h1, not_true, not_false_eq_true, if_true, if_false, la_86, kLt, true_and]
    refine Rn_fr (n := 8) (X := {Z : Nat → Nat → Int32 // Sc I Z}) (fun q _ => [.ref 86, .int (Int32.ofNat k), .int (ftt (ftF I n k n3 (fun _ => x) (fun c => c) t s w) q), .int (Int32.ofNat q)]) (fun _ x => Sg x.1 J) ⟨X, hX.1⟩ rfl rfl ?_ ?_
    · rintro q hq ⟨Z, hz⟩ ih
      dsimp only
      have hnk : ¬ 8 ≤ q := by omega
      have ex : Z 87 (14 + 3 * k) = Int32.ofNat x := by rw [hz.z87]; exact x2
      have q1 : 14 + 3 * k < 142 := by omega
      have hgo := fun {pc : Nat} {ls st : Vs} {Q : Option Value → Sto → Prop} => @c164' 169 pc ls st I Z J Q n n2 n3 T B k (k * 3 + 2) 8 (fun _ => x) (fun c => c) t s w q hBs (by omega) hM (by omega) hc hq hz
      simp only [ftt_s] at ih
      generalize ftt (ftF I n k n3 (fun _ => x) (fun c => c) t s w) q = p at ih ⊢
      clear hR hBs hM hc hz hX
      simp (disch := first | assumption | omega | decide | exact la_87 | exact la_88 | exact la_90 | exact la_91 | exact la_92 | exact la_93 | exact la_94 | exact la_95 | exact la_96 | exact la_97 | exact la_98 | exact la_99 | exact la_10 | exact la_23 | exact la_77 | exact la_78 | exact la_18 | exact la_19 | exact la_20) only [u169_19, u169_20, u169_22, u169_25, u169_26, u169_27, u169_28, u169_29, u169_30, u169_31, u169_34, u169_35, c123, la_86, kLt, true_and, ex, o_aa, o_al, o_la, o_mm, o_ml, o_lm, o_ss, o_sl, o_ls, o_tn, o_tl, o_lt, o_ltl, o_llt, o_le, o_lel, o_lle, o_eq, o_eql, o_leq, o_inb, o_inl, o_neg, Nat.add_zero, hnk, q1, if_false]
      refine hgo (fun Z2 hZ2 => ?_)
      have f := ih ⟨Z2, hZ2⟩
      clear ih hgo
      simp only [u169_38, bb_0]
      cases hb : ftF I n k n3 (fun _ => x) (fun c => c) t s w q with
      | true =>
        simp only [hb, if_true] at f
        simp (disch := first | assumption | omega | decide | exact la_87 | exact la_88 | exact la_90 | exact la_91 | exact la_92 | exact la_93 | exact la_94 | exact la_95 | exact la_96 | exact la_97 | exact la_98 | exact la_99 | exact la_10 | exact la_23 | exact la_77 | exact la_78 | exact la_18 | exact la_19 | exact la_20) only [Bool.true_eq_false, if_false, u169_41, u169_42, u169_43, u169_44, u169_47, u169_48, u169_49, u169_50, o_aa, o_al, o_la, o_mm, o_ml, o_lm, o_ss, o_sl, o_ls, o_tn, o_tl, o_lt, o_ltl, o_llt, o_le, o_lel, o_lle, o_eq, o_eql, o_leq, o_inb, o_inl, o_neg]
        exact (u169_53 ..).mpr f
      | false =>
        simp only [hb, Bool.false_eq_true, if_false] at f
        simp (disch := first | assumption | omega | decide | exact la_87 | exact la_88 | exact la_90 | exact la_91 | exact la_92 | exact la_93 | exact la_94 | exact la_95 | exact la_96 | exact la_97 | exact la_98 | exact la_99 | exact la_10 | exact la_23 | exact la_77 | exact la_78 | exact la_18 | exact la_19 | exact la_20) only [if_true, u169_47, u169_48, u169_49, u169_50, o_aa, o_al, o_la, o_mm, o_ml, o_lm, o_ss, o_sl, o_ls, o_tn, o_tl, o_lt, o_ltl, o_llt, o_le, o_lel, o_lle, o_eq, o_eql, o_leq, o_inb, o_inl, o_neg, Int32.or_zero]
        exact (u169_53 ..).mpr f
    · rintro ⟨Z, hz⟩
      dsimp only
      simp (disch := first | assumption | omega | decide | exact la_87 | exact la_88 | exact la_90 | exact la_91 | exact la_92 | exact la_93 | exact la_94 | exact la_95 | exact la_96 | exact la_97 | exact la_98 | exact la_99 | exact la_10 | exact la_23 | exact la_77 | exact la_78 | exact la_18 | exact la_19 | exact la_20) only [u169_19, u169_20, u169_22, u169_56, u169_57, o_aa, o_al, o_la, o_mm, o_ml, o_lm, o_ss, o_sl, o_ls, o_tn, o_tl, o_lt, o_ltl, o_llt, o_le, o_lel, o_lle, o_eq, o_eql, o_leq, o_inb, o_inl, o_neg, Nat.le_refl, if_true]
      have hf := fin_sc (x := 0) (y := 0) hR hz rfl
      simpa only [true_and] using hf
  · simp (disch := decide) only [u91_0, u91_1, u91_4, u91_7, u91_8, u91_11, u91_14, u91_15, u91_17, u91_20, c30 11 lisT_11, c103b, bi_0, h1, e11, not_true, not_false_eq_true, if_true, if_false, la_0, la_8, la_11, lr_0_0, lr_8_2, kLt, true_and]
    refine ⟨_, _, _, rfl, rfl, up_o _ _ (by decide), up_o _ _ (by decide), ?_⟩
    have g0 : bdI I 87 0 = Int32.ofNat n := by rw [bd_87]; exact e87
    simp (disch := decide) only [u169_0, u169_1, u169_2, u169_5, u169_8, u169_9, u169_11, u169_14, c121 n hn g0, c114, bi_0, h1, not_true, not_false_eq_true, if_true, if_false, la_86, kLt, true_and]
    exact fin_bad' hR
