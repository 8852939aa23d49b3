/-! THE TEXT: the class reads an item -/
def DR (Y : Nat → Nat → Int32) (A : Nat → Int32) : Prop := VT (Y 66) (Y 67) A ∧ VW (Y 68) (Y 69) A ∧ (Y 70 1 = 0 ∧ A 3 = 0) ∧ VY (Y 64) (Y 65) A 0 ∧ A 4 = 0
def CS (I : Nat → Nat → Int32) (A : Nat → Int32) (Y : Nat → Nat → Int32) : Prop := Fw I Y ∧ DR Y A
def Tk (c : Nat → Nat) (z q : Nat) (Y : Nat → Nat → Int32) : Prop := Y 62 4 = Int32.ofNat (sk c z q) ∧ Y 62 5 = Int32.ofNat (en c z q) ∧ Y 62 6 = Int32.ofNat (sr c z q)
theorem Fw.u62 {I X : Nat → Nat → Int32} (h : Fw I X) {f : Nat → Int32} (hf : f 3 = X 62 3) : Fw I (va_up X 62 f) := by
  obtain ⟨⟨s1, s2, s3⟩, h2⟩ := h
  refine ⟨⟨fun a g1 g2 g3 => ?_, ?_, ?_⟩, fun q hq => ?_⟩
  · rw [up_o _ _ g2]; exact s1 a g1 g2 g3
  · rw [up_s, hf]; exact s2
  · rw [up_o _ _ (by decide)]; exact s3
  · rw [up_o _ _ (by omega)]; exact h2 q hq
theorem Fw.up {I X : Nat → Nat → Int32} (h : Fw I X) {c : Nat} (hc : scr c = true) (hc2 : c < 86) (f : Nat → Int32) : Fw I (va_up X c f) := ⟨h.1.up hc f, fun q hq => by rw [up_o _ _ (by omega)]; exact h.2 q hq⟩
theorem DR_eq {Y Y' : Nat → Nat → Int32} {A : Nat → Int32} (h : DR Y A) (f : ∀ q, 64 ≤ q → q ≤ 70 → Y' q = Y q) : DR Y' A := by
  unfold DR at *
  rw [f 64 (by omega) (by omega), f 65 (by omega) (by omega), f 66 (by omega) (by omega), f 67 (by omega) (by omega), f 68 (by omega) (by omega), f 69 (by omega) (by omega), f 70 (by omega) (by omega)]
  exact h
section DRAFT
variable {I Y : Nat → Nat → Int32} {A : Nat → Int32} {c : Nat → Nat} {z : Nat}
theorem CS.sc (h : CS I A Y) (q : Nat) : CS I A (scX c z Y q) := ⟨h.1.u62 (by simp (disch := decide) only [ud_o]), DR_eq h.2 (fun r h1 h2 => up_o _ _ (by omega))⟩
theorem Tk_sc (Y : Nat → Nat → Int32) (q : Nat) : Tk c z q (scX c z Y q) := by
  unfold Tk scX
  simp (disch := decide) only [up_s, ud_s, ud_o, and_self]
theorem CS.n77 (h : CS I A Y) (f : Nat → Int32) : CS I A (va_up Y 77 f) := ⟨h.1.up (by decide) (by decide) f, DR_eq h.2 (fun r h1 h2 => up_o _ _ (by omega))⟩
theorem CS.we (h : CS I A Y) {k w : Nat} (hk : k < 8) (hw : w ≤ 99) : CS I (upd A (5 + k) (Int32.ofNat w)) (va_up Y 65 (upd (Y 65) k (Int32.ofNat w))) := by
  obtain ⟨h1, ra, rb, ⟨rc, rc2⟩, ⟨t1, p1, w1⟩, r4⟩ := h
  refine ⟨h1.up (by decide) (by decide) _, ?_⟩
  unfold DR
  simp (disch := decide) only [up_s, up_o]
  refine ⟨VT_M ra (fun j hj => ud_o _ _ (by omega)), VW_M rb (fun j hj => ud_o _ _ (by omega)), ⟨rc, by rw [ud_o _ _ (by omega)]; exact rc2⟩, ⟨?_, ?_, fun j hj => ?_⟩, by rw [ud_o _ _ (by omega)]; exact r4⟩
  · rw [ud_o _ _ (by omega)]; exact t1
  · rw [ud_o _ _ (by omega)]; exact p1
  · by_cases hjk : j = k
    · subst hjk
      rw [ud_s, ud_s]
      exact ⟨w, hw, rfl, rfl⟩
    · rw [ud_o _ _ hjk, ud_o _ _ (by omega)]
      exact w1 j hj
theorem CS.pe (h : CS I A Y) (v : Int32) : CS I (pgA A v) (va_up Y 64 (upd (Y 64) 1 (Y 64 1 ||| (1 <<< (v &&& 31))))) := by
  obtain ⟨h1, ra, rb, ⟨rc, rc2⟩, ⟨t1, p1, w1⟩, r4⟩ := h
  refine ⟨h1.up (by decide) (by decide) _, ?_⟩
  unfold DR pgA
  simp (disch := decide) only [up_s, up_o]
  refine ⟨VT_M ra (fun j hj => ud_o _ _ (by omega)), VW_M rb (fun j hj => ud_o _ _ (by omega)), ⟨rc, by rw [ud_o _ _ (by omega)]; exact rc2⟩, ⟨?_, ?_, fun j hj => ?_⟩, by rw [ud_o _ _ (by omega)]; exact r4⟩
  · rw [ud_o _ _ (by omega), ud_o _ _ (by omega)]; exact t1
  · rw [ud_s, ud_s, p1]
  · rw [ud_o _ _ (by omega)]; exact w1 j hj
theorem CS.te (h : CS I A Y) {n t s x : Nat} (hn : n < 6) (e : A 0 = Int32.ofNat n) (ht : t < 6) (hs : 1 ≤ s ∧ s ≤ 9) (hx : x < 8) : CS I (tmA A (Int32.ofNat t) (Int32.ofNat s) (Int32.ofNat x)) (va_up (va_up Y 67 (upd (upd (upd (Y 67) (n * 3) (Int32.ofNat t)) (n * 3 + 1) (Int32.ofNat s)) (n * 3 + 2) (Int32.ofNat x))) 66 (upd (Y 66) 1 (Int32.ofNat (n + 1)))) := by
  obtain ⟨h1, ⟨n', hn', a1, a2, a3⟩, rb, ⟨rc, rc2⟩, rd, r4⟩ := h
  have hnn : n' = n := (o_eq (by omega) (by omega)).mp (a2.symm.trans e)
  subst hnn
  refine ⟨(h1.up (by decide) (by decide) _).up (by decide) (by decide) _, ?_⟩
  unfold DR tmA
  rw [e, o_tn (by omega)]
  simp (disch := decide) only [up_s, up_o]
  refine ⟨⟨n' + 1, by omega, ud_s .., ud_s .., fun k hk => ?_⟩, VW_M rb (fun j hj => ?_), ⟨rc, ?_⟩, VY_M rd (fun j hj => ?_) (Nat.le_refl 0), ?_⟩
  · by_cases hkn : k = n'
    · subst hkn
      refine ⟨⟨t, ht, ?_, ?_⟩, ⟨s, hs.1, hs.2, ?_, ?_⟩, ⟨x, hx, ?_, ?_⟩⟩ <;> simp (disch := omega) only [ud_o, ud_s]
    · simp (disch := omega) only [ud_o]
      exact a3 k (by omega)
  · simp (disch := omega) only [ud_o]
  · simp (disch := omega) only [ud_o]; exact rc2
  · simp (disch := omega) only [ud_o]
  · simp (disch := omega) only [ud_o]; exact r4
theorem CS.wo (h : CS I A Y) {n s : Nat} (hn : n < 6) (e : A 1 = Int32.ofNat n) (hs : s < 8) (w : Int32) : CS I (woA A (Int32.ofNat s) w) (va_up (va_up Y 69 (upd (upd (upd (Y 69) (n * 3) (Int32.ofNat s)) (n * 3 + 1) w) (n * 3 + 2) 0)) 68 (upd (Y 68) 1 (Int32.ofNat (n + 1)))) := by
  obtain ⟨h1, ra, ⟨n', hn', a1, a2, a3⟩, ⟨rc, rc2⟩, rd, r4⟩ := h
  have hnn : n' = n := (o_eq (by omega) (by omega)).mp (a2.symm.trans e)
  subst hnn
  refine ⟨(h1.up (by decide) (by decide) _).up (by decide) (by decide) _, ?_⟩
  unfold DR woA
  rw [e, o_tn (by omega)]
  simp (disch := decide) only [up_s, up_o]
  refine ⟨VT_M ra (fun j hj => ?_), ⟨n' + 1, by omega, ud_s .., ud_s .., fun k hk => ?_⟩, ⟨rc, ?_⟩, VY_M rd (fun j hj => ?_) (Nat.le_refl 0), ?_⟩
  · simp (disch := omega) only [ud_o]
  · by_cases hkn : k = n'
    · subst hkn
      refine ⟨⟨s, hs, ?_, ?_⟩, ?_⟩ <;> simp (disch := omega) only [ud_o, ud_s]
    · simp (disch := omega) only [ud_o]
      exact a3 k (by omega)
  · simp (disch := omega) only [ud_o]; exact rc2
  · simp (disch := omega) only [ud_o]
  · simp (disch := omega) only [ud_o]; exact r4
end DRAFT
section NUMB
variable {m pc : Nat} {ls st : Vs} {I Y : Nat → Nat → Int32} {J : Nat → Nat → Int64} {Q : Option Value → Sto → Prop} {c : Nat → Nat} {z q : Nat} {A : Nat → Int32}
theorem nst (it i : Nat) (f lo hi : Int32) (hit : it < 5) (hi3 : i < 3) (h53 : ¬ (otb.getD (1001 - 1001) []).getD it 0 ≤ Int32.ofNat i) (hlo : (otb.getD (1002 - 1001) []).getD (it * 3 + i) 0 = lo) (hhi : (otb.getD (1003 - 1001) []).getD (it * 3 + i) 0 = hi) (hT : TX I c z) (hC : CS I A Y) (hq : q ≤ z) (e5 : Y 62 5 = Int32.ofNat q) (f1 : gd c z q lo hi → ∀ v, Rn 20 47 [.ref 62, .int f, .int (Int32.ofNat it), .int (Int32.ofNat (i + 1)), v] [] (Sg (va_up (scX c z Y q) 77 (upd (Y 77) i (vI c z q))) J) Q) (f0 : ¬ gd c z q lo hi → Q (some (.int 0)) (Sg (scX c z Y q) J)) (v : Value) : Rn 20 47 [.ref 62, .int f, .int (Int32.ofNat it), .int (Int32.ofNat i), v] [] (Sg Y J) Q := by
  have hz := hT.1
  have hsl := sk_le c hq
  have hel := en_le c hq
  have h23 := fun (pc : Nat) (ls st : Vs) => @c23 20 pc ls st Y J Q c z q (hT.tc hC.1.1) hq e5
  have hC2 : CS I A (scX c z Y q) := hC.sc q
  obtain ⟨k4, k5, k6⟩ := Tk_sc (c := c) (z := z) Y q
  have h25 := fun (pc : Nat) (ls st : Vs) => @c25 20 pc ls st (scX c z Y q) J Q c z (sk c z q) (en c z q) (hT.tc hC2.1.1) hel.1 hel.2.1 k4 k5
  have e77 : scX c z Y q 77 = Y 77 := up_o _ _ (by decide)
  have L1 : (otb.getD (1001 - 1001) []).length = 5 := by decide
  have L2 : (otb.getD (1002 - 1001) []).length = 15 := by decide
  have L3 : (otb.getD (1003 - 1001) []).length = 15 := by decide
  have hsr := sr_le c z q
  have hv : ∀ b : Bool, Rn 20 78 [.ref 62, .int f, .int (Int32.ofNat it), .int (Int32.ofNat i), .int (vI c z q)] [] (Sg (scX c z Y q) J) Q := by
    intro _
    generalize scX c z Y q = Y2 at f1 f0 e77 ⊢
    unfold gd at f1 f0
    generalize vI c z q = w at f1 f0 ⊢
    clear hT hC hC2 k4 k5 k6 h23 h25
    simp (disch := first | assumption | omega | decide | exact la_87 | exact la_88 | exact la_90 | exact la_91 | exact la_92 | exact la_93 | exact la_94 | exact la_95 | exact la_96 | exact la_97 | exact la_98 | exact la_99 | exact la_10 | exact la_23 | exact la_77 | exact la_78 | exact la_18 | exact la_19 | exact la_20) only [u20_78, u20_80, u20_83, u20_84, u20_85, u20_86, u20_87, u20_88, o_aa, o_al, o_la, o_mm, o_ml, o_lm, o_ss, o_sl, o_ls, o_tn, o_tl, o_lt, o_ltl, o_llt, o_le, o_lel, o_lle, o_eq, o_eql, o_leq, o_inb, o_inl, o_neg, L2, hlo, true_and, show it * 3 + i < 15 by omega]
    simp only [u20_89]
    by_cases g1 : w < lo
    · rw [if_pos g1]
      simp only [u20_106, u20_107]
      exact ⟨Or.inl trivial, f0 (fun g => absurd g1 (Int32.not_lt.mpr g.1))⟩
    · rw [if_neg g1]
      simp (disch := first | assumption | omega | decide | exact la_87 | exact la_88 | exact la_90 | exact la_91 | exact la_92 | exact la_93 | exact la_94 | exact la_95 | exact la_96 | exact la_97 | exact la_98 | exact la_99 | exact la_10 | exact la_23 | exact la_77 | exact la_78 | exact la_18 | exact la_19 | exact la_20) only [u20_92, u20_94, u20_97, u20_98, u20_99, u20_100, u20_101, u20_102, o_aa, o_al, o_la, o_mm, o_ml, o_lm, o_ss, o_sl, o_ls, o_tn, o_tl, o_lt, o_ltl, o_llt, o_le, o_lel, o_lle, o_eq, o_eql, o_leq, o_inb, o_inl, o_neg, L3, hhi, true_and, show it * 3 + i < 15 by omega]
      simp only [u20_103]
      by_cases g2 : w ≤ hi
      · rw [if_pos g2]
        simp (disch := first | assumption | omega | decide | exact la_87 | exact la_88 | exact la_90 | exact la_91 | exact la_92 | exact la_93 | exact la_94 | exact la_95 | exact la_96 | exact la_97 | exact la_98 | exact la_99 | exact la_10 | exact la_23 | exact la_77 | exact la_78 | exact la_18 | exact la_19 | exact la_20) only [u20_108, u20_109, u20_112, u20_113, u20_115, u20_116, la_62, la_77, lt_77, lr_62_2, kLt, true_and, wI_d, e77, o_aa, o_al, o_la, o_mm, o_ml, o_lm, o_ss, o_sl, o_ls, o_tn, o_tl, o_lt, o_ltl, o_llt, o_le, o_lel, o_lle, o_eq, o_eql, o_leq, o_inb, o_inl, o_neg, hi3]
        exact (u20_119 ..).mpr (f1 ⟨Int32.not_lt.mp g1, g2⟩ _)
      · rw [if_neg g2]
        simp only [u20_106, u20_107]
        exact ⟨Or.inl trivial, f0 (fun g => g2 g.2)⟩
  have hv := hv true
  clear f1 f0 e77
  simp (disch := first | assumption | omega | decide | exact la_87 | exact la_88 | exact la_90 | exact la_91 | exact la_92 | exact la_93 | exact la_94 | exact la_95 | exact la_96 | exact la_97 | exact la_98 | exact la_99 | exact la_10 | exact la_23 | exact la_77 | exact la_78 | exact la_18 | exact la_19 | exact la_20) only [u20_47, u20_48, u20_51, u20_52, u20_53, u20_56, u20_57, u20_60, u20_61, u20_64, u20_65, h23, la_62, kLt, true_and, k6, L1, o_aa, o_al, o_la, o_mm, o_ml, o_lm, o_ss, o_sl, o_ls, o_tn, o_tl, o_lt, o_ltl, o_llt, o_le, o_lel, o_lle, o_eq, o_eql, o_leq, o_inb, o_inl, o_neg, hit, h53, if_false]
  unfold vI at hv
  by_cases s2 : sr c z q = 2
  · rw [if_neg (fun w => w s2)]
    clear hT hC hC2
    simp (disch := first | assumption | omega | decide | exact la_87 | exact la_88 | exact la_90 | exact la_91 | exact la_92 | exact la_93 | exact la_94 | exact la_95 | exact la_96 | exact la_97 | exact la_98 | exact la_99 | exact la_10 | exact la_23 | exact la_77 | exact la_78 | exact la_18 | exact la_19 | exact la_20) only [u20_68, u20_69, u20_72, u20_75, u20_76, h25, la_62, kLt, true_and]
    by_cases l2 : en c z q - sk c z q ≤ 2
    · rw [if_pos ⟨s2, l2⟩] at hv
      rw [if_pos l2]
      exact hv
    · rw [if_neg (fun w => l2 w.2)] at hv
      rw [if_neg l2]
      exact hv
  · rw [if_neg (fun w => s2 w.1)] at hv
    rw [if_pos s2]
    simp only [u20_75, u20_76]
    exact hv
/-- behind the numbers: the stop, and what was told is put -/
theorem fnI (it i f : Int32) (hT : TX I c z) (hC : CS I A Y) (hq : q ≤ z) (e5 : Y 62 5 = Int32.ofNat q) (v : Value) (h1 : sr c z q = 3 → Ca 22 [.ref 62, .int it] (Sg (scX c z Y q) J) 20 141 [.ref 62, .int f, .int it, .int i, v] [] Q) (h0 : ¬ sr c z q = 3 → Q (some (.int 0)) (Sg (scX c z Y q) J)) : Rn 20 122 [.ref 62, .int f, .int it, .int i, v] [] (Sg Y J) Q := by
  have hsr := sr_le c z q
  have h23 := fun (pc : Nat) (ls st : Vs) => @c23 20 pc ls st Y J Q c z q (hT.tc hC.1.1) hq e5
  obtain ⟨k4, k5, k6⟩ := Tk_sc (c := c) (z := z) Y q
  clear hT hC
  simp (disch := first | assumption | omega | decide | exact la_87 | exact la_88 | exact la_90 | exact la_91 | exact la_92 | exact la_93 | exact la_94 | exact la_95 | exact la_96 | exact la_97 | exact la_98 | exact la_99 | exact la_10 | exact la_23 | exact la_77 | exact la_78 | exact la_18 | exact la_19 | exact la_20) only [u20_122, u20_123, u20_126, u20_127, u20_130, u20_131, h23, la_62, kLt, true_and, k6, o_aa, o_al, o_la, o_mm, o_ml, o_lm, o_ss, o_sl, o_ls, o_tn, o_tl, o_lt, o_ltl, o_llt, o_le, o_lel, o_lle, o_eq, o_eql, o_leq, o_inb, o_inl, o_neg]
  by_cases s3 : sr c z q = 3
  · rw [if_pos s3]
    simp (disch := decide) only [u20_136, u20_137, u20_138, la_62, kLt, true_and]
    exact h1 s3
  · rw [if_neg s3]
    simp only [u20_134, u20_135]
    exact ⟨Or.inl trivial, h0 s3⟩
end NUMB
