/-! THE TEXT: the class reads an item, told -/
def bnd (c : Nat → Nat) (z : Nat) (r : Sum Nat (Nat × (Nat → Int32))) : Sum Nat (Nat × (Nat → Int32)) := match r with
  | .inl p => .inl p
  | .inr x => if sr c z x.1 = 3 then .inr (en c z x.1, x.2) else .inl (sk c z x.1)
theorem bnd_l (c : Nat → Nat) (z p : Nat) : bnd c z (.inl p) = .inl p := rfl
theorem bnd_r (c : Nat → Nat) (z e : Nat) (A : Nat → Int32) : bnd c z (.inr (e, A)) = if sr c z e = 3 then .inr (en c z e, A) else .inl (sk c z e) := rfl
section RITEM
variable {m pc : Nat} {ls st : Vs} {I Y : Nat → Nat → Int32} {J : Nat → Nat → Int64} {Q : Option Value → Sto → Prop} {c : Nat → Nat} {z q : Nat} {A : Nat → Int32}
theorem nst' (it i : Nat) (f lo hi : Int32) (hit : it < 5) (hi3 : i < 3) (h53 : ¬ (otb.getD (1001 - 1001) []).getD it 0 ≤ Int32.ofNat i) (hlo : (otb.getD (1002 - 1001) []).getD (it * 3 + i) 0 = lo) (hhi : (otb.getD (1003 - 1001) []).getD (it * 3 + i) 0 = hi) (hT : TX I c z) (hC : CS I A Y) (hq : q ≤ z) (e5 : Y 62 5 = Int32.ofNat q) (f1 : gd c z q lo hi → ∀ Y1 v, CS I A Y1 → Y1 62 5 = Int32.ofNat (en c z q) → Y1 77 i = vI c z q → (∀ j, ¬ j = i → Y1 77 j = Y 77 j) → Rn 20 47 [.ref 62, .int f, .int (Int32.ofNat it), .int (Int32.ofNat (i + 1)), v] [] (Sg Y1 J) Q) (f0 : ¬ gd c z q lo hi → ∀ Y1, Fw I Y1 → Y1 62 4 = Int32.ofNat (sk c z q) → Q (some (.int 0)) (Sg Y1 J)) (v : Value) : Rn 20 47 [.ref 62, .int f, .int (Int32.ofNat it), .int (Int32.ofNat i), v] [] (Sg Y J) Q := by
  obtain ⟨k4, k5, k6⟩ := Tk_sc (c := c) (z := z) Y q
  have hC2 : CS I A (scX c z Y q) := hC.sc q
  refine nst it i f lo hi hit hi3 h53 hlo hhi hT hC hq e5 (fun g v => f1 g _ v (hC2.n77 _) ?_ ?_ (fun j hj => ?_)) (fun g => f0 g _ hC2.1 k4) v
  · rw [up_o _ _ (by decide)]; exact k5
  · rw [up_s, ud_s]
  · rw [up_s, ud_o _ _ hj]
theorem fnI' (it i f : Int32) (hT : TX I c z) (hC : CS I A Y) (hq : q ≤ z) (e5 : Y 62 5 = Int32.ofNat q) (v : Value) (h1 : sr c z q = 3 → ∀ Y1, CS I A Y1 → Y1 62 5 = Int32.ofNat (en c z q) → Y1 77 = Y 77 → Ca 22 [.ref 62, .int it] (Sg Y1 J) 20 141 [.ref 62, .int f, .int it, .int i, v] [] Q) (h0 : ¬ sr c z q = 3 → ∀ Y1, Fw I Y1 → Y1 62 4 = Int32.ofNat (sk c z q) → Q (some (.int 0)) (Sg Y1 J)) : Rn 20 122 [.ref 62, .int f, .int it, .int i, v] [] (Sg Y J) Q := by
  obtain ⟨k4, k5, k6⟩ := Tk_sc (c := c) (z := z) Y q
  have hC2 : CS I A (scX c z Y q) := hC.sc q
  exact fnI it i f hT hC hq e5 v (fun g => h1 g _ hC2 k5 (up_o _ _ (by decide))) (fun g => h0 g _ hC2.1 k4)
theorem am_x (it : Nat) (i : Int32) (f : Int32) (v : Value) (hit : it < 5) (h : (otb.getD (1001 - 1001) []).getD it 0 ≤ i) (g : Rn 20 122 [.ref 62, .int f, .int (Int32.ofNat it), .int i, v] [] (Sg Y J) Q) : Rn 20 47 [.ref 62, .int f, .int (Int32.ofNat it), .int i, v] [] (Sg Y J) Q := by
  have L1 : (otb.getD (1001 - 1001) []).length = 5 := by decide
  simp (disch := first | assumption | omega | decide | exact la_87 | exact la_88 | exact la_90 | exact la_91 | exact la_92 | exact la_93 | exact la_94 | exact la_95 | exact la_96 | exact la_97 | exact la_98 | exact la_99 | exact la_10 | exact la_23 | exact la_77 | exact la_78 | exact la_18 | exact la_19 | exact la_20) only [u20_47, u20_48, u20_51, u20_52, u20_53, L1, true_and, o_tn, o_inb, hit, h, if_true]
  exact g
theorem c22_1 (k : Nat) (x : Int32) (hk : k < 8) (e0 : Y 77 0 = Int32.ofNat k) (e1 : Y 77 1 = x) : Ca 22 [.ref 62, .int 1] (Sg Y J) m pc ls st Q ↔ Rn m pc ls st (Sg (va_up Y 65 (upd (Y 65) k x)) J) Q := Ca_of (r := none) (fun Q h => by
  simp (disch := first | assumption | omega | decide | exact la_87 | exact la_88 | exact la_90 | exact la_91 | exact la_92 | exact la_93 | exact la_94 | exact la_95 | exact la_96 | exact la_97 | exact la_98 | exact la_99 | exact la_10 | exact la_23 | exact la_77 | exact la_78 | exact la_18 | exact la_19 | exact la_20) only [u22_0, u22_1_1, u22_32, u22_33, u22_36, u22_39, u22_42, u22_43, u22_46, u22_47, u22_48, u22_49, u22_52, u22_53, u22_54, u22_55, u22_143, la_62, la_63, la_64, la_65, lt_65, la_77, lt_77, lr_62_0, lr_62_2, lr_63_1, lr_64_0, kLt, true_and, e0, e1, wI_d, o_aa, o_al, o_la, o_mm, o_ml, o_lm, o_ss, o_sl, o_ls, o_tn, o_tl, o_lt, o_ltl, o_llt, o_le, o_lel, o_lle, o_eq, o_eql, o_leq, o_inb, o_inl, o_neg, Nat.reduceLT, hk]
  exact h)
theorem c22_2 (x : Int32) (e0 : Y 77 0 = x) : Ca 22 [.ref 62, .int 2] (Sg Y J) m pc ls st Q ↔ Rn m pc ls st (Sg (va_up Y 64 (upd (Y 64) 1 (Y 64 1 ||| (1 <<< (x &&& 31))))) J) Q := Ca_of (r := none) (fun Q h => by
  simp (disch := first | assumption | omega | decide | exact la_87 | exact la_88 | exact la_90 | exact la_91 | exact la_92 | exact la_93 | exact la_94 | exact la_95 | exact la_96 | exact la_97 | exact la_98 | exact la_99 | exact la_10 | exact la_23 | exact la_77 | exact la_78 | exact la_18 | exact la_19 | exact la_20) only [u22_0, u22_1_2, u22_58, u22_59, u22_62, u22_65, u22_66, u22_69, u22_70, u22_71, u22_74, u22_75, u22_76, u22_77, u22_78, u22_81, u22_143, la_62, la_63, la_64, la_77, lt_77, lr_62_0, lr_62_2, lr_63_1, kLt, true_and, e0, wI_d, o_tl, o_inl, Nat.reduceLT]
  exact h)
theorem c22_3 (n : Nat) (x y w : Int32) (hn : n < 6) (en : Y 66 1 = Int32.ofNat n) (e0 : Y 77 0 = x) (e1 : Y 77 1 = y) (e2 : Y 77 2 = w) : Ca 22 [.ref 62, .int 3] (Sg Y J) m pc ls st Q ↔ Rn m pc ls st (Sg (va_up (va_up Y 67 (upd (upd (upd (Y 67) (n * 3) x) (n * 3 + 1) y) (n * 3 + 2) w)) 66 (upd (Y 66) 1 (Int32.ofNat (n + 1)))) J) Q := Ca_of (r := none) (fun Q h => by
  simp (disch := first | assumption | omega | decide | exact la_87 | exact la_88 | exact la_90 | exact la_91 | exact la_92 | exact la_93 | exact la_94 | exact la_95 | exact la_96 | exact la_97 | exact la_98 | exact la_99 | exact la_10 | exact la_23 | exact la_77 | exact la_78 | exact la_18 | exact la_19 | exact la_20) only [u22_0, u22_1_3, u22_84, u22_85, u22_88, u22_91, u22_92, u22_95, u22_96, u22_97, u22_98, u22_101, u22_102, u22_103, u22_104, u22_107, u22_108, u22_109, u22_112, u22_113, u22_143, c32 66 lisT_66 n hn en, la_62, la_63, la_66, la_77, lt_77, lr_62_0, lr_62_2, lr_63_2, kLt, true_and, e0, e1, e2, o_tl, o_inl, Nat.reduceLT, Nat.reduceAdd]
  exact h)
theorem c22_4 (n : Nat) (x y : Int32) (hn : n < 6) (en : Y 68 1 = Int32.ofNat n) (e0 : Y 77 0 = x) (e1 : Y 77 1 = y) : Ca 22 [.ref 62, .int 4] (Sg Y J) m pc ls st Q ↔ Rn m pc ls st (Sg (va_up (va_up Y 69 (upd (upd (upd (Y 69) (n * 3) x) (n * 3 + 1) y) (n * 3 + 2) 0)) 68 (upd (Y 68) 1 (Int32.ofNat (n + 1)))) J) Q := Ca_of (r := none) (fun Q h => by
  simp (disch := first | assumption | omega | decide | exact la_87 | exact la_88 | exact la_90 | exact la_91 | exact la_92 | exact la_93 | exact la_94 | exact la_95 | exact la_96 | exact la_97 | exact la_98 | exact la_99 | exact la_10 | exact la_23 | exact la_77 | exact la_78 | exact la_18 | exact la_19 | exact la_20) only [u22_0, u22_1_4, u22_116, u22_117, u22_120, u22_123, u22_124, u22_127, u22_128, u22_129, u22_130, u22_133, u22_134, u22_135, u22_136, u22_139, u22_140, u22_143, c32 68 lisT_68 n hn en, la_62, la_63, la_68, la_77, lt_77, lr_62_0, lr_62_2, lr_63_3, kLt, true_and, e0, e1, o_tl, o_inl, Nat.reduceLT, Nat.reduceAdd]
  exact h)
theorem c22_0 : Ca 22 [.ref 62, .int 0] (Sg Y J) m pc ls st Q ↔ Rn m pc ls st (Sg Y J) Q := Ca_of (r := none) (fun Q h => by
  simp only [u22_0]
  rw [u22_1 0 (Or.inl (by decide))]
  simp only [u22_143]
  exact h)
theorem one_a {k : Nat} (h : (1 : Int32) ≤ Int32.ofNat k) (hk : k < 2147483648) : 1 ≤ k := by
  rw [show (1 : Int32) = Int32.ofNat 1 from rfl, o_le (by omega) hk] at h
  exact h
theorem gW (f : Int32) (hT : TX I c z) (hC : CS I A Y) (hq : q ≤ z) (e5 : Y 62 5 = Int32.ofNat (en c z q)) (h0 : ∀ p Y, bnd c z (pW c z q A) = .inl p → Fw I Y → Y 62 4 = Int32.ofNat p → Q (some (.int 0)) (Sg Y J)) (h1 : ∀ e A' Y, bnd c z (pW c z q A) = .inr (e, A') → CS I A' Y → Y 62 5 = Int32.ofNat e → Q (some (.int 1)) (Sg Y J)) : Rn 20 45 [.ref 62, .int f, .int 1, .null, .null] [] (Sg Y J) Q := by
  have g1 := en_c (c := c) hq
  have g2 := en_c (c := c) g1.2
  have g3 := en_c (c := c) g2.2
  simp only [u20_45, u20_46]
  refine nst' 1 0 f 0 7 (by decide) (by decide) (by decide) (by decide) (by decide) hT hC g1.2 e5 (fun f1 Y1 v hC1 e1 v1 _ => ?_) (fun f0 Y1 k1 k2 => h0 _ Y1 (by unfold pW; rw [if_neg f0]; rfl) k1 k2) .null
  refine nst' 1 1 f 0 99 (by decide) (by decide) (by decide) (by decide) (by decide) hT hC1 g2.2 e1 (fun f2 Y2 v hC2 e2 v2 r2 => ?_) (fun f0 Y1 k1 k2 => h0 _ Y1 (by unfold pW; rw [if_pos f1, if_neg f0]; rfl) k1 k2) v
  refine am_x 1 _ f v (by decide) (by decide) ?_
  have hP : pW c z q A = .inr (en c z (en c z (en c z q)), wkA A (vI c z (en c z q)) (vI c z (en c z (en c z q)))) := by unfold pW; rw [if_pos f1, if_pos f2]
  rw [hP, bnd_r] at h0 h1
  refine fnI' _ _ f hT hC2 g3.2 e2 v (fun s3 Y3 hC3 e3 r3 => ?_) (fun s3 Y1 k1 k2 => h0 _ Y1 (by rw [if_neg s3]) k1 k2)
  obtain ⟨k, hk, ek⟩ := o_in (m := 7) f1.1 f1.2 (by omega)
  obtain ⟨x, hx, ex⟩ := o_in (m := 99) f2.1 f2.2 (by omega)
  rw [show Int32.ofNat 1 = 1 from rfl, c22_1 k (Int32.ofNat x) (by omega) (by rw [r3, r2 0 (by decide), v1, ek]) (by rw [r3, v2, ex])]
  simp only [u20_141, u20_142]
  refine ⟨Or.inr trivial, h1 _ _ _ (by rw [if_pos s3]) ?_ (by rw [up_o _ _ (by decide)]; exact e3)⟩
  unfold wkA
  rw [ek, ex, o_tn (by omega)]
  exact hC3.we (by omega) (by omega)
theorem gP (f : Int32) (hT : TX I c z) (hC : CS I A Y) (hq : q ≤ z) (e5 : Y 62 5 = Int32.ofNat (en c z q)) (h0 : ∀ p Y, bnd c z (pP c z q A) = .inl p → Fw I Y → Y 62 4 = Int32.ofNat p → Q (some (.int 0)) (Sg Y J)) (h1 : ∀ e A' Y, bnd c z (pP c z q A) = .inr (e, A') → CS I A' Y → Y 62 5 = Int32.ofNat e → Q (some (.int 1)) (Sg Y J)) : Rn 20 45 [.ref 62, .int f, .int 2, .null, .null] [] (Sg Y J) Q := by
  have g1 := en_c (c := c) hq
  have g2 := en_c (c := c) g1.2
  simp only [u20_45, u20_46]
  refine nst' 2 0 f 0 6 (by decide) (by decide) (by decide) (by decide) (by decide) hT hC g1.2 e5 (fun f1 Y1 v hC1 e1 v1 _ => ?_) (fun f0 Y1 k1 k2 => h0 _ Y1 (by unfold pP; rw [if_neg f0]; rfl) k1 k2) .null
  refine am_x 2 _ f v (by decide) (by decide) ?_
  have hP : pP c z q A = .inr (en c z (en c z q), pgA A (vI c z (en c z q))) := by unfold pP; rw [if_pos f1]
  rw [hP, bnd_r] at h0 h1
  refine fnI' _ _ f hT hC1 g2.2 e1 v (fun s3 Y3 hC3 e3 r3 => ?_) (fun s3 Y1 k1 k2 => h0 _ Y1 (by rw [if_neg s3]) k1 k2)
  rw [show Int32.ofNat 2 = 2 from rfl, c22_2 (vI c z (en c z q)) (by rw [r3, v1])]
  simp only [u20_141, u20_142]
  exact ⟨Or.inr trivial, h1 _ _ _ (by rw [if_pos s3]) (hC3.pe _) (by rw [up_o _ _ (by decide)]; exact e3)⟩
theorem gT (f : Int32) (h6 : ¬ A 0 = 6) (hA : AV A) (hT : TX I c z) (hC : CS I A Y) (hq : q ≤ z) (e5 : Y 62 5 = Int32.ofNat (en c z q)) (h0 : ∀ p Y, bnd c z (pT c z q A) = .inl p → Fw I Y → Y 62 4 = Int32.ofNat p → Q (some (.int 0)) (Sg Y J)) (h1 : ∀ e A' Y, bnd c z (pT c z q A) = .inr (e, A') → CS I A' Y → Y 62 5 = Int32.ofNat e → Q (some (.int 1)) (Sg Y J)) : Rn 20 45 [.ref 62, .int f, .int 3, .null, .null] [] (Sg Y J) Q := by
  have g1 := en_c (c := c) hq
  have g2 := en_c (c := c) g1.2
  have g3 := en_c (c := c) g2.2
  have g4 := en_c (c := c) g3.2
  obtain ⟨n, hn, en0⟩ := hA.1
  have hn6 := n6 hn en0 h6
  simp only [u20_45, u20_46]
  refine nst' 3 0 f 0 5 (by decide) (by decide) (by decide) (by decide) (by decide) hT hC g1.2 e5 (fun f1 Y1 v hC1 e1 v1 _ => ?_) (fun f0 Y1 k1 k2 => h0 _ Y1 (by unfold pT; rw [if_neg h6, if_neg f0]; rfl) k1 k2) .null
  refine nst' 3 1 f 1 9 (by decide) (by decide) (by decide) (by decide) (by decide) hT hC1 g2.2 e1 (fun f2 Y2 v hC2 e2 v2 r2 => ?_) (fun f0 Y1 k1 k2 => h0 _ Y1 (by unfold pT; rw [if_neg h6, if_pos f1, if_neg f0]; rfl) k1 k2) v
  refine nst' 3 2 f 0 7 (by decide) (by decide) (by decide) (by decide) (by decide) hT hC2 g3.2 e2 (fun f3 Y3 v hC3 e3 v3 r3 => ?_) (fun f0 Y1 k1 k2 => h0 _ Y1 (by unfold pT; rw [if_neg h6, if_pos f1, if_pos f2, if_neg f0]; rfl) k1 k2) v
  refine am_x 3 _ f v (by decide) (by decide) ?_
  have hP : pT c z q A = .inr (en c z (en c z (en c z (en c z q))), tmA A (vI c z (en c z q)) (vI c z (en c z (en c z q))) (vI c z (en c z (en c z (en c z q))))) := by unfold pT; rw [if_neg h6, if_pos f1, if_pos f2, if_pos f3]
  rw [hP, bnd_r] at h0 h1
  refine fnI' _ _ f hT hC3 g4.2 e3 v (fun s3 Y4 hC4 e4 r4 => ?_) (fun s3 Y1 k1 k2 => h0 _ Y1 (by rw [if_neg s3]) k1 k2)
  obtain ⟨k, hk, ek⟩ := o_in (m := 5) f1.1 f1.2 (by omega)
  obtain ⟨x, hx, ex⟩ := o_in (m := 9) (Int32.le_trans (show (0 : Int32) ≤ 1 by decide) f2.1) f2.2 (by omega)
  obtain ⟨y, hy, ey⟩ := o_in (m := 7) f3.1 f3.2 (by omega)
  have hx1 : 1 ≤ x := one_a (by rw [← ex]; exact f2.1) (by omega)
  have e66 : Y4 66 1 = Int32.ofNat n := by
    obtain ⟨n', hn', a1, a2, -⟩ := hC4.2.1
    rw [a1, ← a2]
    exact en0
  rw [show Int32.ofNat 3 = 3 from rfl, c22_3 n (Int32.ofNat k) (Int32.ofNat x) (Int32.ofNat y) hn6 e66 (by rw [r4, r3 0 (by decide), r2 0 (by decide), v1, ek]) (by rw [r4, r3 1 (by decide), v2, ex]) (by rw [r4, v3, ey])]
  simp only [u20_141, u20_142]
  refine ⟨Or.inr trivial, h1 _ _ _ (by rw [if_pos s3]) ?_ (by rw [up_o _ _ (by decide), up_o _ _ (by decide)]; exact e4)⟩
  rw [ek, ex, ey]
  exact hC4.te hn6 en0 (by omega) ⟨hx1, by omega⟩ (by omega)
theorem gO (f : Int32) (h6 : ¬ A 1 = 6) (hA : AV A) (hT : TX I c z) (hC : CS I A Y) (hq : q ≤ z) (e5 : Y 62 5 = Int32.ofNat (en c z q)) (h0 : ∀ p Y, bnd c z (pO c z q A) = .inl p → Fw I Y → Y 62 4 = Int32.ofNat p → Q (some (.int 0)) (Sg Y J)) (h1 : ∀ e A' Y, bnd c z (pO c z q A) = .inr (e, A') → CS I A' Y → Y 62 5 = Int32.ofNat e → Q (some (.int 1)) (Sg Y J)) : Rn 20 45 [.ref 62, .int f, .int 4, .null, .null] [] (Sg Y J) Q := by
  have g1 := en_c (c := c) hq
  have g2 := en_c (c := c) g1.2
  have g3 := en_c (c := c) g2.2
  obtain ⟨n, hn, en0⟩ := hA.2
  have hn6 := n6 hn en0 h6
  simp only [u20_45, u20_46]
  refine nst' 4 0 f 0 7 (by decide) (by decide) (by decide) (by decide) (by decide) hT hC g1.2 e5 (fun f1 Y1 v hC1 e1 v1 _ => ?_) (fun f0 Y1 k1 k2 => h0 _ Y1 (by unfold pO; rw [if_neg h6, if_neg f0]; rfl) k1 k2) .null
  refine nst' 4 1 f 1 60 (by decide) (by decide) (by decide) (by decide) (by decide) hT hC1 g2.2 e1 (fun f2 Y2 v hC2 e2 v2 r2 => ?_) (fun f0 Y1 k1 k2 => h0 _ Y1 (by unfold pO; rw [if_neg h6, if_pos f1, if_neg f0]; rfl) k1 k2) v
  refine am_x 4 _ f v (by decide) (by decide) ?_
  have hP : pO c z q A = .inr (en c z (en c z (en c z q)), woA A (vI c z (en c z q)) (vI c z (en c z (en c z q)))) := by unfold pO; rw [if_neg h6, if_pos f1, if_pos f2]
  rw [hP, bnd_r] at h0 h1
  refine fnI' _ _ f hT hC2 g3.2 e2 v (fun s3 Y4 hC4 e4 r4 => ?_) (fun s3 Y1 k1 k2 => h0 _ Y1 (by rw [if_neg s3]) k1 k2)
  obtain ⟨k, hk, ek⟩ := o_in (m := 7) f1.1 f1.2 (by omega)
  have e68 : Y4 68 1 = Int32.ofNat n := by
    obtain ⟨n', hn', a1, a2, -⟩ := hC4.2.2.1
    rw [a1, ← a2]
    exact en0
  rw [show Int32.ofNat 4 = 4 from rfl, c22_4 n (Int32.ofNat k) (vI c z (en c z (en c z q))) hn6 e68 (by rw [r4, r2 0 (by decide), v1, ek]) (by rw [r4, v2])]
  simp only [u20_141, u20_142]
  refine ⟨Or.inr trivial, h1 _ _ _ (by rw [if_pos s3]) ?_ (by rw [up_o _ _ (by decide), up_o _ _ (by decide)]; exact e4)⟩
  rw [ek]
  exact hC4.wo hn6 en0 (by omega) _
theorem gV (f : Int32) (hT : TX I c z) (hC : CS I A Y) (hq : q ≤ z) (e5 : Y 62 5 = Int32.ofNat (en c z q)) (h0 : ∀ p Y, bnd c z (.inr (en c z q, A)) = .inl p → Fw I Y → Y 62 4 = Int32.ofNat p → Q (some (.int 0)) (Sg Y J)) (h1 : ∀ e A' Y, bnd c z (.inr (en c z q, A)) = .inr (e, A') → CS I A' Y → Y 62 5 = Int32.ofNat e → Q (some (.int 1)) (Sg Y J)) : Rn 20 45 [.ref 62, .int f, .int 0, .null, .null] [] (Sg Y J) Q := by
  have g1 := en_c (c := c) hq
  simp only [u20_45, u20_46]
  refine am_x 0 _ f .null (by decide) (by decide) ?_
  rw [bnd_r] at h0 h1
  refine fnI' _ _ f hT hC g1.2 e5 .null (fun s3 Y4 hC4 e4 r4 => ?_) (fun s3 Y1 k1 k2 => h0 _ Y1 (by rw [if_neg s3]) k1 k2)
  rw [show Int32.ofNat 0 = 0 from rfl, c22_0]
  simp only [u20_141, u20_142]
  exact ⟨Or.inr trivial, h1 _ _ _ (by rw [if_pos s3]) hC4 e4⟩
end RITEM
