/-! THE CALL: turn -/
theorem mn_n {x y : Nat} (hx : x < 2147483648) (hy : y < 2147483648) : mn (Int32.ofNat x) (Int32.ofNat y) = Int32.ofNat (min x y) := by
  unfold mn
  by_cases h : y < x
  · rw [if_pos ((o_lt hy hx).mpr h), Nat.min_eq_right (by omega)]
  · rw [if_neg (fun q => h ((o_lt hy hx).mp q)), Nat.min_eq_left (by omega)]
theorem pl_n {c S T : Nat} (hc : c < 6) (hS : S ≤ 9) (hT : T < 2147483648) (own oth : Int32) : ∃ P, P ≤ 20 ∧ pl c (Int32.ofNat S) (Int32.ofNat T) own oth = Int32.ofNat P := by
  have hb : bo (Int32.ofNat S) (Int32.ofNat T) = Int32.ofNat (if T % 2 = 0 then S else 2 * S) := by
    unfold bo
    rw [tm2 hT]
    by_cases q : T % 2 = 0
    · rw [q, if_pos rfl, if_pos (by rfl)]
    · have q1 : T % 2 = 1 := by omega
      rw [q1, if_neg (by decide), if_neg (by decide)]
      exact o_mm
  obtain rfl | rfl | rfl | rfl | rfl | rfl : c = 0 ∨ c = 1 ∨ c = 2 ∨ c = 3 ∨ c = 4 ∨ c = 5 := by omega
  · exact ⟨S, by omega, rfl⟩
  · by_cases h : oth ≤ own
    · exact ⟨0, by omega, if_pos h⟩
    · exact ⟨S, by omega, if_neg h⟩
  · exact ⟨_, by split <;> omega, hb⟩
  · exact ⟨S + 2, by omega, o_aa⟩
  · rw [pl4 own oth hS hT]
    by_cases h : (if T % 2 = 0 then S else 2 * S) ≤ T % 4
    · exact ⟨0, by omega, if_pos h⟩
    · exact ⟨_, by split <;> omega, if_neg h⟩
  · by_cases h : oth < 5
    · exact ⟨0, by omega, if_pos h⟩
    · exact ⟨S + 2, by omega, (if_neg h).trans o_aa⟩
theorem mv_n {W : Nat → Int32} {s o P : Nat} (h : ∀ j, j < 8 → ∃ w, w ≤ 99 ∧ W j = Int32.ofNat w) (hs : s < 8) (ho : o < 8) (hP : P ≤ 20) : ∀ j, j < 8 → ∃ w, w ≤ 99 ∧ mvW W s o (Int32.ofNat P) j = Int32.ofNat w := by
  intro j hj
  obtain ⟨a, ha, ea⟩ := h o ho
  obtain ⟨b, hb, eb⟩ := h s hs
  have e : mn (Int32.ofNat P) (mn (W o) (99 - W s)) = Int32.ofNat (min P (min a (99 - b))) := by
    rw [ea, eb, show (99 : Int32) - Int32.ofNat b = Int32.ofNat (99 - b) from o_ss (a := 99) hb, mn_n (by omega) (by omega), mn_n (by omega) (by omega)]
  unfold mvW
  rw [e]
  by_cases h1 : j = s
  · subst h1
    exact ⟨b + min P (min a (99 - b)), by omega, by rw [ud_s, eb, o_aa]⟩
  · rw [ud_o _ _ h1]
    by_cases h2 : j = o
    · subst h2
      exact ⟨a - min P (min a (99 - b)), by omega, by rw [ud_s, ea, o_ss (by omega)]⟩
    · rw [ud_o _ _ h2]; exact h j hj
theorem gt_n {wh : Nat → Bool} {kd sg sn : Nat → Int32} {pg : Int32} {n T : Nat} (hT : T < 2147483648) (hp : ∀ k, k < n → (∃ c, c < 6 ∧ kd k = Int32.ofNat c) ∧ (∃ S, S ≤ 9 ∧ sg k = Int32.ofNat S) ∧ ∃ s, s < 8 ∧ sn k = Int32.ofNat s) {W : Nat → Int32} (h : ∀ j, j < 8 → ∃ w, w ≤ 99 ∧ W j = Int32.ofNat w) : ∀ k, k ≤ n → ∀ j, j < 8 → ∃ w, w ≤ 99 ∧ gt wh kd sg sn pg (Int32.ofNat T) W k j = Int32.ofNat w := by
  intro k
  induction k with
  | zero => intro _; exact h
  | succ k ih =>
    intro hk
    obtain ⟨⟨c, hc, ec⟩, ⟨S, hS, eS⟩, ⟨s, hs, es⟩⟩ := hp k (by omega)
    rw [gt_s, ec, eS, es]
    by_cases hx : wh k = true ∧ ¬ src pg (Int32.ofNat T) (Int32.ofNat s) = -1
    · rw [if_pos hx]
      obtain ⟨o, ho, eo, hos⟩ := src_ok _ _ hs hx.2
      rw [eo, o_tn (by omega), o_tn (by omega), o_tn (by omega)]
      obtain ⟨P, hP, eP⟩ := pl_n hc hS hT (gt wh kd sg sn pg (Int32.ofNat T) W k s) (gt wh kd sg sn pg (Int32.ofNat T) W k o)
      rw [eP]
      exact mv_n (ih (by omega)) hs ho hP
    · rw [if_neg hx]
      exact ih (by omega)
/-- the reference's array with weeks laid into it -/
def cpw (A W : Nat → Int32) (k : Nat) : Nat → Int32 := fun j => if 5 ≤ j ∧ j < 5 + k then W (j - 5) else A j
theorem cpw_0 (A W : Nat → Int32) : cpw A W 0 = A := by
  funext j
  unfold cpw
  rw [if_neg (by omega)]
theorem cpw_s (A W : Nat → Int32) (k : Nat) : upd (cpw A W k) (5 + k) (W k) = cpw A W (k + 1) := by
  funext j
  show (if j = 5 + k then W k else if 5 ≤ j ∧ j < 5 + k then W (j - 5) else A j) = if 5 ≤ j ∧ j < 5 + (k + 1) then W (j - 5) else A j
  by_cases h : j = 5 + k
  · rw [if_pos h, if_pos (by omega)]
    congr 1
    omega
  · rw [if_neg h]
    by_cases h2 : 5 ≤ j ∧ j < 5 + k
    · rw [if_pos h2, if_pos (by omega)]
    · rw [if_neg h2, if_neg (by omega)]
theorem cpw_i (A W : Nat → Int32) {j k : Nat} (h : j < k) : cpw A W k (5 + j) = W j := by
  unfold cpw
  rw [if_pos (by omega), show 5 + j - 5 = j by omega]
theorem cpw_o (A W : Nat → Int32) {j k : Nat} (h : ¬ (5 ≤ j ∧ j < 5 + k)) : cpw A W k j = A j := if_neg h
/-- one turn of everyone, on weeks; n teams -/
abbrev gtA (A : Nat → Int32) (n : Nat) (W : Nat → Int32) : Nat → Int32 := gt (fun j => decide (((1 <<< (Int32.ofNat n &&& 31) - 1 : Int32) >>> (Int32.ofNat j &&& 31)) &&& 1 = 1)) (fun j => A (14 + 3 * j)) (fun j => A (14 + 3 * j + 1)) (fun j => A (14 + 3 * j + 2)) (A 13) (A 2) W n
/-- the reference's array behind a turn, as far as it counts -/
def Ta (A A' : Nat → Int32) : Prop := ∀ n u, n ≤ 6 → u ≤ 8 → A 0 = Int32.ofNat n → A 4 = Int32.ofNat u → ∀ k, k < 142 → A' k = upd (cpw (kpM A u) (gtA A n (fun j => A (5 + j))) 8) 2 (A 2 + 1) k
theorem VR_tn {I : Nat → Nat → Int32} {A A' : Nat → Int32} {B n o u : Nat} (hV : VR I 8 A B) (hB : B < 100000) (hn : n ≤ 6) (h11 : I 11 1 = Int32.ofNat n) (ho : o < 8) (hu : u ≤ 8) (e3 : I 17 3 = Int32.ofNat o) (e4 : I 17 4 = Int32.ofNat u) (hA : Ta A A') : VR (paI (kpC I o u) 8 (-1) n) 8 A' (B + 1) := by
  obtain ⟨⟨n', hn', a1, a2, a3⟩, rb, rc, rd, ⟨o', u', ho', hu', f1, f2, f3, f4⟩⟩ := hV
  have hnn : n' = n := by
    rw [h11] at a1
    exact ((o_eq (by omega) (by omega)).mp a1).symm
  have hoo : o' = o := by
    rw [e3] at f1
    exact ((o_eq (by omega) (by omega)).mp f1).symm
  have huu : u' = u := by
    rw [e4] at f2
    exact ((o_eq (by omega) (by omega)).mp f2).symm
  subst hnn hoo huu
  have hA2 := hA n' u' hn' hu' a2 f3
  have rd0 := rd
  obtain ⟨⟨T, hT, t1, t2⟩, p1, w1⟩ := rd0
  have hpf := VP_keep ho hu f1 f2 f4 rd
  have hW : ∀ j, j < 8 → gtV (kpC I o' u') 8 (-1) n' j = gtA A n' (fun j => A (5 + j)) j := by
    intro j hj
    simp (disch := decide) only [gtV, kpC, up_o, up_s, Nat.reduceAdd]
    rw [p1, t1, ← t2]
    refine gt_eq (fun k hk => ?_) (fun j hj => ?_) n' (Nat.le_refl _) j hj
    · obtain ⟨⟨c, hc, c1, c2⟩, ⟨S, hS, hS9, S1, S2⟩, ⟨s, hs, s1, s2⟩⟩ := a3 k hk
      exact ⟨bit_a n' hn' k hk, c1.trans c2.symm, S1.trans S2.symm, s1.trans s2.symm, s, hs, s2⟩
    · obtain ⟨w, hw, q1, q2⟩ := w1 j hj
      exact q1.trans q2.symm
  have hR : ∀ j, j < 8 → ∃ w, w ≤ 99 ∧ gtA A n' (fun j => A (5 + j)) j = Int32.ofNat w := by
    unfold gtA
    rw [t2]
    refine gt_n (by omega) (fun k hk => ?_) (fun j hj => ?_) n' (Nat.le_refl _)
    · obtain ⟨⟨c, hc, c1, c2⟩, ⟨S, hS, hS9, S1, S2⟩, ⟨s, hs, s1, s2⟩⟩ := a3 k hk
      exact ⟨⟨c, hc, c2⟩, ⟨S, hS9, S2⟩, ⟨s, hs, s2⟩⟩
    · obtain ⟨w, hw, q1, q2⟩ := w1 j hj
      exact ⟨w, hw, q2⟩
  have hl : ∀ k, k < 142 → ¬ k = 2 → ¬ (5 ≤ k ∧ k < 13) → ¬ k = 4 → k < 62 → A' k = A k := by
    intro k h0 h1 h2 h3 h4
    rw [hA2 k h0, ud_o _ _ h1, cpw_o _ _ h2, kp_o h3 h4]
  have hh : ∀ k, k < 142 → (k = 4 ∨ 62 ≤ k) → A' k = kpM A u' k := by
    intro k h0 h1
    rw [hA2 k h0, ud_o _ _ (by omega), cpw_o _ _ (by omega)]
  unfold VR
  refine ⟨VT_M ⟨n', hn', ?_, a2, ?_⟩ (fun k hk => hl k (by omega) (by omega) (by omega) (by omega) (by omega)), VW_M (M := A) ?_ (fun k hk => hl k (by omega) (by omega) (by omega) (by omega) (by omega)), VM_M (M := A) ?_ (fun k hk => hl k (by omega) (by omega) (by omega) (by omega) (by omega)), ⟨⟨T + 1, by omega, ?_, ?_⟩, ?_, fun j hj => ?_⟩, VP_M (M := kpM A u') (B := B) ?_ (fun k hk => hh k (by omega) (by omega)) (by omega)⟩
  · simp (disch := decide) only [paI, kpC, up_o, up_s, Nat.reduceAdd]; exact a1
  · simp (disch := decide) only [paI, kpC, up_o, up_s, Nat.reduceAdd]; exact a3
  · simp (disch := decide) only [paI, kpC, up_o, up_s, Nat.reduceAdd]; exact rb
  · simp (disch := decide) only [paI, kpC, up_o, up_s, Nat.reduceAdd]; exact rc
  · simp (disch := decide) only [paI, kpC, up_o, up_s, ud_s, Nat.reduceAdd]
    have q := t1
    simp only [Nat.reduceAdd] at q
    rw [q]; exact o_aa
  · rw [hA2 2 (by omega), ud_s, t2]; exact o_aa
  · rw [hl 13 (by omega) (by omega) (by omega) (by omega) (by omega)]
    simp (disch := decide) only [paI, kpC, up_o, up_s, ud_o, Nat.reduceAdd]; exact p1
  · obtain ⟨w, hw, q⟩ := hR j hj
    refine ⟨w, hw, ?_, ?_⟩
    · have hx : paI (kpC I o' u') 8 (-1) n' (8 + 2) = gtV (kpC I o' u') 8 (-1) n' := by
        simp (disch := decide) only [paI, up_o, up_s, Nat.reduceAdd]
      rw [hx, hW j hj]; exact q
    · rw [hA2 _ (by omega), ud_o _ _ (by omega), cpw_i _ _ hj]; exact q
  · simp (disch := decide) only [paI, kpC, up_o, up_s, Nat.reduceAdd]; exact hpf
theorem cpw_eq {A W V : Nat → Int32} (h : ∀ j, j < 8 → W j = V j) : cpw A W 8 = cpw A V 8 := by
  funext j
  unfold cpw
  by_cases q : 5 ≤ j ∧ j < 5 + 8
  · rw [if_pos q, if_pos q, h _ (by omega)]
  · rw [if_neg q, if_neg q]
def tA (A : Nat → Int32) : Nat → Int32 := upd (cpw (kpM A (A 4).toNatClampNeg) (gtA A (A 0).toNatClampNeg (fun j => A (5 + j))) 8) 2 (A 2 + 1)
theorem tA_at {A : Nat → Int32} {n u : Nat} (hn : n ≤ 6) (hu : u ≤ 8) (e0 : A 0 = Int32.ofNat n) (e4 : A 4 = Int32.ofNat u) : tA A = upd (cpw (kpM A u) (gtA A n (fun j => A (5 + j))) 8) 2 (A 2 + 1) := by
  unfold tA
  rw [show (A 4).toNatClampNeg = u by rw [e4, o_tn (by omega)], show (A 0).toNatClampNeg = n by rw [e0, o_tn (by omega)]]
theorem Ta_tA (A : Nat → Int32) : Ta A (tA A) := fun n u hn hu e0 e4 k _ => by rw [tA_at hn hu e0 e4]
def itA (A : Nat → Int32) (k : Nat) : Nat → Int32 := Nat.rec A (fun _ X => tA X) k
theorem itA_s (A : Nat → Int32) (k : Nat) : itA A (k + 1) = tA (itA A k) := rfl
theorem it_all {I : Nat → Nat → Int32} {A : Nat → Int32} {B : Nat} (hV : VR I 8 A B) (hB : B < 10000) : ∀ k, k ≤ 60 → ∃ I', VR I' 8 (itA A k) (B + k) := by
  intro k
  induction k with
  | zero => intro _; exact ⟨I, hV⟩
  | succ k ih =>
    intro hk
    obtain ⟨I', h⟩ := ih (by omega)
    have h0 := h
    obtain ⟨⟨n, hn, a1, a2, a3⟩, rb, rc, rd, ⟨o, u, ho, hu, f1, f2, f3, f4⟩⟩ := h0
    exact ⟨_, VR_tn (B := B + k) h (by omega) hn a1 ho hu f1 f2 (Ta_tA _)⟩
section TURN
variable {I0 : Nat → Nat → Int32} {J : Nat → Nat → Int64} {Q : Option Value → Sto → Prop}
theorem tn_c {A : Nat → Int32} {B N : Nat} (hB : B < 10000) (hN : N ≤ 60) (hQ : ∀ If, VR If 8 (itA A N) (B + N) → (∀ q, ¬ (9 ≤ q ∧ q ≤ 20) → If q = I0 q) → Q (some (.int (If 9 2))) (Sg If J)) : ∀ d k (I : Nat → Nat → Int32), k + d = N → VR I 8 (itA A k) (B + k) → (∀ q, ¬ (9 ≤ q ∧ q ≤ 20) → I q = I0 q) → Rn 73 19 [.ref 0, .int (Int32.ofNat N), .int (Int32.ofNat k)] [] (Sg I J) Q := by
  intro d
  induction d with
  | zero =>
    intro k I hk hV hf
    obtain rfl : k = N := by omega
    simp (disch := first | assumption | omega | decide | exact la_87 | exact la_88 | exact la_90 | exact la_91 | exact la_92 | exact la_93 | exact la_94 | exact la_95 | exact la_96 | exact la_97 | exact la_98 | exact la_99 | exact la_10 | exact la_23 | exact la_77 | exact la_78 | exact la_18 | exact la_19 | exact la_20) only [u73_19, u73_20, u73_21, u73_24, u73_25, u73_28, u73_31, u73_32, u73_35, u73_38, u73_41, u73_42, u73_45, u73_46, u73_49, u73_55, u73_56, u73_59, u73_62, u73_65, la_0, la_8, la_9, lr_0_0, lr_8_1, kLt, true_and, o_aa, o_al, o_la, o_mm, o_ml, o_lm, o_ss, o_sl, o_ls, o_tn, o_tl, o_lt, o_ltl, o_llt, o_le, o_lel, o_lle, o_eq, o_eql, o_leq, o_inb, o_inl, o_neg, Nat.le_refl, if_true]
    exact hQ I hV hf
  | succ d ih =>
    intro k I hk hV hf
    have hV0 := hV
    obtain ⟨⟨n, hn, a1, a2, a3⟩, rb, rc, rd, ⟨o, u, ho, hu, f1, f2, f3, f4⟩⟩ := hV0
    have hnk : ¬ N ≤ k := by omega
    have hTm : Tm (kpC I o u) 8 n := by
      refine ⟨hn, ?_, fun q hq => ?_⟩
      · simp (disch := decide) only [kpC, up_o, Nat.reduceAdd]; exact a1
      · obtain ⟨⟨c, hc, c1, c2⟩, -, ⟨s, hs, s1, s2⟩⟩ := a3 q hq
        refine ⟨⟨c, hc, ?_⟩, ⟨s, hs, ?_⟩⟩
        · simp (disch := decide) only [kpC, up_o, Nat.reduceAdd]; exact c1
        · simp (disch := decide) only [kpC, up_o, Nat.reduceAdd]; exact s1
    have hc11 := fun (pc : Nat) (ls st : Vs) => @c11 73 pc ls st I J Q o u ho hu f1 f2
    have hc46 := fun (pc : Nat) (ls st : Vs) => @c46 73 pc ls st (kpC I o u) J Q 8 lisV_8 (-1) n hTm
    have hst := ih (k + 1) (paI (kpC I o u) 8 (-1) n) (by omega) (VR_tn (B := B + k) hV (by omega) hn a1 ho hu f1 f2 (Ta_tA _)) (fun q hq => by
      rw [← hf q hq]
      simp (disch := omega) only [paI, kpC, up_o])
    clear ih rb rc rd a3 f4 hTm
    simp (disch := first | assumption | omega | decide | exact la_87 | exact la_88 | exact la_90 | exact la_91 | exact la_92 | exact la_93 | exact la_94 | exact la_95 | exact la_96 | exact la_97 | exact la_98 | exact la_99 | exact la_10 | exact la_23 | exact la_77 | exact la_78 | exact la_18 | exact la_19 | exact la_20) only [u73_19, u73_20, u73_21, u73_24, u73_25, u73_28, u73_31, u73_32, u73_35, u73_38, u73_41, u73_42, u73_45, u73_46, u73_49, u73_55, u73_56, u73_59, u73_62, u73_65, hc11, hc46, la_0, la_8, la_9, la_17, lr_0_0, lr_8_1, lr_8_5, kLt, true_and, o_aa, o_al, o_la, o_mm, o_ml, o_lm, o_ss, o_sl, o_ls, o_tn, o_tl, o_lt, o_ltl, o_llt, o_le, o_lel, o_lle, o_eq, o_eql, o_leq, o_inb, o_inl, o_neg, hnk, if_false]
    exact (u73_52 ..).mpr hst
/-- nothing but scratch and the reference's array has changed -/
def Sn (I I' : Nat → Nat → Int32) : Prop := (∀ a, scr a = false → ¬ a = 62 → ¬ a = 86 → ¬ a = 87 → I' a = I a) ∧ I' 62 3 = I 62 3 ∧ I' 86 15 = I 86 15
theorem Sn.sc {I I1 I2 : Nat → Nat → Int32} (h : Sn I I1) (k : Sc I1 I2) : Sn I I2 := ⟨fun a h1 h2 h3 h4 => (k.1 a h1 h2 h3).trans (h.1 a h1 h2 h3 h4), k.2.1.trans h.2.1, k.2.2.trans h.2.2⟩
theorem Sn.u87 {I I1 : Nat → Nat → Int32} (h : Sn I I1) (f : Nat → Int32) : Sn I (va_up I1 87 f) := by
  refine ⟨fun a h1 h2 h3 h4 => ?_, ?_, ?_⟩
  · rw [up_o _ _ h4]; exact h.1 a h1 h2 h3 h4
  · rw [up_o _ _ (by decide)]; exact h.2.1
  · rw [up_o _ _ (by decide)]; exact h.2.2
theorem tn_m {A : Nat → Int32} {B N : Nat} (hB : B < 10000) (hN : N ≤ 60) (hall : ∀ k, k ≤ 60 → ∃ I', VR I' 8 (itA A k) (B + k)) (hQ : ∀ If, If 87 = itA A N → Sn I0 If → Q (some (.int (itA A N 2))) (Sg If J)) : ∀ d k (I : Nat → Nat → Int32) (x : Value), k + d = N → I 87 = itA A k → Sn I0 I → Rn 142 21 [.ref 86, .int (Int32.ofNat N), .int (Int32.ofNat k), x] [] (Sg I J) Q := by
  intro d
  induction d with
  | zero =>
    intro k I x hk hA hf
    obtain rfl : k = N := by omega
    simp (disch := first | assumption | omega | decide | exact la_87 | exact la_88 | exact la_90 | exact la_91 | exact la_92 | exact la_93 | exact la_94 | exact la_95 | exact la_96 | exact la_97 | exact la_98 | exact la_99 | exact la_10 | exact la_23 | exact la_77 | exact la_78 | exact la_18 | exact la_19 | exact la_20) only [u142_21, u142_22, u142_23, u142_26, u142_27, u142_30, u142_31, u142_34, u142_35, u142_36, u142_39, u142_42, u142_43, u142_44, u142_45, u142_47, u142_50, u142_51, u142_54, u142_55, u142_56, u142_57, u142_58, u142_61, u142_62, u142_63, u142_64, u142_70, u142_71, u142_74, u142_75, u142_76, u142_77, u142_78, u142_79, u142_80, u142_86, u142_87, u142_90, u142_91, u142_92, la_86, la_87, lt_87, lr_86_0, kLt, true_and, o_aa, o_al, o_la, o_mm, o_ml, o_lm, o_ss, o_sl, o_ls, o_tn, o_tl, o_lt, o_ltl, o_llt, o_le, o_lel, o_lle, o_eq, o_eql, o_leq, o_inb, o_inl, o_neg, Nat.le_refl, Nat.reduceLT, if_true, hA]
    exact hQ I hA hf
  | succ d ih =>
    intro k I x hk hA hf
    obtain ⟨Ix, ⟨n, hn, a1, a2, a3⟩, rb, rc, ⟨⟨T, hT, t1, t2⟩, p1, w1⟩, ⟨o, u, ho, hu, f1, f2, f3, f4⟩⟩ := hall k (by omega)
    have hnk : ¬ N ≤ k := by omega
    have e4 : I 87 4 = Int32.ofNat u := by rw [hA]; exact f3
    have eA := tA_at hn hu a2 f3
    rw [← itA_s] at eA
    generalize itA A k = C at hA a2 a3 t2 f3 eA w1 p1
    have hI2 : (va_up I 87 (kpM (I 87) u)) 87 0 = Int32.ofNat n := by rw [up_s, hA, kp_o (by omega) (by omega)]; exact a2
    have hL0 : lhI (va_up I 87 (kpM (I 87) u)) n 87 = kpM C u := by rw [lh_87, up_s, hA]
    have hHm : Hm (lhI (va_up I 87 (kpM (I 87) u)) n) n T := by
      refine ⟨hn, by rw [lh_87]; exact hI2, fun q hq => ?_, ?_⟩
      · obtain ⟨⟨c, hc, c1, c2⟩, ⟨S, hS, hS9, S1, S2⟩, ⟨s, hs, s1, s2⟩⟩ := a3 q hq
        refine ⟨⟨c, hc, ?_⟩, ⟨s, hs, ?_⟩, ⟨S, hS9, ?_⟩⟩
        · simp (disch := decide) only [lhI, up_o, up_s]; rw [cpf_i _ _ hq, hA, kp_o (by omega) (by omega)]; exact c2
        · simp (disch := decide) only [lhI, up_o, up_s]; rw [cpf_i _ _ hq, hA, kp_o (by omega) (by omega)]; exact s2
        · rw [hL0, kp_o (by omega) (by omega)]; exact S2
      · simp (disch := decide) only [lhI, up_o, up_s, ud_s]; rw [hA, kp_o (by omega) (by omega)]; exact t2
    have hg91 : ∀ j, j < 8 → gmI (lhI (va_up I 87 (kpM (I 87) u)) n) (1 <<< (Int32.ofNat n &&& 31) - 1) n 91 j = gtA C n (fun j => C (5 + j)) j := by
      intro j hj
      simp (disch := decide) only [gmI, gtM, lhI, up_o, up_s, ud_s, ud_o]
      rw [hA, kp_o (by omega) (by omega), kp_o (by omega) (by omega)]
      refine gt_eq (fun q hq => ?_) (fun j hj => ?_) n (Nat.le_refl _) j hj
      · obtain ⟨⟨c, hc, c1, c2⟩, ⟨S, hS, hS9, S1, S2⟩, ⟨s, hs, s1, s2⟩⟩ := a3 q hq
        refine ⟨rfl, ?_, ?_, ?_, s, hs, s2⟩
        · rw [cpf_i _ _ hq, kp_o (by omega) (by omega)]
        · rw [kp_o (by omega) (by omega)]
        · rw [cpf_i _ _ hq, kp_o (by omega) (by omega)]
      · rw [cpf_i _ _ hj, kp_o (by omega) (by omega)]
    have hg87 : gmI (lhI (va_up I 87 (kpM (I 87) u)) n) (1 <<< (Int32.ofNat n &&& 31) - 1) n 87 = kpM C u := by
      have : gmI (lhI (va_up I 87 (kpM (I 87) u)) n) (1 <<< (Int32.ofNat n &&& 31) - 1) n 87 = lhI (va_up I 87 (kpM (I 87) u)) n 87 := by simp (disch := decide) only [gmI, up_o]
      rw [this, hL0]
    have hSn : Sn I0 (gmI (lhI (va_up I 87 (kpM (I 87) u)) n) (1 <<< (Int32.ofNat n &&& 31) - 1) n) := ((hf.u87 _).sc (Sc_lh _ n)).sc (Sc_gm _ _ n)
    have hl0 : lhI (va_up I 87 (kpM (I 87) u)) n 87 0 = Int32.ofNat n := by rw [lh_87]; exact hI2
    have h127 := fun (pc : Nat) (ls st : Vs) => @c127 142 pc ls st I J Q u hu e4
    have h135 := fun (pc : Nat) (ls st : Vs) => @c135 142 pc ls st (va_up I 87 (kpM (I 87) u)) J Q n hn hI2
    have h139 := fun (pc : Nat) (ls st : Vs) => @c139 142 pc ls st (lhI (va_up I 87 (kpM (I 87) u)) n) J Q (1 <<< (Int32.ofNat n &&& 31) - 1) n T hHm (by omega)
    clear hHm a3 f4 rb rc w1 hI2
    simp (disch := first | assumption | omega | decide | exact la_87 | exact la_88 | exact la_90 | exact la_91 | exact la_92 | exact la_93 | exact la_94 | exact la_95 | exact la_96 | exact la_97 | exact la_98 | exact la_99 | exact la_10 | exact la_23 | exact la_77 | exact la_78 | exact la_18 | exact la_19 | exact la_20) only [u142_21, u142_22, u142_23, u142_26, u142_27, u142_30, u142_31, u142_34, u142_35, u142_36, u142_39, u142_42, u142_43, h127, h135, h139, c140, hl0, la_86, kLt, true_and, o_aa, o_al, o_la, o_mm, o_ml, o_lm, o_ss, o_sl, o_ls, o_tn, o_tl, o_lt, o_ltl, o_llt, o_le, o_lel, o_lle, o_eq, o_eql, o_leq, o_inb, o_inl, o_neg, hnk, if_false]
    clear h127 h135 h139 hl0 hL0
    generalize gmI (lhI (va_up I 87 (kpM (I 87) u)) n) (1 <<< (Int32.ofNat n &&& 31) - 1) n = X at hg91 hg87 hSn ⊢
    refine Rn_fr (n := 8) (X := Unit) (fun q _ => [.ref 86, .int (Int32.ofNat N), .int (Int32.ofNat k), .int (Int32.ofNat q)]) (fun q _ => Sg (va_up X 87 (cpw (X 87) (X 91) q)) J) () rfl (by rw [cpw_0, up_i]) ?_ ?_
    · intro q hq _ ihq
      have ihq := ihq ()
      rw [← cpw_s] at ihq
      have hnq : ¬ 8 ≤ q := by omega
      simp (disch := first | assumption | omega | decide | exact la_87 | exact la_88 | exact la_90 | exact la_91 | exact la_92 | exact la_93 | exact la_94 | exact la_95 | exact la_96 | exact la_97 | exact la_98 | exact la_99 | exact la_10 | exact la_23 | exact la_77 | exact la_78 | exact la_18 | exact la_19 | exact la_20) only [u142_44, u142_45, u142_47, u142_50, u142_51, u142_54, u142_55, u142_56, u142_57, u142_58, u142_61, u142_62, u142_63, u142_64, la_86, la_87, la_91, lt_87, lt_91, lr_86_0, lr_86_6, kLt, true_and, o_aa, o_al, o_la, o_mm, o_ml, o_lm, o_ss, o_sl, o_ls, o_tn, o_tl, o_lt, o_ltl, o_llt, o_le, o_lel, o_lle, o_eq, o_eql, o_leq, o_inb, o_inl, o_neg, hnq, hq, if_false, up_s, up_o, up_u, wI_d, show 5 + q < 142 by omega]
      exact (u142_67 ..).mpr ihq
    · intro _
      have e2 : cpw (X 87) (X 91) 8 2 = C 2 := by rw [cpw_o _ _ (by omega), hg87, kp_o (by omega) (by omega)]
      simp (disch := first | assumption | omega | decide | exact la_87 | exact la_88 | exact la_90 | exact la_91 | exact la_92 | exact la_93 | exact la_94 | exact la_95 | exact la_96 | exact la_97 | exact la_98 | exact la_99 | exact la_10 | exact la_23 | exact la_77 | exact la_78 | exact la_18 | exact la_19 | exact la_20) only [u142_44, u142_45, u142_47, u142_50, u142_51, u142_54, u142_55, u142_56, u142_57, u142_58, u142_61, u142_62, u142_63, u142_64, u142_70, u142_71, u142_74, u142_75, u142_76, u142_77, u142_78, u142_79, u142_80, u142_86, u142_87, u142_90, u142_91, u142_92, la_86, la_87, lt_87, lr_86_0, kLt, true_and, o_aa, o_al, o_la, o_mm, o_ml, o_lm, o_ss, o_sl, o_ls, o_tn, o_tl, o_lt, o_ltl, o_llt, o_le, o_lel, o_lle, o_eq, o_eql, o_leq, o_inb, o_inl, o_neg, Nat.le_refl, Nat.reduceLT, if_true, up_s, up_u, wI_d, e2]
      refine (u142_83 ..).mpr (ih (k + 1) _ _ (by omega) ?_ (hSn.u87 _))
      rw [up_s, eA, hg87, cpw_eq hg91]
end TURN
theorem op9 (a : Int32) : OpI 73 [.ref 0, .int a, .null] 142 [.ref 86, .int a, .null, .null] := by
  intro I J B hR hB
  by_cases h1 : 1 ≤ a ∧ a ≤ 60
  · obtain ⟨N, hN, rfl⟩ := o_in (m := 60) (Int32.le_trans (show (0 : Int32) ≤ 1 by decide) h1.1) h1.2 (by omega)
    simp (disch := first | assumption | omega | decide | exact la_87 | exact la_88 | exact la_90 | exact la_91 | exact la_92 | exact la_93 | exact la_94 | exact la_95 | exact la_96 | exact la_97 | exact la_98 | exact la_99 | exact la_10 | exact la_23 | exact la_77 | exact la_78 | exact la_18 | exact la_19 | exact la_20) only [u73_0, u73_1, u73_2, u73_4, u73_7, u73_10, u73_11, u73_13, u73_16, u73_17, u73_18, c100, bi_0, h1, not_true, not_false_eq_true, if_true, if_false]
    refine tn_c (I0 := I) (A := I 87) (B := B) (N := N) (by omega) hN (fun If hV hf => ?_) N 0 I (by omega) hR.1 (fun _ _ => rfl)
    refine ⟨_, _, _, rfl, rfl, hf 999 (by omega), hf 1000 (by omega), ?_⟩
    simp (disch := first | assumption | omega | decide | exact la_87 | exact la_88 | exact la_90 | exact la_91 | exact la_92 | exact la_93 | exact la_94 | exact la_95 | exact la_96 | exact la_97 | exact la_98 | exact la_99 | exact la_10 | exact la_23 | exact la_77 | exact la_78 | exact la_18 | exact la_19 | exact la_20) only [u142_0, u142_1, u142_2, u142_3, u142_6, u142_9, u142_12, u142_13, u142_15, u142_18, u142_19, u142_20, c113n, bi_0, h1, not_true, not_false_eq_true, if_true, if_false]
    refine tn_m (I0 := If) (A := I 87) (B := B) (N := N) (by omega) hN (it_all hR.1 (by omega)) (fun I2 h87 hs => ?_) N 0 If .null (by omega) (hf 87 (by omega)) ⟨fun _ _ _ _ _ => rfl, rfl, rfl⟩
    have hV0 := hV
    obtain ⟨-, -, -, ⟨⟨T, hT, t1, t2⟩, -⟩, -⟩ := hV0
    refine ⟨_, _, ?_, rfl, ?_, ?_, ?_⟩
    · rw [t2]; exact congrArg (fun z => some (Value.int z)) t1.symm
    · rw [hs.1 999 (by decide) (by decide) (by decide) (by decide)]; exact hf 999 (by omega)
    · rw [hs.1 1000 (by decide) (by decide) (by decide) (by decide)]; exact hf 1000 (by omega)
    · refine Rel_now hR (by omega) ?_ (fun q g1 g2 g3 g4 g5 => ?_) ?_ ?_ ⟨rfl, rfl, rfl, rfl⟩
      · rw [h87]
        refine VR_le (VR_eq hV (fun q q1 q2 => ?_) (fun _ _ => rfl)) (by omega)
        refine hs.1 q ?_ (by omega) (by omega) (by omega)
        unfold scr
        simp only [Bool.or_eq_false_iff, Bool.and_eq_false_iff, decide_eq_false_iff_not, beq_eq_false_iff_ne]
        omega
      · rw [hs.1 q g1 g3 g4 g5]; exact hf q g2
      · rw [hs.2.1, hf 62 (by omega)]
      · rw [hs.2.2, hf 86 (by omega)]
  · simp (disch := decide) only [u73_0, u73_1, u73_2, u73_4, u73_7, u73_10, u73_11, u73_13, u73_16, c100, c103b, bi_0, h1, not_true, not_false_eq_true, if_true, if_false, la_0, kLt, true_and]
    refine ⟨_, _, _, rfl, rfl, up_o _ _ (by decide), up_o _ _ (by decide), ?_⟩
    simp (disch := first | assumption | omega | decide | exact la_87 | exact la_88 | exact la_90 | exact la_91 | exact la_92 | exact la_93 | exact la_94 | exact la_95 | exact la_96 | exact la_97 | exact la_98 | exact la_99 | exact la_10 | exact la_23 | exact la_77 | exact la_78 | exact la_18 | exact la_19 | exact la_20) only [u142_0, u142_1, u142_2, u142_3, u142_6, u142_9, u142_12, u142_13, u142_15, u142_18, c113n, c114, bi_0, h1, not_true, not_false_eq_true, if_true, if_false, la_86, kLt, true_and]
    exact fin_bad' hR
