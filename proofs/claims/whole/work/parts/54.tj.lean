/-! THE TRIAL AND THE HAND, side by side -/
def TJ (X Z : Nat → Nat → Int32) (n T : Nat) : Prop := n ≤ 6 ∧ X 24 1 = Int32.ofNat n ∧ Z 87 0 = Int32.ofNat n ∧ (∀ k, k < n → (∃ c, c < 6 ∧ X 25 (k * 3) = Int32.ofNat c ∧ Z 92 k = Int32.ofNat c) ∧ (∃ S, S ≤ 9 ∧ X 25 (k * 3 + 1) = Int32.ofNat S ∧ Z 87 (14 + 3 * k + 1) = Int32.ofNat S) ∧ (∃ s, s < 8 ∧ X 25 (k * 3 + 2) = Int32.ofNat s ∧ Z 93 k = Int32.ofNat s)) ∧ X 22 2 = Int32.ofNat T ∧ Z 86 8 = Int32.ofNat T ∧ X 22 1 = Z 86 7 ∧ ∀ j, j < 8 → ∃ w, w ≤ 99 ∧ X 23 j = Int32.ofNat w ∧ Z 91 j = Int32.ofNat w
section TJS
variable {X Z X' Z' I I1 : Nat → Nat → Int32} {n n2 T B : Nat}
theorem TJ.tm (h : TJ X Z n T) : Tm X 21 n := ⟨h.1, h.2.1, fun k hk => by
  obtain ⟨⟨c, hc, c1, -⟩, -, ⟨s, hs, s1, -⟩⟩ := h.2.2.2.1 k hk
  exact ⟨⟨c, hc, c1⟩, s, hs, s1⟩⟩
theorem TJ.hm (h : TJ X Z n T) : Hm Z n T := ⟨h.1, h.2.2.1, fun k hk => by
  obtain ⟨⟨c, hc, -, c1⟩, ⟨S, hS, -, S1⟩, ⟨s, hs, -, s1⟩⟩ := h.2.2.2.1 k hk
  exact ⟨⟨c, hc, c1⟩, ⟨s, hs, s1⟩, S, hS, S1⟩, h.2.2.2.2.2.1⟩
theorem TJ.wk (h : TJ X Z n T) : ∀ j, j < 8 → X 23 j = Z 91 j := fun j hj => by
  obtain ⟨w, -, e1, e2⟩ := h.2.2.2.2.2.2.2 j hj
  rw [e1, e2]
theorem TJ.eq (h : TJ X Z n T) (e221 : X' 22 1 = X 22 1) (e222 : X' 22 2 = X 22 2) (e23 : ∀ j, j < 8 → X' 23 j = X 23 j) (e24 : X' 24 1 = X 24 1) (e25 : ∀ j, j < 18 → X' 25 j = X 25 j) (e7 : Z' 86 7 = Z 86 7) (e8 : Z' 86 8 = Z 86 8) (e87 : Z' 87 = Z 87) (e91 : ∀ j, j < 8 → Z' 91 j = Z 91 j) (e92 : ∀ j, j < 6 → Z' 92 j = Z 92 j) (e93 : ∀ j, j < 6 → Z' 93 j = Z 93 j) : TJ X' Z' n T := by
  obtain ⟨hn, a1, a2, a3, t1, t2, p1, w1⟩ := h
  refine ⟨hn, by rw [e24]; exact a1, by rw [e87]; exact a2, fun k hk => ?_, by rw [e222]; exact t1, by rw [e8]; exact t2, by rw [e221, e7]; exact p1, fun j hj => ?_⟩
  · rw [e25 _ (by omega), e25 _ (by omega), e25 _ (by omega), e87, e92 _ (by omega), e93 _ (by omega)]; exact a3 k hk
  · rw [e23 j hj, e91 j hj]; exact w1 j hj
/-- what a call starts from -/
def Bs (I : Nat → Nat → Int32) (n n2 T B : Nat) : Prop := VTn (I 11) (I 12) (I 87) n ∧ VWn (I 13) (I 14) (I 87) n2 ∧ T ≤ B ∧ I 9 2 = Int32.ofNat T ∧ I 87 2 = Int32.ofNat T ∧ I 9 1 = I 87 13 ∧ ∀ j, j < 8 → ∃ w, w ≤ 99 ∧ I 10 j = Int32.ofNat w ∧ I 87 (5 + j) = Int32.ofNat w
theorem Bs_of {J : Nat → Nat → Int64} (h : Rel I J B) : ∃ n n2 T, Bs I n n2 T B := by
  obtain ⟨⟨⟨n, hT⟩, ⟨n2, hW⟩, rc, rd, re⟩, -⟩ := h
  obtain ⟨⟨T, hT2, t1, t2⟩, p1, w1⟩ := rd
  exact ⟨n, n2, T, hT, hW, hT2, t1, t2, p1, w1⟩
theorem TJ_mk {Y : Nat → Nat → Int32} (h : Bs I n n2 T B) (h1 : I1 87 = I 87) (h221 : Y 22 1 = I 9 1) (h222 : Y 22 2 = I 9 2) (h23 : ∀ j, j < 8 → Y 23 j = I 10 j) (h24 : Y 24 1 = I 11 1) (h25 : ∀ j, j < 18 → Y 25 j = I 12 j) : TJ Y (lhI I1 n) n T := by
  obtain ⟨⟨hn, a1, a2, a3⟩, -, hT, t1, t2, p1, w1⟩ := h
  refine ⟨hn, by rw [h24]; exact a1, ?_, fun k hk => ?_, by rw [h222]; exact t1, ?_, ?_, fun j hj => ?_⟩
  · rw [lh_87, h1]; exact a2
  · obtain ⟨⟨c, hc, c1, c2⟩, ⟨S, hS, hS9, S1, S2⟩, ⟨s, hs, s1, s2⟩⟩ := a3 k hk
    rw [h25 _ (by omega), h25 _ (by omega), h25 _ (by omega)]
    refine ⟨⟨c, hc, c1, ?_⟩, ⟨S, hS9, S1, ?_⟩, ⟨s, hs, s1, ?_⟩⟩
    · simp (disch := decide) only [lhI, up_o, up_s]; rw [cpf_i _ _ hk, h1]; exact c2
    · rw [lh_87, h1]; exact S2
    · simp (disch := decide) only [lhI, up_o, up_s]; rw [cpf_i _ _ hk, h1]; exact s2
  · simp (disch := decide) only [lhI, up_o, up_s, ud_s]; rw [h1]; exact t2
  · rw [h221]; simp (disch := decide) only [lhI, up_o, up_s, ud_s, ud_o]; rw [h1]; exact p1
  · obtain ⟨w, hw, q1, q2⟩ := w1 j hj
    rw [h23 j hj]
    refine ⟨w, hw, q1, ?_⟩
    simp (disch := decide) only [lhI, up_o, up_s]; rw [cpf_i _ _ hj, h1]; exact q2
theorem tk_22 (I : Nat → Nat → Int32) : tk_21_8 I 22 1 = I 9 1 ∧ tk_21_8 I 22 2 = I 9 2 ∧ tk_21_8 I 24 1 = I 11 1 ∧ tk_21_8 I 26 1 = I 13 1 ∧ tk_21_8 I 28 1 = I 15 1 := by
  simp (disch := decide) only [tk_21_8, up_o, up_s, ud_s, ud_o, and_self]
theorem tk_23 (I : Nat → Nat → Int32) {j : Nat} (hj : j < 8) : tk_21_8 I 23 j = I 10 j := by
  simp (disch := decide) only [tk_21_8, up_o, up_s]; exact sb_cpy0 hj
theorem tk_25 (I : Nat → Nat → Int32) {j : Nat} (hj : j < 18) : tk_21_8 I 25 j = I 12 j := by
  simp (disch := decide) only [tk_21_8, up_o, up_s]; exact sb_cpy0 hj
theorem tk_27 (I : Nat → Nat → Int32) {j : Nat} (hj : j < 18) : tk_21_8 I 27 j = I 14 j := by
  simp (disch := decide) only [tk_21_8, up_o, up_s]; exact sb_cpy0 hj
theorem tk_29 (I : Nat → Nat → Int32) {j : Nat} (hj : j < 18) : tk_21_8 I 29 j = I 16 j := by
  simp (disch := decide) only [tk_21_8, up_o, up_s]; exact sb_cpy0 hj
theorem tk_f (I : Nat → Nat → Int32) {q : Nat} (hq : q < 22 ∨ 29 < q) : tk_21_8 I q = I q := by
  simp (disch := omega) only [tk_21_8, up_o]
theorem TJ_tk (h : Bs I n n2 T B) (h1 : I1 87 = I 87) : TJ (tk_21_8 I) (lhI I1 n) n T := TJ_mk h h1 (tk_22 I).1 (tk_22 I).2.1 (fun _ hj => tk_23 I hj) (tk_22 I).2.2.1 (fun _ hj => tk_25 I hj)
theorem TJ_0 (h : VTn (I 11) (I 12) (I 87) n) (hY : VY (I 9) (I 10) (I 87) B) (h1 : I1 87 = I 87) : ∃ T, T ≤ B ∧ TJ (tk_21_8 I) (lhI I1 n) n T := by
  obtain ⟨hn, a1, a2, a3⟩ := h
  obtain ⟨⟨T, hT, t1, t2⟩, p1, w1⟩ := hY
  refine ⟨T, hT, hn, ?_, ?_, fun k hk => ?_, ?_, ?_, ?_, fun j hj => ?_⟩
  · simp (disch := decide) only [tk_21_8, up_o, up_s, ud_s]; exact a1
  · rw [lh_87, h1]; exact a2
  · obtain ⟨⟨c, hc, c1, c2⟩, ⟨S, hS, hS9, S1, S2⟩, ⟨s, hs, s1, s2⟩⟩ := a3 k hk
    refine ⟨⟨c, hc, ?_, ?_⟩, ⟨S, hS9, ?_, ?_⟩, ⟨s, hs, ?_, ?_⟩⟩
    · simp (disch := decide) only [tk_21_8, up_o, up_s]; rw [sb_cpy0 (by omega)]; exact c1
    · simp (disch := decide) only [lhI, up_o, up_s]; rw [cpf_i _ _ hk, h1]; exact c2
    · simp (disch := decide) only [tk_21_8, up_o, up_s]; rw [sb_cpy0 (by omega)]; exact S1
    · rw [lh_87, h1]; exact S2
    · simp (disch := decide) only [tk_21_8, up_o, up_s]; rw [sb_cpy0 (by omega)]; exact s1
    · simp (disch := decide) only [lhI, up_o, up_s]; rw [cpf_i _ _ hk, h1]; exact s2
  · simp (disch := decide) only [tk_21_8, up_o, up_s, ud_s]; exact t1
  · simp (disch := decide) only [lhI, up_o, up_s, ud_s]; rw [h1]; exact t2
  · simp (disch := decide) only [tk_21_8, lhI, up_o, up_s, ud_s, ud_o]; rw [h1]; exact p1
  · obtain ⟨w, hw, q1, q2⟩ := w1 j hj
    refine ⟨w, hw, ?_, ?_⟩
    · simp (disch := decide) only [tk_21_8, up_o, up_s]; rw [sb_cpy0 hj]; exact q1
    · simp (disch := decide) only [lhI, up_o, up_s]; rw [cpf_i _ _ hj, h1]; exact q2
theorem TJ_pa (h : TJ X Z n T) (hT : T < 1000000) {wc wm : Int32} (hw : ∀ k, k < n → decide (¬ wc &&& (1 <<< (Int32.ofNat k &&& 31)) = 0) = decide ((wm >>> (Int32.ofNat k &&& 31)) &&& 1 = 1)) : TJ (paI X 21 wc n) (gmI Z wm n) n (T + 1) := by
  obtain ⟨hn, a1, a2, a3, t1, t2, p1, w1⟩ := h
  refine ⟨hn, ?_, ?_, fun k hk => ?_, ?_, ?_, ?_, fun j hj => ?_⟩
  · simp (disch := decide) only [paI, up_o, Nat.reduceAdd]; exact a1
  · simp (disch := decide) only [gmI, up_o]; exact a2
  · simp (disch := decide) only [paI, gmI, up_o, Nat.reduceAdd]; exact a3 k hk
  · simp (disch := decide) only [paI, up_s, ud_s, Nat.reduceAdd]; rw [t1]; exact o_aa
  · simp (disch := decide) only [gmI, up_s, ud_s]; rw [t2]; exact o_aa
  · simp (disch := decide) only [paI, gmI, up_o, up_s, ud_o, Nat.reduceAdd]; exact p1
  · have e : gtV X 21 wc n j = gtM Z wm n j := by
      show gt _ _ _ _ (X 22 1) (X 22 2) (X 23) n j = gt _ _ _ _ (Z 86 7) (Z 86 8) (Z 91) n j
      rw [p1, t1, t2]
      refine gt_eq (fun k hk => ?_) (fun j hj => ?_) n (Nat.le_refl n) j hj
      · obtain ⟨⟨c, hc, c1, c2⟩, ⟨S, hS, S1, S2⟩, ⟨s, hs, s1, s2⟩⟩ := a3 k hk
        exact ⟨hw k hk, c1.trans c2.symm, S1.trans S2.symm, s1.trans s2.symm, s, hs, s2⟩
      · obtain ⟨w, hw, q1, q2⟩ := w1 j hj
        rw [q1, q2]
    have e2 : ∃ w, w ≤ 99 ∧ gtM Z wm n j = Int32.ofNat w := by
      show ∃ w, w ≤ 99 ∧ gt _ _ _ _ (Z 86 7) (Z 86 8) (Z 91) n j = Int32.ofNat w
      rw [t2]
      refine gt_n (by omega) (fun k hk => ?_) (fun j hj => ?_) n (Nat.le_refl n) j hj
      · obtain ⟨⟨c, hc, c1, c2⟩, ⟨S, hS, S1, S2⟩, ⟨s, hs, s1, s2⟩⟩ := a3 k hk
        exact ⟨⟨c, hc, c2⟩, ⟨S, hS, S2⟩, s, hs, s2⟩
      · obtain ⟨w, hw, q1, q2⟩ := w1 j hj
        exact ⟨w, hw, q2⟩
    obtain ⟨w, hw, e2⟩ := e2
    refine ⟨w, hw, ?_, ?_⟩
    · simp (disch := decide) only [paI, up_o, up_s, Nat.reduceAdd]; exact e.trans e2
    · simp (disch := decide) only [gmI, up_o, up_s]; exact e2
theorem TJ_ps (h : TJ X Z n T) {wc wm : Int32} (hw : ∀ k, k < n → decide (¬ wc &&& (1 <<< (Int32.ofNat k &&& 31)) = 0) = decide ((wm >>> (Int32.ofNat k &&& 31)) &&& 1 = 1)) : ∀ M, T + M < 1000000 → TJ (psI X 21 wc n M) (pmI Z wm n M) n (T + M) := by
  intro M
  induction M with
  | zero => intro _; rw [ps_0, pm_0]; exact h
  | succ M ih => intro hM; rw [← ps_s, ← pm_s]; exact TJ_pa (ih (by omega)) (by omega) hw
theorem dn_tj (h : TJ X Z n T) (hW : VWn (X 26) (X 27) (Z 87) n2) : dnM Z n2 = dnV X 21 n2 := by
  obtain ⟨hn, a1, a2, a3⟩ := hW
  refine dnb_eq (n := n2) (fun j hj => (h.wk j hj).symm) (fun k hk => ?_) n2 (Nat.le_refl _)
  obtain ⟨⟨s, hs, s1, s2⟩, e⟩ := a3 k hk
  exact ⟨e.symm, s, hs, s2, s1⟩
theorem VW_mk {Y : Nat → Nat → Int32} (h : VWn (I 13) (I 14) (I 87) n2) (h1 : Z 87 = I 87) (h26 : Y 26 1 = I 13 1) (h27 : ∀ j, j < 18 → Y 27 j = I 14 j) : VWn (Y 26) (Y 27) (Z 87) n2 := by
  obtain ⟨hn, a1, a2, a3⟩ := h
  refine ⟨hn, by rw [h26]; exact a1, by rw [h1]; exact a2, fun k hk => ?_⟩
  rw [h27 _ (by omega), h27 _ (by omega), h1]
  exact a3 k hk
theorem VW_0 (h : VWn (I 13) (I 14) (I 87) n2) (h1 : I1 87 = I 87) : VWn (tk_21_8 I 26) (tk_21_8 I 27) (lhI I1 n 87) n2 := by
  obtain ⟨hn, a1, a2, a3⟩ := h
  refine ⟨hn, ?_, ?_, fun k hk => ?_⟩
  · simp (disch := decide) only [tk_21_8, up_o, up_s, ud_s]; exact a1
  · rw [lh_87, h1]; exact a2
  · obtain ⟨⟨s, hs, s1, s2⟩, e⟩ := a3 k hk
    refine ⟨⟨s, hs, ?_, ?_⟩, ?_⟩
    · simp (disch := decide) only [tk_21_8, up_o, up_s]; rw [sb_cpy0 (by omega)]; exact s1
    · rw [lh_87, h1]; exact s2
    · rw [lh_87, h1]
      simp (disch := decide) only [tk_21_8, up_o, up_s]; rw [sb_cpy0 (by omega)]; exact e
theorem VW_wm (h : VWn (X 26) (X 27) (Z 87) n2) : Wm X 21 n2 := ⟨h.1, h.2.1, fun k hk => by
  obtain ⟨⟨s, hs, s1, s2⟩, e⟩ := h.2.2.2 k hk
  exact ⟨s, hs, s1⟩⟩
theorem VW_hs (h : VWn (X 26) (X 27) (Z 87) n2) : ∀ k, k < n2 → ∃ s, s < 8 ∧ Z 87 (32 + 2 * k) = Int32.ofNat s := fun k hk => by
  obtain ⟨⟨s, hs, s1, s2⟩, e⟩ := h.2.2.2 k hk
  exact ⟨s, hs, s2⟩
end TJS
/-! the trial behind a call's changes: only the cell e of the teams may differ -/
def Fr (I : Nat → Nat → Int32) (e : Nat) (X : Nat → Nat → Int32) : Prop := Sc I X ∧ (∀ q, 86 ≤ q → X q = I q) ∧ X 24 1 = I 11 1 ∧ (∀ j, j < 18 → ¬ j = e → X 25 j = I 12 j) ∧ X 26 1 = I 13 1 ∧ (∀ j, j < 18 → X 27 j = I 14 j) ∧ X 28 1 = I 15 1 ∧ ∀ j, j < 18 → X 29 j = I 16 j
def ytI (X : Nat → Nat → Int32) : Nat → Nat → Int32 := va_up (va_up X 23 (va_cpy (X 10) (X 23) 0 0 8)) 22 (upd (upd (X 22) 1 (X 9 1)) 2 (X 9 2))
section FRS
variable {X Z I I1 : Nat → Nat → Int32} {n n2 T B e : Nat}
theorem yt_f (X : Nat → Nat → Int32) {q : Nat} (h1 : ¬ q = 22) (h2 : ¬ q = 23) : ytI X q = X q := by
  simp (disch := assumption) only [ytI, up_o]
theorem yt_22 (X : Nat → Nat → Int32) : ytI X 22 1 = X 9 1 ∧ ytI X 22 2 = X 9 2 := by
  simp (disch := decide) only [ytI, up_s, ud_s, ud_o, and_self]
theorem yt_23 (X : Nat → Nat → Int32) {j : Nat} (hj : j < 8) : ytI X 23 j = X 10 j := by
  simp (disch := decide) only [ytI, up_o, up_s]; exact sb_cpy0 hj
theorem Fr.ns (h : Fr I e X) {q : Nat} (h1 : scr q = false) (h2 : ¬ q = 62) : X q = I q := by
  by_cases h3 : q = 86
  · exact h.2.1 q (by omega)
  · exact h.1.1 q h1 h2 h3
theorem Fr.of (h : Fr I e X) {Y : Nat → Nat → Int32} (hq : ∀ q, ¬ q = 22 → ¬ q = 23 → Y q = X q) : Fr I e Y := by
  obtain ⟨⟨s1, s2, s3⟩, h2, h3, h4, h5, h6, h7, h8⟩ := h
  refine ⟨⟨fun a g1 g2 g3 => ?_, ?_, ?_⟩, fun q h => ?_, ?_, ?_, ?_, ?_, ?_, ?_⟩
  · rw [hq a (fun z => by subst z; exact absurd g1 (by decide)) (fun z => by subst z; exact absurd g1 (by decide))]; exact s1 a g1 g2 g3
  · rw [hq _ (by decide) (by decide)]; exact s2
  · rw [hq _ (by decide) (by decide)]; exact s3
  · rw [hq _ (by omega) (by omega)]; exact h2 q h
  · rw [hq _ (by decide) (by decide)]; exact h3
  · rw [hq _ (by decide) (by decide)]; exact h4
  · rw [hq _ (by decide) (by decide)]; exact h5
  · rw [hq _ (by decide) (by decide)]; exact h6
  · rw [hq _ (by decide) (by decide)]; exact h7
  · rw [hq _ (by decide) (by decide)]; exact h8
theorem Fr_tk (I : Nat → Nat → Int32) (e : Nat) : Fr I e (tk_21_8 I) := ⟨Sc_tk I, fun q hq => tk_f I (by omega), (tk_22 I).2.2.1, fun j hj _ => tk_25 I hj, (tk_22 I).2.2.2.1, fun j hj => tk_27 I hj, (tk_22 I).2.2.2.2, fun j hj => tk_29 I hj⟩
theorem Fr.yt (h : Fr I e X) : Fr I e (ytI X) := h.of (fun _ h1 h2 => yt_f X h1 h2)
theorem pa_f (X : Nat → Nat → Int32) (who : Int32) (n : Nat) {q : Nat} (h1 : ¬ q = 22) (h2 : ¬ q = 23) : paI X 21 who n q = X q := by
  simp (disch := assumption) only [paI, up_o, Nat.reduceAdd]
theorem ps_f (X : Nat → Nat → Int32) (who : Int32) (n M : Nat) {q : Nat} (h1 : ¬ q = 22) (h2 : ¬ q = 23) : psI X 21 who n M q = X q := by
  simp (disch := assumption) only [psI, up_o, Nat.reduceAdd]
theorem gm_f (X : Nat → Nat → Int32) (who : Int32) (n : Nat) {q : Nat} (h1 : ¬ q = 86) (h2 : ¬ q = 91) : gmI X who n q = X q := by
  simp (disch := assumption) only [gmI, up_o]
theorem pm_f (X : Nat → Nat → Int32) (who : Int32) (n M : Nat) {q : Nat} (h1 : ¬ q = 86) (h2 : ¬ q = 91) : pmI X who n M q = X q := by
  simp (disch := assumption) only [pmI, up_o]
theorem Fr.pa (h : Fr I e X) (who : Int32) (n : Nat) : Fr I e (paI X 21 who n) := h.of (fun _ h1 h2 => pa_f X who n h1 h2)
theorem Fr.ps (h : Fr I e X) (who : Int32) (n M : Nat) : Fr I e (psI X 21 who n M) := h.of (fun _ h1 h2 => ps_f X who n M h1 h2)
theorem Fr.tj (h : Fr I 99 X) (hB : Bs I n n2 T B) (h1 : I1 87 = I 87) : TJ (ytI X) (lhI I1 n) n T := TJ_mk hB h1 ((yt_22 X).1.trans (by rw [h.ns (by decide) (by decide)])) ((yt_22 X).2.trans (by rw [h.ns (by decide) (by decide)])) (fun j hj => (yt_23 X hj).trans (by rw [h.ns (by decide) (by decide)])) (by rw [yt_f X (by decide) (by decide)]; exact h.2.2.1) (fun j hj => by rw [yt_f X (by decide) (by decide)]; exact h.2.2.2.1 j hj (by omega))
theorem Fr.vw (h : Fr I e X) (hB : Bs I n n2 T B) (h1 : Z 87 = I 87) : VWn (X 26) (X 27) (Z 87) n2 := VW_mk hB.2.1 h1 h.2.2.2.2.1 h.2.2.2.2.2.1
theorem Fr.wm (h : Fr I e X) (hB : Bs I n n2 T B) : Wm X 21 n2 := VW_wm (h.vw (Z := I) hB rfl)
end FRS
section C54T
variable {m pc : Nat} {ls st : Vs} {X : Nat → Nat → Int32} {J : Nat → Nat → Int64} {Q : Option Value → Sto → Prop}
theorem c54t : Ca 54 [.ref 22, .ref 9] (Sg X J) m pc ls st Q ↔ Rn m pc ls st (Sg (ytI X) J) Q := c54 22 9 lisY_22 lisY_9 (by decide)
end C54T
/-! bits below 64 -/
theorem or_p : ∀ k, k < 6 → ∀ w, w < 64 → w < 2 ^ k → Int32.ofNat w ||| (1 <<< (Int32.ofNat k &&& 31)) = Int32.ofNat (w + 2 ^ k) := by decide +kernel
theorem p2_le : ∀ k, k ≤ 6 → 2 ^ k ≤ 64 := fun k hk => Nat.pow_le_pow_right (n := 2) (by decide) hk
theorem or_n {k w : Nat} {x : Int32} (hk : k < 6) (hw : w < 2 ^ k) (hx : x = Int32.ofNat w) : ∃ w', w' < 2 ^ (k + 1) ∧ x ||| (1 <<< (Int32.ofNat k &&& 31)) = Int32.ofNat w' := by
  have := p2_le k (by omega)
  refine ⟨w + 2 ^ k, by rw [Nat.pow_succ]; omega, ?_⟩
  rw [hx]
  exact or_p k hk w (by omega) hw
theorem dn_n (W S N : Nat → Int32) : ∀ k, k ≤ 6 → ∃ d, d < 2 ^ k ∧ dnb W S N k = Int32.ofNat d := by
  intro k
  induction k with
  | zero => intro _; exact ⟨0, by decide, rfl⟩
  | succ k ih =>
    intro hk
    obtain ⟨d, hd, e⟩ := ih (by omega)
    rw [dnb_s]
    by_cases h : W (S k).toNatClampNeg < N k
    · rw [if_pos h]; exact ⟨d, by rw [Nat.pow_succ]; omega, e⟩
    · rw [if_neg h]; exact or_n (by omega) hd e
def ush (x : Int32) (y : Int32) : Int32 := (x.toUInt32 >>> (y.toUInt32 &&& Int32.toUInt32 31)).toInt32
def bc (x0 : Int32) : Int32 :=
  let x1 := x0 - (ush x0 1 &&& 1431655765)
  let x2 := (x1 &&& 858993459) + (ush x1 2 &&& 858993459)
  let x3 := x2 + ush x2 4 &&& 252645135
  let x4 := x3 + ush x3 8
  let x5 := x4 + ush x4 16
  x5 &&& 63
def bl (d : Nat) : Nat → Nat := Nat.rec (fun _ => 0) (fun _ f x => x % 2 + f (x / 2)) d
theorem bl_bc : ∀ w, w < 64 → bc (Int32.ofNat w) = Int32.ofNat (bl 6 w) := by decide +kernel
theorem bl_0 (d : Nat) : bl d 0 = 0 := by
  induction d with
  | zero => rfl
  | succ d ih => show 0 % 2 + bl d (0 / 2) = 0; rw [Nat.zero_div, ih]
theorem b_m : ∀ w, w < 64 → Int32.ofNat w &&& 1 = Int32.ofNat (w % 2) ∧ Int32.ofNat w >>> (1 &&& 31) = Int32.ofNat (w / 2) := by decide +kernel
section BITS
variable {m pc : Nat} {ls st : Vs} {σ : Sto} {Q : Option Value → Sto → Prop}
theorem c196 (x : Int32) : Ca 196 [.int x] σ m pc ls st Q ↔ Rn m pc ls (.int (bc x) :: st) σ Q := Ca_of (r := some (.int (bc x))) (fun Q h => by
  simp only [u196_0, u196_1, u196_2, u196_3, u196_4, u196_7, u196_8, u196_9, u196_10, u196_11, u196_14, u196_15, u196_16, u196_17, u196_18, u196_21, u196_22, u196_23, u196_24, u196_25, u196_26, u196_27, u196_28, u196_29, u196_32, u196_33, u196_34, u196_35, u196_36, u196_38, u196_39, u196_40, u196_41, u196_42, u196_43, u196_45, u196_46, u196_47, u196_48, u196_49, u196_51, u196_52]
  exact h)
theorem b117 (x0 : Int32) : ∀ d x c, x < 2 ^ d → d ≤ 6 → Q (some (.int (Int32.ofNat (c + bl d x)))) σ → Rn 117 4 [.int x0, .int (Int32.ofNat c), .int (Int32.ofNat x)] [] σ Q := by
  intro d
  induction d with
  | zero =>
    intro x c hx hd h
    obtain rfl : x = 0 := by omega
    simp only [u117_4, u117_5, u117_8, u117_9, u117_10, u117_11, u117_12, u117_13, u117_14, u117_15, u117_16, u117_17, u117_21, u117_22, show Int32.ofNat 0 ≤ 0 by decide, if_true]
    exact h
  | succ d ih =>
    intro x c hx hd h
    by_cases hz : x = 0
    · subst hz
      rw [bl_0] at h
      simp only [u117_4, u117_5, u117_8, u117_9, u117_10, u117_11, u117_12, u117_13, u117_14, u117_15, u117_16, u117_17, u117_21, u117_22, show Int32.ofNat 0 ≤ 0 by decide, if_true]
      exact h
    · have h64 : x < 64 := Nat.lt_of_lt_of_le hx (p2_le _ hd)
      have hle : ¬ x ≤ 0 := by omega
      obtain ⟨e1, e2⟩ := b_m x h64
      simp (disch := first | assumption | omega | decide | exact la_87 | exact la_88 | exact la_90 | exact la_91 | exact la_92 | exact la_93 | exact la_94 | exact la_95 | exact la_96 | exact la_97 | exact la_98 | exact la_99 | exact la_10 | exact la_23 | exact la_77 | exact la_78 | exact la_18 | exact la_19 | exact la_20) only [u117_4, u117_5, u117_8, u117_9, u117_10, u117_11, u117_12, u117_13, u117_14, u117_15, u117_16, u117_17, u117_21, u117_22, e1, e2, o_aa, o_al, o_la, o_mm, o_ml, o_lm, o_ss, o_sl, o_ls, o_tn, o_tl, o_lt, o_ltl, o_llt, o_le, o_lel, o_lle, o_eq, o_eql, o_leq, o_inb, o_inl, o_neg, hle, if_false]
      refine (u117_18 ..).mpr (ih (x / 2) (c + x % 2) ?_ (by omega) ?_)
      · rw [Nat.pow_succ] at hx; omega
      · rw [Nat.add_assoc]; exact h
theorem c117 {w : Nat} (hw : w < 64) : Ca 117 [.int (Int32.ofNat w), .null, .null] σ m pc ls st Q ↔ Rn m pc ls (.int (bc (Int32.ofNat w)) :: st) σ Q := Ca_of (r := some (.int (bc (Int32.ofNat w)))) (fun Q h => by
  simp only [u117_0, u117_1, u117_2, u117_3]
  refine b117 _ 6 w 0 hw (by omega) ?_
  rw [Nat.zero_add, ← bl_bc w hw]
  exact h)
end BITS
