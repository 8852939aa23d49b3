/-! THE RELATION: the class's valleys and the reference's arrays -/
def VT (R C M : Nat → Int32) : Prop := ∃ n, n ≤ 6 ∧ R 1 = Int32.ofNat n ∧ M 0 = Int32.ofNat n ∧ ∀ k, k < n → (∃ c, c < 6 ∧ C (k * 3) = Int32.ofNat c ∧ M (14 + 3 * k) = Int32.ofNat c) ∧ (∃ S, 1 ≤ S ∧ S ≤ 9 ∧ C (k * 3 + 1) = Int32.ofNat S ∧ M (14 + 3 * k + 1) = Int32.ofNat S) ∧ (∃ s, s < 8 ∧ C (k * 3 + 2) = Int32.ofNat s ∧ M (14 + 3 * k + 2) = Int32.ofNat s)
def VW (R C M : Nat → Int32) : Prop := ∃ n, n ≤ 6 ∧ R 1 = Int32.ofNat n ∧ M 1 = Int32.ofNat n ∧ ∀ k, k < n → (∃ s, s < 8 ∧ C (k * 3) = Int32.ofNat s ∧ M (32 + 2 * k) = Int32.ofNat s) ∧ C (k * 3 + 1) = M (32 + 2 * k + 1)
def VM (R C M : Nat → Int32) : Prop := ∃ n, n ≤ 6 ∧ R 1 = Int32.ofNat n ∧ M 3 = Int32.ofNat n ∧ ∀ k, k < n → (∃ t, t ≤ 20 ∧ C (k * 3) = Int32.ofNat t ∧ M (44 + 3 * k) = Int32.ofNat t) ∧ (∃ s, s < 8 ∧ C (k * 3 + 1) = Int32.ofNat s ∧ M (44 + 3 * k + 1) = Int32.ofNat s) ∧ C (k * 3 + 2) = M (44 + 3 * k + 2)
def VY (Y W M : Nat → Int32) (B : Nat) : Prop := (∃ T, T ≤ B ∧ Y 2 = Int32.ofNat T ∧ M 2 = Int32.ofNat T) ∧ Y 1 = M 13 ∧ ∀ j, j < 8 → ∃ w, w ≤ 99 ∧ W j = Int32.ofNat w ∧ M (5 + j) = Int32.ofNat w
def VP (P A D E M : Nat → Int32) (B : Nat) : Prop := ∃ o u, o < 8 ∧ u ≤ 8 ∧ P 3 = Int32.ofNat o ∧ P 4 = Int32.ofNat u ∧ M 4 = Int32.ofNat u ∧ ∀ k, k < u → (∀ j, j < 8 → ∃ w, w ≤ 99 ∧ A ((o + k) % 8 * 8 + j) = Int32.ofNat w ∧ M (62 + 10 * k + j) = Int32.ofNat w) ∧ D ((o + k) % 8) = M (62 + 10 * k + 8) ∧ ∃ T, T ≤ B ∧ E ((o + k) % 8) = Int32.ofNat T ∧ M (62 + 10 * k + 9) = Int32.ofNat T
/-- a valley v stands for an array M of the reference, its turns at most B -/
def VR (I : Nat → Nat → Int32) (v : Nat) (M : Nat → Int32) (B : Nat) : Prop := VT (I (v + 3)) (I (v + 4)) M ∧ VW (I (v + 5)) (I (v + 6)) M ∧ VM (I (v + 7)) (I (v + 8)) M ∧ VY (I (v + 1)) (I (v + 2)) M B ∧ VP (I (v + 9)) (I (v + 10)) (I (v + 11)) (I (v + 12)) M B
theorem VT_M {R C M M' : Nat → Int32} (h : VT R C M) (h2 : ∀ k, k = 0 ∨ (14 ≤ k ∧ k < 32) → M' k = M k) : VT R C M' := by
  obtain ⟨n, hn, a1, a2, a3⟩ := h
  refine ⟨n, hn, a1, by rw [h2 0 (by omega)]; exact a2, fun k hk => ?_⟩
  rw [h2 _ (by omega), h2 _ (by omega), h2 _ (by omega)]
  exact a3 k hk
theorem VW_M {R C M M' : Nat → Int32} (h : VW R C M) (h2 : ∀ k, k = 1 ∨ (32 ≤ k ∧ k < 44) → M' k = M k) : VW R C M' := by
  obtain ⟨n, hn, a1, a2, a3⟩ := h
  refine ⟨n, hn, a1, by rw [h2 1 (by omega)]; exact a2, fun k hk => ?_⟩
  rw [h2 _ (by omega), h2 _ (by omega)]
  exact a3 k hk
theorem VM_M {R C M M' : Nat → Int32} (h : VM R C M) (h2 : ∀ k, k = 3 ∨ (44 ≤ k ∧ k < 62) → M' k = M k) : VM R C M' := by
  obtain ⟨n, hn, a1, a2, a3⟩ := h
  refine ⟨n, hn, a1, by rw [h2 3 (by omega)]; exact a2, fun k hk => ?_⟩
  rw [h2 _ (by omega), h2 _ (by omega), h2 _ (by omega)]
  exact a3 k hk
theorem VY_M {Y W M M' : Nat → Int32} {B B' : Nat} (h : VY Y W M B) (h2 : ∀ k, k = 2 ∨ (5 ≤ k ∧ k < 14) → M' k = M k) (hB : B ≤ B') : VY Y W M' B' := by
  obtain ⟨⟨T, hT, a1, a2⟩, a3, a4⟩ := h
  refine ⟨⟨T, by omega, a1, by rw [h2 2 (by omega)]; exact a2⟩, by rw [h2 13 (by omega)]; exact a3, fun j hj => ?_⟩
  rw [h2 _ (by omega)]
  exact a4 j hj
theorem VP_M {P A D E M M' : Nat → Int32} {B B' : Nat} (h : VP P A D E M B) (h2 : ∀ k, k = 4 ∨ (62 ≤ k ∧ k < 142) → M' k = M k) (hB : B ≤ B') : VP P A D E M' B' := by
  obtain ⟨o, u, ho, hu, f1, f2, f3, f4⟩ := h
  refine ⟨o, u, ho, hu, f1, f2, by rw [h2 4 (by omega)]; exact f3, fun k hk => ?_⟩
  obtain ⟨g1, g2, T, hT, g3⟩ := f4 k hk
  refine ⟨fun j hj => ?_, ?_, T, by omega, ?_⟩
  · rw [h2 _ (by omega)]; exact g1 j hj
  · rw [h2 _ (by omega)]; exact g2
  · rw [h2 _ (by omega)]; exact g3
/-- an image is kept in both or in none -/
def KR (I : Nat → Nat → Int32) (i : Nat) (B : Nat) : Prop := (I 61 i = 0 ∧ I 89 i = 0) ∨ (I 61 i = 1 ∧ I 89 i = 1 ∧ VR I (35 + 13 * i) (fun k => I 88 (142 * i + k)) B)
/-- the text -/
def XR (I : Nat → Nat → Int32) : Prop := ∃ z, z ≤ 150 ∧ I 62 3 = Int32.ofNat z ∧ I 86 15 = Int32.ofNat z ∧ ∀ j, j < z → ∃ c, c < 128 ∧ I 76 j = Int32.ofNat c ∧ I 97 j = Int32.ofNat c
def Rel (I : Nat → Nat → Int32) (J : Nat → Nat → Int64) (B : Nat) : Prop := VR I 8 (I 87) B ∧ KR I 0 B ∧ KR I 1 B ∧ XR I ∧ (J 0 7 = J 86 4 ∧ J 0 8 = J 86 5) ∧ I 0 9 = I 90 0 ∧ I 0 10 = I 90 1 ∧ I 0 11 = I 90 2
theorem VR_eq {I I' : Nat → Nat → Int32} {v : Nat} {M M' : Nat → Int32} {B : Nat} (h : VR I v M B) (h1 : ∀ a, v + 1 ≤ a → a ≤ v + 12 → I' a = I a) (h2 : ∀ k, k < 142 → M' k = M k) : VR I' v M' B := by
  obtain ⟨a, b, c, d, e⟩ := h
  unfold VR
  rw [h1 (v + 1) (by omega) (by omega), h1 (v + 2) (by omega) (by omega), h1 (v + 3) (by omega) (by omega), h1 (v + 4) (by omega) (by omega), h1 (v + 5) (by omega) (by omega), h1 (v + 6) (by omega) (by omega), h1 (v + 7) (by omega) (by omega), h1 (v + 8) (by omega) (by omega), h1 (v + 9) (by omega) (by omega), h1 (v + 10) (by omega) (by omega), h1 (v + 11) (by omega) (by omega), h1 (v + 12) (by omega) (by omega)]
  exact ⟨VT_M a (fun k hk => h2 k (by omega)), VW_M b (fun k hk => h2 k (by omega)), VM_M c (fun k hk => h2 k (by omega)), VY_M d (fun k hk => h2 k (by omega)) (Nat.le_refl B), VP_M e (fun k hk => h2 k (by omega)) (Nat.le_refl B)⟩
theorem VR_le {I : Nat → Nat → Int32} {v : Nat} {M : Nat → Int32} {B B' : Nat} (h : VR I v M B) (hB : B ≤ B') : VR I v M B' := ⟨h.1, h.2.1, h.2.2.1, VY_M h.2.2.2.1 (fun _ _ => rfl) hB, VP_M h.2.2.2.2 (fun _ _ => rfl) hB⟩
/-- cells in which nothing lasts from call to call: the trial, the draft, the reader's numbers, gains, outcomes; the reference's hand and the like -/
def scr (a : Nat) : Bool := (22 ≤ a && a ≤ 33) || (64 ≤ a && a ≤ 75) || (77 ≤ a && a ≤ 85) || (91 ≤ a && a ≤ 96) || a == 98 || a == 99
theorem KR_le {I : Nat → Nat → Int32} {i B B' : Nat} (h : KR I i B) (hB : B ≤ B') : KR I i B' := by
  rcases h with h | ⟨h1, h2, h3⟩
  · exact Or.inl h
  · exact Or.inr ⟨h1, h2, VR_le h3 hB⟩
theorem Rel_le {I : Nat → Nat → Int32} {J : Nat → Nat → Int64} {B B' : Nat} (h : Rel I J B) (hB : B ≤ B') : Rel I J B' := ⟨VR_le h.1 hB, KR_le h.2.1 hB, KR_le h.2.2.1 hB, h.2.2.2⟩
theorem KR_eq {I I' : Nat → Nat → Int32} {i B : Nat} (hi : i < 2) (h : KR I i B) (h1 : ∀ a, 35 ≤ a → a ≤ 61 → I' a = I a) (h2 : I' 88 = I 88) (h3 : I' 89 = I 89) : KR I' i B := by
  unfold KR at *
  rw [h1 61 (by omega) (by omega), h3, h2]
  rcases h with h | ⟨a, b, c⟩
  · exact Or.inl h
  · exact Or.inr ⟨a, b, VR_eq c (fun a ha hb => h1 a (by omega) (by omega)) (fun _ _ => rfl)⟩
/-- a change of scratch cells alone -/
theorem Rel_scr {I I' : Nat → Nat → Int32} {J J' : Nat → Nat → Int64} {B : Nat} (h : Rel I J B) (h1 : ∀ a, scr a = false → ¬ a = 62 → ¬ a = 86 → I' a = I a) (h2 : I' 62 3 = I 62 3) (h3 : I' 86 15 = I 86 15) (h4 : J' 0 7 = J 0 7 ∧ J' 0 8 = J 0 8 ∧ J' 86 4 = J 86 4 ∧ J' 86 5 = J 86 5) : Rel I' J' B := by
  have hs : ∀ a, (a ≤ 21 ∨ (34 ≤ a ∧ a ≤ 61) ∨ a = 76 ∨ (87 ≤ a ∧ a ≤ 90) ∨ a = 97) → I' a = I a := by
    intro a ha
    refine h1 a ?_ (by omega) (by omega)
    unfold scr
    simp only [Bool.or_eq_false_iff, Bool.and_eq_false_iff, decide_eq_false_iff_not, beq_eq_false_iff_ne]
    omega
  obtain ⟨a, b, c, ⟨z, hz, d1, d2, d3⟩, ⟨e1, e2⟩, f1, f2, f3⟩ := h
  refine ⟨VR_eq a (fun q h5 h6 => hs q (by omega)) (fun k _ => by rw [hs 87 (by omega)]), KR_eq (by omega) b (fun q h5 h6 => hs q (by omega)) (hs 88 (by omega)) (hs 89 (by omega)), KR_eq (by omega) c (fun q h5 h6 => hs q (by omega)) (hs 88 (by omega)) (hs 89 (by omega)), ⟨z, hz, by rw [h2]; exact d1, by rw [h3]; exact d2, ?_⟩, ⟨by rw [h4.1, h4.2.2.1]; exact e1, by rw [h4.2.1, h4.2.2.2]; exact e2⟩, ?_, ?_, ?_⟩
  · rw [hs 76 (by omega), hs 97 (by omega)]; exact d3
  · rw [hs 0 (by omega), hs 90 (by omega)]; exact f1
  · rw [hs 0 (by omega), hs 90 (by omega)]; exact f2
  · rw [hs 0 (by omega), hs 90 (by omega)]; exact f3
theorem scr_u {I : Nat → Nat → Int32} {f : Nat → Int32} {c a : Nat} (hc : scr c = true) (ha : scr a = false) : va_up I c f a = I a := up_o _ _ (fun q => by subst q; rw [hc] at ha; cases ha)
/-- a change of the valley as it is now, and of scratch cells -/
theorem Rel_now {I I' : Nat → Nat → Int32} {J J' : Nat → Nat → Int64} {B B' : Nat} (h : Rel I J B) (hB : B ≤ B') (hV : VR I' 8 (I' 87) B') (h1 : ∀ a, scr a = false → ¬ (9 ≤ a ∧ a ≤ 20) → ¬ a = 62 → ¬ a = 86 → ¬ a = 87 → I' a = I a) (h2 : I' 62 3 = I 62 3) (h3 : I' 86 15 = I 86 15) (h4 : J' 0 7 = J 0 7 ∧ J' 0 8 = J 0 8 ∧ J' 86 4 = J 86 4 ∧ J' 86 5 = J 86 5) : Rel I' J' B' := by
  have hs : ∀ a, (a ≤ 8 ∨ a = 21 ∨ (34 ≤ a ∧ a ≤ 61) ∨ a = 76 ∨ (88 ≤ a ∧ a ≤ 90) ∨ a = 97) → I' a = I a := by
    intro a ha
    refine h1 a ?_ (by omega) (by omega) (by omega) (by omega)
    unfold scr
    simp only [Bool.or_eq_false_iff, Bool.and_eq_false_iff, decide_eq_false_iff_not, beq_eq_false_iff_ne]
    omega
  obtain ⟨a, b, c, ⟨z, hz, d1, d2, d3⟩, ⟨e1, e2⟩, f1, f2, f3⟩ := h
  refine ⟨hV, KR_le (KR_eq (by omega) b (fun q h5 h6 => hs q (by omega)) (hs 88 (by omega)) (hs 89 (by omega))) hB, KR_le (KR_eq (by omega) c (fun q h5 h6 => hs q (by omega)) (hs 88 (by omega)) (hs 89 (by omega))) hB, ⟨z, hz, by rw [h2]; exact d1, by rw [h3]; exact d2, ?_⟩, ⟨by rw [h4.1, h4.2.2.1]; exact e1, by rw [h4.2.1, h4.2.2.2]; exact e2⟩, ?_, ?_, ?_⟩
  · rw [hs 76 (by omega), hs 97 (by omega)]; exact d3
  · rw [hs 0 (by omega), hs 90 (by omega)]; exact f1
  · rw [hs 0 (by omega), hs 90 (by omega)]; exact f2
  · rw [hs 0 (by omega), hs 90 (by omega)]; exact f3
/-! the calls, side by side -/
def OpI (tc : Nat) (lc : Vs) (tm : Nat) (lm : Vs) : Prop := ∀ (I : Nat → Nat → Int32) (J : Nat → Nat → Int64) (B : Nat), Rel I J B → B ≤ 4000 → Rn tc 0 lc [] (Sg I J) (fun r σ => ∃ x I1 J1, r = some (.int x) ∧ σ = Sg I1 J1 ∧ I1 999 = I 999 ∧ I1 1000 = I 1000 ∧ Rn tm 0 lm [] (Sg I1 J1) (fun r' σ' => ∃ I2 J2, r' = some (.int x) ∧ σ' = Sg I2 J2 ∧ I2 999 = I 999 ∧ I2 1000 = I 1000 ∧ Rel I2 J2 (B + 60)))
def OpL (tc : Nat) (lc : Vs) (tm : Nat) (lm : Vs) : Prop := ∀ (I : Nat → Nat → Int32) (J : Nat → Nat → Int64) (B : Nat), Rel I J B → B ≤ 4000 → Rn tc 0 lc [] (Sg I J) (fun r σ => ∃ x I1 J1, r = some (.long x) ∧ σ = Sg I1 J1 ∧ I1 999 = I 999 ∧ I1 1000 = I 1000 ∧ Rn tm 0 lm [] (Sg I1 J1) (fun r' σ' => ∃ I2 J2, r' = some (.long x) ∧ σ' = Sg I2 J2 ∧ I2 999 = I 999 ∧ I2 1000 = I 1000 ∧ Rel I2 J2 (B + 60)))
