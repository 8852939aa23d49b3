/-! THE CLASS, 1: kinds, years, tables -/
def mn (a b : Int32) : Int32 := if b < a then b else a
def mx (a b : Int32) : Int32 := if a < b then b else a
/-- the season from which a team with the season s pulls, -1: none -/
def src (pg t s : Int32) : Int32 := if (0 ≤ (if t - t / 2 * 2 = 0 then s - 1 else s + 1) ∧ (if t - t / 2 * 2 = 0 then s - 1 else s + 1) ≤ 7) ∧ (pg >>> (mn s (if t - t / 2 * 2 = 0 then s - 1 else s + 1) &&& 31)) &&& 1 = 0 then (if t - t / 2 * 2 = 0 then s - 1 else s + 1) else -1
def bo (s t : Int32) : Int32 := if t - t / 2 * 2 = 0 then s else 2 * s
/-- how much a team pulls -/
def pl (kd : Nat) (s t own oth : Int32) : Int32 := match kd with
  | 1 => if oth ≤ own then 0 else s
  | 2 => bo s t
  | 3 => s + 2
  | 4 => mx 0 (bo s t - (t - t / 4 * 4))
  | 5 => if oth < 5 then 0 else s + 2
  | _ => s
theorem Rn_for {m h n : Nat} {X : Type} {Q : Option Value → Sto → Prop} (L : Nat → X → Vs) (S : Nat → X → Sto) (hs : ∀ k, k < n → ∀ x, (∀ x', Rn m h (L (k + 1) x') [] (S (k + 1) x') Q) → Rn m h (L k x) [] (S k x) Q) (he : ∀ x, Rn m h (L n x) [] (S n x) Q) {k : Nat} (hk : k ≤ n) (x : X) : Rn m h (L k x) [] (S k x) Q := by
  induction hd : n - k generalizing k x with
  | zero =>
    have : k = n := by omega
    subst this
    exact he x
  | succ d ih => exact hs k (by omega) x (fun x' => ih (by omega) x' (by omega))
section YEAR
variable {m pc : Nat} {ls st : Vs} {σ : Sto} {I : Nat → Nat → Int32} {J : Nat → Nat → Int64} {Q : Option Value → Sto → Prop}
theorem c198 (a b : Int32) : Ca 198 [.int a, .int b] σ m pc ls st Q ↔ Rn m pc ls (.int (mn a b) :: st) σ Q := Ca_of (r := some (.int (mn a b))) (fun Q h => by
  simp only [u198_0, u198_1, u198_2, u198_5, u198_6, u198_9, u198_10]
  unfold mn at h
  split <;> simp_all)
theorem c197 (a b : Int32) : Ca 197 [.int a, .int b] σ m pc ls st Q ↔ Rn m pc ls (.int (mx a b) :: st) σ Q := Ca_of (r := some (.int (mx a b))) (fun Q h => by
  simp only [u197_0, u197_1, u197_2, u197_5, u197_6, u197_9, u197_10]
  unfold mx at h
  split <;> simp_all)
theorem kO_L {a : Nat} (h : kO a) : kL a := Or.inl (Nat.lt_trans h.1 (by omega))
theorem c14 (a : Nat) (s t o q : Int32) : Ca 14 [.ref a, .int s, .int t, .int o, .int q] σ m pc ls st Q ↔ Rn m pc ls (.int s :: st) σ Q := Ca_of (r := some (.int s)) (fun Q h => by
  simp only [u14_0, u14_1]
  exact h)
theorem c1 (a : Nat) (ha : kO a) (s t o q : Int32) : Ca 1 [.ref a, .int s, .int t, .int o, .int q, .null] (Sg I J) m pc ls st Q ↔ Rn m pc ls (.int (bo s t) :: st) (Sg I J) Q := Ca_of (r := some (.int (bo s t))) (fun Q h => by
  simp only [u1_0, u1_1, u1_2, u1_3, u1_4, u1_6, u1_9, u1_11, u1_12, u1_13, u1_14, u1_17, u1_18, u1_20, u1_21, u1_24, u1_26, c14, ha, kO_L ha, true_and, show ¬ (2 : Int32) = 0 by decide, not_false_eq_true]
  unfold bo at h
  split <;> simp_all)
theorem c3 (a : Nat) (ha : kO a) (s t o q : Int32) : Ca 3 [.ref a, .int s, .int t, .int o, .int q] (Sg I J) m pc ls st Q ↔ Rn m pc ls (.int (pl 1 s t o q) :: st) (Sg I J) Q := Ca_of (r := some (.int (pl 1 s t o q))) (fun Q h => by
  simp only [u3_0, u3_2, u3_3, u3_6, u3_7, u3_8, u3_9, u3_10, u3_12, u3_15, u3_18, u3_19, c14, ha, kO_L ha, true_and]
  unfold pl at h
  split <;> simp_all)
theorem c7 (a : Nat) (ha : kO a) (s t o q : Int32) : Ca 7 [.ref a, .int s, .int t, .int o, .int q] (Sg I J) m pc ls st Q ↔ Rn m pc ls (.int (s + 2) :: st) (Sg I J) Q := Ca_of (r := some (.int (s + 2))) (fun Q h => by
  simp only [u7_0, u7_1, u7_2, u7_3, u7_4, u7_6, u7_9, u7_10, u7_11, c14, ha, kO_L ha, true_and]
  exact h)
theorem c5 (a : Nat) (ha : kO a) (s t o q : Int32) : Ca 5 [.ref a, .int s, .int t, .int o, .int q] (Sg I J) m pc ls st Q ↔ Rn m pc ls (.int (pl 5 s t o q) :: st) (Sg I J) Q := Ca_of (r := some (.int (pl 5 s t o q))) (fun Q h => by
  simp only [u5_0, u5_2, u5_3, u5_6, u5_7, u5_8, u5_9, u5_10, u5_12, u5_15, u5_18, u5_19, c7 a ha, ha, kO_L ha, true_and]
  unfold pl at h
  split <;> simp_all)
theorem c40 (a : Nat) (ha : kO a) (s t o q : Int32) : Ca 40 [.ref a, .int s, .int t, .int o, .int q] (Sg I J) m pc ls st Q ↔ Rn m pc ls (.int (pl 4 s t o q) :: st) (Sg I J) Q := Ca_of (r := some (.int (pl 4 s t o q))) (fun Q h => by
  simp only [u40_0, u40_1, u40_2, u40_3, u40_4, u40_5, u40_7, u40_10, u40_11, u40_12, u40_13, u40_14, u40_17, c1 a ha, c197, ha, kO_L ha, true_and, show ¬ (4 : Int32) = 0 by decide, not_false_eq_true]
  exact h)
/-! years -/
theorem isY_f {y : Nat} (h : isY y) : kA y 10 ∧ kA (y + 1) 20 ∧ (tg (y + 1)).2 = 8 ∧ rf y 0 = y + 1 ∧ kL y ∧ kL (y + 1) := ⟨⟨by omega, h.2.1⟩, ⟨by omega, by rw [h.2.2.2]⟩, by rw [h.2.2.2], h.2.2.1, Or.inl (by omega), Or.inl (by omega)⟩
theorem c55 (y : Nat) (hy : isY y) (i : Int32) : Ca 55 [.ref y, .int i] (Sg I J) m pc ls st Q ↔ Rn m pc ls (.int ((I y 1 >>> (i &&& 31)) &&& 1) :: st) (Sg I J) Q := Ca_of (r := some (.int ((I y 1 >>> (i &&& 31)) &&& 1))) (fun Q h => by
  obtain ⟨f1, f2, f3, f4, f5, f6⟩ := isY_f hy
  simp only [u55_0, u55_1, u55_4, u55_5, u55_6, u55_7, u55_8, f1, f5, true_and]
  exact h)
theorem c56 (y : Nat) (hy : isY y) (i : Int32) : Ca 56 [.ref y, .int i] (Sg I J) m pc ls st Q ↔ Rn m pc ls st (Sg (wI I y 1 (I y 1 ^^^ (1 <<< (i &&& 31)))) J) Q := Ca_of (r := none) (fun Q h => by
  obtain ⟨f1, f2, f3, f4, f5, f6⟩ := isY_f hy
  simp only [u56_0, u56_1, u56_2, u56_5, u56_6, u56_7, u56_8, u56_9, u56_12, f1, f5, true_and]
  exact h)
theorem c57 (y : Nat) (hy : isY y) (s : Int32) : Ca 57 [.ref y, .int s, .null, .null] (Sg I J) m pc ls st Q ↔ Rn m pc ls (.int (src (I y 1) (I y 2) s) :: st) (Sg I J) Q := Ca_of (r := some (.int (src (I y 1) (I y 2) s))) (fun Q h => by
  obtain ⟨f1, f2, f3, f4, f5, f6⟩ := isY_f hy
  unfold src at h
  have e7 : ∀ z : Int32, 8 ≤ z ↔ ¬ z ≤ 7 := fun z => by
    rw [Int32.le_iff_toInt_le, Int32.le_iff_toInt_le]
    have h1 : (8 : Int32).toInt = 8 := rfl
    have h2 : (7 : Int32).toInt = 7 := rfl
    omega
  simp only [u57_0, u57_1, u57_4, u57_5, u57_6, u57_9, u57_10, u57_11, u57_12, u57_15, u57_16, u57_17, u57_18, u57_19, u57_20, u57_23, u57_24, u57_26, u57_29, u57_30, u57_33, u57_34, u57_35, u57_36, u57_39, u57_40, u57_41, u57_42, u57_45, u57_48, u57_51, u57_52, u57_55, u57_56, c198, c55 y hy, f1, f5, true_and, show ¬ (2 : Int32) = 0 by decide, not_false_eq_true]
  by_cases h0 : I y 2 - I y 2 / 2 * 2 = 0 <;> simp only [h0, not_true, not_false_eq_true, if_true, if_false, ← Int32.not_le, e7] at h ⊢
  · by_cases h1 : 0 ≤ s - 1 <;> by_cases h2 : s - 1 ≤ 7 <;> by_cases h3 : I y 1 >>> (mn s (s - 1) &&& 31) &&& 1 = 0 <;> simp [h1, h2, h3] at h ⊢ <;> exact h
  · by_cases h1 : 0 ≤ s + 1 <;> by_cases h2 : s + 1 ≤ 7 <;> by_cases h3 : I y 1 >>> (mn s (s + 1) &&& 31) &&& 1 = 0 <;> simp [h1, h2, h3] at h ⊢ <;> exact h)
end YEAR
