/-! THE START: the relation holds behind the constructors -/
def rel0 (τ : Sto) : Bool := decide (τ.2.2.1 11 1 = 0) && decide (τ.2.2.1 13 1 = 0) && decide (τ.2.2.1 15 1 = 0) && decide (τ.2.2.1 9 1 = 0) && decide (τ.2.2.1 9 2 = 0) && decide (τ.2.2.1 17 3 = 0) && decide (τ.2.2.1 17 4 = 0) && decide (τ.2.2.1 61 0 = 0) && decide (τ.2.2.1 61 1 = 0) && decide (τ.2.2.1 89 0 = 0) && decide (τ.2.2.1 89 1 = 0) && decide (τ.2.2.1 62 3 = 0) && decide (τ.2.2.1 86 15 = 0) && decide (τ.2.2.1 0 9 = 0) && decide (τ.2.2.1 0 10 = 0) && decide (τ.2.2.1 0 11 = 0) && decide (τ.2.2.1 90 0 = 0) && decide (τ.2.2.1 90 1 = 0) && decide (τ.2.2.1 90 2 = 0) && decide (τ.2.2.1 87 0 = 0) && decide (τ.2.2.1 87 1 = 0) && decide (τ.2.2.1 87 2 = 0) && decide (τ.2.2.1 87 3 = 0) && decide (τ.2.2.1 87 4 = 0) && decide (τ.2.2.1 87 13 = 0) && decide (τ.2.2.1 10 0 = 7) && decide (τ.2.2.1 10 1 = 7) && decide (τ.2.2.1 10 2 = 7) && decide (τ.2.2.1 10 3 = 7) && decide (τ.2.2.1 10 4 = 7) && decide (τ.2.2.1 10 5 = 7) && decide (τ.2.2.1 10 6 = 7) && decide (τ.2.2.1 10 7 = 7) && decide (τ.2.2.1 87 5 = 7) && decide (τ.2.2.1 87 6 = 7) && decide (τ.2.2.1 87 7 = 7) && decide (τ.2.2.1 87 8 = 7) && decide (τ.2.2.1 87 9 = 7) && decide (τ.2.2.1 87 10 = 7) && decide (τ.2.2.1 87 11 = 7) && decide (τ.2.2.1 87 12 = 7) && decide (τ.2.2.2 0 7 = τ.2.2.2 86 4) && decide (τ.2.2.2 0 8 = τ.2.2.2 86 5)
def chk3 : Bool := match run 5000 63 0 [.ref 0, .null, .null] [] (sN c00) with
  | some (none, σ) => (match run 5000 112 0 [.ref 86] [] (sN σ) with
    | some (none, τ) => rel0 τ
    | _ => false)
  | _ => false
set_option maxRecDepth 100000 in
theorem chk3_ok : chk3 = true := by decide +kernel
theorem rel0_tau : rel0 tau = true := by
  obtain ⟨t1, t2, t3, t4, t5, t6⟩ := tau_spec
  have h := chk3_ok
  unfold chk3 at h
  rw [t1] at h
  simp only [t3] at h
  exact h
theorem Rel_0 (L : Nat) (xs : Nat → Int32) : Rel (I0 tau L xs) tau.2.2.2 0 := by
  have h := rel0_tau
  unfold rel0 at h
  simp only [Bool.and_eq_true, decide_eq_true_eq] at h
  obtain ⟨⟨⟨⟨⟨⟨⟨⟨⟨⟨⟨⟨⟨⟨⟨⟨⟨⟨⟨⟨⟨⟨⟨⟨⟨⟨⟨⟨⟨⟨⟨⟨⟨⟨⟨⟨⟨⟨⟨⟨⟨⟨v11_1, v13_1⟩, v15_1⟩, v9_1⟩, v9_2⟩, v17_3⟩, v17_4⟩, v61_0⟩, v61_1⟩, v89_0⟩, v89_1⟩, v62_3⟩, v86_15⟩, v0_9⟩, v0_10⟩, v0_11⟩, v90_0⟩, v90_1⟩, v90_2⟩, v87_0⟩, v87_1⟩, v87_2⟩, v87_3⟩, v87_4⟩, v87_13⟩, v10_0⟩, v10_1⟩, v10_2⟩, v10_3⟩, v10_4⟩, v10_5⟩, v10_6⟩, v10_7⟩, v87_5⟩, v87_6⟩, v87_7⟩, v87_8⟩, v87_9⟩, v87_10⟩, v87_11⟩, v87_12⟩, j1⟩, j2⟩ := h
  have ei : ∀ a, a < 999 → I0 tau L xs a = tau.2.2.1 a := by
    intro a ha
    unfold I0
    rw [if_neg (by omega), if_neg (by omega)]
  have z0 : (0 : Int32) = Int32.ofNat 0 := rfl
  refine ⟨⟨⟨0, by omega, ?_, ?_, fun k hk => absurd hk (by omega)⟩, ⟨0, by omega, ?_, ?_, fun k hk => absurd hk (by omega)⟩, ⟨0, by omega, ?_, ?_, fun k hk => absurd hk (by omega)⟩, ⟨⟨0, by omega, ?_, ?_⟩, ?_, ?_⟩, ⟨0, 0, by omega, by omega, ?_, ?_, ?_, fun k hk => absurd hk (by omega)⟩⟩, Or.inl ⟨?_, ?_⟩, Or.inl ⟨?_, ?_⟩, ⟨0, by omega, ?_, ?_, fun k hk => absurd hk (by omega)⟩, ⟨j1, j2⟩, ?_, ?_, ?_⟩
  all_goals first
    | (rw [ei _ (by omega)]; assumption)
    | (rw [ei _ (by omega), ei _ (by omega)]; simp only [*])
    | skip
  intro j hj
  refine ⟨7, by omega, ?_, ?_⟩
  · rw [ei _ (by omega)]
    obtain rfl | rfl | rfl | rfl | rfl | rfl | rfl | rfl : j = 0 ∨ j = 1 ∨ j = 2 ∨ j = 3 ∨ j = 4 ∨ j = 5 ∨ j = 6 ∨ j = 7 := by omega
    all_goals assumption
  · rw [ei _ (by omega)]
    obtain rfl | rfl | rfl | rfl | rfl | rfl | rfl | rfl : j = 0 ∨ j = 1 ∨ j = 2 ∨ j = 3 ∨ j = 4 ∨ j = 5 ∨ j = 6 ∨ j = 7 := by omega
    all_goals assumption
theorem law_pure (h0 : OpI 64 [.ref 0, .null] 126 [.ref 86, .null]) (h1 : ∀ a b : Int32, OpI 65 [.ref 0, .int a, .int b, .null] 128 [.ref 86, .int a, .int b, .null]) (h2 : ∀ a : Int32, OpI 66 [.ref 0, .int a] 129 [.ref 86, .int a]) (h3 : ∀ a b c : Int32, OpI 67 [.ref 0, .int a, .int b, .int c] 131 [.ref 86, .int a, .int b, .int c]) (h4 : ∀ a b : Int32, OpI 68 [.ref 0, .int a, .int b] 133 [.ref 86, .int a, .int b]) (h5 : OpI 69 [.ref 0] 134 [.ref 86, .null]) (h6 : ∀ a : Int32, OpI 70 [.ref 0, .int a] 173 [.ref 86, .int a]) (h7 : OpI 71 [.ref 0] 174 [.ref 86, .null]) (h8 : OpI 72 [.ref 0, .null] 186 [.ref 86, .null, .null]) (h9 : ∀ a : Int32, OpI 73 [.ref 0, .int a, .null] 142 [.ref 86, .int a, .null, .null]) (h10 : OpI 74 [.ref 0] 143 [.ref 86, .null, .null]) (h11 : ∀ a b : Int32, OpI 75 [.ref 0, .int a, .int b] 144 [.ref 86, .int a, .int b, .null, .null, .null]) (h12 : ∀ a b : Int32, OpI 76 [.ref 0, .int a, .int b, .null] 145 [.ref 86, .int a, .int b, .null]) (h13 : ∀ a b : Int32, OpI 77 [.ref 0, .int a, .int b] 147 [.ref 86, .int a, .int b]) (h14 : ∀ a : Int32, OpI 78 [.ref 0, .int a] 148 [.ref 86, .int a, .null, .null]) (h15 : ∀ a : Int32, OpI 79 [.ref 0, .int a] 151 [.ref 86, .int a]) (h16 : ∀ a : Int32, OpI 80 [.ref 0, .int a, .null, .null] 152 [.ref 86, .int a, .null, .null]) (h17 : ∀ a : Int32, OpI 81 [.ref 0, .int a, .null, .null, .null, .null] 154 [.ref 86, .int a, .null, .null]) (h18 : ∀ a b : Int32, OpI 82 [.ref 0, .int a, .int b, .null, .null, .null] 155 [.ref 86, .int a, .int b, .null, .null, .null]) (h19 : ∀ a b c : Int32, OpI 83 [.ref 0, .int a, .int b, .int c, .null, .null, .null, .null] 157 [.ref 86, .int a, .int b, .int c, .null, .null, .null]) (h20 : ∀ a : Int32, OpI 84 [.ref 0, .int a, .null, .null] 158 [.ref 86, .int a, .null, .null]) (h21 : ∀ a b : Int32, OpI 85 [.ref 0, .int a, .int b, .null, .null] 159 [.ref 86, .int a, .int b, .null, .null, .null]) (h22 : OpI 86 [.ref 0, .null] 161 [.ref 86, .null]) (h23 : ∀ a b c : Int32, OpI 87 [.ref 0, .int a, .int b, .int c] 162 [.ref 86, .int a, .int b, .int c, .null]) (h24 : OpI 88 [.ref 0] 163 [.ref 86, .null]) (h25 : ∀ a : Int32, OpI 89 [.ref 0, .int a] 166 [.ref 86, .int a]) (h26 : ∀ a b : Int32, OpI 90 [.ref 0, .int a, .int b, .null, .null, .null, .null, .null] 168 [.ref 86, .int a, .int b, .null, .null, .null, .null, .null]) (h27 : ∀ a : Int32, OpI 91 [.ref 0, .int a] 169 [.ref 86, .int a, .null, .null]) (h28 : ∀ a b c : Int32, OpI 92 [.ref 0, .int a, .int b, .int c, .null, .null, .null, .null] 171 [.ref 86, .int a, .int b, .int c, .null, .null, .null, .null, .null, .null, .null, .null]) (h29 : ∀ a b c : Int32, OpI 93 [.ref 0, .int a, .int b, .int c, .null, .null, .null, .null, .null] 172 [.ref 86, .int a, .int b, .int c, .null, .null, .null, .null, .null]) (h30 : ∀ a : Int32, OpL 94 [.ref 0, .int a] 187 [.ref 86, .int a]) (h31 : ∀ a : Int32, OpI 95 [.ref 0, .int a] 188 [.ref 86, .int a, .null]) (h32 : ∀ a : Int32, OpI 96 [.ref 0, .int a] 189 [.ref 86, .int a, .null]) (h33 : ∀ a : Int32, OpI 97 [.ref 0, .int a] 190 [.ref 86, .int a]) (h34 : ∀ a : Int32, OpI 98 [.ref 0, .int a] 193 [.ref 86, .int a]) (h35 : OpL 99 [.ref 0, .null, .null, .null] 195 [.ref 86, .null, .null, .null]) {L : Nat} (xs : Nat → Int32) (hL : L ≤ 256) : Rn 211 16 [.ref 1000, .ref 0, .ref 86, .null] [] (Sg (I0 tau L xs) tau.2.2.2) (fun r σ => r = some (.int 1) ∧ σ.1 = 100) := by
  simp only [u211_16, u211_17]
  exact lw_all (xs := xs) h0 h1 h2 h3 h4 h5 h6 h7 h8 h9 h10 h11 h12 h13 h14 h15 h16 h17 h18 h19 h20 h21 h22 h23 h24 h25 h26 h27 h28 h29 h30 h31 h32 h33 h34 h35 hL (fun _ _ => ⟨rfl, rfl⟩) (L / 4) 0 0 (I0 tau L xs) tau.2.2.2 (by omega) (by omega) (Rel_0 L xs) (by omega) (by unfold I0; simp) (by unfold I0; simp)
