/-! RUNS: the interpreter's run to the return, with what holds there; one step of it -/
def Lq (x y : Option Res) : Prop := ∀ z, x = some z → y = some z
theorem Lq.rf {x : Option Res} : Lq x x := fun _ h => h
theorem Lq.no {y : Option Res} : Lq none y := fun _ h => by cases h
theorem Lq.ite {c : Prop} [Decidable c] {a a1 b b1 : Option Res} (h1 : Lq a a1) (h2 : Lq b b1) : Lq (if c then a else b) (if c then a1 else b1) := by
  by_cases h : c
  · rw [if_pos h, if_pos h]; exact h1
  · rw [if_neg h, if_neg h]; exact h2
theorem Lq.bind {α : Type} {o : Option α} {f g : α → Option Res} (h : ∀ a, Lq (f a) (g a)) : Lq (o.bind f) (o.bind g) := by
  cases o with
  | none => exact Lq.no
  | some a => exact h a
theorem Lq.bind2 {x y : Option Res} {f g : Res → Option Res} (h0 : Lq x y) (h : ∀ a, Lq (f a) (g a)) : Lq (x.bind f) (y.bind g) := by
  intro z hz
  cases hx : x with
  | none => rw [hx] at hz; cases hz
  | some a =>
    rw [hx] at hz
    rw [h0 a hx]
    exact h a z hz
set_option maxHeartbeats 4000000 in
theorem stp_mono {r1 r2 : Rec} (hr : ∀ (m pc : Nat) (ls st : Vs) (σ : Sto), Lq (r1 m pc ls st σ) (r2 m pc ls st σ)) (i : Instr) (k m pc : Nat) (ls st : Vs) (σ : Sto) : Lq (stp r1 i k m pc ls st σ) (stp r2 i k m pc ls st σ) := by
  have hgo : ∀ (t : Nat) (as : Vs) (m pc : Nat) (ls st : Vs) (σ : Sto), Lq (goM r1 t as m pc ls st σ) (goM r2 t as m pc ls st σ) := by
    intro t as m pc ls st σ
    unfold goM
    exact Lq.ite (Lq.bind2 (hr _ _ _ _ _) (fun q => hr _ _ _ _ _)) Lq.no
  cases i <;> first
    | exact Lq.no
    | (simp only [stp, ldI, ldL, ldA, stI, stL, stA, b2I, b2L, brn, psh, doV, doS, doI]
       repeat' (first | exact Lq.no | exact hr _ _ _ _ _ | exact hgo _ _ _ _ _ _ _ | exact Lq.rf | apply Lq.ite | (apply Lq.bind; intro _) | split))
theorem run_mono {f : Nat} : ∀ (m pc : Nat) (ls st : Vs) (σ : Sto), Lq (run f m pc ls st σ) (run (f + 1) m pc ls st σ) := by
  induction f with
  | zero => intro m pc ls st σ; exact Lq.no
  | succ f ih =>
    intro m pc ls st σ
    show Lq (match decode (mco m) pc with
      | .ok (i, k) => stp (run f) i k m pc ls st σ
      | .error _ => none) (match decode (mco m) pc with
      | .ok (i, k) => stp (run (f + 1)) i k m pc ls st σ
      | .error _ => none)
    split
    · exact stp_mono ih _ _ _ _ _ _ _
    · exact Lq.no
theorem run_le {f g : Nat} (h : f ≤ g) {m pc : Nat} {ls st : Vs} {σ : Sto} : Lq (run f m pc ls st σ) (run g m pc ls st σ) := by
  obtain ⟨k, rfl⟩ := Nat.exists_eq_add_of_le h
  induction k with
  | zero => exact Lq.rf
  | succ k ih => exact fun z hz => run_mono _ _ _ _ _ z (ih (by omega) z hz)
/-- from here the run comes to a return, and Q holds there -/
def Rn (m pc : Nat) (ls st : Vs) (σ : Sto) (Q : Option Value → Sto → Prop) : Prop := ∃ (f : Nat) (r : Option Value) (σ' : Sto), run f m pc ls st σ = some (r, σ') ∧ Q r σ'
/-- a call: the callee's run, and the caller's behind it -/
def Ca (t : Nat) (l0 : Vs) (σ : Sto) (m pc : Nat) (ls st : Vs) (Q : Option Value → Sto → Prop) : Prop := Rn t 0 l0 [] σ (fun r σ' => Rn m pc ls (r.toList ++ st) σ' Q)
theorem run_s {f m pc : Nat} {ls st : Vs} {σ : Sto} {i : Instr} {k : Nat} (hd : decode (mco m) pc = .ok (i, k)) : run (f + 1) m pc ls st σ = stp (run f) i k m pc ls st σ := by
  show (match decode (mco m) pc with
      | .ok (i, k) => stp (run f) i k m pc ls st σ
      | .error _ => none) = _
  rw [hd]
theorem Rn_of {m pc m1 pc1 : Nat} {ls st ls1 st1 : Vs} {σ σ1 : Sto} {Q : Option Value → Sto → Prop} {i : Instr} {k : Nat} (hd : decode (mco m) pc = .ok (i, k)) (h : ∀ f, stp (run f) i k m pc ls st σ = run f m1 pc1 ls1 st1 σ1) : Rn m pc ls st σ Q ↔ Rn m1 pc1 ls1 st1 σ1 Q := by
  constructor
  · rintro ⟨f, r, σ', h1, h2⟩
    cases f with
    | zero => cases h1
    | succ f =>
      rw [run_s hd, h] at h1
      exact ⟨f, r, σ', h1, h2⟩
  · rintro ⟨f, r, σ', h1, h2⟩
    exact ⟨f + 1, r, σ', by rw [run_s hd, h]; exact h1, h2⟩
theorem Rn_if {m pc m1 pc1 : Nat} {ls st ls1 st1 : Vs} {σ σ1 : Sto} {Q : Option Value → Sto → Prop} {i : Instr} {k : Nat} {c : Prop} [Decidable c] (hd : decode (mco m) pc = .ok (i, k)) (h : ∀ f, stp (run f) i k m pc ls st σ = if c then run f m1 pc1 ls1 st1 σ1 else none) : Rn m pc ls st σ Q ↔ c ∧ Rn m1 pc1 ls1 st1 σ1 Q := by
  by_cases hc : c
  · rw [Rn_of hd (fun f => by rw [h f, if_pos hc])]
    simp [hc]
  · constructor
    · rintro ⟨f, r, σ', h1, h2⟩
      cases f with
      | zero => cases h1
      | succ f =>
        rw [run_s hd, h, if_neg hc] at h1
        cases h1
    · exact fun q => absurd q.1 hc
theorem Rn_br {m pc m1 pc1 m2 pc2 : Nat} {ls st ls1 st1 ls2 st2 : Vs} {σ σ1 σ2 : Sto} {Q : Option Value → Sto → Prop} {i : Instr} {k : Nat} {c : Prop} [Decidable c] (hd : decode (mco m) pc = .ok (i, k)) (h : ∀ f, stp (run f) i k m pc ls st σ = if c then run f m1 pc1 ls1 st1 σ1 else run f m2 pc2 ls2 st2 σ2) : Rn m pc ls st σ Q ↔ if c then Rn m1 pc1 ls1 st1 σ1 Q else Rn m2 pc2 ls2 st2 σ2 Q := by
  by_cases hc : c
  · rw [Rn_of hd (fun f => by rw [h f, if_pos hc]), if_pos hc]
  · rw [Rn_of hd (fun f => by rw [h f, if_neg hc]), if_neg hc]
theorem Rn_ret {m pc : Nat} {ls st : Vs} {σ : Sto} {Q : Option Value → Sto → Prop} {i : Instr} {k : Nat} {r : Option Value} {c : Prop} [Decidable c] (hd : decode (mco m) pc = .ok (i, k)) (h : ∀ f, stp (run f) i k m pc ls st σ = if c then some (r, σ) else none) : Rn m pc ls st σ Q ↔ c ∧ Q r σ := by
  constructor
  · rintro ⟨f, r1, σ', h1, h2⟩
    cases f with
    | zero => cases h1
    | succ f =>
      rw [run_s hd, h] at h1
      split at h1
      · rename_i hc
        cases h1
        exact ⟨hc, h2⟩
      · cases h1
  · rintro ⟨hc, h2⟩
    exact ⟨1, r, σ, by rw [run_s hd, h, if_pos hc], h2⟩
theorem Rn_ca {m pc t : Nat} {as ls st st1 : Vs} {σ : Sto} {Q : Option Value → Sto → Prop} {i : Instr} {k : Nat} {c : Prop} [Decidable c] (hd : decode (mco m) pc = .ok (i, k)) (h : ∀ f, stp (run f) i k m pc ls st σ = if c then goM (run f) t as m pc ls st1 σ else none) (h4 : st1.length ≤ 4 ∧ (lcv as).length ≤ mml t ∧ mhg t < mhg m) : Rn m pc ls st σ Q ↔ c ∧ Ca t (lcs (mml t) as) σ m (pc + 3) ls st1 Q := by
  have hgo : ∀ f, goM (run f) t as m pc ls st1 σ = (run f t 0 (lcs (mml t) as) [] σ).bind (fun q => run f m (pc + 3) ls (q.1.toList ++ st1) q.2) := fun f => by
    unfold goM
    rw [if_pos h4]
  constructor
  · rintro ⟨f, r, σ', h1, h2⟩
    cases f with
    | zero => cases h1
    | succ f =>
      rw [run_s hd, h] at h1
      split at h1
      · rename_i hc
        rw [hgo] at h1
        cases hq : run f t 0 (lcs (mml t) as) [] σ with
        | none => rw [hq] at h1; cases h1
        | some q =>
          rw [hq] at h1
          exact ⟨hc, f, q.1, q.2, hq, f, r, σ', h1, h2⟩
      · cases h1
  · rintro ⟨hc, f, r1, σ1, h1, g, r, σ', h2, h3⟩
    refine ⟨max f g + 1, r, σ', ?_, h3⟩
    rw [run_s hd, h, if_pos hc, hgo, run_le (Nat.le_max_left f g) _ h1]
    exact run_le (Nat.le_max_right f g) _ h2
/-- runs end in one way -/
theorem Rn.det {m pc : Nat} {ls st : Vs} {σ : Sto} {r0 : Option Value} {σ0 : Sto} (h : Rn m pc ls st σ (fun r σ' => r = r0 ∧ σ' = σ0)) (Q : Option Value → Sto → Prop) : Rn m pc ls st σ Q ↔ Q r0 σ0 := by
  obtain ⟨f, r, σ', h1, rfl, rfl⟩ := h
  constructor
  · rintro ⟨g, r2, σ2, h2, h3⟩
    have e1 := run_le (Nat.le_max_left f g) _ h1
    have e2 := run_le (Nat.le_max_right f g) _ h2
    rw [e1] at e2
    cases e2
    exact h3
  · exact fun q => ⟨f, r, σ', h1, q⟩
theorem Rn.imp {m pc : Nat} {ls st : Vs} {σ : Sto} {P Q : Option Value → Sto → Prop} (h : Rn m pc ls st σ P) (hq : ∀ r σ', P r σ' → Q r σ') : Rn m pc ls st σ Q := by
  obtain ⟨f, r, σ', h1, h2⟩ := h
  exact ⟨f, r, σ', h1, hq r σ' h2⟩
/-- a call whose end is known -/
theorem Ca_of {t m pc : Nat} {l0 ls st : Vs} {σ σ1 : Sto} {r : Option Value} {Q : Option Value → Sto → Prop} (h : ∀ Q : Option Value → Sto → Prop, Q r σ1 → Rn t 0 l0 [] σ Q) : Ca t l0 σ m pc ls st Q ↔ Rn m pc ls (r.toList ++ st) σ1 Q := by
  unfold Ca
  rw [Rn.det (h (fun a b => a = r ∧ b = σ1) ⟨rfl, rfl⟩)]
/-- a call of whose end something is known -/
theorem Ca_imp {t m pc : Nat} {l0 ls st : Vs} {σ : Sto} {P : Option Value → Sto → Prop} {Q : Option Value → Sto → Prop} (h : Rn t 0 l0 [] σ P) (hq : ∀ r σ1, P r σ1 → Rn m pc ls (r.toList ++ st) σ1 Q) : Ca t l0 σ m pc ls st Q := h.imp hq
