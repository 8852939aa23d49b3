/-! SOUNDNESS, 3: what the tables say, and instructions on cells -/
theorem fl_spec {o i x y z : Nat} (h : fl o i = some (x, y, z)) : ∃ g, okF (o, i, x, y, z, g) = true := by
  unfold fl at h
  obtain ⟨e, he, hq⟩ := Option.map_eq_some_iff.mp h
  have h1 := List.find?_some he
  have h2 := List.mem_of_find?_eq_some he
  have h3 := List.all_eq_true.mp flt_ok e h2
  simp only [Bool.and_eq_true, beq_iff_eq] at h1
  obtain ⟨a, b, c, d, f, g⟩ := e
  cases hq
  obtain ⟨rfl, rfl⟩ := h1
  exact ⟨g, h3⟩
theorem ck_spec {o i x y z : Nat} (h : ck o i = some (x, y, z)) : ∃ g, okC (o, i, x, y, z, g) = true := by
  unfold ck at h
  obtain ⟨e, he, hq⟩ := Option.map_eq_some_iff.mp h
  have h1 := List.find?_some he
  have h2 := List.mem_of_find?_eq_some he
  have h3 := List.all_eq_true.mp ctl_ok e h2
  simp only [Bool.and_eq_true, beq_iff_eq] at h1
  obtain ⟨a, b, c, d, f, g⟩ := e
  cases hq
  obtain ⟨rfl, rfl⟩ := h1
  exact ⟨g, h3⟩
theorem pk_spec {c t : Nat} (h : pk c = some t) : ∃ g, okP (c, t, g) = true := by
  unfold pk at h
  obtain ⟨e, he, hq⟩ := Option.map_eq_some_iff.mp h
  have h1 := List.find?_some he
  have h2 := List.mem_of_find?_eq_some he
  have h3 := List.all_eq_true.mp plt_ok e h2
  simp only [beq_iff_eq] at h1
  obtain ⟨a, b, g⟩ := e
  cases hq
  subst h1
  exact ⟨g, h3⟩
theorem nwc_spec {o i c : Nat} (h : nwc o i = some c) : Cond.classLink (Rc o) i (Rc c) ∈ Big ∧ Cond.instantiable (Rc c) (nf c) ∈ Big ∧ Cond.initialized (Rc c) ∈ Big ∧ c < 13 := by
  unfold nwc at h
  obtain ⟨e, he, hq⟩ := Option.map_eq_some_iff.mp h
  have h1 := List.find?_some he
  have h2 := List.mem_of_find?_eq_some he
  have h3 := List.all_eq_true.mp nwl_ok e h2
  simp only [Bool.and_eq_true, beq_iff_eq] at h1
  obtain ⟨a, b, c', d, f, g⟩ := e
  cases hq
  obtain ⟨rfl, rfl⟩ := h1
  simp only [okN, Bool.and_eq_true, decide_eq_true_eq] at h3
  exact ⟨okw_in h3.1.1.1, okw_in h3.1.1.2, okw_in h3.1.2, h3.2⟩
theorem cs_spec {o i : Nat} {v : Value} (h : cs o i = some v) : (∃ x, v = .int x ∧ Cond.constant (Rc o) i x ∈ Big) ∨ (∃ x, v = .long x ∧ Cond.constantLong (Rc o) i x ∈ Big) ∨ ∃ j : Nat, v = .ref (1010 + j) ∧ j < 5 ∧ o = 6 ∧ (sti.getD j (0, "")).1 = i := by
  unfold cs at h
  obtain ⟨e, he, hq⟩ := Option.map_eq_some_iff.mp h
  have h1 := List.find?_some he
  have h2 := List.mem_of_find?_eq_some he
  have h3 := List.all_eq_true.mp csl_ok e h2
  simp only [Bool.and_eq_true, beq_iff_eq] at h1
  obtain ⟨a, b, c', d, f⟩ := e
  obtain ⟨rfl, rfl⟩ := h1
  dsimp only at hq
  match c', h3, hq with
  | 0, h3, hq => exact Or.inl ⟨_, hq.symm, okw_in h3⟩
  | 1, h3, hq => exact Or.inr (Or.inl ⟨_, hq.symm, okw_in h3⟩)
  | 2, h3, hq =>
    simp only [okS, Bool.and_eq_true, decide_eq_true_eq] at h3
    obtain ⟨⟨⟨h4, h5⟩, h6⟩, h7⟩ := h3
    have hj : d.toNat - 1010 < 5 := by omega
    have he : 1010 + (d.toNat - 1010) = d.toNat := by omega
    refine Or.inr (Or.inr ⟨d.toNat - 1010, ?_, hj, h4, h7⟩)
    rw [he, ← hq]
    simp
  | n + 3, h3, hq => simp [okS] at h3
theorem cl_get : ∀ c, c < 13 → vwCl[c]? = some (Rc c, Tc c, nf c) := by
  intro c hc
  match c, hc with
  | 0, _ => rfl
  | 1, _ => rfl
  | 2, _ => rfl
  | 3, _ => rfl
  | 4, _ => rfl
  | 5, _ => rfl
  | 6, _ => rfl
  | 7, _ => rfl
  | 8, _ => rfl
  | 9, _ => rfl
  | 10, _ => rfl
  | 11, _ => rfl
  | 12, _ => rfl
  | n + 13, h => omega
theorem lay_in : ∀ c, c < 13 → ∀ w ∈ u_ws (Rc c) (Tc c) (nf c), w ∈ Big := by
  intro c hc w hw
  have h := List.all_eq_true.mp (List.all_eq_true.mp lays_ok c (List.mem_range.mpr hc)) w hw
  simp only [Bool.and_eq_true, decide_eq_true_eq] at h
  exact List.mem_filter.mpr ⟨h.1, h.2⟩
theorem nm_c : ∀ c, c < 13 → ∀ a, a < nf c → ∀ b, b < nf c → a ≠ b → (Tc c a).2.1 ≠ (Tc c b).2.1 := by
  intro c hc
  match c, hc with
  | 0, _ => exact nmX0
  | 1, _ => exact nmX1
  | 2, _ => exact nmX2
  | 3, _ => exact nmX3
  | 4, _ => exact nmX4
  | 5, _ => exact nmX5
  | 6, _ => exact nmX6
  | 7, _ => exact nmX7
  | 8, _ => exact nmX8
  | 9, _ => exact nmX9
  | 10, _ => exact nmX10
  | 11, _ => exact nmX11
  | 12, _ => exact nmX12
  | n + 13, h => omega
theorem ty_c : ∀ c, c < 13 → ∀ k, k < nf c → parseFieldDescriptor (Tc c k).2.2.1 = some (tyc c k) := by
  intro c hc
  match c, hc with
  | 0, _ => exact tyX0_ok
  | 1, _ => exact tyX1_ok
  | 2, _ => exact tyX2_ok
  | 3, _ => exact tyX3_ok
  | 4, _ => exact tyX4_ok
  | 5, _ => exact tyX5_ok
  | 6, _ => exact tyX6_ok
  | 7, _ => exact tyX7_ok
  | 8, _ => exact tyX8_ok
  | 9, _ => exact tyX9_ok
  | 10, _ => exact tyX10_ok
  | 11, _ => exact tyX11_ok
  | 12, _ => exact tyX12_ok
  | n + 13, h => omega
/-- kinds of fields and their types -/
def okT (c k : Nat) : Bool := match ft c k with
  | 0 => decide (tyc c k = .int)
  | 1 => decide (tyc c k = .long)
  | 2 => (match tyc c k with
    | .object _ => true
    | .array _ => true
    | _ => false)
  | _ => false
theorem okT_all : (List.range 13).all (fun c => (List.range (nf c)).all (fun k => okT c k)) = true := by decide +kernel
theorem okT_at {c k : Nat} (hc : c < 13) (hk : k < nf c) : okT c k = true := List.all_eq_true.mp (List.all_eq_true.mp okT_all c (List.mem_range.mpr hc)) k (List.mem_range.mpr hk)
theorem ft_0 {c k : Nat} (hc : c < 13) (hk : k < nf c) (h : ft c k = 0) : tyc c k = .int := by
  have := okT_at hc hk
  simpa [okT, h] using this
theorem ft_1 {c k : Nat} (hc : c < 13) (hk : k < nf c) (h : ft c k = 1) : tyc c k = .long := by
  have := okT_at hc hk
  simpa [okT, h] using this
theorem ft_2 {c k : Nat} (hc : c < 13) (hk : k < nf c) (h : ft c k = 2) : (∃ n, tyc c k = .object n) ∨ ∃ t, tyc c k = .array t := by
  have := okT_at hc hk
  simp only [okT, h] at this
  cases ht : tyc c k <;> simp [ht] at this <;> simp
theorem ft_3 {c k : Nat} (hc : c < 13) (hk : k < nf c) : ft c k = 0 ∨ ft c k = 1 ∨ ft c k = 2 := by
  have := okT_at hc hk
  unfold okT at this
  split at this
  · exact Or.inl (by assumption)
  · exact Or.inr (Or.inl (by assumption))
  · exact Or.inr (Or.inr (by assumption))
  · cases this
theorem rf_lt (a k : Nat) : rf a k < 100 := by
  unfold rf
  rw [List.getD_eq_getElem?_getD, List.getD_eq_getElem?_getD]
  cases h : rft[a]? with
  | none => simp
  | some row =>
    simp only [Option.getD_some]
    cases h2 : row[k]? with
    | none => simp
    | some x =>
      have h3 := List.all_eq_true.mp (List.all_eq_true.mp rft_ok row (List.mem_of_getElem? h)) x (List.mem_of_getElem? h2)
      simpa using h3
theorem isA_spec {σ : Sto} {a k : Nat} (h : isA σ a k = true) : a < σ.1 ∧ (tg a).1 = k := by
  simpa [isA] using h
theorem cv_own {b0 : Nat} {av : Nat → Value} {a : Nat} (h : a < 1000) : cv b0 av (.ref a) = .ref (b0 + a) := by simp [cv, h]
theorem ce_obj {b0 : Nat} {cy : Nat → ClassId} {σ : Sto} {a c : Nat} (h : (tg a).1 = c) (hc : c < 13) : ce b0 cy σ a = .inr (c, (List.range (nf c)).map (fvc b0 σ a c)) := by
  subst h
  simp [ce, hc]
theorem ce_arr {b0 : Nat} {cy : Nat → ClassId} {σ : Sto} {a c : Nat} (h : (tg a).1 = c) (h1 : ¬ c < 13) (h2 : c < 23) : ce b0 cy σ a = .inl (cy c, (tg a).2, .inl (σ.2.2.1 a)) := by
  subst h
  simp [ce, h1, h2]
theorem ce_ref {b0 : Nat} {cy : Nat → ClassId} {σ : Sto} {a c : Nat} (h : (tg a).1 = c) (h1 : ¬ c < 13) (h2 : ¬ c < 23) : ce b0 cy σ a = .inl (cy c, (tg a).2, .inr (.inr (.inr (.inr (fun j => if σ.2.1 a j = true then some (b0 + rf a j) else none))))) := by
  subst h
  simp [ce, h1, h2]
theorem fvc_congr {b0 : Nat} {σ σ' : Sto} {a c k : Nat} (h1 : σ'.2.1 a k = σ.2.1 a k) (h2 : σ'.2.2.1 a k = σ.2.2.1 a k) (h3 : σ'.2.2.2 a k = σ.2.2.2 a k) : fvc b0 σ' a c k = fvc b0 σ a c k := by
  unfold fvc
  rw [h1, h2, h3]
theorem ce_congr {b0 : Nat} {cy : Nat → ClassId} {σ σ' : Sto} {a : Nat} (h1 : σ'.2.1 a = σ.2.1 a) (h2 : σ'.2.2.1 a = σ.2.2.1 a) (h3 : σ'.2.2.2 a = σ.2.2.2 a) : ce b0 cy σ' a = ce b0 cy σ a := by
  have e : fvc b0 σ' a (tg a).1 = fvc b0 σ a (tg a).1 := funext fun k => fvc_congr (congrFun h1 k) (congrFun h2 k) (congrFun h3 k)
  unfold ce
  rw [e, h2, h1]
theorem fval_cv {b0 : Nat} {av : Nat → Value} {σ : Sto} {a c k : Nat} {v : Value} (h : fval σ a c k = some v) : cv b0 av v = fvc b0 σ a c k := by
  unfold fval at h
  split at h
  · rename_i h2
    cases h; simp [fvc, h2, cv]
  · rename_i h2
    cases h; simp [fvc, h2, cv]
  · rename_i h2
    split at h
    · rename_i h3
      cases h
      have := rf_lt a k
      simp [fvc, h2, h3, cv, show rf a k < 1000 by omega]
    · cases h
  · cases h
theorem wr_cell {b0 : Nat} {D : va_G} {cy : Nat → ClassId} {L : Nat} {xs : Nat → Int32} {σ : Sto} {H : Heap} (hW : Wr b0 D cy L xs σ H) {a : Nat} (h : a < σ.1) : a < 1000 := by
  have := hW.2.1
  omega
theorem sI_ce_o {b0 : Nat} {cy : Nat → ClassId} {σ : Sto} {a b j : Nat} {x : Int32} (h : b ≠ a) : ce b0 cy (sI σ a j x) b = ce b0 cy σ b := ce_congr rfl (va_up_ne _ _ h) rfl
theorem sL_ce_o {b0 : Nat} {cy : Nat → ClassId} {σ : Sto} {a b j : Nat} {x : Int64} (h : b ≠ a) : ce b0 cy (sL σ a j x) b = ce b0 cy σ b := ce_congr rfl rfl (va_up_ne _ _ h)
theorem sB_ce_o {b0 : Nat} {cy : Nat → ClassId} {σ : Sto} {a b j : Nat} (h : b ≠ a) : ce b0 cy (sB σ a j) b = ce b0 cy σ b := ce_congr (va_up_ne _ _ h) rfl rfl
theorem map_set {b0 : Nat} {σ σ' : Sto} {a c j : Nat} {v : Value} (hj : j < nf c) (h1 : fvc b0 σ' a c j = v) (h2 : ∀ k, k < nf c → k ≠ j → fvc b0 σ' a c k = fvc b0 σ a c k) : (List.range (nf c)).map (fvc b0 σ' a c) = ((List.range (nf c)).map (fvc b0 σ a c)).set j v := by
  apply List.ext_getElem?
  intro i
  rw [List.getElem?_set]
  by_cases hi : i < nf c
  · by_cases e : j = i
    · subst e
      simp [hj, h1]
    · rw [if_neg e]
      simp [hi, h2 i hi (fun q => e q.symm)]
  · by_cases e : j = i
    · omega
    · simp [hi, e]
theorem sI_ce {b0 : Nat} {cy : Nat → ClassId} {σ : Sto} {a c j : Nat} {x : Int32} (h : (tg a).1 = c) (hc : c < 13) (hj : j < nf c) (hf : ft c j = 0) : ce b0 cy (sI σ a j x) a = .inr (c, ((List.range (nf c)).map (fvc b0 σ a c)).set j (.int x)) := by
  rw [ce_obj h hc, map_set (v := .int x) (σ := σ) hj]
  · simp [fvc, hf, sI, va_up, upd]
  · intro k hk hne
    exact fvc_congr rfl (by simp [sI, va_up, upd, hne]) rfl
theorem sL_ce {b0 : Nat} {cy : Nat → ClassId} {σ : Sto} {a c j : Nat} {x : Int64} (h : (tg a).1 = c) (hc : c < 13) (hj : j < nf c) (hf : ft c j = 1) : ce b0 cy (sL σ a j x) a = .inr (c, ((List.range (nf c)).map (fvc b0 σ a c)).set j (.long x)) := by
  rw [ce_obj h hc, map_set (v := .long x) (σ := σ) hj]
  · simp [fvc, hf, sL, va_up]
  · intro k hk hne
    exact fvc_congr rfl rfl (by simp [sL, va_up, hne])
theorem sB_ce {b0 : Nat} {cy : Nat → ClassId} {σ : Sto} {a c j : Nat} (h : (tg a).1 = c) (hc : c < 13) (hj : j < nf c) (hf : ft c j = 2) : ce b0 cy (sB σ a j) a = .inr (c, ((List.range (nf c)).map (fvc b0 σ a c)).set j (.ref (b0 + rf a j))) := by
  rw [ce_obj h hc, map_set (v := .ref (b0 + rf a j)) (σ := σ) hj]
  · simp [fvc, hf, sB, va_up]
  · intro k hk hne
    exact fvc_congr (by simp [sB, va_up, hne]) rfl rfl
theorem sI_ca {b0 : Nat} {cy : Nat → ClassId} {σ : Sto} {a c j : Nat} {x : Int32} (h : (tg a).1 = c) (h1 : ¬ c < 13) (h2 : c < 23) : ce b0 cy (sI σ a j x) a = .inl (cy c, (tg a).2, .inl (upd (σ.2.2.1 a) j x)) := by
  rw [ce_arr h h1 h2]
  simp [sI, va_up]
theorem sB_ca {b0 : Nat} {cy : Nat → ClassId} {σ : Sto} {a c j : Nat} (h : (tg a).1 = c) (h1 : ¬ c < 13) (h2 : ¬ c < 23) : ce b0 cy (sB σ a j) a = .inl (cy c, (tg a).2, .inr (.inr (.inr (.inr (va_up (fun j => if σ.2.1 a j = true then some (b0 + rf a j) else none) j (some (b0 + rf a j))))))) := by
  rw [ce_ref h h1 h2]
  have e : (fun k => if (sB σ a j).2.1 a k = true then some (b0 + rf a k) else none) = va_up (fun j => if σ.2.1 a j = true then some (b0 + rf a j) else none) j (some (b0 + rf a j)) := by
    funext k
    by_cases e : k = j
    · subst e; simp [sB, va_up]
    · simp [sB, va_up, e]
  rw [e]
/-- the world behind a store -/
theorem wr_set {b0 : Nat} {D : va_G} {cy : Nat → ClassId} {L : Nat} {xs : Nat → Int32} {σ σ' : Sto} {H1 : Heap} {a : Nat} {e : va_E} (h0 : σ.1 ≤ 100 ∧ (σ.2.1 999 0 = true → σ.2.2.1 999 0 = nI L ∧ σ.2.2.1 1000 = xs)) (ha : a < σ.1) (hn : σ'.1 = σ.1) (he : ce b0 cy σ' a = e) (ho : ∀ b, b ≠ a → ce b0 cy σ' b = ce b0 cy σ b) (hI : ∀ b, b ≠ a → σ'.2.2.1 b = σ.2.2.1 b) (hB : ∀ b, b ≠ a → σ'.2.1 b = σ.2.1 b) (hP : va_P D vwCl ((wl b0 cy σ).set a (b0 + a, e)) H1) : Wr b0 D cy L xs σ' H1 := by
  rw [wl_set hn he (fun b _ h => ho b h)] at hP
  refine ⟨hP, by omega, fun hf => ?_⟩
  rw [hB 999 (by omega)] at hf
  rw [hI 999 (by omega), hI 1000 (by omega)]
  exact h0.2 hf
theorem gm_heap {m pc pc1 : Nat} {ls st st1 : Vs} {σ σ1 : Sto} {r : Option Value} {σ' : Sto} (hg : Gm m pc1 ls st1 σ1 r σ') (hn : σ1.1 = σ.1)
    (step : ∀ (b0 : Nat) (D : va_G) (cy : Nat → ClassId) (av : Nat → Value) (L : Nat) (xs : Nat → Int32) (p : Program) (l : Launch) (e : Env) (R : Room) (s : State) (mid : MethodId) (args : Array Value) (below : List Frame) (meth : Method) (c : Code) (n0 : Nat) (Z : State → Prop) (H : Heap) (locs : List Loc) (lsx : Array Slot) (cells slots : Nat),
      Ctx b0 D cy av L xs m p R s mid args meth c n0 → Lr b0 av lsx (mml m) ls → Wr b0 D cy L xs σ H → va_S (fun q => b0 ≤ q) s.heap H locs → (∀ (H1 : Heap) (locs1 : List Loc), Wr b0 D cy L xs σ1 H1 → va_S (fun q => b0 ≤ q) s.heap H1 locs1 → W p l e R s mid args below meth c H1 locs1 cells slots Z (F0 mid pc1 lsx (st1.map (cv b0 av)))) → W p l e R s mid args below meth c H locs cells slots Z (F0 mid pc lsx (st.map (cv b0 av)))) : Gm m pc ls st σ r σ' := by
  refine ⟨hn ▸ hg.1, ?_⟩
  intro b0 D cy av L xs p l e R s mid args below meth c n0 Z C H locs lsx hl hW hS h0 hc hk
  refine step _ _ _ _ _ _ _ _ _ _ _ _ _ _ _ _ _ _ _ _ _ _ _ C hl hW hS (fun H1 locs1 hW1 hS1 => ?_)
  have := hg.2 _ _ _ _ _ _ _ _ _ _ _ _ _ _ _ _ _ _ C _ _ _ hl hW1 hS1 (by rw [hn]; exact h0) hc hk
  rw [hn] at this
  exact this
