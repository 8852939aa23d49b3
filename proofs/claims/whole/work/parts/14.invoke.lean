/-! SOUNDNESS, 9: the invoke instructions, and the whole -/
theorem gm_call {t m pc : Nat} {as ls st rest : Vs} {σ σ1 : Sto} {r1 r : Option Value} {σ' : Sto} (hgt : Gm t 0 (lcs (mml t) as) [] σ r1 σ1) (hg : Gm m (pc + 3) ls (r1.toList ++ rest) σ1 r σ') (hlen : (lcv as).length ≤ mml t) (hh : mhg t < mhg m) (ht : t < 211)
    (run : ∀ (b0 : Nat) (D : va_G) (cy : Nat → ClassId) (av : Nat → Value) (L : Nat) (xs : Nat → Int32) (p : Program) (l : Launch) (e : Env) (R : Room) (s : State) (mid : MethodId) (args : Array Value) (below : List Frame) (meth : Method) (c : Code) (n0 : Nat) (H : Heap) (locs : List Loc) (lsx : Array Slot) (cells slots : Nat),
      Ctx b0 D cy av L xs m p R s mid args meth c n0 → Lr b0 av lsx (mml m) ls → Wr b0 D cy L xs σ H → va_S (fun q => b0 ≤ q) s.heap H locs → ((rmx t σ σ1).frames + 1 ≤ R.frames ∧ 8 + (mml t + 11) + (rmx t σ σ1).locals ≤ R.locals) → (cells + (σ1.1 - σ.1) ≤ R.cells ∧ slots + (ss σ1.1 - ss σ.1) ≤ R.slots) → H.size = b0 + σ.1 →
      Met l (mna t) (wsx t) (rmx t σ σ1) (Px b0 D cy av L xs as σ) (Qx b0 D cy av L xs r1 σ1) (σ1.1 - σ.1) (ss σ1.1 - ss σ.1) (fun q => b0 ≤ q) →
      va_Run p l e R s mid args below meth c H locs cells slots (σ1.1 - σ.1) (ss σ1.1 - ss σ.1) (F0 mid pc lsx (st.map (cv b0 av))) (rest.map (cv b0 av)) (Qx b0 D cy av L xs r1 σ1 (as.map (cv b0 av)).toArray) (fun q => b0 ≤ q)) : Gm m pc ls st σ r σ' := by
  have h1 := hgt.1
  have h2 := hg.1
  refine ⟨by omega, ?_⟩
  intro b0 D cy av L xs p l e R s mid args below meth c n0 Z C H locs lsx hl hW hS hn hc hk
  obtain ⟨hx, hb, hml, hown, hts, hin, hC, hs0, hfr, hlo⟩ := id C
  obtain ⟨k1, k2, k3, k4, k5⟩ := mt_ok (t := t) (by omega)
  have s1 := ss_mono hn
  have s2 := ss_mono h1
  have s3 := ss_mono h2
  obtain ⟨hc1, hc2⟩ := id hc
  refine W.sz (fun hsz => ?_)
  have hge := wr_ge hW hs0 hS.1
  refine call_on (run b0 D cy av L xs p l e R s mid args below meth c n0 H locs lsx (σ.1 - n0) (ss σ.1 - ss n0) C hl hW hS ⟨by show mhg t + 1 ≤ R.frames; omega, by show 8 + (mml t + 11) + 31 * mhg t ≤ R.locals; omega⟩ ⟨by omega, by omega⟩ (by omega) (met_of (by omega) hgt hlen b0 D cy av L xs l)) hS (fun H1 locs1 hW1 hS1 => ?_)
  have hw := hg.2 _ _ _ _ _ _ _ _ _ _ _ _ _ _ _ _ _ _ C _ _ _ hl hW1 hS1 (by omega) hc hk
  have e1 : (r1.map (cv b0 av)).toList ++ rest.map (cv b0 av) = (r1.toList ++ rest).map (cv b0 av) := by
    cases r1 <;> simp
  rw [e1]
  exact W.cs (by omega) (by omega) hw
theorem ck0 {o i t n : Nat} (h : ck o i = some (0, t, n)) : Cond.methodLink (Rc o) i (mna t) ∈ Big ∧ Cond.instanceMethod (mna t) ∈ Big ∧ Cond.selects (mna t).cls (mna t) (mna t) ∈ Big ∧ Cond.initialized (mna t).cls ∈ Big ∧ t < 211 ∧ (parseMethodDescriptor (mna t).desc).map (fun d => d.parameters.length) = some n := by
  obtain ⟨g, hg⟩ := ck_spec h
  match g, hg with
  | [a, b, c, d, f], hg =>
    simp only [okC, Bool.and_eq_true, decide_eq_true_eq] at hg
    obtain ⟨⟨⟨⟨⟨h1, h2⟩, h3⟩, h4⟩, h5⟩, h6⟩ := hg
    exact ⟨okw_in h1, okw_in h2, okw_in h3, okw_in h4, h5, h6⟩
  | [], hg => simp [okC] at hg
  | [_], hg => simp [okC] at hg
  | [_, _], hg => simp [okC] at hg
  | [_, _, _], hg => simp [okC] at hg
  | [_, _, _, _], hg => simp [okC] at hg
  | _ :: _ :: _ :: _ :: _ :: _ :: _, hg => simp [okC] at hg
theorem ck1 {o i t n : Nat} (h : ck o i = some (1, t, n)) : Cond.methodLink (Rc o) i (mna t) ∈ Big ∧ Cond.static (mna t) ∈ Big ∧ Cond.initialized (mna t).cls ∈ Big ∧ t < 211 ∧ (parseMethodDescriptor (mna t).desc).map (fun d => d.parameters.length) = some n := by
  obtain ⟨g, hg⟩ := ck_spec h
  match g, hg with
  | [a, b, c, d], hg =>
    simp only [okC, Bool.and_eq_true, decide_eq_true_eq] at hg
    obtain ⟨⟨⟨⟨h1, h2⟩, h3⟩, h4⟩, h5⟩ := hg
    exact ⟨okw_in h1, okw_in h2, okw_in h3, h4, h5⟩
  | [], hg => simp [okC] at hg
  | [_], hg => simp [okC] at hg
  | [_, _], hg => simp [okC] at hg
  | [_, _, _], hg => simp [okC] at hg
  | _ :: _ :: _ :: _ :: _ :: _, hg => simp [okC] at hg
theorem nsl_in {o i t : Nat} (h : nsl.any (fun q => decide (q.1 = Rc o ∧ q.2.1 = i ∧ q.2.2.1 = t)) = true) : ∃ host, (Rc o, i, t, host) ∈ nsl := by
  obtain ⟨⟨a, b, c, d⟩, h1, h2⟩ := List.any_eq_true.mp h
  simp only [decide_eq_true_eq] at h2
  obtain ⟨rfl, rfl, rfl⟩ := h2
  exact ⟨d, h1⟩
theorem ck2 {o i t n : Nat} (h : ck o i = some (2, t, n)) : Cond.static (mna t) ∈ Big ∧ Cond.initialized (mna t).cls ∈ Big ∧ t < 211 ∧ (parseMethodDescriptor (mna t).desc).map (fun d => d.parameters.length) = some n ∧ ∃ host, (Rc o, i, t, host) ∈ nsl := by
  obtain ⟨g, hg⟩ := ck_spec h
  match g, hg with
  | [a, b, c], hg =>
    simp only [okC, Bool.and_eq_true, decide_eq_true_eq] at hg
    obtain ⟨⟨⟨⟨h1, h2⟩, h3⟩, h4⟩, h5⟩ := hg
    exact ⟨okw_in h1, okw_in h2, h3, h4, nsl_in h5⟩
  | [], hg => simp [okC] at hg
  | [_], hg => simp [okC] at hg
  | [_, _], hg => simp [okC] at hg
  | _ :: _ :: _ :: _ :: _, hg => simp [okC] at hg
theorem ck3 {o i t n : Nat} (h : ck o i = some (3, t, n)) : Cond.methodLink (Rc o) i (mna t) ∈ Big ∧ Cond.instanceMethod (mna t) ∈ Big ∧ Cond.initialized (mna t).cls ∈ Big ∧ t < 211 ∧ (parseMethodDescriptor (mna t).desc).map (fun d => d.parameters.length) = some n ∧ (mna t).name = "<init>" ∧ mre t = none := by
  obtain ⟨g, hg⟩ := ck_spec h
  match g, hg with
  | [a, b, c, d], hg =>
    simp only [okC, Bool.and_eq_true, decide_eq_true_eq] at hg
    obtain ⟨⟨⟨⟨⟨⟨h1, h2⟩, h3⟩, h4⟩, h5⟩, h6⟩, h7⟩ := hg
    exact ⟨okw_in h1, okw_in h2, okw_in h3, h4, h5, h6, h7⟩
  | [], hg => simp [okC] at hg
  | [_], hg => simp [okC] at hg
  | [_, _], hg => simp [okC] at hg
  | [_, _, _], hg => simp [okC] at hg
  | _ :: _ :: _ :: _ :: _ :: _, hg => simp [okC] at hg
theorem ck4 {o i t n : Nat} (h : ck o i = some (4, t, n)) : Cond.instanceMethod (mna t) ∈ Big ∧ Cond.initialized (mna t).cls ∈ Big ∧ t < 211 ∧ (parseMethodDescriptor (mna t).desc).map (fun d => d.parameters.length) = some n ∧ (∃ host, (Rc o, i, t, host) ∈ nsl) ∧ (mna t).name = "<init>" ∧ mre t = none := by
  obtain ⟨g, hg⟩ := ck_spec h
  match g, hg with
  | [a, b, c], hg =>
    simp only [okC, Bool.and_eq_true, decide_eq_true_eq] at hg
    obtain ⟨⟨⟨⟨⟨⟨h1, h2⟩, h3⟩, h4⟩, h5⟩, h6⟩, h7⟩ := hg
    exact ⟨okw_in h1, okw_in h2, h3, h4, nsl_in h5, h6, h7⟩
  | [], hg => simp [okC] at hg
  | [_], hg => simp [okC] at hg
  | [_, _], hg => simp [okC] at hg
  | _ :: _ :: _ :: _ :: _, hg => simp [okC] at hg
theorem ck5 {o i t n : Nat} (h : ck o i = some (5, t, n)) : Cond.methodLink (Rc o) i (mna t) ∈ Big ∧ Cond.sameMethod (mna t).cls (mna t).cls (mna t).name (mna t).desc ∈ Big ∧ Cond.superclass (Rc o) (mna t).cls ∈ Big ∧ Cond.instanceMethod (mna t) ∈ Big ∧ Cond.initialized (mna t).cls ∈ Big ∧ t < 211 ∧ (parseMethodDescriptor (mna t).desc).map (fun d => d.parameters.length) = some n ∧ (mna t).name ≠ "<init>" := by
  obtain ⟨g, hg⟩ := ck_spec h
  match g, hg with
  | [a, b, c, d, e, f], hg =>
    simp only [okC, Bool.and_eq_true, decide_eq_true_eq] at hg
    obtain ⟨⟨⟨⟨⟨⟨⟨h1, h2⟩, h3⟩, h4⟩, h5⟩, h6⟩, h7⟩, h8⟩ := hg
    exact ⟨okw_in h1, okw_in h2, okw_in h3, okw_in h4, okw_in h5, h6, h7, h8⟩
  | [], hg => simp [okC] at hg
  | [_], hg => simp [okC] at hg
  | [_, _], hg => simp [okC] at hg
  | [_, _, _], hg => simp [okC] at hg
  | [_, _, _, _], hg => simp [okC] at hg
  | [_, _, _, _, _], hg => simp [okC] at hg
  | _ :: _ :: _ :: _ :: _ :: _ :: _ :: _, hg => simp [okC] at hg
theorem ck6 {o i t n : Nat} (h : ck o i = some (6, t, n)) : Cond.methodLink (Rc o) i Lib.objectInit ∈ Big ∧ Cond.instanceMethod Lib.objectInit ∈ Big ∧ Cond.code Lib.objectInit ⟨#[0xb1]⟩ 1 none ∈ Big := by
  obtain ⟨g, hg⟩ := ck_spec h
  match g, hg with
  | [a, b, c], hg =>
    simp only [okC, Bool.and_eq_true] at hg
    exact ⟨okw_in hg.1.1, okw_in hg.1.2, okw_in hg.2⟩
  | [], hg => simp [okC] at hg
  | [_], hg => simp [okC] at hg
  | [_, _], hg => simp [okC] at hg
  | _ :: _ :: _ :: _ :: _, hg => simp [okC] at hg
theorem ck7 {o i t n : Nat} (h : ck o i = some (7, t, n)) : Cond.methodLink (Rc o) i yX5_pull ∈ Big ∧ Cond.sameMethod yX5_pull.cls yX5_pull.cls yX5_pull.name yX5_pull.desc ∈ Big ∧ Cond.instanceMethod yX5_pull ∈ Big ∧ mna t = yX5_pull ∧ n = 4 := by
  obtain ⟨g, hg⟩ := ck_spec h
  match g, hg with
  | [a, b, c, d], hg =>
    simp only [okC, Bool.and_eq_true, decide_eq_true_eq] at hg
    obtain ⟨⟨⟨⟨h1, h2⟩, h3⟩, h4⟩, h5⟩ := hg
    rw [h4] at h1 h2 h3
    exact ⟨okw_in h1, okw_in h2, okw_in h3, h4, h5⟩
  | [], hg => simp [okC] at hg
  | [_], hg => simp [okC] at hg
  | [_, _], hg => simp [okC] at hg
  | [_, _, _], hg => simp [okC] at hg
  | _ :: _ :: _ :: _ :: _ :: _, hg => simp [okC] at hg
theorem ck8 {o i t n : Nat} (h : ck o i = some (8, t, n)) : Cond.methodLink (Rc o) i arraycopyName ∈ Big ∧ Cond.native arraycopyName ∈ Big ∧ Cond.static arraycopyName ∈ Big ∧ Cond.initialized "java/lang/System" ∈ Big := by
  obtain ⟨g, hg⟩ := ck_spec h
  match g, hg with
  | [a, b, c, d], hg =>
    simp only [okC, Bool.and_eq_true] at hg
    exact ⟨okw_in hg.1.1.1, okw_in hg.1.1.2, okw_in hg.1.2, okw_in hg.2⟩
  | [], hg => simp [okC] at hg
  | [_], hg => simp [okC] at hg
  | [_, _], hg => simp [okC] at hg
  | [_, _, _], hg => simp [okC] at hg
  | _ :: _ :: _ :: _ :: _ :: _, hg => simp [okC] at hg
theorem pkw {c t : Nat} (h : pk c = some t) : Cond.selects (Rc c) yX5_pull (mna t) ∈ Big ∧ Cond.instanceMethod (mna t) ∈ Big ∧ Cond.initialized (mna t).cls ∈ Big ∧ t < 211 ∧ c < 13 := by
  obtain ⟨g, hg⟩ := pk_spec h
  match g, hg with
  | [a, b, d, f], hg =>
    simp only [okP, Bool.and_eq_true, decide_eq_true_eq] at hg
    obtain ⟨⟨⟨⟨⟨h1, h2⟩, h3⟩, h4⟩, h5⟩, h6⟩ := hg
    exact ⟨okw_in h1, okw_in h2, okw_in h3, h4, h5⟩
  | [], hg => simp [okP] at hg
  | [_], hg => simp [okP] at hg
  | [_, _], hg => simp [okP] at hg
  | [_, _, _], hg => simp [okP] at hg
  | _ :: _ :: _ :: _ :: _ :: _, hg => simp [okP] at hg
theorem mhg_0 {m : Nat} (h : ¬ 1 ≤ mhg m) : mcl m = 99 := by
  have hm : mhg m = 0 := by omega
  unfold mhg mt at hm
  unfold mcl mt
  rw [List.getD_eq_getElem?_getD] at hm ⊢
  cases hq : mtl[m]? with
  | none => rfl
  | some x =>
    rw [hq] at hm
    have h2 : mtl.all (fun x => decide (x.2.2.2.2.2 ≠ 0)) = true := by decide +kernel
    have h3 := List.all_eq_true.mp h2 x (List.mem_of_getElem? hq)
    simp only [decide_eq_true_eq] at h3
    exact absurd hm h3
theorem ck_99 (i : Nat) : ck 99 i = none := by
  unfold ck
  rw [List.find?_eq_none.mpr]
  · rfl
  · intro x hx
    have h2 : ctl.all (fun e => !(e.1 == 99)) = true := by decide +kernel
    have h3 := List.all_eq_true.mp h2 x hx
    simp at h3
    simp [h3]
theorem mcl_lt {t : Nat} (h : t < 211) : mcl t < 20 := by
  have h9 : (mtl.take 211).all (fun x => decide (x.2.2.2.2.1 < 20)) = true := by decide +kernel
  have hl : (mtl.take 211).length = 211 := by decide +kernel
  have hm : mt t ∈ mtl.take 211 := by
    have e : (mtl.take 211)[t]? = mtl[t]? := by rw [List.getElem?_take, if_pos h]
    have h1 : t < (mtl.take 211).length := by omega
    have h2 := List.getElem_mem h1
    have h3 : mt t = (mtl.take 211)[t] := by
      unfold mt
      rw [List.getD_eq_getElem?_getD, ← e, List.getElem?_eq_getElem h1]
      rfl
    rw [h3]
    exact h2
  have h10 := List.all_eq_true.mp h9 _ hm
  simp only [decide_eq_true_eq] at h10
  exact h10
theorem tg_kind {a : Nat} (h : a < 100) : (tg a).1 < 13 ∨ 20 ≤ (tg a).1 := by
  have hlt : a < lyt.length := by
    have : lyt.length = 100 := by decide
    omega
  have hmem : tg a ∈ lyt := by
    unfold tg
    rw [List.getD_eq_getElem?_getD, List.getElem?_eq_getElem hlt]
    exact List.getElem_mem _
  have h2 : lyt.all (fun x => decide (x.1 < 13 ∨ 20 ≤ x.1)) = true := by decide +kernel
  have h3 := List.all_eq_true.mp h2 _ hmem
  simpa using h3
theorem kind_13 {σ : Sto} {a t : Nat} (h : isA σ a (mcl t) = true) (h100 : σ.1 ≤ 100) (ht : t < 211) : mcl t < 13 := by
  obtain ⟨h1, h2⟩ := isA_spec h
  have h3 := tg_kind (a := a) (by omega)
  have h4 := mcl_lt ht
  omega
section OPS
variable {rec : Rec} {m pc k : Nat} {ls st : Vs} {σ : Sto} {r : Option Value} {σ' : Sto}
theorem goM_spec (hr : OkR rec) {t : Nat} {as rest : Vs} (h : goM rec t as m pc ls rest σ = some (r, σ')) : ∃ (r1 : Option Value) (σ1 : Sto), Gm t 0 (lcs (mml t) as) [] σ r1 σ1 ∧ Gm m (pc + 3) ls (r1.toList ++ rest) σ1 r σ' ∧ rest.length ≤ 4 ∧ (lcv as).length ≤ mml t ∧ mhg t < mhg m := by
  unfold goM at h
  split at h
  · rename_i hc
    cases hq : rec t 0 (lcs (mml t) as) [] σ with
    | none => rw [hq] at h; cases h
    | some q =>
      rw [hq] at h
      exact ⟨q.1, q.2, hr _ _ _ _ _ _ _ hq, hr _ _ _ _ _ _ _ h, hc.1, hc.2.1, hc.2.2⟩
  · cases h
theorem ok_static {t n i : Nat} (hr : OkR rec) (hd : decode (mco m) pc = .ok (.invokestatic i, 3)) (hck : ck (mcl m) i = some (1, t, n)) (hn : n ≤ st.length) (h : goM rec t (pop st n) m pc ls (st.drop n) σ = some (r, σ')) : Gm m pc ls st σ r σ' := by
  obtain ⟨r1, σ1, g1, g2, g3, g4, g5⟩ := goM_spec hr h
  obtain ⟨w1, w2, w3, ht, hp⟩ := ck1 hck
  obtain ⟨k1, k2, k3, k4, k5⟩ := mt_ok (t := t) (by omega)
  refine gm_call g1 g2 g4 g5 ht ?_
  intro b0 D cy av L xs p l e R s mid args below meth c n0 H locs lsx cells slots C hl hW hS hR hf hsz hM
  obtain ⟨hx, hb, hml, hown, hts, hin, hC, hs0, hfr, hlo⟩ := id C
  refine va_runS (As := (pop st n).map (cv b0 av)) ⟨hx, hb, hml, hown, hts⟩ hM (va_cwS n hts (gin (fun w hw => ?_)) rfl rfl rfl ⟨k3, k4, hp⟩ hR) ⟨px_blind, px_at hC hW hS hsz⟩ rfl ?_ hl.1 pop_map (lv_room (Nat.le_trans (cat_le _) (by omega))) hd hf
  · unfold va_wsS wsx at hw
    rcases List.mem_append.mp hw with h | h
    · simp at h
      rcases h with rfl | rfl | rfl
      · exact w1
      · exact w2
      · exact w3
    · rcases List.mem_cons.mp h with rfl | h
      · exact code_in ht
      · exact h
  · unfold pop
    simp
    omega
theorem ok_staticN {t n i : Nat} (hr : OkR rec) (hd : decode (mco m) pc = .ok (.invokestatic i, 3)) (hck : ck (mcl m) i = some (2, t, n)) (hn : n ≤ st.length) (h : goM rec t (pop st n) m pc ls (st.drop n) σ = some (r, σ')) : Gm m pc ls st σ r σ' := by
  obtain ⟨r1, σ1, g1, g2, g3, g4, g5⟩ := goM_spec hr h
  obtain ⟨w2, w3, ht, hp, host, hns⟩ := ck2 hck
  obtain ⟨k1, k2, k3, k4, k5⟩ := mt_ok (t := t) (by omega)
  refine gm_call g1 g2 g4 g5 ht ?_
  intro b0 D cy av L xs p l e R s mid args below meth c n0 H locs lsx cells slots C hl hW hS hR hf hsz hM
  obtain ⟨hx, hb, hml, hown, hts, hin, hC, hs0, hfr, hlo⟩ := id C
  have hnw : va_Nw (.methodLinkNest (Rc (mcl m)) i (mna t) host) s := hC.2.1 (Rc (mcl m), i, t, host) hns
  refine va_runSN (As := (pop st n).map (cv b0 av)) (host := host) ⟨hx, hb, hml, hown, hts⟩ hM ⟨va_cnB n hts (gin (fun w hw => ?_)) rfl rfl rfl hnw (hts _ w3) ⟨k3, k4, hp⟩ hR, hts _ w2, trivial⟩ ⟨px_blind, px_at hC hW hS hsz⟩ rfl ?_ hl.1 pop_map (lv_room (Nat.le_trans (cat_le _) (by omega))) hd hf
  · rcases List.mem_cons.mp hw with rfl | h
    · exact code_in ht
    · exact h
  · unfold pop
    simp
    omega
theorem ok_copy {t n i : Nat} (hr : OkR rec) (hd : decode (mco m) pc = .ok (.invokestatic i, 3)) (hck : ck (mcl m) i = some (8, t, n)) (h : (match st with
    | .int n :: .int dp :: .ref a1 :: .int sp :: .ref a0 :: r => if isA σ a0 20 = true ∧ isA σ a1 20 = true ∧ ¬ sp < 0 ∧ ¬ dp < 0 ∧ ¬ n < 0 ∧ sp.toNatClampNeg + n.toNatClampNeg ≤ (tg a0).2 ∧ dp.toNatClampNeg + n.toNatClampNeg ≤ (tg a1).2 ∧ r.length ≤ 4 then rec m (pc + 3) ls r (cpy σ a0 a1 sp dp n) else none
    | _ => none) = some (r, σ')) : Gm m pc ls st σ r σ' := by
  obtain ⟨w1, w2, w3, w4⟩ := ck8 hck
  split at h
  · rename_i n dp a1 sp a0 r0
    split at h
    · rename_i hc
      obtain ⟨c1, c2, c3, c4, c5, c6, c7, c8⟩ := hc
      obtain ⟨d1, d2⟩ := isA_spec c1
      obtain ⟨e1, e2⟩ := isA_spec c2
      by_cases hmh : 1 ≤ mhg m
      · refine gm_heap (hr _ _ _ _ _ _ _ h) rfl ?_
        intro b0 D cy av L xs p l e R s mid args below meth c0 n0 Z H locs lsx cells slots C hl hW hS k
        obtain ⟨hx, hb, hml, hown, hts, hin, hC, hs0, hfr, hlo⟩ := id C
        rw [List.map_cons, List.map_cons, List.map_cons, List.map_cons, List.map_cons, cv_own (wr_cell hW d1), cv_own (wr_cell hW e1)]
        have hct := cat_le (b0 := b0) (av := av) r0
        refine va_copyi hx hb (hml.trans hl.1.symm) hown (hts _ w1) (hts _ w2) (hts _ w3) (hts _ w4) hC.1 hW.1 (wl_D b0 cy σ) hS a0 a1 0 0 (by rw [wl_get d1, ce_arr d2 (by omega) (by omega)]) (by rw [wl_get e1, ce_arr e2 (by omega) (by omega)]) rfl rfl rfl c3 c4 c5 c6 c7 (fun _ _ => rfl) (by omega) ?_ hd (fun H1 locs1 q1 q2 q3 => k H1 locs1 (wr_set hW.2 e1 rfl ?_ (fun b hb => ce_congr rfl (va_up_ne _ _ hb) rfl) (fun b hb => va_up_ne _ _ hb) (fun b hb => rfl) q1) q3)
        · have e : nativeFrameWords "java/lang/System" "arraycopy" 5 = 7 := by decide
          rw [e]
          omega
        · rw [ce_arr e2 (by omega) (by omega)]
          simp [cpy, va_up]
      · exfalso
        rw [mhg_0 hmh, ck_99] at hck
        cases hck
    · cases h
  · cases h
theorem ok_invokestatic (hr : OkR rec) {i : Nat} (hd : decode (mco m) pc = .ok (.invokestatic i, k)) (h : (if k = 3 then doS rec i m pc ls st σ else none) = some (r, σ')) : Gm m pc ls st σ r σ' := by
  split at h
  · rename_i hk; subst hk
    unfold doS at h
    split at h
    · rename_i t n hck
      split at h
      · rename_i hn
        exact ok_static hr hd hck hn h
      · cases h
    · rename_i t n hck
      split at h
      · rename_i hn
        exact ok_staticN hr hd hck hn h
      · cases h
    · rename_i t n hck
      exact ok_copy hr hd hck h
    · cases h
  · cases h
theorem ok_invokevirtual (hr : OkR rec) {i : Nat} (hd : decode (mco m) pc = .ok (.invokevirtual i, k)) (h : (if k = 3 then doV rec i m pc ls st σ else none) = some (r, σ')) : Gm m pc ls st σ r σ' := by
  split at h
  · rename_i hk; subst hk
    unfold doV at h
    split at h
    · rename_i t n hck
      split at h
      · rename_i a ha
        split at h
        · rename_i hc
          obtain ⟨hc, hn⟩ := hc
          obtain ⟨as, hpop, hal⟩ := pop_cons ha hn
          obtain ⟨r1, σ1, g1, g2, g3, g4, g5⟩ := goM_spec hr h
          obtain ⟨w1, w2, w3, w4, ht, hp⟩ := ck0 hck
          obtain ⟨k1, k2, k3, k4, k5⟩ := mt_ok (t := t) (by omega)
          refine gm_call g1 g2 g4 g5 ht ?_
          intro b0 D cy av L xs p l e R s mid args below meth c n0 H locs lsx cells slots C hl hW hS hR hf hsz hM
          obtain ⟨hx, hb, hml, hown, hts, hin, hC, hs0, hfr, hlo⟩ := id C
          have hrecv : ∃ b : Nat, cv b0 av (.ref a) = .ref b ∧ ∃ cellB : Cell, H[b]? = some cellB ∧ cellB.vm.isStatics = false ∧ s.vm.findClass (mna t).cls = some cellB.cls := by
            rcases hc with hc | ⟨h13, hc1, hc2⟩
            · obtain ⟨ha1, ha2⟩ := isA_spec hc
              refine ⟨b0 + a, cv_own (wr_cell hW ha1), ?_⟩
              have h13 : mcl t < 13 := kind_13 hc hW.2.1 ht
              have := va_recv hC.1 hW.1 (ci := mcl t) (q0 := a) (cl_get _ h13) (by rw [wl_get ha1, ce_obj ha2 h13])
              rw [k1]
              exact this
            · obtain ⟨-, -, -, -, -, -, -, -, -, adK, adV, hE, hRR⟩ := id hC
              obtain ⟨j, rfl⟩ := Nat.exists_eq_add_of_le hc1
              have hc2 : (1010 : Nat) + j < 1015 := hc2
              have hj : j < 5 := by omega
              refine ⟨adK j, ?_, ?_⟩
              · simp only [cv, show ¬ 1010 + j < 1000 by omega, if_false]; exact (hRR j hj).1
              · have := vk_recv hE hj hS
                rw [k1, h13]
                exact this
          obtain ⟨b, hb1, hb2⟩ := hrecv
          have hmap : (pop st (n + 1)).map (cv b0 av) = .ref b :: as.map (cv b0 av) := by rw [hpop, List.map_cons, hb1]
          rw [hmap]
          refine va_runV (C := (mna t).cls) (As := as.map (cv b0 av)) ⟨hx, hb, hml, hown, hts⟩ hM (cwV n hts (gin (fun w hw => ?_)) rfl rfl rfl ⟨rfl, k3, k4, hp⟩ hR) ⟨px_blind, hb2, ?_⟩ rfl (by simp [hal]) hl.1 ?_ (lv_room (Nat.le_trans (cat_le _) (by omega))) hd hf
          · unfold wsV wsx at hw
            rcases List.mem_append.mp hw with h | h
            · simp at h
              rcases h with rfl | rfl | rfl | rfl
              · exact w1
              · exact w2
              · exact w3
              · exact w4
            · rcases List.mem_cons.mp h with rfl | h
              · exact code_in ht
              · exact h
          · rw [← hmap]
            exact px_at hC hW hS hsz
          · show st.map (cv b0 av) = _
            rw [pop_map (n := n + 1), hmap]
            simp
        · cases h
      · cases h
    · rename_i t0 n hck
      split at h
      · rename_i a ha
        split at h
        · rename_i hc
          obtain ⟨ha1, hn⟩ := hc
          split at h
          · rename_i t hpk
            obtain ⟨as, hpop, hal⟩ := pop_cons ha hn
            obtain ⟨r1, σ1, g1, g2, g3, g4, g5⟩ := goM_spec hr h
            obtain ⟨w1, w2, w3, -, hn4⟩ := ck7 hck
            obtain ⟨v1, v2, v3, ht, h13⟩ := pkw hpk
            subst hn4
            obtain ⟨k1, k2, k3, k4, k5⟩ := mt_ok (t := t) (by omega)
            refine gm_call g1 g2 g4 g5 ht ?_
            intro b0 D cy av L xs p l e R s mid args below meth c n0 H locs lsx cells slots C hl hW hS hR hf hsz hM
            obtain ⟨hx, hb, hml, hown, hts, hin, hC, hs0, hfr, hlo⟩ := id C
            have hmap : (pop st (4 + 1)).map (cv b0 av) = .ref (b0 + a) :: as.map (cv b0 av) := by rw [hpop, List.map_cons, cv_own (wr_cell hW ha1)]
            rw [hmap]
            have hcode5 : Cond.code ⟨yX5_pull.cls, yX5_pull.name, yX5_pull.desc⟩ cX5_pull 5 (some .int) ∈ Big := code_in (t := 14) (by decide)
            refine va_runU (C := Rc (tg a).1) (owner := yX5_pull.cls) (x := yX5_pull) (As := as.map (cv b0 av)) ⟨hx, hb, hml, hown, hts⟩ hM (va_cwO 4 hts (gin (fun w hw => ?_)) rfl rfl rfl hcode5 ⟨by decide, by decide, by decide +kernel⟩ hR) ⟨px_blind, va_recv hC.1 hW.1 (ci := (tg a).1) (q0 := a) (cl_get _ h13) (by rw [wl_get ha1, ce_obj rfl h13]), ?_⟩ rfl (by simp [hal]) hl.1 ?_ (lv_room (Nat.le_trans (cat_le _) (by omega))) hd hf
            · unfold va_wsO wsx at hw
              rcases List.mem_append.mp hw with h | h
              · simp at h
                rcases h with rfl | rfl | rfl | rfl | rfl | rfl
                · exact w1
                · exact w2
                · exact w3
                · exact v1
                · exact v2
                · exact v3
              · rcases List.mem_cons.mp h with rfl | h
                · exact code_in ht
                · exact h
            · rw [← hmap]
              exact px_at hC hW hS hsz
            · show st.map (cv b0 av) = _
              rw [pop_map (n := 4 + 1), hmap]
              simp
          · cases h
        · cases h
      · cases h
    · cases h
  · cases h
theorem ok_invokespecial (hr : OkR rec) {i : Nat} (hd : decode (mco m) pc = .ok (.invokespecial i, k)) (h : (if k = 3 then doI rec i m pc ls st σ else none) = some (r, σ')) : Gm m pc ls st σ r σ' := by
  split at h
  · rename_i hk; subst hk
    unfold doI at h
    split at h
    · rename_i t n hck
      split at h
      · rename_i a ha
        split at h
        · rename_i hc
          obtain ⟨ha1, hn⟩ := hc
          obtain ⟨as, hpop, hal⟩ := pop_cons ha hn
          obtain ⟨r1, σ1, g1, g2, g3, g4, g5⟩ := goM_spec hr h
          obtain ⟨w1, w2, w3, ht, hp, hini, hre⟩ := ck3 hck
          obtain ⟨k1, k2, k3, k4, k5⟩ := mt_ok (t := t) (by omega)
          refine gm_call g1 g2 g4 g5 ht ?_
          intro b0 D cy av L xs p l e R s mid args below meth c n0 H locs lsx cells slots C hl hW hS hR hf hsz hM
          obtain ⟨hx, hb, hml, hown, hts, hin, hC, hs0, hfr, hlo⟩ := id C
          have hmap : (pop st (n + 1)).map (cv b0 av) = .ref (b0 + a) :: as.map (cv b0 av) := by rw [hpop, List.map_cons, cv_own (wr_cell hW ha1)]
          rw [hmap]
          refine va_runI (As := as.map (cv b0 av)) ⟨hx, hb, hml, hown, hts⟩ hM (cwI n hts (gin (fun w hw => ?_)) (by unfold wsx; rw [hre]) rfl rfl (hts _ w3) (hts _ w1) (hts _ w2) hini ⟨k3, k4, hp⟩ hR) ⟨px_blind, ?_⟩ rfl (by simp [hal]) hl.1 ?_ (lv_room (Nat.le_trans (cat_le _) (by omega))) hd hf
          · rcases List.mem_cons.mp hw with rfl | h
            · exact code_in ht
            · exact h
          · rw [← hmap]
            exact px_at hC hW hS hsz
          · show st.map (cv b0 av) = _
            rw [pop_map (n := n + 1), hmap]
            simp
        · cases h
      · cases h
    · rename_i t n hck
      split at h
      · rename_i a ha
        split at h
        · rename_i hc
          obtain ⟨ha1, hn⟩ := hc
          obtain ⟨as, hpop, hal⟩ := pop_cons ha hn
          obtain ⟨r1, σ1, g1, g2, g3, g4, g5⟩ := goM_spec hr h
          obtain ⟨w2, w3, ht, hp, ⟨host, hns⟩, hini, hre⟩ := ck4 hck
          obtain ⟨k1, k2, k3, k4, k5⟩ := mt_ok (t := t) (by omega)
          refine gm_call g1 g2 g4 g5 ht ?_
          intro b0 D cy av L xs p l e R s mid args below meth c n0 H locs lsx cells slots C hl hW hS hR hf hsz hM
          obtain ⟨hx, hb, hml, hown, hts, hin, hC, hs0, hfr, hlo⟩ := id C
          have hmap : (pop st (n + 1)).map (cv b0 av) = .ref (b0 + a) :: as.map (cv b0 av) := by rw [hpop, List.map_cons, cv_own (wr_cell hW ha1)]
          rw [hmap]
          have hnw : va_Nw (.methodLinkNest (Rc (mcl m)) i (mna t) host) s := hC.2.1 (Rc (mcl m), i, t, host) hns
          refine va_runIN (As := as.map (cv b0 av)) (host := host) ⟨hx, hb, hml, hown, hts⟩ hM ⟨va_cnB n hts (gin (fun w hw => ?_)) (by unfold wsx; rw [hre]) rfl rfl hnw (hts _ w3) ⟨k3, k4, hp⟩ hR, hini, hts _ w2⟩ ⟨px_blind, ?_⟩ rfl (by simp [hal]) hl.1 ?_ (lv_room (Nat.le_trans (cat_le _) (by omega))) hd hf
          · rcases List.mem_cons.mp hw with rfl | h
            · exact code_in ht
            · exact h
          · rw [← hmap]
            exact px_at hC hW hS hsz
          · show st.map (cv b0 av) = _
            rw [pop_map (n := n + 1), hmap]
            simp
        · cases h
      · cases h
    · rename_i t n hck
      split at h
      · rename_i a ha
        split at h
        · rename_i hc
          obtain ⟨ha1, h13, hn⟩ := hc
          obtain ⟨as, hpop, hal⟩ := pop_cons ha hn
          obtain ⟨r1, σ1, g1, g2, g3, g4, g5⟩ := goM_spec hr h
          obtain ⟨w1, w2, w3, w4, w5, ht, hp, hni⟩ := ck5 hck
          obtain ⟨k1, k2, k3, k4, k5⟩ := mt_ok (t := t) (by omega)
          refine gm_call g1 g2 g4 g5 ht ?_
          intro b0 D cy av L xs p l e R s mid args below meth c n0 H locs lsx cells slots C hl hW hS hR hf hsz hM
          obtain ⟨hx, hb, hml, hown, hts, hin, hC, hs0, hfr, hlo⟩ := id C
          have hmap : (pop st (n + 1)).map (cv b0 av) = .ref (b0 + a) :: as.map (cv b0 av) := by rw [hpop, List.map_cons, cv_own (wr_cell hW ha1)]
          rw [hmap]
          refine va_runSU (C := Rc (tg a).1) (As := as.map (cv b0 av)) (hC.1.1 _ _ (cl_get _ h13)).2 ⟨hx, hb, hml, hown, hts⟩ hM (va_cwSU n hts (gin (fun w hw => ?_)) rfl rfl rfl ⟨hni, hp⟩ hR) ⟨px_blind, va_recv hC.1 hW.1 (ci := (tg a).1) (q0 := a) (cl_get _ h13) (by rw [wl_get ha1, ce_obj rfl h13]), ?_⟩ rfl (by simp [hal]) hl.1 ?_ (lv_room (Nat.le_trans (cat_le _) (by omega))) hd hf
          · unfold va_wsSU wsx at hw
            rcases List.mem_append.mp hw with h | h
            · simp at h
              rcases h with rfl | rfl | rfl | rfl | rfl
              · exact w1
              · exact w2
              · exact w3
              · exact w4
              · exact w5
            · rcases List.mem_cons.mp h with rfl | h
              · exact code_in ht
              · exact h
          · rw [← hmap]
            exact px_at hC hW hS hsz
          · show st.map (cv b0 av) = _
            rw [pop_map (n := n + 1), hmap]
            simp
        · cases h
      · cases h
    · rename_i t n hck
      split at h
      · rename_i a r0
        split at h
        · rename_i hc
          obtain ⟨ha1, hr4⟩ := hc
          obtain ⟨w1, w2, w3⟩ := ck6 hck
          by_cases hmh : 1 ≤ mhg m
          · refine gm_pure (hr _ _ _ _ _ _ _ h) ?_
            intro b0 D cy av L xs p l e R s mid args below meth c0 n0 Z H locs lsx cells slots C hl hW hS k
            obtain ⟨hx, hb, hml, hown, hts, hin, hC, hs0, hfr, hlo⟩ := id C
            rw [List.map_cons, cv_own (wr_cell hW ha1)]
            have hct := cat_le (b0 := b0) (av := av) r0
            exact W.objInit hx hb hown (hts _ w1) (hts _ w2) (hts _ w3) rfl (hl.1.trans hml.symm) rfl hd (by omega) (by have := lv_room (m := mid) (pc := pc) (ls := lsx) (rest := .ref (b0 + a) :: r0.map (cv b0 av)) (st := r0.map (cv b0 av)) (by omega); omega) k
          · exfalso
            rw [mhg_0 hmh, ck_99] at hck
            cases hck
        · cases h
      · cases h
    · cases h
  · cases h
end OPS
