/-! SOUNDNESS, 8: calls -/
theorem lcv_len (b0 : Nat) (av : Nat → Value) (hav : ∀ k, (av k).category = 1) (as : Vs) : (lg_sl (as.map (cv b0 av))).length = (lcv as).length := by
  induction as with
  | nil => rfl
  | cons v vs ih =>
    have e1 : lg_sl ((v :: vs).map (cv b0 av)) = (if (cv b0 av v).category = 2 then [.val (cv b0 av v), .second] else [.val (cv b0 av v)]) ++ lg_sl (vs.map (cv b0 av)) := by simp [lg_sl]
    have e2 : lcv (v :: vs) = lcv [v] ++ lcv vs := by simp [lcv]
    rw [e1, e2, List.length_append, List.length_append, ih]
    congr 1
    cases v with
    | ref a =>
      have : (cv b0 av (.ref a)).category = 1 := by
        unfold cv
        dsimp only
        split
        · rfl
        · exact hav a
      simp [this, lcv]
    | _ => simp [lcv, cv, Value.category]
theorem lcv_get (b0 : Nat) (av : Nat → Value) (hav : ∀ k, (av k).category = 1) (as : Vs) : ∀ (i : Nat) (v : Value), (lcv as)[i]? = some v → v ≠ .null → (lg_sl (as.map (cv b0 av)))[i]? = some (.val (cv b0 av v)) := by
  induction as with
  | nil => intro i v h; simp [lcv] at h
  | cons x vs ih =>
    intro i v h hv
    have e1 : lg_sl ((x :: vs).map (cv b0 av)) = (if (cv b0 av x).category = 2 then [.val (cv b0 av x), .second] else [.val (cv b0 av x)]) ++ lg_sl (vs.map (cv b0 av)) := by simp [lg_sl]
    have e2 : lcv (x :: vs) = lcv [x] ++ lcv vs := by simp [lcv]
    rw [e1]
    rw [e2] at h
    have one : ∀ {l : Vs} {y : Slot} {z : Value}, ([z] ++ l)[i]? = some v → (z = v → y = .val (cv b0 av v)) → (∀ j, i = j + 1 → l[j]? = some v → (lg_sl (vs.map (cv b0 av)))[j]? = some (.val (cv b0 av v))) → ([y] ++ lg_sl (vs.map (cv b0 av)))[i]? = some (.val (cv b0 av v)) := by
      intro l y z h1 h2 h3
      cases i with
      | zero =>
        simp at h1
        simp [h2 h1]
      | succ j =>
        simp at h1
        simp [h3 j rfl h1]
    have hcat : (cv b0 av x).category = 1 → lcv [x] = [x] → ((if (cv b0 av x).category = 2 then [Slot.val (cv b0 av x), Slot.second] else [Slot.val (cv b0 av x)]) ++ lg_sl (vs.map (cv b0 av)))[i]? = some (.val (cv b0 av v)) := by
      intro h1 h2
      rw [h2] at h
      rw [if_neg (by omega)]
      exact one h (fun q => by rw [q]) (fun j hj q => ih j v q hv)
    have hcat2 : (cv b0 av x).category = 2 → ∀ z, lcv [x] = [z, .null] → (z ≠ .null → z = x) → ((if (cv b0 av x).category = 2 then [Slot.val (cv b0 av x), Slot.second] else [Slot.val (cv b0 av x)]) ++ lg_sl (vs.map (cv b0 av)))[i]? = some (.val (cv b0 av v)) := by
      intro h1 z h2 h3
      rw [h2] at h
      rw [if_pos h1]
      match i, h with
      | 0, h =>
        simp at h
        subst h
        simp [h3 hv]
      | 1, h =>
        simp at h
        exact absurd h.symm hv
      | j + 2, h =>
        simp at h
        simp [ih j v h hv]
    cases x with
    | ref a =>
      refine hcat ?_ rfl
      unfold cv
      dsimp only
      split
      · rfl
      · exact hav a
    | int a => exact hcat rfl rfl
    | float a => exact hcat rfl rfl
    | null => exact hcat rfl rfl
    | retAddr a => exact hcat rfl rfl
    | long a => exact hcat2 rfl (.long a) rfl (fun _ => rfl)
    | double a => exact hcat2 rfl .null rfl (fun q => absurd rfl q)
/-- the locals at a method's entry -/
theorem Lr.entry {b0 : Nat} {av : Nat → Value} (hav : ∀ k, (av k).category = 1) {as : Vs} {n : Nat} (hn : (lcv as).length ≤ n) : Lr b0 av ((lg_sl (as.map (cv b0 av)) ++ List.replicate (n - (lg_sl (as.map (cv b0 av))).length) Slot.unset).toArray) n (lcs n as) := by
  have hl := lcv_len b0 av hav as
  have he := lv_entry (as.map (cv b0 av)) (n := n) (by rw [hl]; exact hn)
  refine ⟨he.1, he.2.1, fun i v h hv => ?_⟩
  unfold lcs at h
  by_cases hi : i < (lcv as).length
  · rw [List.getElem?_append_left hi] at h
    have := lcv_get b0 av hav as i v h hv
    simp only [List.getElem?_toArray]
    rw [List.getElem?_append_left (by rw [hl]; exact hi)]
    exact this
  · rw [List.getElem?_append_right (by omega)] at h
    have := List.eq_of_mem_replicate (List.mem_of_getElem? h)
    exact absurd this hv
/-- a method's contract, at one run of the interpreter -/
def Px (b0 : Nat) (D : va_G) (cy : Nat → ClassId) (av : Nat → Value) (L : Nat) (xs : Nat → Int32) (as : Vs) (σ : Sto) : Array Value → State → Prop := va_Pc (as.map (cv b0 av)) (fun U => Cx b0 D cy av L xs U U.heap ∧ Wr b0 D cy L xs σ U.heap ∧ U.heap.size = b0 + σ.1)
def Qx (b0 : Nat) (D : va_G) (cy : Nat → ClassId) (av : Nat → Value) (L : Nat) (xs : Nat → Int32) (r : Option Value) (σ1 : Sto) : Array Value → State → Outcome → State → Prop := fun _ st oc t => oc = .returned (r.map (cv b0 av)) ∧ Wr b0 D cy L xs σ1 t.heap ∧ va_F (fun q => b0 ≤ q) st t
def wsx (t : Nat) : List Cond := .code (mna t) (mco t) (mml t) (mre t) :: Big
def rmx (t : Nat) (σ σ1 : Sto) : Room := { frames := mhg t, cells := σ1.1 - σ.1, slots := ss σ1.1 - ss σ.1, locals := 31 * mhg t }
theorem mt_ok {t : Nat} (h : t < 212) : (mna t).cls = Rc (mcl t) ∧ plainFor (mna t) = true ∧ (mna t).cls ≠ "java/lang/invoke/MethodHandle" ∧ (mna t).cls ≠ "java/lang/invoke/VarHandle" ∧ mml t ≤ 12 := by
  have hl : mtl.length = 212 := by decide +kernel
  have hm : mt t ∈ mtl := by
    unfold mt
    rw [List.getD_eq_getElem?_getD, List.getElem?_eq_getElem (by omega)]
    exact List.getElem_mem _
  have := List.all_eq_true.mp mtl_ok _ hm
  simp only [okM, Bool.and_eq_true, decide_eq_true_eq] at this
  obtain ⟨⟨⟨⟨h1, h2⟩, h3⟩, h4⟩, h5⟩ := this
  exact ⟨h1, h2, h3, h4, h5⟩
theorem code_in {t : Nat} (h : t < 211) : Cond.code (mna t) (mco t) (mml t) (mre t) ∈ Big := by
  have : lw_tbl[cdl.getD t 0]? = some (.code (mna t) (mco t) (mml t) (mre t)) := by
    rcases (show t < 30 ∨ (30 ≤ t ∧ t < 60) ∨ (60 ≤ t ∧ t < 90) ∨ (90 ≤ t ∧ t < 120) ∨ (120 ≤ t ∧ t < 150) ∨ (150 ≤ t ∧ t < 180) ∨ (180 ≤ t ∧ t < 210) ∨ (210 ≤ t ∧ t < 211) by omega) with q | q | q | q | q | q | q | q
    · exact cdl_ok_0 t (Nat.zero_le _) q
    · exact cdl_ok_30 t q.1 q.2
    · exact cdl_ok_60 t q.1 q.2
    · exact cdl_ok_90 t q.1 q.2
    · exact cdl_ok_120 t q.1 q.2
    · exact cdl_ok_150 t q.1 q.2
    · exact cdl_ok_180 t q.1 q.2
    · exact cdl_ok_210 t q.1 q.2
  exact List.mem_filter.mpr ⟨List.mem_of_getElem? this, rfl⟩
theorem met_of {t : Nat} {as : Vs} {σ σ1 : Sto} {r : Option Value} (ht : t < 212) (hg : Gm t 0 (lcs (mml t) as) [] σ r σ1) (hlen : (lcv as).length ≤ mml t) (b0 : Nat) (D : va_G) (cy : Nat → ClassId) (av : Nat → Value) (L : Nat) (xs : Nat → Int32) (l : Launch) :
    Met l (mna t) (wsx t) (rmx t σ σ1) (Px b0 D cy av L xs as σ) (Qx b0 D cy av L xs r σ1) (σ1.1 - σ.1) (ss σ1.1 - ss σ.1) (fun q => b0 ≤ q) := by
  obtain ⟨k1, k2, k3, k4, k5⟩ := mt_ok ht
  refine va_MetF (cc := mco t) (maxL := mml t) (ret := mre t) k2 rfl ?_
  intro p e s m args below meth c s₁ B hml hv
  obtain ⟨rfl, hC, hW, hsz⟩ := hv
  have hav := hC.2.2.2.2.1
  have hts0 := atoms_spec (ws := wsx t) B.pre
  have hts : ∀ w ∈ Big, w.before (as.map (cv b0 av)).toArray s = true := fun w hw => hts0 w (List.mem_cons_of_mem _ hw)
  have hown : s.vm.findClass (mna t).cls = some m.cls := findClass_of_methodNamed B.named
  rw [k1] at hown
  have hname : meth.name = (mna t).name := (name_of_methodNamed B.named B.method).1
  have C : Ctx b0 D cy av L xs t p (headSpec (wsx t) (rmx t σ σ1)).room s m (as.map (cv b0 av)).toArray meth c σ.1 := ⟨B.exec, B.bytes, hml, hown, hts, fun q => by rw [hname]; exact q, hC, hsz, Nat.le_refl _, Nat.le_refl _⟩
  rw [lg_entry_eq]
  have hb2 : σ1.1 ≤ σ.1 + (σ1.1 - σ.1) ∧ ss σ1.1 ≤ ss σ.1 + (ss σ1.1 - ss σ.1) := ⟨by omega, by omega⟩
  have hlocks := B.notSynchronized
  have hx := B.exec
  have hb := B.bytes
  have hr := B.returns
  have hw := hg.2 b0 D cy av L xs p l e (headSpec (wsx t) (rmx t σ σ1)).room s m (as.map (cv b0 av)).toArray below meth c σ.1 (MQ below (Qx b0 D cy av L xs r σ1) (as.map (cv b0 av)).toArray s (σ1.1 - σ.1) (ss σ1.1 - ss σ.1) (fun q => b0 ≤ q)) C s.heap [] _ (Lr.entry hav hlen) hW va_S.rf (Nat.le_refl _) hb2 ?_
  · rw [Nat.sub_self, Nat.sub_self] at hw
    exact hw
  · intro pc1 H1 locs1 lsx1 hW1 hS1 hR
    have hf : ∀ q ∈ locs1, (fun q : Nat => b0 ≤ q) q.base := hS1.2.2
    match r, hR with
    | none, hR => exact W.vret hx hb (by rw [hr]; exact hR.2) (fun u hu _ => ⟨rfl, by rw [hu]; exact hW1, hS1.F hu⟩) hf hR.1 hlocks
    | some (.int x), hR =>
      obtain ⟨h1, ty, h2, h3⟩ := hR
      exact W.zret hx hb (ty := ty) (by rw [hr]; exact h2) h3 (fun u hu _ => ⟨rfl, by rw [hu]; exact hW1, hS1.F hu⟩) hf h1 hlocks
    | some (.long x), hR => exact W.lret hx hb (by rw [hr]; exact hR.2) (fun u hu _ => ⟨rfl, by rw [hu]; exact hW1, hS1.F hu⟩) hf hR.1 hlocks
    | some (.ref x), hR =>
      obtain ⟨h1, h2, h3⟩ := hR
      have e : cv b0 av (.ref x) = .ref (b0 + x) := cv_own h2
      show W _ _ _ _ _ _ _ _ _ _ _ _ _ _ _ (F0 m pc1 lsx1 [cv b0 av (.ref x)])
      rw [e]
      exact W.aret hx hb (rt := .object RX9) (by rw [hr]; exact h3) (Or.inl ⟨_, rfl⟩) (Or.inr ⟨_, rfl⟩) (fun u hu _ => ⟨by rw [← e]; rfl, by rw [hu]; exact hW1, hS1.F hu⟩) hf h1 hlocks
/-- behind a call -/
theorem call_on {p : Program} {l : Launch} {e : Env} {R : Room} {s : State} {m : MethodId} {args : Array Value} {below : List Frame} {meth : Method} {c : Code} {H : Heap} {locs : List Loc} {cells slots mc ms : Nat} {Q : State → Prop} {pc : Nat} {ls : Array Slot} {rest st0 : List Value} {a : Array Value} {b0 : Nat} {D : va_G} {cy : Nat → ClassId} {av : Nat → Value} {L : Nat} {xs : Nat → Int32} {r : Option Value} {σ1 : Sto}
    (hr : va_Run p l e R s m args below meth c H locs cells slots mc ms (F0 m pc ls st0) rest (Qx b0 D cy av L xs r σ1 a) (fun q => b0 ≤ q)) (hS : va_S (fun q => b0 ≤ q) s.heap H locs)
    (kk : ∀ (H1 : Heap) (locs1 : List Loc), Wr b0 D cy L xs σ1 H1 → va_S (fun q => b0 ≤ q) s.heap H1 locs1 → W p l e R s m args below meth c H1 locs1 (cells + mc) (slots + ms) Q (F0 m (pc + 3) ls ((r.map (cv b0 av)).toList ++ rest))) : W p l e R s m args below meth c H locs cells slots Q (F0 m pc ls st0) := by
  intro T hT X
  obtain ⟨v, st₀, t, T', L, h0, X', hL, e1, e2, ⟨hv, hb, hz, hk⟩, st⟩ := hr T hT X
  cases hv
  rw [h0] at hz hk
  obtain ⟨t2, a1, b1⟩ := kk T'.heap (locs ++ L) (by rw [e1]; exact hb)
    ⟨Nat.le_trans hS.1 (by rw [e1]; exact hz), fun q h1 h2 => by rw [e1, hk q (Nat.lt_of_lt_of_le h1 hS.1) h2]; exact hS.2.1 q h1 h2, fun q hq => by
      rcases List.mem_append.mp hq with h | h
      · exact hS.2.2 q h
      · exact hL q h⟩ T' rfl X'
  exact ⟨t2, st t2 a1, b1⟩
theorem px_blind {b0 : Nat} {D : va_G} {cy : Nat → ClassId} {av : Nat → Value} {L : Nat} {xs : Nat → Int32} {as : Vs} {σ : Sto} : FrameBlind (Px b0 D cy av L xs as σ) := by
  intro a U g mk h
  obtain ⟨h1, h2, h3, h4⟩ := h
  exact ⟨h1, h2.next (U := U.calling g mk a) (State.WarmedH.refl U) (fun _ _ _ => rfl), h3, h4⟩
theorem px_at {b0 : Nat} {D : va_G} {cy : Nat → ClassId} {av : Nat → Value} {L : Nat} {xs : Nat → Int32} {as : Vs} {σ : Sto} {s : State} {H : Heap} {locs : List Loc} (hC : Cx b0 D cy av L xs s s.heap) (hW : Wr b0 D cy L xs σ H) (hS : va_S (fun q => b0 ≤ q) s.heap H locs) (hsz : H.size = b0 + σ.1) : ∀ U : State, U.heap = H → s.WarmedH U.vm → Px b0 D cy av L xs as σ (as.map (cv b0 av)).toArray U := by
  intro U hU hw
  refine ⟨rfl, ?_, by rw [hU]; exact hW, by rw [hU]; exact hsz⟩
  rw [hU]
  exact hC.next hw hS.2.1
theorem gin {l : List Cond} (h : ∀ w ∈ l, w ∈ Big) : GoodIn Big l := fun w hw => ⟨h w hw, (big_good w (h w hw)).2⟩
theorem pop_map {b0 : Nat} {av : Nat → Value} {st : Vs} {n : Nat} : st.map (cv b0 av) = ((pop st n).map (cv b0 av)).reverse ++ (st.drop n).map (cv b0 av) := by
  unfold pop
  rw [List.map_reverse, List.reverse_reverse, ← List.map_append, List.take_append_drop]
theorem pop_cons {st : Vs} {n : Nat} {v : Value} (h : lget (pop st (n + 1)) 0 = v) (hn : n < st.length) : ∃ as, pop st (n + 1) = v :: as ∧ as.length = n := by
  have hl : (pop st (n + 1)).length = n + 1 := by
    unfold pop
    rw [List.length_reverse, List.length_take]
    omega
  cases hp : pop st (n + 1) with
  | nil => rw [hp] at hl; cases hl
  | cons w as =>
    rw [hp] at h hl
    refine ⟨as, ?_, by simpa using hl⟩
    have : w = v := by simpa [lget] using h
    rw [this]
theorem cat_le {b0 : Nat} {av : Nat → Value} (l : Vs) : ((l.map (cv b0 av)).map fun v => v.category).sum ≤ 2 * l.length := by
  induction l with
  | nil => simp
  | cons v vs ih =>
    rw [List.map_cons, List.map_cons, List.sum_cons, List.length_cons]
    have := lv_cat (cv b0 av v)
    omega
/-- the heap's size, by the count of cells -/
theorem W.sz {p : Program} {l : Launch} {e : Env} {R : Room} {s : State} {m : MethodId} {args : Array Value} {below : List Frame} {meth : Method} {c : Code} {H : Heap} {locs : List Loc} {cells slots : Nat} {Q : State → Prop} {g : JFrame} (h : H.size ≤ s.heap.size + cells → W p l e R s m args below meth c H locs cells slots Q g) : W p l e R s m args below meth c H locs cells slots Q g := fun T hT X => h (by rw [← hT]; exact X.heapSize) T hT X
theorem wr_ge {b0 : Nat} {D : va_G} {cy : Nat → ClassId} {L : Nat} {xs : Nat → Int32} {σ : Sto} {s : State} {H : Heap} {n0 : Nat} (hW : Wr b0 D cy L xs σ H) (hs : s.heap.size = b0 + n0) (hle : s.heap.size ≤ H.size) : b0 + σ.1 ≤ H.size := by
  by_cases h : σ.1 = 0
  · omega
  · have := (hW.1 (σ.1 - 1) _ (wl_get (by omega))).lt
    dsimp only at this
    omega
