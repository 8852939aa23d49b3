/-! THE CLAIM OUT OF ONE WALK OF THE LAW'S BODY. Your part is whole_start (and what it stands on); all else here is the same for every law, but numbers. -/
def R_law : String := "YearStretchLaw"
def lw_P (b : Addr) (xs : List Int32) (args : Array Value) (s : State) : Prop := args = #[.ref b] ∧ s.IntsAt b xs ∧ xs.length ≤ 256 ∧ (Jvm.Cond.and given_1 narrow_1).before args s = true
def lw_Q (_ : Array Value) (s : State) (o : Outcome) (t : State) : Prop := o = .returned (some (.int 1)) ∧ Framed s o t [] 600000 7302250
def lw_Z (below : List Frame) (a : Array Value) (s : State) : State → Prop := fun t => ∃ o, t.status = .running ∧ Ended t below o ∧ lw_Q a s o t
/-- the law's own end, with 1 on the stack, nothing written that was there before, its room as the claim has it -/
theorem lw_ret {p : Program} {l : Launch} {e : Env} {s : State} {m : MethodId} {below : List Frame} {meth : Method} {c : Code} {b : Nat} (hx : p.tables.exec = Jvm.exec) (hb : c.code = code) (hr : meth.sig.returnType = ret) (hlocks : meth.locks = false) {pc : Nat} {H : Heap} {ls : Array Slot} (hdg : decode code pc = .ok (.ireturn, 1)) : W p l e room_1 s m #[Value.ref b] below meth c H [] 600000 7302250 (lw_Z below #[Value.ref b] s) (F0 m pc ls [.int 1]) := by
  intro T hT X
  obtain ⟨fs, hret, hrun, hended, hW, hframe⟩ := X.leave (v := some (.int 1)) (hlocks := hlocks) (fun h => by rw [hr] at h; cases h)
  have hmeth' : T.vm.method? m = some meth := X.method'
  refine ⟨T.setFrames fs, ?_, .returned (some (.int 1)), hrun, hended, rfl, ⟨_, rfl⟩, hW, hframe⟩
  jvm_step X.here [X.here.top, hx, hb, hdg, hmeth', hr, ret, narrow_b1]
  (try refine ⟨rfl, ?_⟩); (try refine ⟨rfl, ?_⟩)
  first | (intro acts; rw [hret _ acts rfl rfl rfl]) | rw [hret _ _ rfl rfl rfl]
  exact Steps.refl _
/-- what holds at the law's entry: the machine, the code, the tables' words (any of lw_tbl by 'hts w (by decide +kernel)'), the script of L ints xs at the cell b, what the Statement gives of the start (any of its parts by flat_of_before) -/
def lw_At (p : Program) (s : State) (m : MethodId) (meth : Method) (c : Code) (b L : Nat) (xs : Nat → Int32) : Prop :=
  p.tables.exec = Jvm.exec ∧ c.code = code ∧ meth.sig.returnType = ret ∧ c.maxLocals = 4 ∧ s.vm.findClass R_law = some m.cls ∧ (∀ w ∈ lw_tbl, w.before #[Value.ref b] s = true) ∧ va_X b L xs s s.heap ∧ b < s.heap.size ∧ meth.locks = false ∧ (Jvm.Cond.and given_1 narrow_1).before #[Value.ref b] s = true
/-! THE START: what the Statement gives, and the law out of a run of the interpreter -/
def s00 (L : Nat) (xs : Nat → Int32) : Sto := (0, fun _ _ => false, fun a => if a = 999 then (fun _ => nI L) else if a = 1000 then xs else fun _ => 0, fun _ _ => 0)
theorem arrT {s : State} {ty : FieldType} {c : ClassId} {k : Class} {comp : ClassId} (h2 : s.vm.classes[c]? = some k) (h3 : k.kind = .array comp ty) : ArrOfT s c ty := fun n z => ⟨fun q h => (by cases h), k, h2, comp, h3⟩
theorem in_tbl_nest : nsl.all (fun q => decide (Cond.methodLinkNest q.1 q.2.1 (mna q.2.2.1) q.2.2.2 ∈ lw_tbl)) = true := by decide +kernel
theorem in_tbl_cast : ([0, 1, 2, 3, 8] : List Nat).all (fun c => decide (Cond.castable (Rc c) RX5 ∈ lw_tbl)) = true := by decide +kernel
theorem in_tbl_inst : (List.range 13).all (fun c => decide (Cond.instantiable (Rc c) (nf c) ∈ lw_tbl)) = true := by decide +kernel
theorem in_tbl_over : (decide (Cond.arrayOver (.object RX5) ∈ lw_tbl) && decide (Cond.arrayOver (.object RX9) ∈ lw_tbl) && decide (Cond.arrayOver (.array .int) ∈ lw_tbl)) = true := by decide +kernel
theorem in_tbl_stat : ([1, 1001, 1002, 1003, 2000] : List Nat).all (fun w => decide (Cond.laysStatic (stn w).1 (stn w).2.1 (stn w).2.2 ∈ lw_tbl) && decide (Cond.initialized (stn w).1 ∈ lw_tbl)) = true := by decide +kernel
theorem in_tbl_str : sti.all (fun q => decide (Cond.stringRef RX6 q.1 q.2 ∈ lw_tbl)) = true := by decide +kernel
/-- what the Statement says of the start, flat -/
def nrw : List Cond := flatC (Jvm.Cond.and given_1 narrow_1)
theorem in_nrw_cs : Cond.eq (.static "java/lang/String" "COMPACT_STRINGS" "Z") (.int 1) ∈ nrw := by decide +kernel
theorem in_nrw_sf : Cond.isRef (.static "jdk/internal/util/Preconditions" "SIOOBE_FORMATTER" "Ljava/util/function/BiFunction;") ∈ nrw := by decide +kernel
theorem in_nrw_ot : (List.range 3).all (fun j => decide (Cond.arrayOf (.static RX6 (stn (1001 + j)).2.1 "[I") .int ∈ nrw) && decide (Cond.eq (.length (.static RX6 (stn (1001 + j)).2.1 "[I")) (.int (Int32.ofNat (otb.getD j []).length)) ∈ nrw) && (List.range (otb.getD j []).length).all (fun i => decide (Cond.eq (.elem (.static RX6 (stn (1001 + j)).2.1 "[I") (.int (Int32.ofNat i))) (.int ((otb.getD j []).getD i 0)) ∈ nrw))) = true := by decide +kernel
def stm (j : Nat) : Term := .string RX6 (sti.getD j (0, "")).1
theorem in_nrw_st : (List.range 5).all (fun j => decide (Cond.exactly (stm j) "java/lang/String" ∈ nrw) && decide (Cond.eq (.field (stm j) "java/lang/String" "coder" "B") (.int 0) ∈ nrw) && decide (Cond.arrayOf (.field (stm j) "java/lang/String" "value" "[B") .byte ∈ nrw) && decide (Cond.eq (.length (.field (stm j) "java/lang/String" "value" "[B")) (.int (Int32.ofNat (sln.getD j 0))) ∈ nrw) && (List.range (sln.getD j 0)).all (fun i => decide (Cond.eq (.elem (.field (stm j) "java/lang/String" "value" "[B") (.int (Int32.ofNat i))) (.int ((stb.getD j []).getD i 0)) ∈ nrw))) = true := by decide +kernel
theorem in_nrw_ne : (List.range 5).all (fun i => (List.range 5).all (fun j => decide (i = j) || decide (Cond.not (Cond.eq (stm i) (stm j)) ∈ nrw) || decide (Cond.not (Cond.eq (stm j) (stm i)) ∈ nrw))) = true := by decide +kernel
theorem all5 {P : Nat → Bool} {n j : Nat} (h : (List.range n).all P = true) (hj : j < n) : P j = true := List.all_eq_true.mp h j (List.mem_range.mpr hj)
set_option maxHeartbeats 4000000 in
theorem start_cx {p : Program} {s : State} {m : MethodId} {meth : Method} {c : Code} {b L : Nat} {xs : Nat → Int32} (hL : L ≤ 256) (C0 : lw_At p s m meth c b L xs) : ∃ (D : va_G) (cy : Nat → ClassId) (av : Nat → Value), av 1000 = .ref b ∧ Cx s.heap.size D cy av L xs s s.heap := by
  obtain ⟨hx, hb, hr, hml, hown, hts, hX, hbl, hlocks, hgv⟩ := id C0
  have hA : ∀ a : Nat, a < s.heap.size → ¬ s.heap.size ≤ a := fun a h => Nat.not_le.mpr h
  have hn : ∀ w ∈ nrw, w.before #[Value.ref b] s = true := flat_of_before _ hgv
  -- classes
  have hK0 : ∀ k, k < 13 → ∃ q : ClassId × (Nat → Nat), u_Kn s (Rc k) (Tc k) (nf k) q.1 q.2 := by
    intro k hk
    have h1 := all5 in_tbl_inst hk
    simp only [decide_eq_true_eq] at h1
    obtain ⟨c0, i0, h⟩ := u_known (C := Rc k) (T := Tc k) (N := nf k) (n := nf k) hts (fun w hw => (List.mem_filter.mp (lay_in k hk w hw)).1) (hts _ h1)
    exact ⟨(c0, i0), h⟩
  have hK1 : ∀ k : Nat, ∃ q : ClassId × (Nat → Nat), k < 13 → u_Kn s (Rc k) (Tc k) (nf k) q.1 q.2 := by
    intro k
    by_cases hk : k < 13
    · obtain ⟨q, hq⟩ := hK0 k hk
      exact ⟨q, fun _ => hq⟩
    · exact ⟨((0 : Nat), fun _ => 0), fun h => absurd h hk⟩
  obtain ⟨dq, hdq⟩ := Classical.axiomOfChoice hK1
  -- arrays' classes
  have hov := in_tbl_over
  simp only [Bool.and_eq_true, decide_eq_true_eq] at hov
  obtain ⟨⟨ov1, ov2⟩, ov3⟩ := hov
  obtain ⟨a1, a2, a3⟩ := arr_in
  have tb : ∀ w ∈ Big, w.before #[Value.ref b] s = true := big_hts hts
  obtain ⟨c20, k20, m20, f20, g20, h20⟩ := Cond.arrayClass_spec (tb _ a1)
  obtain ⟨c21, k21, m21, f21, g21, h21⟩ := Cond.arrayClass_spec (tb _ a2)
  obtain ⟨c22, k22, m22, f22, g22, h22⟩ := Cond.arrayClass_spec (tb _ a3)
  obtain ⟨m23, c23, k23, e23, -, g23, h23, f23⟩ := Cond.arrayOver_spec (hts _ ov1)
  obtain ⟨m24, c24, k24, e24, -, g24, h24, f24⟩ := Cond.arrayOver_spec (hts _ ov2)
  obtain ⟨m25, c25, k25, e25, -, g25, h25, f25⟩ := Jvm.Stand.arrayOver_specB (hts _ ov3)
  obtain ⟨cy, hcy⟩ : ∃ cy : Nat → ClassId, cy = fun k => if k = 20 then c20 else if k = 21 then c21 else if k = 22 then c22 else if k = 23 then c23 else if k = 24 then c24 else c25 := ⟨_, rfl⟩
  have y20 : cy 20 = c20 := by simp [hcy]
  have y21 : cy 21 = c21 := by simp [hcy]
  have y22 : cy 22 = c22 := by simp [hcy]
  have y23 : cy 23 = c23 := by simp [hcy]
  have y24 : cy 24 = c24 := by simp [hcy]
  have y25 : cy 25 = c25 := by simp [hcy]
  have hK : va_K (fun k => (dq k).1, fun k => (dq k).2) vwCl (tyl cy) s := by
    refine ⟨fun k q hq => ?_, fun k q hq => ?_⟩
    · have hk : k < 13 := by
        have := (List.getElem?_eq_some_iff.mp hq).1
        simpa [vwCl] using this
      rw [cl_get k hk] at hq
      cases hq
      exact hdq k hk
    · have hk : k < 6 := by
        have := (List.getElem?_eq_some_iff.mp hq).1
        simpa [tyl] using this
      match k, hk, hq with
      | 0, _, hq => cases hq; rw [y20]; exact ⟨arrT g20 h20, f20⟩
      | 1, _, hq => cases hq; rw [y21]; exact ⟨arrT g21 h21, f21⟩
      | 2, _, hq => cases hq; rw [y22]; exact ⟨arrT g22 h22, f22⟩
      | 3, _, hq => cases hq; rw [y23]; exact ⟨arrT g23 h23, k23, m23, g23, h23, e23, f23⟩
      | 4, _, hq => cases hq; rw [y24]; exact ⟨arrT g24 h24, k24, m24, g24, h24, e24, f24⟩
      | 5, _, hq => cases hq; rw [y25]; exact ⟨arrT g25 h25, f25⟩
  -- statics
  have hst := fun w (hw : w ∈ ([1, 1001, 1002, 1003, 2000] : List Nat)) => List.all_eq_true.mp in_tbl_stat w hw
  have lay : ∀ w ∈ ([1, 1001, 1002, 1003, 2000] : List Nat), (Cond.laysStatic (stn w).1 (stn w).2.1 (stn w).2.2).before #[Value.ref b] s = true ∧ (Cond.initialized (stn w).1).before #[Value.ref b] s = true := fun w hw => by
    have := hst w hw
    simp only [Bool.and_eq_true, decide_eq_true_eq] at this
    exact ⟨hts _ this.1, hts _ this.2⟩
  have hZ1 : va_Z "java/lang/String" "COMPACT_STRINGS" "Z" (.int 1) (fun q => s.heap.size ≤ q) s s.heap := va_Zof (lay 1 (by simp)).1 (lay 1 (by simp)).2 (va_eqi (hn _ in_nrw_cs)) hA
  obtain ⟨vF, hvF, hZF⟩ : ∃ v : Value, v.category = 1 ∧ va_Z "jdk/internal/util/Preconditions" "SIOOBE_FORMATTER" "Ljava/util/function/BiFunction;" v (fun q => s.heap.size ≤ q) s s.heap := by
    rcases va_Zqof (A := fun q => s.heap.size ≤ q) (lay 2000 (by simp)).1 (lay 2000 (by simp)).2 (hn _ in_nrw_sf) hA with h | ⟨t, h⟩
    · exact ⟨.null, rfl, h⟩
    · exact ⟨.ref t, rfl, h⟩
  have hT1 : ∀ j : Nat, ∃ t : Nat, j < 3 → va_Z RX6 (stn (1001 + j)).2.1 "[I" (.ref t) (fun q => s.heap.size ≤ q) s s.heap ∧ va_T .int t (otb.getD j []).length (fun i => .int ((otb.getD j []).getD i 0)) (fun q => s.heap.size ≤ q) s s.heap := by
    intro j
    by_cases hj : j < 3
    · have h := all5 in_nrw_ot hj
      simp only [Bool.and_eq_true, decide_eq_true_eq, List.all_eq_true, List.mem_range] at h
      obtain ⟨⟨q1, q2⟩, q3⟩ := h
      have hlen : (otb.getD j []).length < 2 ^ 31 := by
        have : ∀ j, j < 3 → (otb.getD j []).length < 2 ^ 31 := by decide
        exact this j hj
      obtain ⟨t, ht, hT⟩ := va_Tof (A := fun q => s.heap.size ≤ q) (f := fun i => .int ((otb.getD j []).getD i 0)) hlen (hn _ q1) (va_eqt (hn _ q2)) (fun i hi => va_eqt (hn _ (q3 i hi))) hA
      refine ⟨t, fun _ => ⟨?_, hT⟩⟩
      have hl := lay (1001 + j) (by rcases (show j = 0 ∨ j = 1 ∨ j = 2 by omega) with rfl | rfl | rfl <;> simp)
      have e1 : (stn (1001 + j)).1 = RX6 ∧ (stn (1001 + j)).2.2 = "[I" := by
        rcases (show j = 0 ∨ j = 1 ∨ j = 2 by omega) with rfl | rfl | rfl <;> exact ⟨rfl, rfl⟩
      rw [e1.1, e1.2] at hl
      exact va_Zof hl.1 hl.2 ht hA
    · exact ⟨0, fun h => absurd h hj⟩
  obtain ⟨dt, hdt⟩ := Classical.axiomOfChoice hT1
  -- texts
  have hs5 : ∀ j, j < 5 → (Cond.exactly (stm j) "java/lang/String" ∈ nrw ∧ Cond.eq (.field (stm j) "java/lang/String" "coder" "B") (.int 0) ∈ nrw ∧ Cond.arrayOf (.field (stm j) "java/lang/String" "value" "[B") .byte ∈ nrw ∧ Cond.eq (.length (.field (stm j) "java/lang/String" "value" "[B")) (.int (Int32.ofNat (sln.getD j 0))) ∈ nrw ∧ ∀ i, i < sln.getD j 0 → Cond.eq (.elem (.field (stm j) "java/lang/String" "value" "[B") (.int (Int32.ofNat i))) (.int ((stb.getD j []).getD i 0)) ∈ nrw) := by
    intro j hj
    have h := all5 in_nrw_st hj
    simp only [Bool.and_eq_true, decide_eq_true_eq, List.all_eq_true, List.mem_range] at h
    obtain ⟨⟨⟨⟨q1, q2⟩, q3⟩, q4⟩, q5⟩ := h
    exact ⟨q1, q2, q3, q4, q5⟩
  have hsl5 : ∀ i : Nat, i < 5 → sln.getD i 0 < 2 ^ 31 := by decide
  obtain ⟨adK, adV, hS, hev⟩ := vk_Sof (A := fun q => s.heap.size ≤ q) (args := #[Value.ref b]) (s := s) (N := 5) (tm := stm) (len := sln) (byt := stb) hsl5 (fun i hi => hn _ (hs5 i hi).1) (fun i hi => hn _ (hs5 i hi).2.1) (fun i hi => hn _ (hs5 i hi).2.2.1) (fun i hi => hn _ (hs5 i hi).2.2.2.1) (fun i hi j hj => hn _ ((hs5 i hi).2.2.2.2 j hj))
    (fun i j hi hj hne => by
      have h := all5 (all5 in_nrw_ne hi) hj
      simp only [Bool.or_eq_true, decide_eq_true_eq] at h
      rcases h with (h | h) | h
      · exact absurd h hne
      · exact Or.inl (hn _ h)
      · exact Or.inr (hn _ h)) hA
  -- the script
  obtain ⟨scr, x1, x2, x3, x4, x5⟩ := hX
  have hTs : va_T .int b L (fun i => .int (xs i)) (fun q => s.heap.size ≤ q) s s.heap := ⟨scr, x1, x2, x3, by omega, by rw [x4], x5, hA b hbl⟩
  refine ⟨(fun k => (dq k).1, fun k => (dq k).2), cy, fun k => if k = 1000 then .ref b else if k < 1004 then .ref (dt (k - 1001)) else if k < 1015 then .ref (adK (k - 1010)) else if k < 1025 then .ref (adV (k - 1020)) else vF, by simp, hK, ?_, ⟨hts _ ov1, hts _ ov2, hts _ ov3⟩, ?_, ?_, hZ1, ?_, ?_, ⟨b, by simp, by omega, hTs⟩, adK, adV, hS, ?_⟩
  · intro q hq
    have h := List.all_eq_true.mp in_tbl_nest q hq
    simp only [decide_eq_true_eq] at h
    exact va_Nw.of rfl (hts _ h)
  · intro k hk
    have h := List.all_eq_true.mp in_tbl_cast k (by simp; omega)
    simp only [decide_eq_true_eq] at h
    exact va_Nw.of rfl (hts _ h)
  · intro k
    dsimp only
    split
    · rfl
    · split
      · rfl
      · split
        · rfl
        · split
          · rfl
          · exact hvF
  · simpa using hZF
  · intro j hj
    have h := hdt j hj
    refine ⟨dt j, ?_, h.1, h.2⟩
    dsimp only
    rw [if_neg (by omega), if_pos (by omega), show 1001 + j - 1001 = j by omega]
  · intro j hj
    refine ⟨?_, ?_, ?_⟩
    · dsimp only
      rw [if_neg (by omega), if_neg (by omega), if_pos (by omega), show 1010 + j - 1010 = j by omega]
    · dsimp only
      rw [if_neg (by omega), if_neg (by omega), if_neg (by omega), if_pos (by omega), show 1020 + j - 1020 = j by omega]
    · have hmem : sti.getD j (0, "") ∈ sti := by
        have hl : sti.length = 5 := by decide
        rw [List.getD_eq_getElem?_getD, List.getElem?_eq_getElem (by omega)]
        exact List.getElem_mem _
      have h := List.all_eq_true.mp in_tbl_str _ hmem
      simp only [decide_eq_true_eq] at h
      have h1 := hev j hj
      exact vk_R.of (hts _ h) h1
set_option maxRecDepth 100000 in
theorem law_ret {p : Program} {e : Env} {s : State} {m : MethodId} {below : List Frame} {meth : Method} {c : Code} (l : Launch) {b L : Nat} {xs : Nat → Int32} (hL : L ≤ 256) (C0 : lw_At p s m meth c b L xs) {f : Nat} {σ' : Sto} (hrun : run f 211 0 [.ref 1000, .null, .null, .null] [] (s00 L xs) = some (some (.int 1), σ')) (h100 : σ'.1 ≤ 100) : W p l e room_1 s m #[Value.ref b] below meth c s.heap [] 0 0 (lw_Z below #[Value.ref b] s) (entryFrame m ([Value.ref b] : List Value).toArray 4) := by
  obtain ⟨D, cy, av, hav, hC⟩ := start_cx hL C0
  obtain ⟨hx, hb, hr, hml, hown, hts, hX, hbl, hlocks, hgv⟩ := id C0
  have hg := snd f _ _ _ _ _ _ _ hrun
  have C : Ctx s.heap.size D cy av L xs 211 p room_1 s m #[Value.ref b] meth c 0 := ⟨hx, hb, hml, hown, big_hts hts, fun q => absurd q (by decide), hC, by omega, by decide, by decide⟩
  have e0 : ([Value.ref b] : List Value) = ([.ref 1000] : Vs).map (cv s.heap.size av) := by
    show _ = [cv s.heap.size av (.ref 1000)]
    rw [show cv s.heap.size av (.ref 1000) = av 1000 from rfl, hav]
  rw [lg_entry_eq]
  have hl : Lr s.heap.size av ((lg_sl ([Value.ref b] : List Value) ++ List.replicate (4 - (lg_sl ([Value.ref b] : List Value)).length) Slot.unset).toArray) (mml 211) [.ref 1000, .null, .null, .null] := by
    have := Lr.entry (b0 := s.heap.size) (av := av) hC.2.2.2.2.1 (as := [.ref 1000]) (n := 4) (by decide)
    rw [← e0] at this
    exact this
  have hss : ss 100 ≤ 7302250 := by decide +kernel
  have er1 : room_1.cells = 600000 := rfl
  have er2 : room_1.slots = 7302250 := rfl
  have h3 := ss_mono h100
  have hW0 : Wr s.heap.size D cy L xs (s00 L xs) s.heap := by
    refine ⟨fun k q h => ?_, Nat.zero_le _, ?_, ?_⟩
    · have : (wl s.heap.size cy (s00 L xs))[k]? = none := List.getElem?_eq_none (Nat.zero_le _)
      rw [this] at h
      cases h
    · show (if (999 : Nat) = 999 then (fun _ => nI L) else if (999 : Nat) = 1000 then xs else fun _ => 0) 0 = nI L
      rw [if_pos rfl]
    · show (if (1000 : Nat) = 999 then (fun _ => nI L) else if (1000 : Nat) = 1000 then xs else fun _ => 0) = xs
      rw [if_neg (by omega), if_pos rfl]
  have hw := hg.2 s.heap.size D cy av L xs p l e room_1 s m #[Value.ref b] below meth c 0 (lw_Z below #[Value.ref b] s) C s.heap [] _ hl hW0 va_S.rf (Nat.zero_le _) ⟨by omega, by omega⟩ ?_
  · exact hw
  · intro pc1 H1 locs1 lsx1 hW1 hS1 hR
    obtain ⟨h1, ty, h2, h4⟩ := hR
    refine va_forget hS1.2.2 ?_
    refine W.widen (k := 600000) (n := 7302250) (by omega) (by omega) ?_
    exact lw_ret hx hb hr hlocks h1
