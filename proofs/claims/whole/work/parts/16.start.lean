/-! THE CLAIM OUT OF ONE WALK OF THE LAW'S BODY. Your part is whole_start (and what it stands on); all else here is the same for every law, but numbers. -/
def R_law : String := "YearStretchLaw"
def lw_P (b : Addr) (xs : List Int32) (args : Array Value) (s : State) : Prop := args = #[.ref b] ∧ s.IntsAt b xs ∧ xs.length ≤ 256 ∧ (Jvm.Cond.and given_1 narrow_1).before args s = true
def lw_Q (_ : Array Value) (s : State) (o : Outcome) (t : State) : Prop := o = .returned (some (.int 1)) ∧ Framed s o t [] 600000 7302250
def lw_Z (below : List Frame) (a : Array Value) (s : State) : State → Prop := fun t => ∃ o, t.status = .running ∧ Ended t below o ∧ lw_Q a s o t
/-- the law's own end, with 1 on the stack, nothing written that was there before, its room as the claim has it -/
theorem lw_ret {p : Program} {l : Launch} {e : Env} {s : State} {m : MethodId} {below : List Frame} {meth : Method} {c : Code} {b : Nat} (hx : p.tables.exec = Jvm.exec) (hb : c.code = code) (hr : meth.sig.returnType = ret) (hlocks : meth.locks = false) {pc : Nat} {H : Heap} {ls : Array Slot} (hdg : decode code pc = .ok (.ireturn, 1)) : W p l e room_1 s m #[Value.ref b] below meth c H [] 600000 7302250 (lw_Z below #[Value.ref b] s) (F0 m pc ls [.int 1]) := by
  intro T hT X
  obtain ⟨fs, hret, hrun, hended, hW, hframe⟩ := X.leave (v := some (.int 1)) (hlocks := hlocks) (fun h => by rw [hr] at h; cases h)
  have hmeth' : T.vm.method? m = some meth := X.method'
  refine ⟨T.setFrames fs, ?_, .returned (some (.int 1)), hrun, hended, rfl, ⟨_, rfl⟩, hW, hframe⟩
  jvm_step X.here [X.here.top, hx, hb, hdg, hmeth', hr, ret, narrow_b1]
  (try refine ⟨rfl, ?_⟩); (try refine ⟨rfl, ?_⟩)
  first | (intro acts; rw [hret _ acts rfl rfl rfl]) | rw [hret _ _ rfl rfl rfl]
  exact Steps.refl _
/-- what holds at the law's entry: the machine, the code, the tables' words (any of lw_tbl by 'hts w (by decide +kernel)'), the script of L ints xs at the cell b, what the Statement gives of the start (any of its parts by flat_of_before) -/
def lw_At (p : Program) (s : State) (m : MethodId) (meth : Method) (c : Code) (b L : Nat) (xs : Nat → Int32) : Prop :=
  p.tables.exec = Jvm.exec ∧ c.code = code ∧ meth.sig.returnType = ret ∧ c.maxLocals = 4 ∧ s.vm.findClass R_law = some m.cls ∧ (∀ w ∈ lw_tbl, w.before #[Value.ref b] s = true) ∧ va_X b L xs s s.heap ∧ b < s.heap.size ∧ meth.locks = false ∧ (Jvm.Cond.and given_1 narrow_1).before #[Value.ref b] s = true
/-! THE START: what the Statement gives, and the law out of a run of the interpreter -/
theorem arrT {s : State} {ty : FieldType} {c : ClassId} {k : Class} {comp : ClassId} (h2 : s.vm.classes[c]? = some k) (h3 : k.kind = .array comp ty) : ArrOfT s c ty := fun n z => ⟨fun q h => (by cases h), k, h2, comp, h3⟩
theorem in_tbl_nest : nsl.all (fun q => decide (Cond.methodLinkNest q.1 q.2.1 (mna q.2.2.1) q.2.2.2 ∈ lw_tbl)) = true := by decide +kernel
theorem in_tbl_cast : ([0, 1, 2, 3, 8] : List Nat).all (fun c => decide (Cond.castable (Rc c) RX5 ∈ lw_tbl)) = true := by decide +kernel
theorem in_tbl_inst : (List.range 13).all (fun c => decide (Cond.instantiable (Rc c) (nf c) ∈ lw_tbl)) = true := by decide +kernel
theorem in_tbl_over : (decide (Cond.arrayOver (.object RX5) ∈ lw_tbl) && decide (Cond.arrayOver (.object RX9) ∈ lw_tbl) && decide (Cond.arrayOver (.array .int) ∈ lw_tbl)) = true := by decide +kernel
theorem in_tbl_stat : ([1, 1001, 1002, 1003, 2000] : List Nat).all (fun w => decide (Cond.laysStatic (stn w).1 (stn w).2.1 (stn w).2.2 ∈ lw_tbl) && decide (Cond.initialized (stn w).1 ∈ lw_tbl)) = true := by decide +kernel
theorem in_tbl_str : sti.all (fun q => decide (Cond.stringRef RX6 q.1 q.2 ∈ lw_tbl)) = true := by decide +kernel
/-- what the Statement says of the start, flat -/
def nrw : List Cond := flatC (Jvm.Cond.and given_1 narrow_1)
theorem in_nrw_cs : Cond.eq (.static "java/lang/String" "COMPACT_STRINGS" "Z") (.int 1) ∈ nrw := by decide +kernel
theorem in_nrw_sf : Cond.isRef (.static "jdk/internal/util/Preconditions" "SIOOBE_FORMATTER" "Ljava/util/function/BiFunction;") ∈ nrw := by decide +kernel
theorem in_nrw_ot : (List.range 3).all (fun j => decide (Cond.arrayOf (.static RX6 (stn (1001 + j)).2.1 "[I") .int ∈ nrw) && decide (Cond.eq (.length (.static RX6 (stn (1001 + j)).2.1 "[I")) (.int (Int32.ofNat (otb.getD j []).length)) ∈ nrw) && (List.range (otb.getD j []).length).all (fun i => decide (Cond.eq (.elem (.static RX6 (stn (1001 + j)).2.1 "[I") (.int (Int32.ofNat i))) (.int ((otb.getD j []).getD i 0)) ∈ nrw))) = true := by decide +kernel
def stm (j : Nat) : Term := .string RX6 (sti.getD j (0, "")).1
theorem in_nrw_st : (List.range 5).all (fun j => decide (Cond.exactly (stm j) "java/lang/String" ∈ nrw) && decide (Cond.eq (.field (stm j) "java/lang/String" "coder" "B") (.int 0) ∈ nrw) && decide (Cond.arrayOf (.field (stm j) "java/lang/String" "value" "[B") .byte ∈ nrw) && decide (Cond.eq (.length (.field (stm j) "java/lang/String" "value" "[B")) (.int (Int32.ofNat (sln.getD j 0))) ∈ nrw) && (List.range (sln.getD j 0)).all (fun i => decide (Cond.eq (.elem (.field (stm j) "java/lang/String" "value" "[B") (.int (Int32.ofNat i))) (.int ((stb.getD j []).getD i 0)) ∈ nrw))) = true := by decide +kernel
theorem in_nrw_ne : (List.range 5).all (fun i => (List.range 5).all (fun j => decide (i = j) || decide (Cond.not (Cond.eq (stm i) (stm j)) ∈ nrw) || decide (Cond.not (Cond.eq (stm j) (stm i)) ∈ nrw))) = true := by decide +kernel
theorem all5 {P : Nat → Bool} {n j : Nat} (h : (List.range n).all P = true) (hj : j < n) : P j = true := List.all_eq_true.mp h j (List.mem_range.mpr hj)
set_option maxHeartbeats 4000000 in
theorem start_cx {p : Program} {s : State} {m : MethodId} {meth : Method} {c : Code} {b L : Nat} {xs : Nat → Int32} (hL : L ≤ 256) (C0 : lw_At p s m meth c b L xs) : ∃ (D : va_G) (cy : Nat → ClassId) (av : Nat → Value), av 1000 = .ref b ∧ Cx s.heap.size D cy av L xs s s.heap := by
  obtain ⟨hx, hb, hr, hml, hown, hts, hX, hbl, hlocks, hgv⟩ := id C0
  have hA : ∀ a : Nat, a < s.heap.size → ¬ s.heap.size ≤ a := fun a h => Nat.not_le.mpr h
  have hn : ∀ w ∈ nrw, w.before #[Value.ref b] s = true := flat_of_before _ hgv
  -- classes
  have hK0 : ∀ k, k < 13 → ∃ q : ClassId × (Nat → Nat), u_Kn s (Rc k) (Tc k) (nf k) q.1 q.2 := by
    intro k hk
    have h1 := all5 in_tbl_inst hk
    simp only [decide_eq_true_eq] at h1
    obtain ⟨c0, i0, h⟩ := u_known (C := Rc k) (T := Tc k) (N := nf k) (n := nf k) hts (fun w hw => (List.mem_filter.mp (lay_in k hk w hw)).1) (hts _ h1)
    exact ⟨(c0, i0), h⟩
  have hK1 : ∀ k : Nat, ∃ q : ClassId × (Nat → Nat), k < 13 → u_Kn s (Rc k) (Tc k) (nf k) q.1 q.2 := by
    intro k
    by_cases hk : k < 13
    · obtain ⟨q, hq⟩ := hK0 k hk
      exact ⟨q, fun _ => hq⟩
    · exact ⟨((0 : Nat), fun _ => 0), fun h => absurd h hk⟩
  obtain ⟨dq, hdq⟩ := Classical.axiomOfChoice hK1
  -- arrays' classes
  have hov := in_tbl_over
  simp only [Bool.and_eq_true, decide_eq_true_eq] at hov
  obtain ⟨⟨ov1, ov2⟩, ov3⟩ := hov
  obtain ⟨a1, a2, a3⟩ := arr_in
  have tb : ∀ w ∈ Big, w.before #[Value.ref b] s = true := big_hts hts
  obtain ⟨c20, k20, m20, f20, g20, h20⟩ := Cond.arrayClass_spec (tb _ a1)
  obtain ⟨c21, k21, m21, f21, g21, h21⟩ := Cond.arrayClass_spec (tb _ a2)
  obtain ⟨c22, k22, m22, f22, g22, h22⟩ := Cond.arrayClass_spec (tb _ a3)
  obtain ⟨m23, c23, k23, e23, -, g23, h23, f23⟩ := Cond.arrayOver_spec (hts _ ov1)
  obtain ⟨m24, c24, k24, e24, -, g24, h24, f24⟩ := Cond.arrayOver_spec (hts _ ov2)
  obtain ⟨m25, c25, k25, e25, -, g25, h25, f25⟩ := Jvm.Stand.arrayOver_specB (hts _ ov3)
  obtain ⟨cy, hcy⟩ : ∃ cy : Nat → ClassId, cy = fun k => if k = 20 then c20 else if k = 21 then c21 else if k = 22 then c22 else if k = 23 then c23 else if k = 24 then c24 else c25 := ⟨_, rfl⟩
  have y20 : cy 20 = c20 := by simp [hcy]
  have y21 : cy 21 = c21 := by simp [hcy]
  have y22 : cy 22 = c22 := by simp [hcy]
  have y23 : cy 23 = c23 := by simp [hcy]
  have y24 : cy 24 = c24 := by simp [hcy]
  have y25 : cy 25 = c25 := by simp [hcy]
  have hK : va_K (fun k => (dq k).1, fun k => (dq k).2) vwCl (tyl cy) s := by
    refine ⟨fun k q hq => ?_, fun k q hq => ?_⟩
    · have hk : k < 13 := by
        have := (List.getElem?_eq_some_iff.mp hq).1
        simpa [vwCl] using this
      rw [cl_get k hk] at hq
      cases hq
      exact hdq k hk
    · have hk : k < 6 := by
        have := (List.getElem?_eq_some_iff.mp hq).1
        simpa [tyl] using this
      match k, hk, hq with
      | 0, _, hq => cases hq; rw [y20]; exact ⟨arrT g20 h20, f20⟩
      | 1, _, hq => cases hq; rw [y21]; exact ⟨arrT g21 h21, f21⟩
      | 2, _, hq => cases hq; rw [y22]; exact ⟨arrT g22 h22, f22⟩
      | 3, _, hq => cases hq; rw [y23]; exact ⟨arrT g23 h23, k23, m23, g23, h23, e23, f23⟩
      | 4, _, hq => cases hq; rw [y24]; exact ⟨arrT g24 h24, k24, m24, g24, h24, e24, f24⟩
      | 5, _, hq => cases hq; rw [y25]; exact ⟨arrT g25 h25, f25⟩
  -- statics
  have hst := fun w (hw : w ∈ ([1, 1001, 1002, 1003, 2000] : List Nat)) => List.all_eq_true.mp in_tbl_stat w hw
  have lay : ∀ w ∈ ([1, 1001, 1002, 1003, 2000] : List Nat), (Cond.laysStatic (stn w).1 (stn w).2.1 (stn w).2.2).before #[Value.ref b] s = true ∧ (Cond.initialized (stn w).1).before #[Value.ref b] s = true := fun w hw => by
    have := hst w hw
    simp only [Bool.and_eq_true, decide_eq_true_eq] at this
    exact ⟨hts _ this.1, hts _ this.2⟩
  have hZ1 : va_Z "java/lang/String" "COMPACT_STRINGS" "Z" (.int 1) (fun q => s.heap.size ≤ q) s s.heap := va_Zof (lay 1 (by simp)).1 (lay 1 (by simp)).2 (va_eqi (hn _ in_nrw_cs)) hA
  obtain ⟨vF, hvF, hZF⟩ : ∃ v : Value, v.category = 1 ∧ va_Z "jdk/internal/util/Preconditions" "SIOOBE_FORMATTER" "Ljava/util/function/BiFunction;" v (fun q => s.heap.size ≤ q) s s.heap := by
    rcases va_Zqof (A := fun q => s.heap.size ≤ q) (lay 2000 (by simp)).1 (lay 2000 (by simp)).2 (hn _ in_nrw_sf) hA with h | ⟨t, h⟩
    · exact ⟨.null, rfl, h⟩
    · exact ⟨.ref t, rfl, h⟩
  have hT1 : ∀ j : Nat, ∃ t : Nat, j < 3 → va_Z RX6 (stn (1001 + j)).2.1 "[I" (.ref t) (fun q => s.heap.size ≤ q) s s.heap ∧ va_T .int t (otb.getD j []).length (fun i => .int ((otb.getD j []).getD i 0)) (fun q => s.heap.size ≤ q) s s.heap := by
    intro j
    by_cases hj : j < 3
    · have h := all5 in_nrw_ot hj
      simp only [Bool.and_eq_true, decide_eq_true_eq, List.all_eq_true, List.mem_range] at h
      obtain ⟨⟨q1, q2⟩, q3⟩ := h
      have hlen : (otb.getD j []).length < 2 ^ 31 := by
        have : ∀ j, j < 3 → (otb.getD j []).length < 2 ^ 31 := by decide
        exact this j hj
      obtain ⟨t, ht, hT⟩ := va_Tof (A := fun q => s.heap.size ≤ q) (f := fun i => .int ((otb.getD j []).getD i 0)) hlen (hn _ q1) (va_eqt (hn _ q2)) (fun i hi => va_eqt (hn _ (q3 i hi))) hA
      refine ⟨t, fun _ => ⟨?_, hT⟩⟩
      have hl := lay (1001 + j) (by rcases (show j = 0 ∨ j = 1 ∨ j = 2 by omega) with rfl | rfl | rfl <;> simp)
      have e1 : (stn (1001 + j)).1 = RX6 ∧ (stn (1001 + j)).2.2 = "[I" := by
        rcases (show j = 0 ∨ j = 1 ∨ j = 2 by omega) with rfl | rfl | rfl <;> exact ⟨rfl, rfl⟩
      rw [e1.1, e1.2] at hl
      exact va_Zof hl.1 hl.2 ht hA
    · exact ⟨0, fun h => absurd h hj⟩
  obtain ⟨dt, hdt⟩ := Classical.axiomOfChoice hT1
  -- texts
  have hs5 : ∀ j, j < 5 → (Cond.exactly (stm j) "java/lang/String" ∈ nrw ∧ Cond.eq (.field (stm j) "java/lang/String" "coder" "B") (.int 0) ∈ nrw ∧ Cond.arrayOf (.field (stm j) "java/lang/String" "value" "[B") .byte ∈ nrw ∧ Cond.eq (.length (.field (stm j) "java/lang/String" "value" "[B")) (.int (Int32.ofNat (sln.getD j 0))) ∈ nrw ∧ ∀ i, i < sln.getD j 0 → Cond.eq (.elem (.field (stm j) "java/lang/String" "value" "[B") (.int (Int32.ofNat i))) (.int ((stb.getD j []).getD i 0)) ∈ nrw) := by
    intro j hj
    have h := all5 in_nrw_st hj
    simp only [Bool.and_eq_true, decide_eq_true_eq, List.all_eq_true, List.mem_range] at h
    obtain ⟨⟨⟨⟨q1, q2⟩, q3⟩, q4⟩, q5⟩ := h
    exact ⟨q1, q2, q3, q4, q5⟩
  have hsl5 : ∀ i : Nat, i < 5 → sln.getD i 0 < 2 ^ 31 := by decide
  obtain ⟨adK, adV, hS, hev⟩ := vk_Sof (A := fun q => s.heap.size ≤ q) (args := #[Value.ref b]) (s := s) (N := 5) (tm := stm) (len := sln) (byt := stb) hsl5 (fun i hi => hn _ (hs5 i hi).1) (fun i hi => hn _ (hs5 i hi).2.1) (fun i hi => hn _ (hs5 i hi).2.2.1) (fun i hi => hn _ (hs5 i hi).2.2.2.1) (fun i hi j hj => hn _ ((hs5 i hi).2.2.2.2 j hj))
    (fun i j hi hj hne => by
      have h := all5 (all5 in_nrw_ne hi) hj
      simp only [Bool.or_eq_true, decide_eq_true_eq] at h
      rcases h with (h | h) | h
      · exact absurd h hne
      · exact Or.inl (hn _ h)
      · exact Or.inr (hn _ h)) hA
  -- the script
  obtain ⟨scr, x1, x2, x3, x4, x5⟩ := hX
  have hTs : va_T .int b L (fun i => .int (xs i)) (fun q => s.heap.size ≤ q) s s.heap := ⟨scr, x1, x2, x3, by omega, by rw [x4], x5, hA b hbl⟩
  refine ⟨(fun k => (dq k).1, fun k => (dq k).2), cy, fun k => if k = 1000 then .ref b else if k < 1004 then .ref (dt (k - 1001)) else if k < 1015 then .ref (adK (k - 1010)) else if k < 1025 then .ref (adV (k - 1020)) else vF, by simp, hK, ?_, ⟨hts _ ov1, hts _ ov2, hts _ ov3⟩, ?_, ?_, hZ1, ?_, ?_, ⟨b, by simp, by omega, hTs⟩, adK, adV, hS, ?_⟩
  · intro q hq
    have h := List.all_eq_true.mp in_tbl_nest q hq
    simp only [decide_eq_true_eq] at h
    exact va_Nw.of rfl (hts _ h)
  · intro k hk
    have h := List.all_eq_true.mp in_tbl_cast k (by simp; omega)
    simp only [decide_eq_true_eq] at h
    exact va_Nw.of rfl (hts _ h)
  · intro k
    dsimp only
    split
    · rfl
    · split
      · rfl
      · split
        · rfl
        · split
          · rfl
          · exact hvF
  · simpa using hZF
  · intro j hj
    have h := hdt j hj
    refine ⟨dt j, ?_, h.1, h.2⟩
    dsimp only
    rw [if_neg (by omega), if_pos (by omega), show 1001 + j - 1001 = j by omega]
  · intro j hj
    refine ⟨?_, ?_, ?_⟩
    · dsimp only
      rw [if_neg (by omega), if_neg (by omega), if_pos (by omega), show 1010 + j - 1010 = j by omega]
    · dsimp only
      rw [if_neg (by omega), if_neg (by omega), if_neg (by omega), if_pos (by omega), show 1020 + j - 1020 = j by omega]
    · have hmem : sti.getD j (0, "") ∈ sti := by
        have hl : sti.length = 5 := by decide
        rw [List.getD_eq_getElem?_getD, List.getElem?_eq_getElem (by omega)]
        exact List.getElem_mem _
      have h := List.all_eq_true.mp in_tbl_str _ hmem
      simp only [decide_eq_true_eq] at h
      have h1 := hev j hj
      exact vk_R.of (hts _ h) h1
/-- a new object, at the machine -/
theorem w_new {b0 : Nat} {D : va_G} {cy : Nat → ClassId} {av : Nat → Value} {L : Nat} {xs : Nat → Int32} {m : Nat} {p : Program} {l : Launch} {e : Env} {R : Room} {s : State} {mid : MethodId} {args : Array Value} {below : List Frame} {meth : Method} {c0 : Code} {n0 : Nat} {Z : State → Prop} {H : Heap} {locs : List Loc} {lsx : Array Slot} {σ : Sto} {rest : List Value} {pc i c : Nat}
    (C : Ctx b0 D cy av L xs m p R s mid args meth c0 n0) (hW : Wr b0 D cy L xs σ H) (hS : va_S (fun q => b0 ≤ q) s.heap H locs) (h0 : n0 ≤ σ.1) (hd : decode (mco m) pc = .ok (.new i, 3)) (hc : nwc (mcl m) i = some c) (hnew : newc σ c (nf c) = true) (hcl : σ.1 + 1 ≤ n0 + R.cells) (hsl : ss (σ.1 + 1) ≤ ss n0 + R.slots)
    (k : ∀ H1 : Heap, Wr b0 D cy L xs (sN σ) H1 → va_S (fun q => b0 ≤ q) s.heap H1 locs → W p l e R s mid args below meth c0 H1 locs (σ.1 + 1 - n0) (ss (σ.1 + 1) - ss n0) Z (F0 mid (pc + 3) lsx (.ref (b0 + σ.1) :: rest))) : W p l e R s mid args below meth c0 H locs (σ.1 - n0) (ss σ.1 - ss n0) Z (F0 mid pc lsx rest) := by
  obtain ⟨w1, w2, w3, h13⟩ := nwc_spec hc
  obtain ⟨ht, h100⟩ := newc_spec hnew
  have hN : ssz σ.1 = nf c := by simp [ssz, ht, h13]
  have hs2 : ss n0 ≤ ss σ.1 := ss_mono h0
  rw [ss_succ, hN] at hsl
  obtain ⟨hx, hb, hml, hown, hts, hin, hC, hs0, hfr, hlo⟩ := id C
  refine va_new (own := Rc (mcl m)) (C := Rc c) (T := Tc c) (N := nf c) (ci := c) hx hb hts (lay_in c h13) (tyc c) (ty_c c h13) hown (hts _ w1) (hts _ w2) (hts _ w3) hC.1 hW.1 (wl_D b0 cy σ) hS (fun q hq => by show b0 ≤ q; omega) (cl_get c h13) (fs := (List.range (nf c)).map (fvc b0 (sN σ) σ.1 c)) ?_ (by omega) (by omega) hd (fun q H1 hP hD hS1 => ?_)
  · intro j hj
    have e : vp_V ((List.range (nf c)).map (fvc b0 (sN σ) σ.1 c)) j = fvc b0 (sN σ) σ.1 c j := by simp [vp_V, hj]
    rw [e]
    rcases ft_3 h13 hj with hf | hf | hf
    · rw [ft_0 h13 hj hf]; simp [fvc, hf, sN, va_up, defaultValue]
    · rw [ft_1 h13 hj hf]; simp [fvc, hf, sN, va_up, defaultValue]
    · rcases ft_2 h13 hj hf with ⟨q, hq⟩ | ⟨q, hq⟩ <;> rw [hq] <;> simp [fvc, hf, sN, va_up, defaultValue]
  · rw [← ce_obj (b0 := b0) (cy := cy) (σ := sN σ) (a := σ.1) (c := c) (by rw [ht]) h13] at hP hD
    intro T hT X
    have hsz : H1.size ≤ b0 + σ.1 + 1 := by
      have h1 := X.heapSize
      have h2 := C.2.2.2.2.2.2.2.1
      rw [hT] at h1
      omega
    have hq := fresh hP hD hsz
    subst hq
    rw [wl_push (σ' := sN σ) rfl rfl (fun b hb => ce_congr (va_up_ne _ _ (by omega)) (va_up_ne _ _ (by omega)) (va_up_ne _ _ (by omega)))] at hP
    have hW1 : Wr b0 D cy L xs (sN σ) H1 := by
      refine ⟨hP, by show σ.1 + 1 ≤ 100; omega, fun hf => ?_⟩
      have hf : va_up σ.2.1 σ.1 (fun _ => false) 999 0 = true := hf
      rw [va_up_ne _ _ (by omega)] at hf
      show va_up σ.2.2.1 σ.1 _ 999 0 = _ ∧ va_up σ.2.2.1 σ.1 _ 1000 = _
      rw [va_up_ne _ _ (by omega), va_up_ne _ _ (by omega)]
      exact hW.2.2 hf
    refine W.cs ?_ ?_ (k H1 hW1 hS1) T hT X
    · omega
    · rw [ss_succ, hN]
      omega
/-- a constructor without arguments, at the machine -/
theorem w_init {b0 : Nat} {D : va_G} {cy : Nat → ClassId} {av : Nat → Value} {L : Nat} {xs : Nat → Int32} {m : Nat} {p : Program} {l : Launch} {e : Env} {R : Room} {s : State} {mid : MethodId} {args : Array Value} {below : List Frame} {meth : Method} {c0 : Code} {n0 : Nat} {Z : State → Prop} {H : Heap} {locs : List Loc} {lsx : Array Slot} {σ σ1 : Sto} {rest : List Value} {pc i t a : Nat}
    (C : Ctx b0 D cy av L xs m p R s mid args meth c0 n0) (hls : lsx.size = mml m) (hW : Wr b0 D cy L xs σ H) (hS : va_S (fun q => b0 ≤ q) s.heap H locs) (h0 : n0 ≤ σ.1) (hd : decode (mco m) pc = .ok (.invokespecial i, 3)) (hck : ck (mcl m) i = some (3, t, 0)) (hg : Gm t 0 (lcs (mml t) [.ref a]) [] σ none σ1) (hmh : mhg t < mhg m) (hm1 : 1 ≤ mml t) (ha1 : a < σ.1) (hr8 : (rest.map fun v => v.category).sum ≤ 8) (hcl : σ1.1 ≤ n0 + R.cells) (hsl : ss σ1.1 ≤ ss n0 + R.slots)
    (k : ∀ (H1 : Heap) (locs1 : List Loc), Wr b0 D cy L xs σ1 H1 → va_S (fun q => b0 ≤ q) s.heap H1 locs1 → W p l e R s mid args below meth c0 H1 locs1 (σ1.1 - n0) (ss σ1.1 - ss n0) Z (F0 mid (pc + 3) lsx rest)) : W p l e R s mid args below meth c0 H locs (σ.1 - n0) (ss σ.1 - ss n0) Z (F0 mid pc lsx (.ref (b0 + a) :: rest)) := by
  obtain ⟨w1, w2, w3, ht, hp, hini, hre⟩ := ck3 hck
  obtain ⟨k1, k2, k3, k4, k5⟩ := mt_ok (t := t) (by omega)
  obtain ⟨hx, hb, hml, hown, hts, hin, hC, hs0, hfr, hlo⟩ := id C
  have h1 := hg.1
  have s1 := ss_mono h0
  have s2 := ss_mono h1
  refine W.sz (fun hsz => ?_)
  have hge := wr_ge hW hs0 hS.1
  have hM := met_of (t := t) (by omega) hg (by show 1 ≤ mml t; exact hm1) b0 D cy av L xs l
  have hmap : ([.ref a] : Vs).map (cv b0 av) = [.ref (b0 + a)] := by
    show [cv b0 av (.ref a)] = _
    rw [cv_own (wr_cell hW ha1)]
  refine call_on (r := none) (a := ([.ref (b0 + a)] : List Value).toArray) (va_runI (As := []) (rest := rest) ⟨hx, hb, hml, hown, hts⟩ hM (cwI 0 hts (gin (fun w hw => ?_)) (by unfold wsx; rw [hre]) rfl rfl (hts _ w3) (hts _ w1) (hts _ w2) hini ⟨k3, k4, hp⟩ ⟨by show mhg t + 1 ≤ R.frames; omega, by show 8 + (mml t + 11) + 31 * mhg t ≤ R.locals; omega⟩) ⟨px_blind, ?_⟩ rfl rfl hls rfl (lv_room hr8) hd ⟨by omega, by omega⟩) hS (fun H1 locs1 hW1 hS1 => ?_)
  · rcases List.mem_cons.mp hw with rfl | h
    · exact code_in ht
    · exact h
  · rw [← hmap]
    exact px_at hC hW hS (by omega)
  · exact W.cs (by omega) (by omega) (k H1 locs1 hW1 hS1)
/-! both constructors, by the kernel -/
def c00 : Sto := (0, fun _ _ => false, fun _ _ => 0, fun _ _ => 0)
/-- what must hold behind both constructors: every reference is set; the numbers that are looked at -/
def ini_ok (τ : Sto) : Bool := (List.range 100).all (fun a => (List.range (if (tg a).1 < 13 then nf (tg a).1 else if (tg a).1 < 23 then 0 else (tg a).2)).all (fun k => (decide ((tg a).1 < 13) && decide (ft (tg a).1 k ≠ 2)) || τ.2.1 a k))
def val_ok (τ : Sto) : Bool :=
  (List.range 8).all (fun k => τ.2.2.1 10 k == 7) && τ.2.2.1 9 1 == 0 && τ.2.2.1 9 2 == 0 && τ.2.2.1 11 1 == 0 && τ.2.2.1 13 1 == 0 && τ.2.2.1 15 1 == 0 && τ.2.2.1 17 3 == 0 && τ.2.2.1 17 4 == 0 && τ.2.2.1 61 0 == 0 && τ.2.2.1 61 1 == 0 && τ.2.2.1 62 3 == 0 && τ.2.2.1 0 9 == 0 && τ.2.2.1 0 10 == 0 && τ.2.2.1 0 11 == 0 && τ.2.2.2 0 7 == 0 && τ.2.2.2 0 8 == 1
  && (List.range 62).all (fun k => τ.2.2.1 87 k == (if 5 ≤ k ∧ k < 13 then 7 else 0)) && τ.2.2.1 89 0 == 0 && τ.2.2.1 89 1 == 0 && τ.2.2.1 90 0 == 0 && τ.2.2.1 90 1 == 0 && τ.2.2.1 90 2 == 0 && τ.2.2.2 86 4 == 0 && τ.2.2.2 86 5 == 1 && τ.2.2.1 86 15 == 0
def chk2 : Bool := match run 5000 63 0 [.ref 0, .null, .null] [] (sN c00) with
  | some (none, σ) => decide (σ.1 = 86) && (match run 5000 112 0 [.ref 86] [] (sN σ) with
    | some (none, τ) => decide (τ.1 = 100) && ini_ok τ && val_ok τ && decide (σ.1 = 86)
    | _ => false)
  | _ => false
set_option maxRecDepth 100000 in
theorem chk2_ok : chk2 = true := by decide +kernel
theorem made : ∃ σ τ : Sto, run 5000 63 0 [.ref 0, .null, .null] [] (sN c00) = some (none, σ) ∧ σ.1 = 86 ∧ run 5000 112 0 [.ref 86] [] (sN σ) = some (none, τ) ∧ τ.1 = 100 ∧ ini_ok τ = true ∧ val_ok τ = true := by
  have h := chk2_ok
  unfold chk2 at h
  split at h
  · rename_i σ h1
    simp only [Bool.and_eq_true, decide_eq_true_eq] at h
    obtain ⟨h2, h3⟩ := h
    split at h3
    · rename_i τ h4
      simp only [Bool.and_eq_true, decide_eq_true_eq] at h3
      exact ⟨σ, τ, h1, h2, h4, h3.1.1.1, h3.1.1.2, h3.1.2⟩
    · cases h3
  · cases h
/-- the stores of the run behind the constructors: all cells are made, all references set -/
def Sg (I : Nat → Nat → Int32) (J : Nat → Nat → Int64) : Sto := (100, fun _ _ => true, I, J)
def I0 (τ : Sto) (L : Nat) (xs : Nat → Int32) : Nat → Nat → Int32 := fun a => if a = 999 then (fun _ => nI L) else if a = 1000 then xs else τ.2.2.1 a
theorem arrV_ext {cA : ClassId} {N : Nat} {f g : Nat → Value} (h : ∀ j, j < N → f j = g j) : arrV cA N f = arrV cA N g := by
  unfold arrV
  congr 1
  apply Array.ext_getElem?
  intro i
  by_cases hi : i < N
  · simp [hi, h i hi]
  · simp [hi]
theorem wr_sg {b0 : Nat} {D : va_G} {cy : Nat → ClassId} {L : Nat} {xs : Nat → Int32} {τ : Sto} {H : Heap} (hW : Wr b0 D cy L xs τ H) (hn : τ.1 = 100) (hi : ini_ok τ = true) : Wr b0 D cy L xs (Sg (I0 τ L xs) τ.2.2.2) H := by
  have hP : va_P D vwCl (wl b0 cy (Sg (I0 τ L xs) τ.2.2.2)) H := by
    intro a q hq
    have ha : a < 100 := by
      have := (List.getElem?_eq_some_iff.mp hq).1
      simpa [wl, Sg] using this
    rw [wl_get (show a < 100 from ha)] at hq
    cases hq
    have h0 := hW.1 a _ (wl_get (by omega))
    have hI : I0 τ L xs a = τ.2.2.1 a := by
      unfold I0
      rw [if_neg (by omega), if_neg (by omega)]
    have h1 := List.all_eq_true.mp (List.all_eq_true.mp hi a (List.mem_range.mpr ha))
    by_cases h13 : (tg a).1 < 13
    · have e : ce b0 cy (Sg (I0 τ L xs) τ.2.2.2) a = ce b0 cy τ a := by
        rw [ce_obj rfl h13, ce_obj rfl h13]
        congr 2
        apply List.map_congr_left
        intro k hk
        have hk2 := h1 k (by rw [if_pos h13]; exact hk)
        simp only [h13, decide_true, Bool.true_and, Bool.or_eq_true, decide_eq_true_eq] at hk2
        rcases hk2 with h | h
        · rcases ft_3 h13 (List.mem_range.mp hk) with q | q | q
          · simp [fvc, q, Sg, hI]
          · simp [fvc, q, Sg]
          · exact absurd q h
        · exact fvc_congr h.symm (congrFun hI k) rfl
      rw [e]
      exact h0
    · by_cases h23 : (tg a).1 < 23
      · have e : ce b0 cy (Sg (I0 τ L xs) τ.2.2.2) a = ce b0 cy τ a := by
          rw [ce_arr rfl h13 h23, ce_arr rfl h13 h23]
          show Sum.inl (cy (tg a).1, (tg a).2, Sum.inl (I0 τ L xs a)) = _
          rw [hI]
        rw [e]
        exact h0
      · rw [ce_ref rfl h13 h23] at h0 ⊢
        have h0 : H[b0 + a]? = some (vp_cell _ _) := h0
        show H[b0 + a]? = some (vp_cell _ _)
        rw [h0, vp_cell_q, vp_cell_q]
        congr 1
        refine arrV_ext (fun j hj => ?_)
        have hk2 := h1 j (by rw [if_neg h13, if_neg h23]; exact List.mem_range.mpr hj)
        simp only [h13, decide_false, Bool.false_and, Bool.false_or] at hk2
        rw [hk2]
        rfl
  refine ⟨hP, Nat.le_refl 100, fun _ => ⟨?_, ?_⟩⟩
  · show I0 τ L xs 999 0 = nI L
    unfold I0
    rw [if_pos rfl]
  · show I0 τ L xs 1000 = xs
    unfold I0
    rw [if_neg (by omega), if_pos rfl]
noncomputable def sig : Sto := made.choose
noncomputable def tau : Sto := made.choose_spec.choose
theorem tau_spec : run 5000 63 0 [.ref 0, .null, .null] [] (sN c00) = some (none, sig) ∧ sig.1 = 86 ∧ run 5000 112 0 [.ref 86] [] (sN sig) = some (none, tau) ∧ tau.1 = 100 ∧ ini_ok tau = true ∧ val_ok tau = true := made.choose_spec.choose_spec
theorem d211_0 : decode (mco 211) 0 = .ok (.new 7, 3) := by decide +kernel
theorem d211_3 : decode (mco 211) 3 = .ok (.dup, 1) := by decide +kernel
theorem d211_4 : decode (mco 211) 4 = .ok (.invokespecial 9, 3) := by decide +kernel
theorem d211_7 : decode (mco 211) 7 = .ok (.astore_n 1, 1) := by decide +kernel
theorem d211_8 : decode (mco 211) 8 = .ok (.new 10, 3) := by decide +kernel
theorem d211_11 : decode (mco 211) 11 = .ok (.dup, 1) := by decide +kernel
theorem d211_12 : decode (mco 211) 12 = .ok (.invokespecial 12, 3) := by decide +kernel
theorem d211_15 : decode (mco 211) 15 = .ok (.astore_n 2, 1) := by decide +kernel
set_option maxHeartbeats 4000000 in
set_option maxRecDepth 100000 in
/-- THE LAW, out of the interpreter's run behind the constructors -/
theorem law_go {p : Program} {e : Env} {s : State} {m : MethodId} {below : List Frame} {meth : Method} {c : Code} (l : Launch) {b L : Nat} {xs : Nat → Int32} (hL : L ≤ 256) (C0 : lw_At p s m meth c b L xs) {f : Nat} {σ' : Sto} (hrun : run f 211 16 [.ref 1000, .ref 0, .ref 86, .null] [] (Sg (I0 tau L xs) tau.2.2.2) = some (some (.int 1), σ')) (h100 : σ'.1 = 100) : W p l e room_1 s m #[Value.ref b] below meth c s.heap [] 0 0 (lw_Z below #[Value.ref b] s) (entryFrame m ([Value.ref b] : List Value).toArray 4) := by
  obtain ⟨D, cy, av, hav, hC⟩ := start_cx hL C0
  obtain ⟨hx, hb, hr, hml, hown, hts, hX, hbl, hlocks, hgv⟩ := id C0
  obtain ⟨t1, t2, t3, t4, t5, t6⟩ := tau_spec
  have hg1 : Gm 63 0 (lcs (mml 63) [.ref 0]) [] (sN c00) none sig := snd 5000 _ _ _ _ _ _ _ t1
  have hg2 : Gm 112 0 (lcs (mml 112) [.ref 86]) [] (sN sig) none tau := snd 5000 _ _ _ _ _ _ _ t3
  have hg := snd f _ _ _ _ _ _ _ hrun
  have C : Ctx s.heap.size D cy av L xs 211 p room_1 s m #[Value.ref b] meth c 0 := ⟨hx, hb, hml, hown, big_hts hts, fun q => absurd q (by decide), hC, by omega, by decide, by decide⟩
  have hA := C.av
  have e0 : ([Value.ref b] : List Value) = ([.ref 1000] : Vs).map (cv s.heap.size av) := by
    show _ = [cv s.heap.size av (.ref 1000)]
    rw [show cv s.heap.size av (.ref 1000) = av 1000 from rfl, hav]
  rw [lg_entry_eq]
  have hl : Lr s.heap.size av ((lg_sl ([Value.ref b] : List Value) ++ List.replicate (4 - (lg_sl ([Value.ref b] : List Value)).length) Slot.unset).toArray) (mml 211) [.ref 1000, .null, .null, .null] := by
    have := Lr.entry (b0 := s.heap.size) (av := av) hC.2.2.2.2.1 (as := [.ref 1000]) (n := 4) (by decide)
    rw [← e0] at this
    exact this
  generalize (lg_sl ([Value.ref b] : List Value) ++ List.replicate (4 - (lg_sl ([Value.ref b] : List Value)).length) Slot.unset).toArray = lsx at hl ⊢
  have er1 : room_1.cells = 600000 := rfl
  have er2 : room_1.slots = 7302250 := rfl
  have hss : ss 100 ≤ 7302250 := by decide +kernel
  have hs1 := ss_mono (show 1 ≤ 100 by omega)
  have hs86 := ss_mono (show 86 ≤ 100 by omega)
  have hs87 := ss_mono (show 87 ≤ 100 by omega)
  have hW0 : Wr s.heap.size D cy L xs c00 s.heap := by
    refine ⟨fun k q h => ?_, Nat.zero_le _, fun h => by cases h⟩
    have : (wl s.heap.size cy c00)[k]? = none := List.getElem?_eq_none (Nat.zero_le _)
    rw [this] at h
    cases h
  refine w_new (σ := c00) (c := 11) C hW0 va_S.rf (Nat.zero_le _) d211_0 (by decide +kernel) (by decide +kernel) (by show 0 + 1 ≤ 0 + room_1.cells; omega) (by show ss 1 ≤ ss 0 + room_1.slots; omega) (fun H1 hW1 hS1 => ?_)
  refine lv_dup hx hb d211_3 rfl ?_
  refine w_init (σ := sN c00) (σ1 := sig) (a := 0) C hl.1 hW1 hS1 (Nat.zero_le _) d211_4 (t := 63) (by decide +kernel) hg1 (by decide +kernel) (by decide +kernel) (by decide) (by show 1 ≤ 8; omega) (by omega) (by rw [t2]; omega) (fun H2 locs2 hW2 hS2 => ?_)
  refine lv_astore_n hx hb d211_7 rfl hl.lv (show (1 : Nat) < mml 211 by decide) rfl (fun lsx1 h1 => ?_)
  have hl1 : Lr s.heap.size av lsx1 (mml 211) [.ref 1000, .ref 0, .null, .null] := Lr.of1 (ls := [.ref 1000, .null, .null, .null]) (i := 1) (v := .ref 0) hA h1
  refine w_new (σ := sig) (c := 12) C hW2 hS2 (Nat.zero_le _) d211_8 (by decide +kernel) ?_ (by rw [t2]; omega) (by rw [t2]; show ss 87 ≤ _; omega) (fun H3 hW3 hS3 => ?_)
  · unfold newc
    rw [t2]
    decide +kernel
  refine lv_dup hx hb d211_11 rfl ?_
  have e86 : s.heap.size + sig.1 = s.heap.size + 86 := by rw [t2]
  rw [e86]
  refine w_init (σ := sN sig) (σ1 := tau) (a := 86) C hl1.1 hW3 hS3 (Nat.zero_le _) d211_12 (t := 112) (by decide +kernel) hg2 (by decide +kernel) (by decide +kernel) (by show 86 < sig.1 + 1; omega) (by show 1 ≤ 8; omega) (by omega) (by rw [t4]; omega) (fun H4 locs4 hW4 hS4 => ?_)
  refine lv_astore_n hx hb d211_15 rfl hl1.lv (show (2 : Nat) < mml 211 by decide) rfl (fun lsx2 h2 => ?_)
  have hl2 : Lr s.heap.size av lsx2 (mml 211) [.ref 1000, .ref 0, .ref 86, .null] := Lr.of1 (ls := [.ref 1000, .ref 0, .null, .null]) (i := 2) (v := .ref 86) hA h2
  have hWg := wr_sg hW4 t4 t5
  have hw := hg.2 s.heap.size D cy av L xs p l e room_1 s m #[Value.ref b] below meth c 0 (lw_Z below #[Value.ref b] s) C H4 locs4 lsx2 hl2 hWg hS4 (Nat.zero_le _) ⟨by omega, by rw [h100]; omega⟩ ?_
  · refine W.cs ?_ ?_ hw
    · rw [t4]; rfl
    · rw [t4]; rfl
  · intro pc1 H5 locs5 lsx5 hW5 hS5 hR
    obtain ⟨q1, ty, q2, q4⟩ := hR
    refine va_forget hS5.2.2 ?_
    refine W.widen (k := 600000) (n := 7302250) (by omega) (by rw [h100]; omega) ?_
    exact lw_ret hx hb hr hlocks q1
