/-! RUNS, 2: one step of each kind over the stores behind the constructors -/
def kA (a c : Nat) : Prop := a < 100 ∧ (tg a).1 = c
def kR (a : Nat) : Prop := a < 100 ∧ 23 ≤ (tg a).1 ∧ (tg a).1 ≤ 25
def kO (a : Nat) : Prop := a < 100 ∧ (tg a).1 < 13
abbrev kL (a : Nat) : Prop := isR a
def wI (I : Nat → Nat → Int32) (a k : Nat) (x : Int32) : Nat → Nat → Int32 := va_up I a (upd (I a) k x)
def wJ (J : Nat → Nat → Int64) (a k : Nat) (x : Int64) : Nat → Nat → Int64 := va_up J a (va_up (J a) k x)
section STEPS
variable {m pc n c j a i0 : Nat} {ls st : Vs} {σ : Sto} {I : Nat → Nat → Int32} {J : Nat → Nat → Int64} {Q : Option Value → Sto → Prop}
theorem isA_sg (a c : Nat) : isA (Sg I J) a c = true ↔ kA a c := by
  unfold isA kA
  simp only [Bool.and_eq_true, decide_eq_true_eq]
  exact Iff.rfl
theorem Rn_if' {m1 pc1 : Nat} {ls1 st1 : Vs} {σ1 : Sto} {i : Instr} {k : Nat} {c c' : Prop} [Decidable c] (hcc : c ↔ c') (hd : decode (mco m) pc = .ok (i, k)) (h : ∀ f, stp (run f) i k m pc ls st σ = if c then run f m1 pc1 ls1 st1 σ1 else none) : Rn m pc ls st σ Q ↔ c' ∧ Rn m1 pc1 ls1 st1 σ1 Q := by
  rw [Rn_if hd h, hcc]
theorem g_ldc {v : Int32} (hd : decode (mco m) pc = .ok (.ldc n, 2)) (hc : cs (mcl m) n = some (.int v)) : Rn m pc ls st σ Q ↔ Rn m (pc + 2) ls (.int v :: st) σ Q := Rn_of hd (fun f => by simp [stp, hc, psh])
theorem g_ldcs {v : Nat} (hd : decode (mco m) pc = .ok (.ldc n, 2)) (hc : cs (mcl m) n = some (.ref v)) : Rn m pc ls st σ Q ↔ Rn m (pc + 2) ls (.ref v :: st) σ Q := Rn_of hd (fun f => by simp [stp, hc, psh])
theorem g_ldc_w {v : Int32} (hd : decode (mco m) pc = .ok (.ldc_w n, 3)) (hc : cs (mcl m) n = some (.int v)) : Rn m pc ls st σ Q ↔ Rn m (pc + 3) ls (.int v :: st) σ Q := Rn_of hd (fun f => by simp [stp, hc, psh])
theorem g_ldc2_w {v : Int64} (hd : decode (mco m) pc = .ok (.ldc2_w n, 3)) (hc : cs (mcl m) n = some (.long v)) : Rn m pc ls st σ Q ↔ Rn m (pc + 3) ls (.long v :: st) σ Q := Rn_of hd (fun f => by simp [stp, hc, psh])
theorem g_ifCond {cd : Jvm.ClassFile.Cond} {off : Int} {t : Nat} {x : Int32} {P : Prop} [Decidable P] (hd : decode (mco m) pc = .ok (.ifCond cd off, 3)) (ht : jt pc off = some t) (hP : cz cd x = true ↔ P) : Rn m pc ls (.int x :: st) σ Q ↔ if P then Rn m t ls st σ Q else Rn m (pc + 3) ls st σ Q := by
  rw [Rn_br (c := cz cd x = true) hd (fun f => by simp only [stp, brn, ht]; rfl)]
  simp only [hP]
theorem g_if_icmp {cd : Jvm.ClassFile.Cond} {off : Int} {t : Nat} {x y : Int32} {P : Prop} [Decidable P] (hd : decode (mco m) pc = .ok (.if_icmp cd off, 3)) (ht : jt pc off = some t) (hP : cc2 cd x y = true ↔ P) : Rn m pc ls (.int y :: .int x :: st) σ Q ↔ if P then Rn m t ls st σ Q else Rn m (pc + 3) ls st σ Q := by
  rw [Rn_br (c := cc2 cd x y = true) hd (fun f => by simp only [stp, brn, ht]; rfl)]
  simp only [hP]
theorem g_and {X A B P : Prop} (h : X ↔ (A ∧ B) ∧ P) (ha : A) : X ↔ B ∧ P := by
  rw [h, and_iff_right ha]
theorem cz_eq {x : Int32} : cz .eq x = true ↔ x = 0 := decide_eq_true_iff
theorem cz_ne {x : Int32} : cz .ne x = true ↔ ¬ x = 0 := decide_eq_true_iff
theorem cz_lt {x : Int32} : cz .lt x = true ↔ x < 0 := decide_eq_true_iff
theorem cz_ge {x : Int32} : cz .ge x = true ↔ 0 ≤ x := decide_eq_true_iff
theorem cz_gt {x : Int32} : cz .gt x = true ↔ 0 < x := decide_eq_true_iff
theorem cz_le {x : Int32} : cz .le x = true ↔ x ≤ 0 := decide_eq_true_iff
theorem cc_eq {x y : Int32} : cc2 .eq x y = true ↔ x = y := decide_eq_true_iff
theorem cc_ne {x y : Int32} : cc2 .ne x y = true ↔ ¬ x = y := decide_eq_true_iff
theorem cc_lt {x y : Int32} : cc2 .lt x y = true ↔ x < y := decide_eq_true_iff
theorem cc_ge {x y : Int32} : cc2 .ge x y = true ↔ y ≤ x := decide_eq_true_iff
theorem cc_gt {x y : Int32} : cc2 .gt x y = true ↔ y < x := decide_eq_true_iff
theorem cc_le {x y : Int32} : cc2 .le x y = true ↔ x ≤ y := decide_eq_true_iff
theorem g_tsi {d lo hi : Int} {os : Array Int} {len t : Nat} {x : Int32} {off : Int} (hd : decode (mco m) pc = .ok (.tableswitch d lo hi os, len)) (h1 : ¬ x.toInt < lo) (h2 : ¬ hi < x.toInt) (ho : os[(x.toInt - lo).toNat]? = some off) (ht : jt pc off = some t) : Rn m pc ls (.int x :: st) σ Q ↔ Rn m t ls st σ Q := Rn_of hd (fun f => by simp only [stp, h1, h2, or_self, if_false, ho, Option.bind_some, ht])
theorem g_tso {d lo hi : Int} {os : Array Int} {len t : Nat} {x : Int32} (hd : decode (mco m) pc = .ok (.tableswitch d lo hi os, len)) (h : x.toInt < lo ∨ hi < x.toInt) (ht : jt pc d = some t) : Rn m pc ls (.int x :: st) σ Q ↔ Rn m t ls st σ Q := Rn_of hd (fun f => by simp only [stp, h, if_true, Option.bind_some, ht])
theorem g_get0 (hd : decode (mco m) pc = .ok (.getfield n, 3)) (hf : fl (mcl m) n = some (0, c, j)) (hj : j < nf c) (ht : ft c j = 0) : Rn m pc ls (.ref a :: st) (Sg I J) Q ↔ kA a c ∧ Rn m (pc + 3) ls (.int (I a j) :: st) (Sg I J) Q := Rn_if' (isA_sg (I := I) (J := J) a c) hd (fun f => by simp only [stp, hf, hj, fval, ht, if_true, and_true]; rfl)
theorem g_get1 (hd : decode (mco m) pc = .ok (.getfield n, 3)) (hf : fl (mcl m) n = some (0, c, j)) (hj : j < nf c) (ht : ft c j = 1) : Rn m pc ls (.ref a :: st) (Sg I J) Q ↔ kA a c ∧ Rn m (pc + 3) ls (.long (J a j) :: st) (Sg I J) Q := Rn_if' (isA_sg (I := I) (J := J) a c) hd (fun f => by simp only [stp, hf, hj, fval, ht, if_true, and_true]; rfl)
theorem g_get2 (hd : decode (mco m) pc = .ok (.getfield n, 3)) (hf : fl (mcl m) n = some (0, c, j)) (hj : j < nf c) (ht : ft c j = 2) : Rn m pc ls (.ref a :: st) (Sg I J) Q ↔ kA a c ∧ Rn m (pc + 3) ls (.ref (rf a j) :: st) (Sg I J) Q := Rn_if' (isA_sg (I := I) (J := J) a c) hd (fun f => by simp only [stp, hf, hj, fval, ht, if_true, and_true]; rfl)
theorem g_gets0 {z : Nat} (hd : decode (mco m) pc = .ok (.getfield n, 3)) (hf : fl (mcl m) n = some (1, 0, z)) : Rn m pc ls (.ref a :: st) σ Q ↔ (1010 ≤ a ∧ a < 1015) ∧ Rn m (pc + 3) ls (.ref (a + 10) :: st) σ Q := Rn_if hd (fun f => by simp only [stp, hf]; rfl)
theorem g_gets1 {z : Nat} (hd : decode (mco m) pc = .ok (.getfield n, 3)) (hf : fl (mcl m) n = some (1, 1, z)) : Rn m pc ls (.ref a :: st) σ Q ↔ (1010 ≤ a ∧ a < 1015) ∧ Rn m (pc + 3) ls (.int 0 :: st) σ Q := Rn_if hd (fun f => by simp only [stp, hf]; rfl)
theorem g_put0 {x : Int32} (hd : decode (mco m) pc = .ok (.putfield n, 3)) (hf : fl (mcl m) n = some (0, c, j)) (hj : j < nf c) (ht : ft c j = 0) (hfin : (Tc c j).2.2.2 = false) : Rn m pc ls (.int x :: .ref a :: st) (Sg I J) Q ↔ kA a c ∧ Rn m (pc + 3) ls st (Sg (wI I a j x) J) Q := Rn_if' (isA_sg (I := I) (J := J) a c) hd (fun f => by simp only [stp, hf, hj, fput, ht, hfin, if_true, and_true, Bool.false_eq_true, false_implies]; rfl)
theorem g_put1 {x : Int64} (hd : decode (mco m) pc = .ok (.putfield n, 3)) (hf : fl (mcl m) n = some (0, c, j)) (hj : j < nf c) (ht : ft c j = 1) (hfin : (Tc c j).2.2.2 = false) : Rn m pc ls (.long x :: .ref a :: st) (Sg I J) Q ↔ kA a c ∧ Rn m (pc + 3) ls st (Sg I (wJ J a j x)) Q := Rn_if' (isA_sg (I := I) (J := J) a c) hd (fun f => by simp only [stp, hf, hj, fput, ht, hfin, if_true, and_true, Bool.false_eq_true, false_implies]; rfl)
theorem g_gst1 {z : Nat} (hd : decode (mco m) pc = .ok (.getstatic n, 3)) (hf : fl (mcl m) n = some (2, 1, z)) : Rn m pc ls st σ Q ↔ Rn m (pc + 3) ls (.int 1 :: st) σ Q := Rn_of hd (fun f => by simp only [stp, hf]; rfl)
theorem g_gst2 {w z : Nat} (hd : decode (mco m) pc = .ok (.getstatic n, 3)) (hf : fl (mcl m) n = some (2, w, z)) (hw : w ≠ 1) : Rn m pc ls st σ Q ↔ Rn m (pc + 3) ls (.ref w :: st) σ Q := Rn_of hd (fun f => by
  simp only [stp, hf, if_true])
theorem g_ialdS {i : Int32} (hd : decode (mco m) pc = .ok (.iaload, 1)) : Rn m pc ls (.int i :: .ref 1000 :: st) (Sg I J) Q ↔ inb i (I 999 0).toNatClampNeg ∧ Rn m (pc + 1) ls (.int (I 1000 i.toNatClampNeg) :: st) (Sg I J) Q := Rn_if' (inb_iff i _) hd (fun f => by simp [stp, isA, Sg, olen, oval])
theorem g_ialdT {i : Int32} (hd : decode (mco m) pc = .ok (.iaload, 1)) (h : 1001 ≤ a ∧ a ≤ 1003) : Rn m pc ls (.int i :: .ref a :: st) (Sg I J) Q ↔ inb i (otb.getD (a - 1001) []).length ∧ Rn m (pc + 1) ls (.int ((otb.getD (a - 1001) []).getD i.toNatClampNeg 0) :: st) (Sg I J) Q := Rn_if' (inb_iff i _) hd (fun f => by
  have h1 : ¬ a < 100 := by omega
  have h2 : ¬ a = 1000 := by omega
  simp only [stp, isA, Sg, h1, olen, oval, h2, h, decide_false, Bool.false_and, false_and, if_false, and_self, if_true]
  simp)
theorem g_iald {i : Int32} (hd : decode (mco m) pc = .ok (.iaload, 1)) (h : kA a 20) : Rn m pc ls (.int i :: .ref a :: st) (Sg I J) Q ↔ inb i (tg a).2 ∧ Rn m (pc + 1) ls (.int (I a i.toNatClampNeg) :: st) (Sg I J) Q := Rn_if' (inb_iff i _) hd (fun f => by
  have h1 : isA (Sg I J) a 20 = true := (isA_sg a 20).mpr h
  have h2 : olen (Sg I J) a = none := by
    have := h.1
    simp only [olen, show ¬ a = 1000 by omega, show ¬ (1001 ≤ a ∧ a ≤ 1003) by omega, false_and, if_false]
  simp only [stp, h1, h2, true_and, if_true]
  rfl)
theorem g_bald {i : Int32} (hd : decode (mco m) pc = .ok (.baload, 1)) (h : kA a 21 ∨ kA a 22) : Rn m pc ls (.int i :: .ref a :: st) (Sg I J) Q ↔ inb i (tg a).2 ∧ Rn m (pc + 1) ls (.int (I a i.toNatClampNeg) :: st) (Sg I J) Q := Rn_if' (inb_iff i _) hd (fun f => by
  have h1 : (isA (Sg I J) a 21 = true ∨ isA (Sg I J) a 22 = true) := by rw [isA_sg, isA_sg]; exact h
  have h2 : a < 100 := by rcases h with h | h <;> exact h.1
  simp only [stp, h1, true_and, if_true, show ¬ 1020 ≤ a by omega, false_and, if_false]
  rfl)
theorem g_baldT {i : Int32} (hd : decode (mco m) pc = .ok (.baload, 1)) (h : 1020 ≤ a ∧ a < 1025) : Rn m pc ls (.int i :: .ref a :: st) (Sg I J) Q ↔ inb i (stb.getD (a - 1020) []).length ∧ Rn m (pc + 1) ls (.int ((stb.getD (a - 1020) []).getD i.toNatClampNeg 0) :: st) (Sg I J) Q := Rn_if' (inb_iff i _) hd (fun f => by
  have h1 : ¬ a < 100 := by omega
  simp only [stp, isA, Sg, h1, decide_false, Bool.false_and, h.1, h.2, true_and, if_true]
  simp)
theorem g_iast {x i : Int32} (hd : decode (mco m) pc = .ok (.iastore, 1)) : Rn m pc ls (.int x :: .int i :: .ref a :: st) (Sg I J) Q ↔ (kA a 20 ∧ inb i (tg a).2) ∧ Rn m (pc + 1) ls st (Sg (wI I a i.toNatClampNeg x) J) Q := Rn_if' (c := isA (Sg I J) a 20 = true ∧ inbB i (tg a).2 = true) (by rw [isA_sg (I := I) (J := J), inb_iff]) hd (fun f => by simp only [stp]; rfl)
theorem g_bast {x i : Int32} (hd : decode (mco m) pc = .ok (.bastore, 1)) (h : kA a 21) : Rn m pc ls (.int x :: .int i :: .ref a :: st) (Sg I J) Q ↔ inb i (tg a).2 ∧ Rn m (pc + 1) ls st (Sg (wI I a i.toNatClampNeg (vp_nar .byte x)) J) Q := Rn_if' (inb_iff i _) hd (fun f => by
  have h1 : isA (Sg I J) a 21 = true := (isA_sg a 21).mpr h
  have h2 : ¬ isA (Sg I J) a 22 = true := fun q => by
    have := ((isA_sg a 22).mp q).2
    have := h.2
    omega
  simp only [stp, h1, h2, true_and, false_and, if_false, if_true]
  rfl)
theorem g_zast {x i : Int32} (hd : decode (mco m) pc = .ok (.bastore, 1)) (h : kA a 22) : Rn m pc ls (.int x :: .int i :: .ref a :: st) (Sg I J) Q ↔ inb i (tg a).2 ∧ Rn m (pc + 1) ls st (Sg (wI I a i.toNatClampNeg (vp_nar .boolean x)) J) Q := Rn_if' (inb_iff i _) hd (fun f => by
  have h1 : isA (Sg I J) a 22 = true := (isA_sg a 22).mpr h
  have h2 : ¬ isA (Sg I J) a 21 = true := fun q => by
    have := ((isA_sg a 21).mp q).2
    have := h.2
    omega
  simp only [stp, h1, h2, true_and, false_and, if_false, if_true]
  rfl)
theorem g_aald {i : Int32} (hd : decode (mco m) pc = .ok (.aaload, 1)) : Rn m pc ls (.int i :: .ref a :: st) (Sg I J) Q ↔ (kR a ∧ inb i (tg a).2) ∧ Rn m (pc + 1) ls (.ref (rf a i.toNatClampNeg) :: st) (Sg I J) Q := Rn_if' (c := (isA (Sg I J) a 23 = true ∨ isA (Sg I J) a 24 = true ∨ isA (Sg I J) a 25 = true) ∧ inbB i (tg a).2 = true ∧ (Sg I J).2.1 a i.toNatClampNeg = true) (by
  have h0 : (Sg I J).2.1 a i.toNatClampNeg = true := rfl
  rw [isA_sg (I := I) (J := J), isA_sg (I := I) (J := J), isA_sg (I := I) (J := J), inb_iff]
  simp only [h0, and_true]
  unfold kA kR
  constructor
  · rintro ⟨h, h2⟩; exact ⟨⟨by omega, by omega, by omega⟩, h2⟩
  · rintro ⟨h, h2⟩; exact ⟨by omega, h2⟩) hd (fun f => by simp only [stp]; rfl)
theorem g_alenS (hd : decode (mco m) pc = .ok (.arraylength, 1)) : Rn m pc ls (.ref 1000 :: st) (Sg I J) Q ↔ Rn m (pc + 1) ls (.int (I 999 0) :: st) (Sg I J) Q := Rn_of hd (fun f => by simp [stp, Sg])
theorem g_alenT (hd : decode (mco m) pc = .ok (.arraylength, 1)) (h : 1020 ≤ a ∧ a < 1025) : Rn m pc ls (.ref a :: st) (Sg I J) Q ↔ Rn m (pc + 1) ls (.int (Int32.ofNat (stb.getD (a - 1020) []).length) :: st) (Sg I J) Q := Rn_of hd (fun f => by
  have h1 : ¬ a < 100 := by omega
  simp only [stp, Sg, h1, false_and, if_false, h.1, h.2, and_self, if_true])
theorem g_alen (hd : decode (mco m) pc = .ok (.arraylength, 1)) (h : kA a 20) : Rn m pc ls (.ref a :: st) (Sg I J) Q ↔ Rn m (pc + 1) ls (.int (Int32.ofNat (tg a).2) :: st) (Sg I J) Q := Rn_of hd (fun f => by
  have h1 : a < (Sg I J).1 ∧ 20 ≤ (tg a).1 ∧ (tg a).1 < 23 := ⟨h.1, by rw [h.2]; omega, by rw [h.2]; omega⟩
  simp only [stp, h1, and_self, if_true])
theorem g_copy {nn dp sp : Int32} {a1 a0 t n1 i : Nat} (hd : decode (mco m) pc = .ok (.invokestatic i, 3)) (hc : ck (mcl m) i = some (8, t, n1)) (h4 : st.length ≤ 4) : Rn m pc ls (.int nn :: .int dp :: .ref a1 :: .int sp :: .ref a0 :: st) (Sg I J) Q ↔ ((kA a0 20 ∧ kA a1 20) ∧ ¬ sp < 0 ∧ ¬ dp < 0 ∧ ¬ nn < 0 ∧ sp.toNatClampNeg + nn.toNatClampNeg ≤ (tg a0).2 ∧ dp.toNatClampNeg + nn.toNatClampNeg ≤ (tg a1).2) ∧ Rn m (pc + 3) ls st (Sg (va_up I a1 (va_cpy (I a0) (I a1) sp.toNatClampNeg dp.toNatClampNeg nn.toNatClampNeg)) J) Q := Rn_if' (c := isA (Sg I J) a0 20 = true ∧ isA (Sg I J) a1 20 = true ∧ ¬ sp < 0 ∧ ¬ dp < 0 ∧ ¬ nn < 0 ∧ sp.toNatClampNeg + nn.toNatClampNeg ≤ (tg a0).2 ∧ dp.toNatClampNeg + nn.toNatClampNeg ≤ (tg a1).2 ∧ st.length ≤ 4) (by
  rw [isA_sg (I := I) (J := J), isA_sg (I := I) (J := J)]
  simp only [h4, and_true, and_assoc]) hd (fun f => by simp only [stp, doS, hc]; rfl)
theorem g_iret {x : Int32} (hd : decode (mco m) pc = .ok (.ireturn, 1)) (h : mre m = some .int) : Rn m pc ls [.int x] σ Q ↔ Q (some (.int x)) σ := by
  rw [Rn_ret (c := True) (r := some (.int x)) hd (fun f => by simp [stp, h])]
  simp
theorem g_zret {x : Int32} (hd : decode (mco m) pc = .ok (.ireturn, 1)) (h : mre m = some .boolean) : Rn m pc ls [.int x] σ Q ↔ (x = 0 ∨ x = 1) ∧ Q (some (.int x)) σ := Rn_ret hd (fun f => by simp only [stp, h]; rfl)
theorem g_bret {x : Int32} (hd : decode (mco m) pc = .ok (.ireturn, 1)) (h : mre m = some .byte) : Rn m pc ls [.int x] σ Q ↔ narrow .byte (.int x) = .int x ∧ Q (some (.int x)) σ := Rn_ret hd (fun f => by simp only [stp, h]; rfl)
theorem g_cret {x : Int32} (hd : decode (mco m) pc = .ok (.ireturn, 1)) (h : mre m = some .char) : Rn m pc ls [.int x] σ Q ↔ narrow .char (.int x) = .int x ∧ Q (some (.int x)) σ := Rn_ret hd (fun f => by simp only [stp, h]; rfl)
theorem g_lret {x : Int64} (hd : decode (mco m) pc = .ok (.lreturn, 1)) (h : mre m = some .long) : Rn m pc ls [.long x] σ Q ↔ Q (some (.long x)) σ := by
  rw [Rn_ret (c := True) (r := some (.long x)) hd (fun f => by simp [stp, h])]
  simp
theorem g_aret {x : Nat} (hd : decode (mco m) pc = .ok (.areturn, 1)) (h : mre m = some (.object RX9)) : Rn m pc ls [.ref x] σ Q ↔ x < 1000 ∧ Q (some (.ref x)) σ := Rn_ret hd (fun f => by simp [stp, h])
theorem g_vret (hd : decode (mco m) pc = .ok (.return_, 1)) (h : mre m = none) : Rn m pc ls [] σ Q ↔ Q none σ := by
  rw [Rn_ret (c := True) (r := none) hd (fun f => by simp [stp, h])]
  simp
theorem lget_0 {v : Value} {l : Vs} : lget (v :: l) 0 = v := rfl
/-- calls: the stack is the arguments, the last on top, and what is below -/
theorem g_sta1 {as l0 rest : Vs} {t nn i : Nat} (hd : decode (mco m) pc = .ok (.invokestatic i, 3)) (hc : ck (mcl m) i = some (1, t, nn)) (hst : st = as.reverse ++ rest) (hl : lcs (mml t) as = l0) (h4 : as.length = nn ∧ rest.length ≤ 4 ∧ (lcv as).length ≤ mml t ∧ mhg t < mhg m) : Rn m pc ls st (Sg I J) Q ↔ Ca t l0 (Sg I J) m (pc + 3) ls rest Q := by
  subst hl
  obtain ⟨h1, h2, h3, h5⟩ := h4
  have hp : pop st nn = as := by
    unfold pop
    rw [hst, List.take_left' (by simp [h1]), List.reverse_reverse]
  have hdr : st.drop nn = rest := by rw [hst, List.drop_left' (by simp [h1])]
  rw [Rn_ca (c := nn ≤ st.length) (t := t) (as := as) (st1 := rest) hd (fun f => by simp only [stp, doS, hc, hp, hdr]; rfl) ⟨h2, h3, h5⟩]
  simp [hst, h1]
theorem g_sta2 {as l0 rest : Vs} {t nn i : Nat} (hd : decode (mco m) pc = .ok (.invokestatic i, 3)) (hc : ck (mcl m) i = some (2, t, nn)) (hst : st = as.reverse ++ rest) (hl : lcs (mml t) as = l0) (h4 : as.length = nn ∧ rest.length ≤ 4 ∧ (lcv as).length ≤ mml t ∧ mhg t < mhg m) : Rn m pc ls st (Sg I J) Q ↔ Ca t l0 (Sg I J) m (pc + 3) ls rest Q := by
  subst hl
  obtain ⟨h1, h2, h3, h5⟩ := h4
  have hp : pop st nn = as := by
    unfold pop
    rw [hst, List.take_left' (by simp [h1]), List.reverse_reverse]
  have hdr : st.drop nn = rest := by rw [hst, List.drop_left' (by simp [h1])]
  rw [Rn_ca (c := nn ≤ st.length) (t := t) (as := as) (st1 := rest) hd (fun f => by simp only [stp, doS, hc, hp, hdr]; rfl) ⟨h2, h3, h5⟩]
  simp [hst, h1]
theorem pop_at {as rest : Vs} {nn : Nat} (hst : st = as.reverse ++ rest) (h1 : as.length = nn + 1) : pop st (nn + 1) = as ∧ st.drop (nn + 1) = rest ∧ nn < st.length := by
  refine ⟨?_, ?_, ?_⟩
  · unfold pop
    rw [hst, List.take_left' (by simp [h1]), List.reverse_reverse]
  · rw [hst, List.drop_left' (by simp [h1])]
  · rw [hst]; simp [h1]; omega
theorem g_vir {as0 l0 rest : Vs} {t nn i : Nat} (hd : decode (mco m) pc = .ok (.invokevirtual i, 3)) (hc : ck (mcl m) i = some (0, t, nn) ∧ mcl t ≠ 13) (hst : st = (.ref a :: as0 : Vs).reverse ++ rest) (hl : lcs (mml t) (.ref a :: as0) = l0) (h4 : as0.length = nn ∧ rest.length ≤ 4 ∧ (lcv (.ref a :: as0)).length ≤ mml t ∧ mhg t < mhg m) : Rn m pc ls st (Sg I J) Q ↔ kA a (mcl t) ∧ Ca t l0 (Sg I J) m (pc + 3) ls rest Q := by
  subst hl
  obtain ⟨h1, h2, h3, h5⟩ := h4
  obtain ⟨hp, hdr, hn⟩ := pop_at (nn := nn) hst (by simp [h1])
  rw [Rn_ca (c := (isA (Sg I J) a (mcl t) = true ∨ (mcl t = 13 ∧ 1010 ≤ a ∧ a < 1015)) ∧ nn < st.length) (t := t) (as := .ref a :: as0) (st1 := rest) hd (fun f => by simp only [stp, doV, hc.1, hp, hdr, lget_0]; rfl) ⟨h2, h3, h5⟩, isA_sg]
  simp [hc.2, hn]
theorem g_virS {as0 l0 rest : Vs} {t nn i : Nat} (hd : decode (mco m) pc = .ok (.invokevirtual i, 3)) (hc : ck (mcl m) i = some (0, t, nn) ∧ mcl t = 13) (hst : st = (.ref a :: as0 : Vs).reverse ++ rest) (hl : lcs (mml t) (.ref a :: as0) = l0) (h4 : as0.length = nn ∧ rest.length ≤ 4 ∧ (lcv (.ref a :: as0)).length ≤ mml t ∧ mhg t < mhg m) : Rn m pc ls st (Sg I J) Q ↔ (1010 ≤ a ∧ a < 1015) ∧ Ca t l0 (Sg I J) m (pc + 3) ls rest Q := by
  subst hl
  obtain ⟨h1, h2, h3, h5⟩ := h4
  obtain ⟨hp, hdr, hn⟩ := pop_at (nn := nn) hst (by simp [h1])
  rw [Rn_ca (c := (isA (Sg I J) a (mcl t) = true ∨ (mcl t = 13 ∧ 1010 ≤ a ∧ a < 1015)) ∧ nn < st.length) (t := t) (as := .ref a :: as0) (st1 := rest) hd (fun f => by simp only [stp, doV, hc.1, hp, hdr, lget_0]; rfl) ⟨h2, h3, h5⟩, isA_sg]
  have hno : ¬ kA a (mcl t) := fun q => by
    have := tg_kind q.1
    have := q.2
    have := hc.2
    omega
  simp [hc.2, hn]
  intro _ h
  rw [hc.2] at hno
  exact absurd h hno
theorem g_poly {as0 l0 rest : Vs} {t t0 nn i cc : Nat} (hd : decode (mco m) pc = .ok (.invokevirtual i, 3)) (hc : ck (mcl m) i = some (7, t0, nn)) (hpk : pk cc = some t) (hk : kA a cc) (hst : st = (.ref a :: as0 : Vs).reverse ++ rest) (hl : lcs (mml t) (.ref a :: as0) = l0) (h4 : as0.length = nn ∧ rest.length ≤ 4 ∧ (lcv (.ref a :: as0)).length ≤ mml t ∧ mhg t < mhg m) : Rn m pc ls st (Sg I J) Q ↔ Ca t l0 (Sg I J) m (pc + 3) ls rest Q := by
  subst hl
  obtain ⟨h1, h2, h3, h5⟩ := h4
  obtain ⟨hp, hdr, hn⟩ := pop_at (nn := nn) hst (by simp [h1])
  rw [Rn_ca (c := a < (Sg I J).1 ∧ nn < st.length) (t := t) (as := .ref a :: as0) (st1 := rest) hd (fun f => by simp only [stp, doV, hc, hp, hdr, lget_0, hk.2, hpk]; rfl) ⟨h2, h3, h5⟩]
  have : a < (Sg I J).1 := hk.1
  simp [hn, this]
theorem g_sup {as0 l0 rest : Vs} {t nn i : Nat} (hd : decode (mco m) pc = .ok (.invokespecial i, 3)) (hc : ck (mcl m) i = some (5, t, nn)) (hst : st = (.ref a :: as0 : Vs).reverse ++ rest) (hl : lcs (mml t) (.ref a :: as0) = l0) (h4 : as0.length = nn ∧ rest.length ≤ 4 ∧ (lcv (.ref a :: as0)).length ≤ mml t ∧ mhg t < mhg m) : Rn m pc ls st (Sg I J) Q ↔ kO a ∧ Ca t l0 (Sg I J) m (pc + 3) ls rest Q := by
  subst hl
  obtain ⟨h1, h2, h3, h5⟩ := h4
  obtain ⟨hp, hdr, hn⟩ := pop_at (nn := nn) hst (by simp [h1])
  rw [Rn_ca (c := a < (Sg I J).1 ∧ (tg a).1 < 13 ∧ nn < st.length) (t := t) (as := .ref a :: as0) (st1 := rest) hd (fun f => by simp only [stp, doI, hc, hp, hdr, lget_0]; rfl) ⟨h2, h3, h5⟩]
  simp only [hn, and_true]
  rfl
end STEPS
