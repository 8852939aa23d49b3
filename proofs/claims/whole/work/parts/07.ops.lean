/-! SOUNDNESS, 2: instructions that change no cell -/
theorem gm_pure {m pc pc1 : Nat} {ls st st1 : Vs} {σ : Sto} {r : Option Value} {σ' : Sto} (hg : Gm m pc1 ls st1 σ r σ')
    (step : ∀ (b0 : Nat) (D : va_G) (cy : Nat → ClassId) (av : Nat → Value) (L : Nat) (xs : Nat → Int32) (p : Program) (l : Launch) (e : Env) (R : Room) (s : State) (mid : MethodId) (args : Array Value) (below : List Frame) (meth : Method) (c : Code) (n0 : Nat) (Z : State → Prop) (H : Heap) (locs : List Loc) (lsx : Array Slot) (cells slots : Nat),
      Ctx b0 D cy av L xs m p R s mid args meth c n0 → Lr b0 av lsx (mml m) ls → Wr b0 D cy L xs σ H → va_S (fun q => b0 ≤ q) s.heap H locs → W p l e R s mid args below meth c H locs cells slots Z (F0 mid pc1 lsx (st1.map (cv b0 av))) → W p l e R s mid args below meth c H locs cells slots Z (F0 mid pc lsx (st.map (cv b0 av)))) : Gm m pc ls st σ r σ' := by
  refine ⟨hg.1, ?_⟩
  intro b0 D cy av L xs p l e R s mid args below meth c n0 Z C H locs lsx hl hW hS hn hc hk
  exact step _ _ _ _ _ _ _ _ _ _ _ _ _ _ _ _ _ _ _ _ _ _ _ C hl hW hS (hg.2 _ _ _ _ _ _ _ _ _ _ _ _ _ _ _ _ _ _ C _ _ _ hl hW hS hn hc hk)
theorem gm_loc {m pc pc1 : Nat} {ls ls1 st st1 : Vs} {σ : Sto} {r : Option Value} {σ' : Sto} (hg : Gm m pc1 ls1 st1 σ r σ')
    (step : ∀ (b0 : Nat) (D : va_G) (cy : Nat → ClassId) (av : Nat → Value) (L : Nat) (xs : Nat → Int32) (p : Program) (l : Launch) (e : Env) (R : Room) (s : State) (mid : MethodId) (args : Array Value) (below : List Frame) (meth : Method) (c : Code) (n0 : Nat) (Z : State → Prop) (H : Heap) (locs : List Loc) (lsx : Array Slot) (cells slots : Nat),
      Ctx b0 D cy av L xs m p R s mid args meth c n0 → Lr b0 av lsx (mml m) ls → Wr b0 D cy L xs σ H → va_S (fun q => b0 ≤ q) s.heap H locs → (∀ lsx1 : Array Slot, Lr b0 av lsx1 (mml m) ls1 → W p l e R s mid args below meth c H locs cells slots Z (F0 mid pc1 lsx1 (st1.map (cv b0 av)))) → W p l e R s mid args below meth c H locs cells slots Z (F0 mid pc lsx (st.map (cv b0 av)))) : Gm m pc ls st σ r σ' := by
  refine ⟨hg.1, ?_⟩
  intro b0 D cy av L xs p l e R s mid args below meth c n0 Z C H locs lsx hl hW hS hn hc hk
  exact step _ _ _ _ _ _ _ _ _ _ _ _ _ _ _ _ _ _ _ _ _ _ _ C hl hW hS (fun lsx1 hl1 => hg.2 _ _ _ _ _ _ _ _ _ _ _ _ _ _ _ _ _ _ C _ _ _ hl1 hW hS hn hc hk)
theorem Ctx.av {b0 : Nat} {D : va_G} {cy : Nat → ClassId} {av : Nat → Value} {L : Nat} {xs : Nat → Int32} {m : Nat} {p : Program} {R : Room} {s : State} {mid : MethodId} {args : Array Value} {meth : Method} {c : Code} {n0 : Nat} (C : Ctx b0 D cy av L xs m p R s mid args meth c n0) : ∀ k, (av k).category = 1 := C.2.2.2.2.2.2.1.2.2.2.2.1
/-- a reference that is one -/
theorem cv_ref {b0 : Nat} {D : va_G} {cy : Nat → ClassId} {av : Nat → Value} {L : Nat} {xs : Nat → Int32} {s : State} {H : Heap} (hC : Cx b0 D cy av L xs s H) {x : Nat} (hx : x < 1000 ∨ x = 1000 ∨ (1001 ≤ x ∧ x < 1004) ∨ (1010 ≤ x ∧ x < 1015) ∨ (1020 ≤ x ∧ x < 1025)) : ∃ y, cv b0 av (.ref x) = .ref y := by
  obtain ⟨-, -, -, -, -, -, -, h9, ⟨t, ht, -, -⟩, adK, adV, -, hR⟩ := hC
  rcases hx with h | h | h | h | h
  · exact ⟨b0 + x, by simp [cv, h]⟩
  · subst h; exact ⟨t, by simp [cv, ht]⟩
  · obtain ⟨t2, e1, -⟩ := h9 (x - 1001) (by omega)
    refine ⟨t2, ?_⟩
    have : ¬ x < 1000 := by omega
    simp only [cv, this, if_false]
    rw [show 1001 + (x - 1001) = x by omega] at e1
    exact e1
  · refine ⟨adK (x - 1010), ?_⟩
    have : ¬ x < 1000 := by omega
    simp only [cv, this, if_false]
    have e1 := (hR (x - 1010) (by omega)).1
    rw [show 1010 + (x - 1010) = x by omega] at e1
    exact e1
  · refine ⟨adV (x - 1020), ?_⟩
    have : ¬ x < 1000 := by omega
    simp only [cv, this, if_false]
    have e1 := (hR (x - 1020) (by omega)).2.1
    rw [show 1020 + (x - 1020) = x by omega] at e1
    exact e1
theorem jt_spec {pc : Nat} {off : Int} {t : Nat} (h : jt pc off = some t) : (pc : Int) + off = (t : Int) := by
  unfold jt at h
  split at h
  · cases h; omega
  · cases h
section OPS
variable {rec : Rec} {m pc k : Nat} {ls st : Vs} {σ : Sto} {r : Option Value} {σ' : Sto}
theorem ok_iload_n (hr : OkR rec) {n : Fin 4} (hd : decode (mco m) pc = .ok (.iload_n n, k)) (h : (if k = 1 then ldI rec n 1 m pc ls st σ else none) = some (r, σ')) : Gm m pc ls st σ r σ' := by
  split at h
  · rename_i hk; subst hk
    unfold ldI at h
    split at h
    · rename_i x hx
      refine gm_pure (hr _ _ _ _ _ _ _ h) ?_
      intro b0 D cy av L xs p l e R s mid args below meth c n0 Z H locs lsx cells slots C hl hW hS k
      exact lv_iload_n C.1 C.2.1 hd rfl (hl.get hx (fun q => by cases q)) k
    · cases h
  · cases h
theorem ok_iload (hr : OkR rec) {n : Nat} (hd : decode (mco m) pc = .ok (.iload n, k)) (h : (if k = 2 then ldI rec n 2 m pc ls st σ else none) = some (r, σ')) : Gm m pc ls st σ r σ' := by
  split at h
  · rename_i hk; subst hk
    unfold ldI at h
    split at h
    · rename_i x hx
      refine gm_pure (hr _ _ _ _ _ _ _ h) ?_
      intro b0 D cy av L xs p l e R s mid args below meth c n0 Z H locs lsx cells slots C hl hW hS k
      exact lv_iload C.1 C.2.1 hd (hl.get hx (fun q => by cases q)) k
    · cases h
  · cases h
theorem ok_lload_n (hr : OkR rec) {n : Fin 4} (hd : decode (mco m) pc = .ok (.lload_n n, k)) (h : (if k = 1 then ldL rec n 1 m pc ls st σ else none) = some (r, σ')) : Gm m pc ls st σ r σ' := by
  split at h
  · rename_i hk; subst hk
    unfold ldL at h
    split at h
    · rename_i x hx
      refine gm_pure (hr _ _ _ _ _ _ _ h) ?_
      intro b0 D cy av L xs p l e R s mid args below meth c n0 Z H locs lsx cells slots C hl hW hS k
      exact lv_lload_n C.1 C.2.1 hd rfl (hl.get hx (fun q => by cases q)) k
    · cases h
  · cases h
theorem ok_lload (hr : OkR rec) {n : Nat} (hd : decode (mco m) pc = .ok (.lload n, k)) (h : (if k = 2 then ldL rec n 2 m pc ls st σ else none) = some (r, σ')) : Gm m pc ls st σ r σ' := by
  split at h
  · rename_i hk; subst hk
    unfold ldL at h
    split at h
    · rename_i x hx
      refine gm_pure (hr _ _ _ _ _ _ _ h) ?_
      intro b0 D cy av L xs p l e R s mid args below meth c n0 Z H locs lsx cells slots C hl hW hS k
      exact lv_lload C.1 C.2.1 hd (hl.get hx (fun q => by cases q)) k
    · cases h
  · cases h
theorem ok_aload_n (hr : OkR rec) {n : Fin 4} (hd : decode (mco m) pc = .ok (.aload_n n, k)) (h : (if k = 1 then ldA rec n 1 m pc ls st σ else none) = some (r, σ')) : Gm m pc ls st σ r σ' := by
  split at h
  · rename_i hk; subst hk
    unfold ldA at h
    split at h
    · rename_i x hx
      split at h
      · rename_i hlt
        refine gm_pure (hr _ _ _ _ _ _ _ h) ?_
        intro b0 D cy av L xs p l e R s mid args below meth c n0 Z H locs lsx cells slots C hl hW hS k
        obtain ⟨y, hy⟩ := cv_ref C.2.2.2.2.2.2.1 hlt
        have hg := hl.get hx (fun q => by cases q)
        rw [List.map_cons, hy] at k
        rw [hy] at hg
        exact lv_aload_n C.1 C.2.1 hd rfl hg k
      · cases h
    · cases h
  · cases h
theorem ok_aload (hr : OkR rec) {n : Nat} (hd : decode (mco m) pc = .ok (.aload n, k)) (h : (if k = 2 then ldA rec n 2 m pc ls st σ else none) = some (r, σ')) : Gm m pc ls st σ r σ' := by
  split at h
  · rename_i hk; subst hk
    unfold ldA at h
    split at h
    · rename_i x hx
      split at h
      · rename_i hlt
        refine gm_pure (hr _ _ _ _ _ _ _ h) ?_
        intro b0 D cy av L xs p l e R s mid args below meth c n0 Z H locs lsx cells slots C hl hW hS k
        obtain ⟨y, hy⟩ := cv_ref C.2.2.2.2.2.2.1 hlt
        have hg := hl.get hx (fun q => by cases q)
        rw [List.map_cons, hy] at k
        rw [hy] at hg
        exact lv_aload C.1 C.2.1 hd hg k
      · cases h
    · cases h
  · cases h
theorem ok_istore_n (hr : OkR rec) {n : Fin 4} (hd : decode (mco m) pc = .ok (.istore_n n, k)) (h : (if k = 1 then stI rec n 1 m pc ls st σ else none) = some (r, σ')) : Gm m pc ls st σ r σ' := by
  split at h
  · rename_i hk; subst hk
    unfold stI at h
    split at h
    · split at h
      · rename_i hlt
        refine gm_loc (hr _ _ _ _ _ _ _ h) ?_
        intro b0 D cy av L xs p l e R s mid args below meth c n0 Z H locs lsx cells slots C hl hW hS k
        exact lv_istore_n C.1 C.2.1 hd rfl hl.lv hlt rfl (fun lsx1 h1 => k lsx1 (Lr.of1 C.av h1))
      · cases h
    · cases h
  · cases h
theorem ok_istore (hr : OkR rec) {n : Nat} (hd : decode (mco m) pc = .ok (.istore n, k)) (h : (if k = 2 then stI rec n 2 m pc ls st σ else none) = some (r, σ')) : Gm m pc ls st σ r σ' := by
  split at h
  · rename_i hk; subst hk
    unfold stI at h
    split at h
    · split at h
      · rename_i hlt
        refine gm_loc (hr _ _ _ _ _ _ _ h) ?_
        intro b0 D cy av L xs p l e R s mid args below meth c n0 Z H locs lsx cells slots C hl hW hS k
        exact lv_istore C.1 C.2.1 hd hl.lv hlt rfl (fun lsx1 h1 => k lsx1 (Lr.of1 C.av h1))
      · cases h
    · cases h
  · cases h
theorem ok_lstore_n (hr : OkR rec) {n : Fin 4} (hd : decode (mco m) pc = .ok (.lstore_n n, k)) (h : (if k = 1 then stL rec n 1 m pc ls st σ else none) = some (r, σ')) : Gm m pc ls st σ r σ' := by
  split at h
  · rename_i hk; subst hk
    unfold stL at h
    split at h
    · split at h
      · rename_i hlt
        refine gm_loc (hr _ _ _ _ _ _ _ h) ?_
        intro b0 D cy av L xs p l e R s mid args below meth c n0 Z H locs lsx cells slots C hl hW hS k
        exact lv_lstore_n C.1 C.2.1 hd rfl hl.lv hlt rfl (fun lsx1 h1 => k lsx1 (Lr.of2 C.av h1))
      · cases h
    · cases h
  · cases h
theorem ok_lstore (hr : OkR rec) {n : Nat} (hd : decode (mco m) pc = .ok (.lstore n, k)) (h : (if k = 2 then stL rec n 2 m pc ls st σ else none) = some (r, σ')) : Gm m pc ls st σ r σ' := by
  split at h
  · rename_i hk; subst hk
    unfold stL at h
    split at h
    · split at h
      · rename_i hlt
        refine gm_loc (hr _ _ _ _ _ _ _ h) ?_
        intro b0 D cy av L xs p l e R s mid args below meth c n0 Z H locs lsx cells slots C hl hW hS k
        exact lv_lstore C.1 C.2.1 hd hl.lv hlt rfl (fun lsx1 h1 => k lsx1 (Lr.of2 C.av h1))
      · cases h
    · cases h
  · cases h
theorem ok_astore_n (hr : OkR rec) {n : Fin 4} (hd : decode (mco m) pc = .ok (.astore_n n, k)) (h : (if k = 1 then stA rec n 1 m pc ls st σ else none) = some (r, σ')) : Gm m pc ls st σ r σ' := by
  split at h
  · rename_i hk; subst hk
    unfold stA at h
    split at h
    · rename_i x r0
      split at h
      · rename_i hlt
        refine gm_loc (hr _ _ _ _ _ _ _ h) ?_
        intro b0 D cy av L xs p l e R s mid args below meth c n0 Z H locs lsx cells slots C hl hW hS k
        obtain ⟨y, hy⟩ := cv_ref C.2.2.2.2.2.2.1 hlt.2
        rw [List.map_cons, hy]
        exact lv_astore_n C.1 C.2.1 hd rfl hl.lv hlt.1 rfl (fun lsx1 h1 => k lsx1 (Lr.of1 C.av (by rw [hy]; exact h1)))
      · cases h
    · cases h
  · cases h
theorem ok_astore (hr : OkR rec) {n : Nat} (hd : decode (mco m) pc = .ok (.astore n, k)) (h : (if k = 2 then stA rec n 2 m pc ls st σ else none) = some (r, σ')) : Gm m pc ls st σ r σ' := by
  split at h
  · rename_i hk; subst hk
    unfold stA at h
    split at h
    · rename_i x r0
      split at h
      · rename_i hlt
        refine gm_loc (hr _ _ _ _ _ _ _ h) ?_
        intro b0 D cy av L xs p l e R s mid args below meth c n0 Z H locs lsx cells slots C hl hW hS k
        obtain ⟨y, hy⟩ := cv_ref C.2.2.2.2.2.2.1 hlt.2
        rw [List.map_cons, hy]
        exact lv_astore C.1 C.2.1 hd hl.lv hlt.1 rfl (fun lsx1 h1 => k lsx1 (Lr.of1 C.av (by rw [hy]; exact h1)))
      · cases h
    · cases h
  · cases h
theorem ok_iconst (hr : OkR rec) {n : Int} (hd : decode (mco m) pc = .ok (.iconst n, k)) (h : (if k = 1 then psh rec 1 (.int (Int32.ofInt n)) m pc ls st σ else none) = some (r, σ')) : Gm m pc ls st σ r σ' := by
  split at h
  · rename_i hk; subst hk
    refine gm_pure (hr _ _ _ _ _ _ _ h) ?_
    intro b0 D cy av L xs p l e R s mid args below meth c n0 Z H locs lsx cells slots C hl hW hS k
    exact lv_iconst C.1 C.2.1 hd rfl k
  · cases h
theorem ok_bipush (hr : OkR rec) {n : Int} (hd : decode (mco m) pc = .ok (.bipush n, k)) (h : (if k = 2 then psh rec 2 (.int (Int8.ofInt n).toInt32) m pc ls st σ else none) = some (r, σ')) : Gm m pc ls st σ r σ' := by
  split at h
  · rename_i hk; subst hk
    refine gm_pure (hr _ _ _ _ _ _ _ h) ?_
    intro b0 D cy av L xs p l e R s mid args below meth c n0 Z H locs lsx cells slots C hl hW hS k
    exact lv_bipush C.1 C.2.1 hd rfl k
  · cases h
theorem ok_sipush (hr : OkR rec) {n : Int} (hd : decode (mco m) pc = .ok (.sipush n, k)) (h : (if k = 3 then psh rec 3 (.int (Int16.ofInt n).toInt32) m pc ls st σ else none) = some (r, σ')) : Gm m pc ls st σ r σ' := by
  split at h
  · rename_i hk; subst hk
    refine gm_pure (hr _ _ _ _ _ _ _ h) ?_
    intro b0 D cy av L xs p l e R s mid args below meth c n0 Z H locs lsx cells slots C hl hW hS k
    exact lv_sipush C.1 C.2.1 hd rfl k
  · cases h
theorem ok_lconst (hr : OkR rec) {n : Fin 2} (hd : decode (mco m) pc = .ok (.lconst n, k)) (h : (if k = 1 then psh rec 1 (.long (Int64.ofNat (n : Nat))) m pc ls st σ else none) = some (r, σ')) : Gm m pc ls st σ r σ' := by
  split at h
  · rename_i hk; subst hk
    refine gm_pure (hr _ _ _ _ _ _ _ h) ?_
    intro b0 D cy av L xs p l e R s mid args below meth c n0 Z H locs lsx cells slots C hl hW hS k
    exact lv_lconst C.1 C.2.1 hd rfl k
  · cases h
theorem ok_iadd (hr : OkR rec) (hd : decode (mco m) pc = .ok (.iadd, k)) (h : (if k = 1 then b2I rec (fun x y => x + y) m pc ls st σ else none) = some (r, σ')) : Gm m pc ls st σ r σ' := by
  split at h
  · rename_i hk; subst hk
    unfold b2I at h
    split at h
    · refine gm_pure (hr _ _ _ _ _ _ _ h) ?_
      intro b0 D cy av L xs p l e R s mid args below meth c n0 Z H locs lsx cells slots C hl hW hS k
      exact lv_iadd C.1 C.2.1 hd k
    · cases h
  · cases h
theorem ok_isub (hr : OkR rec) (hd : decode (mco m) pc = .ok (.isub, k)) (h : (if k = 1 then b2I rec (fun x y => x - y) m pc ls st σ else none) = some (r, σ')) : Gm m pc ls st σ r σ' := by
  split at h
  · rename_i hk; subst hk
    unfold b2I at h
    split at h
    · refine gm_pure (hr _ _ _ _ _ _ _ h) ?_
      intro b0 D cy av L xs p l e R s mid args below meth c n0 Z H locs lsx cells slots C hl hW hS k
      exact lv_isub C.1 C.2.1 hd k
    · cases h
  · cases h
theorem ok_imul (hr : OkR rec) (hd : decode (mco m) pc = .ok (.imul, k)) (h : (if k = 1 then b2I rec (fun x y => x * y) m pc ls st σ else none) = some (r, σ')) : Gm m pc ls st σ r σ' := by
  split at h
  · rename_i hk; subst hk
    unfold b2I at h
    split at h
    · refine gm_pure (hr _ _ _ _ _ _ _ h) ?_
      intro b0 D cy av L xs p l e R s mid args below meth c n0 Z H locs lsx cells slots C hl hW hS k
      exact lv_imul C.1 C.2.1 hd k
    · cases h
  · cases h
theorem ok_iand (hr : OkR rec) (hd : decode (mco m) pc = .ok (.iand, k)) (h : (if k = 1 then b2I rec (fun x y => x &&& y) m pc ls st σ else none) = some (r, σ')) : Gm m pc ls st σ r σ' := by
  split at h
  · rename_i hk; subst hk
    unfold b2I at h
    split at h
    · refine gm_pure (hr _ _ _ _ _ _ _ h) ?_
      intro b0 D cy av L xs p l e R s mid args below meth c n0 Z H locs lsx cells slots C hl hW hS k
      exact lv_iand C.1 C.2.1 hd k
    · cases h
  · cases h
theorem ok_ior (hr : OkR rec) (hd : decode (mco m) pc = .ok (.ior, k)) (h : (if k = 1 then b2I rec (fun x y => x ||| y) m pc ls st σ else none) = some (r, σ')) : Gm m pc ls st σ r σ' := by
  split at h
  · rename_i hk; subst hk
    unfold b2I at h
    split at h
    · refine gm_pure (hr _ _ _ _ _ _ _ h) ?_
      intro b0 D cy av L xs p l e R s mid args below meth c n0 Z H locs lsx cells slots C hl hW hS k
      exact lv_ior C.1 C.2.1 hd k
    · cases h
  · cases h
theorem ok_ixor (hr : OkR rec) (hd : decode (mco m) pc = .ok (.ixor, k)) (h : (if k = 1 then b2I rec (fun x y => x ^^^ y) m pc ls st σ else none) = some (r, σ')) : Gm m pc ls st σ r σ' := by
  split at h
  · rename_i hk; subst hk
    unfold b2I at h
    split at h
    · refine gm_pure (hr _ _ _ _ _ _ _ h) ?_
      intro b0 D cy av L xs p l e R s mid args below meth c n0 Z H locs lsx cells slots C hl hW hS k
      exact lv_ixor C.1 C.2.1 hd k
    · cases h
  · cases h
theorem ok_ishl (hr : OkR rec) (hd : decode (mco m) pc = .ok (.ishl, k)) (h : (if k = 1 then b2I rec (fun x y => x <<< (y &&& 31)) m pc ls st σ else none) = some (r, σ')) : Gm m pc ls st σ r σ' := by
  split at h
  · rename_i hk; subst hk
    unfold b2I at h
    split at h
    · refine gm_pure (hr _ _ _ _ _ _ _ h) ?_
      intro b0 D cy av L xs p l e R s mid args below meth c n0 Z H locs lsx cells slots C hl hW hS k
      exact lv_ishl C.1 C.2.1 hd k
    · cases h
  · cases h
theorem ok_ishr (hr : OkR rec) (hd : decode (mco m) pc = .ok (.ishr, k)) (h : (if k = 1 then b2I rec (fun x y => x >>> (y &&& 31)) m pc ls st σ else none) = some (r, σ')) : Gm m pc ls st σ r σ' := by
  split at h
  · rename_i hk; subst hk
    unfold b2I at h
    split at h
    · refine gm_pure (hr _ _ _ _ _ _ _ h) ?_
      intro b0 D cy av L xs p l e R s mid args below meth c n0 Z H locs lsx cells slots C hl hW hS k
      exact lv_ishr C.1 C.2.1 hd k
    · cases h
  · cases h
theorem ok_iushr (hr : OkR rec) (hd : decode (mco m) pc = .ok (.iushr, k)) (h : (if k = 1 then b2I rec (fun x y => (x.toUInt32 >>> (y.toUInt32 &&& Int32.toUInt32 31)).toInt32) m pc ls st σ else none) = some (r, σ')) : Gm m pc ls st σ r σ' := by
  split at h
  · rename_i hk; subst hk
    unfold b2I at h
    split at h
    · refine gm_pure (hr _ _ _ _ _ _ _ h) ?_
      intro b0 D cy av L xs p l e R s mid args below meth c n0 Z H locs lsx cells slots C hl hW hS k
      exact lv_iushr C.1 C.2.1 hd rfl k
    · cases h
  · cases h
theorem ok_ladd (hr : OkR rec) (hd : decode (mco m) pc = .ok (.ladd, k)) (h : (if k = 1 then b2L rec (fun x y => x + y) m pc ls st σ else none) = some (r, σ')) : Gm m pc ls st σ r σ' := by
  split at h
  · rename_i hk; subst hk
    unfold b2L at h
    split at h
    · refine gm_pure (hr _ _ _ _ _ _ _ h) ?_
      intro b0 D cy av L xs p l e R s mid args below meth c n0 Z H locs lsx cells slots C hl hW hS k
      exact lv_ladd C.1 C.2.1 hd k
    · cases h
  · cases h
theorem ok_lmul (hr : OkR rec) (hd : decode (mco m) pc = .ok (.lmul, k)) (h : (if k = 1 then b2L rec (fun x y => x * y) m pc ls st σ else none) = some (r, σ')) : Gm m pc ls st σ r σ' := by
  split at h
  · rename_i hk; subst hk
    unfold b2L at h
    split at h
    · refine gm_pure (hr _ _ _ _ _ _ _ h) ?_
      intro b0 D cy av L xs p l e R s mid args below meth c n0 Z H locs lsx cells slots C hl hW hS k
      exact lv_lmul C.1 C.2.1 hd k
    · cases h
  · cases h
theorem ok_irem (hr : OkR rec) (hd : decode (mco m) pc = .ok (.irem, k)) (h : (if k = 1 then (match st with
    | .int y :: .int x :: r => if ¬ y = 0 then rec m (pc + 1) ls (.int (x - x / y * y) :: r) σ else none
    | _ => none) else none) = some (r, σ')) : Gm m pc ls st σ r σ' := by
  split at h
  · rename_i hk; subst hk
    split at h
    · split at h
      · rename_i hne
        refine gm_pure (hr _ _ _ _ _ _ _ h) ?_
        intro b0 D cy av L xs p l e R s mid args below meth c n0 Z H locs lsx cells slots C hl hW hS k
        exact lv_irem C.1 C.2.1 hd hne k
      · cases h
    · cases h
  · cases h
theorem ok_ldiv (hr : OkR rec) (hd : decode (mco m) pc = .ok (.ldiv, k)) (h : (if k = 1 then (match st with
    | .long y :: .long x :: r => if ¬ y = 0 then rec m (pc + 1) ls (.long (x / y) :: r) σ else none
    | _ => none) else none) = some (r, σ')) : Gm m pc ls st σ r σ' := by
  split at h
  · rename_i hk; subst hk
    split at h
    · split at h
      · rename_i hne
        refine gm_pure (hr _ _ _ _ _ _ _ h) ?_
        intro b0 D cy av L xs p l e R s mid args below meth c n0 Z H locs lsx cells slots C hl hW hS k
        exact lv_ldiv C.1 C.2.1 hd hne k
      · cases h
    · cases h
  · cases h
theorem ok_lrem (hr : OkR rec) (hd : decode (mco m) pc = .ok (.lrem, k)) (h : (if k = 1 then (match st with
    | .long y :: .long x :: r => if ¬ y = 0 then rec m (pc + 1) ls (.long (x - x / y * y) :: r) σ else none
    | _ => none) else none) = some (r, σ')) : Gm m pc ls st σ r σ' := by
  split at h
  · rename_i hk; subst hk
    split at h
    · split at h
      · rename_i hne
        refine gm_pure (hr _ _ _ _ _ _ _ h) ?_
        intro b0 D cy av L xs p l e R s mid args below meth c n0 Z H locs lsx cells slots C hl hW hS k
        exact lv_lrem C.1 C.2.1 hd hne k
      · cases h
    · cases h
  · cases h
theorem ok_lcmp (hr : OkR rec) (hd : decode (mco m) pc = .ok (.lcmp, k)) (h : (if k = 1 then (match st with
    | .long y :: .long x :: r => rec m (pc + 1) ls (.int (lg_cmp x y) :: r) σ
    | _ => none) else none) = some (r, σ')) : Gm m pc ls st σ r σ' := by
  split at h
  · rename_i hk; subst hk
    split at h
    · refine gm_pure (hr _ _ _ _ _ _ _ h) ?_
      intro b0 D cy av L xs p l e R s mid args below meth c n0 Z H locs lsx cells slots C hl hW hS k
      exact W.lcmp C.1 C.2.1 hd k
    · cases h
  · cases h
theorem ok_i2l (hr : OkR rec) (hd : decode (mco m) pc = .ok (.i2l, k)) (h : (if k = 1 then (match st with
    | .int x :: r => rec m (pc + 1) ls (.long x.toInt64 :: r) σ
    | _ => none) else none) = some (r, σ')) : Gm m pc ls st σ r σ' := by
  split at h
  · rename_i hk; subst hk
    split at h
    · refine gm_pure (hr _ _ _ _ _ _ _ h) ?_
      intro b0 D cy av L xs p l e R s mid args below meth c n0 Z H locs lsx cells slots C hl hW hS k
      exact lv_i2l C.1 C.2.1 hd rfl k
    · cases h
  · cases h
theorem ok_i2b (hr : OkR rec) (hd : decode (mco m) pc = .ok (.i2b, k)) (h : (if k = 1 then (match st with
    | .int x :: r => rec m (pc + 1) ls (.int x.toInt8.toInt32 :: r) σ
    | _ => none) else none) = some (r, σ')) : Gm m pc ls st σ r σ' := by
  split at h
  · rename_i hk; subst hk
    split at h
    · refine gm_pure (hr _ _ _ _ _ _ _ h) ?_
      intro b0 D cy av L xs p l e R s mid args below meth c n0 Z H locs lsx cells slots C hl hW hS k
      exact lv_i2b C.1 C.2.1 hd rfl k
    · cases h
  · cases h
theorem ok_i2c (hr : OkR rec) (hd : decode (mco m) pc = .ok (.i2c, k)) (h : (if k = 1 then (match st with
    | .int x :: r => rec m (pc + 1) ls (.int (x.toUInt32 % 65536).toInt32 :: r) σ
    | _ => none) else none) = some (r, σ')) : Gm m pc ls st σ r σ' := by
  split at h
  · rename_i hk; subst hk
    split at h
    · refine gm_pure (hr _ _ _ _ _ _ _ h) ?_
      intro b0 D cy av L xs p l e R s mid args below meth c n0 Z H locs lsx cells slots C hl hW hS k
      exact lv_i2c C.1 C.2.1 hd rfl k
    · cases h
  · cases h
theorem ok_dup (hr : OkR rec) (hd : decode (mco m) pc = .ok (.dup, k)) (h : (if k = 1 then (match st with
    | .int x :: r => rec m (pc + 1) ls (.int x :: .int x :: r) σ
    | .ref x :: r => if isR x then rec m (pc + 1) ls (.ref x :: .ref x :: r) σ else none
    | _ => none) else none) = some (r, σ')) : Gm m pc ls st σ r σ' := by
  split at h
  · rename_i hk; subst hk
    split at h
    · refine gm_pure (hr _ _ _ _ _ _ _ h) ?_
      intro b0 D cy av L xs p l e R s mid args below meth c n0 Z H locs lsx cells slots C hl hW hS k
      exact lv_dup C.1 C.2.1 hd rfl k
    · split at h
      · rename_i hlt
        refine gm_pure (hr _ _ _ _ _ _ _ h) ?_
        intro b0 D cy av L xs p l e R s mid args below meth c n0 Z H locs lsx cells slots C hl hW hS k
        obtain ⟨y, hy⟩ := cv_ref C.2.2.2.2.2.2.1 hlt
        simp only [List.map_cons, hy] at k ⊢
        exact lv_dup C.1 C.2.1 hd rfl k
      · cases h
    · cases h
  · cases h
theorem ok_dup2 (hr : OkR rec) (hd : decode (mco m) pc = .ok (.dup2, k)) (h : (if k = 1 then (match st with
    | .int x :: .ref y :: r => if isR y then rec m (pc + 1) ls (.int x :: .ref y :: .int x :: .ref y :: r) σ else none
    | _ => none) else none) = some (r, σ')) : Gm m pc ls st σ r σ' := by
  split at h
  · rename_i hk; subst hk
    split at h
    · split at h
      · rename_i hlt
        refine gm_pure (hr _ _ _ _ _ _ _ h) ?_
        intro b0 D cy av L xs p l e R s mid args below meth c n0 Z H locs lsx cells slots C hl hW hS k
        obtain ⟨y, hy⟩ := cv_ref C.2.2.2.2.2.2.1 hlt
        simp only [List.map_cons, hy] at k ⊢
        exact lv_dup2_11 C.1 C.2.1 hd rfl rfl k
      · cases h
    · cases h
  · cases h
theorem ok_pop (hr : OkR rec) (hd : decode (mco m) pc = .ok (.pop, k)) (h : (if k = 1 then (match st with
    | .int _ :: r => rec m (pc + 1) ls r σ
    | _ => none) else none) = some (r, σ')) : Gm m pc ls st σ r σ' := by
  split at h
  · rename_i hk; subst hk
    split at h
    · refine gm_pure (hr _ _ _ _ _ _ _ h) ?_
      intro b0 D cy av L xs p l e R s mid args below meth c n0 Z H locs lsx cells slots C hl hW hS k
      exact lv_pop C.1 C.2.1 hd rfl k
    · cases h
  · cases h
theorem ok_goto (hr : OkR rec) {off : Int} (hd : decode (mco m) pc = .ok (.goto off, k)) (h : (if k = 3 then (jt pc off).bind (fun t => rec m t ls st σ) else none) = some (r, σ')) : Gm m pc ls st σ r σ' := by
  split at h
  · rename_i hk; subst hk
    cases hj : jt pc off with
    | none => rw [hj] at h; cases h
    | some t =>
      rw [hj] at h
      refine gm_pure (hr _ _ _ _ _ _ _ h) ?_
      intro b0 D cy av L xs p l e R s mid args below meth c n0 Z H locs lsx cells slots C hl hW hS k
      exact lv_goto C.1 C.2.1 hd (jt_spec hj) k
  · cases h
theorem ok_ifCond (hr : OkR rec) {c0 : Jvm.ClassFile.Cond} {off : Int} (hd : decode (mco m) pc = .ok (.ifCond c0 off, k)) (h : (if k = 3 then (match st with
    | .int x :: r => brn rec (cz c0 x) off m pc ls r σ
    | _ => none) else none) = some (r, σ')) : Gm m pc ls st σ r σ' := by
  split at h
  · rename_i hk; subst hk
    split at h
    · rename_i x r0
      unfold brn at h
      cases hj : jt pc off with
      | none => rw [hj] at h; cases h
      | some t =>
        rw [hj] at h
        dsimp only [Option.bind_some] at h
        split at h
        · rename_i hb
          refine gm_pure (hr _ _ _ _ _ _ _ h) ?_
          intro b0 D cy av L xs p l e R s mid args below meth c n0 Z H locs lsx cells slots C hl hW hS k
          cases c0 <;> simp only [cz, decide_eq_true_eq] at hb
          · exact lv_if_eq C.1 C.2.1 hd (jt_spec hj) (fun _ => k) (fun q => absurd hb q)
          · exact lv_if_ne C.1 C.2.1 hd (jt_spec hj) (fun _ => k) (fun q => absurd q hb)
          · exact lv_if_lt C.1 C.2.1 hd (jt_spec hj) (fun _ => k) (fun q => absurd hb q)
          · exact lv_if_ge C.1 C.2.1 hd (jt_spec hj) (fun _ => k) (fun q => absurd hb q)
          · exact lv_if_gt C.1 C.2.1 hd (jt_spec hj) (fun _ => k) (fun q => absurd hb q)
          · exact lv_if_le C.1 C.2.1 hd (jt_spec hj) (fun _ => k) (fun q => absurd hb q)
        · rename_i hb
          refine gm_pure (hr _ _ _ _ _ _ _ h) ?_
          intro b0 D cy av L xs p l e R s mid args below meth c n0 Z H locs lsx cells slots C hl hW hS k
          cases c0 <;> simp only [cz, decide_eq_true_eq] at hb
          · exact lv_if_eq C.1 C.2.1 hd (jt_spec hj) (fun q => absurd q hb) (fun _ => k)
          · exact lv_if_ne C.1 C.2.1 hd (jt_spec hj) (fun q => absurd q hb) (fun _ => k)
          · exact lv_if_lt C.1 C.2.1 hd (jt_spec hj) (fun q => absurd q hb) (fun _ => k)
          · exact lv_if_ge C.1 C.2.1 hd (jt_spec hj) (fun q => absurd q hb) (fun _ => k)
          · exact lv_if_gt C.1 C.2.1 hd (jt_spec hj) (fun q => absurd q hb) (fun _ => k)
          · exact lv_if_le C.1 C.2.1 hd (jt_spec hj) (fun q => absurd q hb) (fun _ => k)
    · cases h
  · cases h
theorem ok_if_icmp (hr : OkR rec) {c0 : Jvm.ClassFile.Cond} {off : Int} (hd : decode (mco m) pc = .ok (.if_icmp c0 off, k)) (h : (if k = 3 then (match st with
    | .int y :: .int x :: r => brn rec (cc2 c0 x y) off m pc ls r σ
    | _ => none) else none) = some (r, σ')) : Gm m pc ls st σ r σ' := by
  split at h
  · rename_i hk; subst hk
    split at h
    · rename_i y x r0
      unfold brn at h
      cases hj : jt pc off with
      | none => rw [hj] at h; cases h
      | some t =>
        rw [hj] at h
        dsimp only [Option.bind_some] at h
        split at h
        · rename_i hb
          refine gm_pure (hr _ _ _ _ _ _ _ h) ?_
          intro b0 D cy av L xs p l e R s mid args below meth c n0 Z H locs lsx cells slots C hl hW hS k
          cases c0 <;> simp only [cc2, decide_eq_true_eq] at hb
          · exact lv_icmp_eq C.1 C.2.1 hd (jt_spec hj) (fun _ => k) (fun q => absurd hb q)
          · exact lv_icmp_ne C.1 C.2.1 hd (jt_spec hj) (fun _ => k) (fun q => absurd q hb)
          · exact lv_icmp_lt C.1 C.2.1 hd (jt_spec hj) (fun _ => k) (fun q => absurd hb q)
          · exact lv_icmp_ge C.1 C.2.1 hd (jt_spec hj) (fun _ => k) (fun q => absurd hb q)
          · exact lv_icmp_gt C.1 C.2.1 hd (jt_spec hj) (fun _ => k) (fun q => absurd hb q)
          · exact lv_icmp_le C.1 C.2.1 hd (jt_spec hj) (fun _ => k) (fun q => absurd hb q)
        · rename_i hb
          refine gm_pure (hr _ _ _ _ _ _ _ h) ?_
          intro b0 D cy av L xs p l e R s mid args below meth c n0 Z H locs lsx cells slots C hl hW hS k
          cases c0 <;> simp only [cc2, decide_eq_true_eq] at hb
          · exact lv_icmp_eq C.1 C.2.1 hd (jt_spec hj) (fun q => absurd q hb) (fun _ => k)
          · exact lv_icmp_ne C.1 C.2.1 hd (jt_spec hj) (fun q => absurd q hb) (fun _ => k)
          · exact lv_icmp_lt C.1 C.2.1 hd (jt_spec hj) (fun q => absurd q hb) (fun _ => k)
          · exact lv_icmp_ge C.1 C.2.1 hd (jt_spec hj) (fun q => absurd q hb) (fun _ => k)
          · exact lv_icmp_gt C.1 C.2.1 hd (jt_spec hj) (fun q => absurd q hb) (fun _ => k)
          · exact lv_icmp_le C.1 C.2.1 hd (jt_spec hj) (fun q => absurd q hb) (fun _ => k)
    · cases h
  · cases h
theorem ok_tableswitch (hr : OkR rec) {d lo hi : Int} {os : Array Int} (hd : decode (mco m) pc = .ok (.tableswitch d lo hi os, k)) (h : (match st with
    | .int x :: r => if x.toInt < lo ∨ hi < x.toInt then (jt pc d).bind (fun t => rec m t ls r σ) else (os[(x.toInt - lo).toNat]?).bind (fun off => (jt pc off).bind (fun t => rec m t ls r σ))
    | _ => none) = some (r, σ')) : Gm m pc ls st σ r σ' := by
  split at h
  · rename_i x r0
    split at h
    · rename_i hb
      cases hj : jt pc d with
      | none => rw [hj] at h; cases h
      | some t =>
        rw [hj] at h
        refine gm_pure (hr _ _ _ _ _ _ _ h) ?_
        intro b0 D cy av L xs p l e R s mid args below meth c n0 Z H locs lsx cells slots C hl hW hS k
        exact lv_tableOut C.1 C.2.1 hd hb (jt_spec hj) k
    · rename_i hb
      cases ho : os[(x.toInt - lo).toNat]? with
      | none => rw [ho] at h; cases h
      | some off =>
        rw [ho] at h
        dsimp only [Option.bind_some] at h
        cases hj : jt pc off with
        | none => rw [hj] at h; cases h
        | some t =>
          rw [hj] at h
          refine gm_pure (hr _ _ _ _ _ _ _ h) ?_
          intro b0 D cy av L xs p l e R s mid args below meth c n0 Z H locs lsx cells slots C hl hW hS k
          exact lv_tableIn C.1 C.2.1 hd (fun q => hb (Or.inl q)) (fun q => hb (Or.inr q)) ho (jt_spec hj) k
  · cases h
end OPS
