/-! SOUNDNESS, 6: new cells -/
theorem fresh {b0 q : Nat} {D : va_G} {cy : Nat → ClassId} {σ : Sto} {e : va_E} {H1 : Heap} (hP : va_P D vwCl (wl b0 cy σ ++ [(q, e)]) H1) (hD : va_D (fun q => b0 ≤ q) (wl b0 cy σ ++ [(q, e)])) (hsz : H1.size ≤ b0 + σ.1 + 1) : q = b0 + σ.1 := by
  have hlen : (wl b0 cy σ).length = σ.1 := by simp [wl]
  have hi : (wl b0 cy σ ++ [(q, e)])[σ.1]? = some (q, e) := by
    rw [List.getElem?_append_right (by omega), hlen, Nat.sub_self]
    rfl
  have h1 : q < H1.size := (hP σ.1 _ hi).lt
  have h2 : b0 ≤ q := hD.2 σ.1 _ hi
  by_cases hq : q - b0 < σ.1
  · have hj : (wl b0 cy σ ++ [(q, e)])[q - b0]? = some (b0 + (q - b0), ce b0 cy σ (q - b0)) := by
      rw [List.getElem?_append_left (by omega), wl_get hq]
    have := hD.1 (q - b0) σ.1 _ _ hj hi (by show b0 + (q - b0) = q; omega)
    omega
  · omega
theorem gm_new {m pc pc1 N : Nat} {ls st rest0 : Vs} {σ : Sto} {r : Option Value} {σ' : Sto} (hg : Gm m pc1 ls (.ref σ.1 :: rest0) (sN σ) r σ') (h100 : σ.1 < 100) (hN : ssz σ.1 = N)
    (step : ∀ (b0 : Nat) (D : va_G) (cy : Nat → ClassId) (av : Nat → Value) (L : Nat) (xs : Nat → Int32) (p : Program) (l : Launch) (e : Env) (R : Room) (s : State) (mid : MethodId) (args : Array Value) (below : List Frame) (meth : Method) (c : Code) (n0 : Nat) (Z : State → Prop) (H : Heap) (locs : List Loc) (lsx : Array Slot) (cells slots : Nat),
      Ctx b0 D cy av L xs m p R s mid args meth c n0 → Wr b0 D cy L xs σ H → va_S (fun q => b0 ≤ q) s.heap H locs → cells + 1 ≤ R.cells → slots + N ≤ R.slots → (∀ (q : Nat) (H1 : Heap), va_P D vwCl (wl b0 cy σ ++ [(q, ce b0 cy (sN σ) σ.1)]) H1 → va_D (fun q => b0 ≤ q) (wl b0 cy σ ++ [(q, ce b0 cy (sN σ) σ.1)]) → va_S (fun q => b0 ≤ q) s.heap H1 locs → W p l e R s mid args below meth c H1 locs (cells + 1) (slots + N) Z (F0 mid pc1 lsx (.ref q :: rest0.map (cv b0 av)))) → W p l e R s mid args below meth c H locs cells slots Z (F0 mid pc lsx (st.map (cv b0 av)))) : Gm m pc ls st σ r σ' := by
  have hle : σ.1 + 1 ≤ σ'.1 := hg.1
  refine ⟨by omega, ?_⟩
  intro b0 D cy av L xs p l e R s mid args below meth c n0 Z C H locs lsx hl hW hS hn hc hk
  have hs1 : ss (σ.1 + 1) ≤ ss σ'.1 := ss_mono hle
  have hs2 : ss n0 ≤ ss σ.1 := ss_mono hn
  rw [ss_succ, hN] at hs1
  obtain ⟨hc1, hc2⟩ := id hc
  refine step _ _ _ _ _ _ _ _ _ _ _ _ _ _ _ _ _ _ _ _ _ _ _ C hW hS (by omega) (by omega) (fun q H1 hP hD hS1 => ?_)
  intro T hT X
  have hsz : H1.size ≤ b0 + σ.1 + 1 := by
    have h1 := X.heapSize
    have h2 := C.2.2.2.2.2.2.2.1
    rw [hT] at h1
    omega
  have hq := fresh hP hD hsz
  subst hq
  rw [wl_push (σ' := sN σ) rfl rfl (fun b hb => ce_congr (va_up_ne _ _ (by omega)) (va_up_ne _ _ (by omega)) (va_up_ne _ _ (by omega)))] at hP
  have hW1 : Wr b0 D cy L xs (sN σ) H1 := by
    refine ⟨hP, by show σ.1 + 1 ≤ 100; omega, fun hf => ?_⟩
    have hf : va_up σ.2.1 σ.1 (fun _ => false) 999 0 = true := hf
    rw [va_up_ne _ _ (by omega)] at hf
    show va_up σ.2.2.1 σ.1 _ 999 0 = _ ∧ va_up σ.2.2.1 σ.1 _ 1000 = _
    rw [va_up_ne _ _ (by omega), va_up_ne _ _ (by omega)]
    exact hW.2.2 hf
  have hw := hg.2 _ _ _ _ _ _ _ _ _ _ _ _ _ _ _ _ _ _ C _ _ _ hl hW1 hS1 (by show n0 ≤ σ.1 + 1; omega) hc hk
  rw [List.map_cons, cv_own (show σ.1 < 1000 by omega)] at hw
  refine W.cs ?_ ?_ hw T hT X
  · show σ.1 - n0 + 1 = σ.1 + 1 - n0
    omega
  · show ss σ.1 - ss n0 + N = ss (σ.1 + 1) - ss n0
    rw [ss_succ, hN]
    omega
theorem tg_le (a : Nat) : (tg a).2 ≤ 300 := by
  unfold tg
  rw [List.getD_eq_getElem?_getD]
  cases h : lyt[a]? with
  | none => simp
  | some x =>
    have h2 : lyt.all (fun x => decide (x.2 ≤ 300)) = true := by decide +kernel
    simpa using List.all_eq_true.mp h2 x (List.mem_of_getElem? h)
theorem arr_in : Cond.arrayClass .int ∈ Big ∧ Cond.arrayClass .byte ∈ Big ∧ Cond.arrayClass .boolean ∈ Big := by
  have h : (decide (Cond.arrayClass .int ∈ lw_tbl) && decide (Cond.arrayClass .byte ∈ lw_tbl) && decide (Cond.arrayClass .boolean ∈ lw_tbl)) = true := by decide +kernel
  simp only [Bool.and_eq_true, decide_eq_true_eq] at h
  exact ⟨List.mem_filter.mpr ⟨h.1.1, rfl⟩, List.mem_filter.mpr ⟨h.1.2, rfl⟩, List.mem_filter.mpr ⟨h.2, rfl⟩⟩
theorem newc_spec {σ : Sto} {k n : Nat} (h : newc σ k n = true) : tg σ.1 = (k, n) ∧ σ.1 < 100 := by
  simpa [newc] using h
section OPS
variable {rec : Rec} {m pc k : Nat} {ls st : Vs} {σ : Sto} {r : Option Value} {σ' : Sto}
theorem ok_new (hr : OkR rec) {n : Nat} (hd : decode (mco m) pc = .ok (.new n, k)) (h : (if k = 3 then (match nwc (mcl m) n with
    | some c => if newc σ c (nf c) = true then rec m (pc + 3) ls (.ref σ.1 :: st) (sN σ) else none
    | none => none) else none) = some (r, σ')) : Gm m pc ls st σ r σ' := by
  split at h
  · rename_i hk; subst hk
    split at h
    · rename_i c hc
      obtain ⟨w1, w2, w3, h13⟩ := nwc_spec hc
      split at h
      · rename_i hn
        obtain ⟨ht, h100⟩ := newc_spec hn
        refine gm_new (N := nf c) (hr _ _ _ _ _ _ _ h) h100 (by simp [ssz, ht, h13]) ?_
        intro b0 D cy av L xs p l e R s mid args below meth c0 n0 Z H locs lsx cells slots C hW hS hcl hsl k
        obtain ⟨hx, hb, hml, hown, hts, hin, hC, hs0, hfr, hlo⟩ := id C
        rw [ce_obj (c := c) (by rw [ht]) h13] at k
        refine va_new (own := Rc (mcl m)) (C := Rc c) (T := Tc c) (N := nf c) (ci := c) hx hb hts (lay_in c h13) (tyc c) (ty_c c h13) hown (hts _ w1) (hts _ w2) (hts _ w3) hC.1 hW.1 (wl_D b0 cy σ) hS (fun q hq => by show b0 ≤ q; omega) (cl_get c h13) (fs := (List.range (nf c)).map (fvc b0 (sN σ) σ.1 c)) ?_ hcl hsl hd k
        intro j hj
        have e : vp_V ((List.range (nf c)).map (fvc b0 (sN σ) σ.1 c)) j = fvc b0 (sN σ) σ.1 c j := by simp [vp_V, hj]
        rw [e]
        rcases ft_3 h13 hj with hf | hf | hf
        · rw [ft_0 h13 hj hf]; simp [fvc, hf, sN, va_up, defaultValue]
        · rw [ft_1 h13 hj hf]; simp [fvc, hf, sN, va_up, defaultValue]
        · rcases ft_2 h13 hj hf with ⟨q, hq⟩ | ⟨q, hq⟩ <;> rw [hq] <;> simp [fvc, hf, sN, va_up, defaultValue]
      · cases h
    · cases h
  · cases h
theorem same_cls {s : State} {D : va_G} {tys : List (ClassId × FieldType)} {cA cB : ClassId} {ty : FieldType} {t0 : Nat} (hK : va_K D vwCl tys s) (h0 : tys[t0]? = some (cB, ty)) (hK2 : va_K D vwCl (tys ++ [(cA, ty)]) s) : cA = cB := by
  have h1 := (hK.2 t0 _ h0).2
  have h2 := (hK2.2 tys.length (cA, ty) (by rw [List.getElem?_append_right (Nat.le_refl _), Nat.sub_self]; rfl)).2
  cases ty with
  | object C =>
    obtain ⟨_, _, -, -, -, q1⟩ := h1
    obtain ⟨_, _, -, -, -, q2⟩ := h2
    exact Option.some.inj (q2.symm.trans q1)
  | _ => exact Option.some.inj (h2.symm.trans h1)
theorem w_newa {b0 : Nat} {D : va_G} {cy : Nat → ClassId} {av : Nat → Value} {L : Nat} {xs : Nat → Int32} {m : Nat} {p : Program} {l : Launch} {e : Env} {R : Room} {s : State} {mid : MethodId} {args : Array Value} {below : List Frame} {meth : Method} {c0 : Code} {n0 : Nat} {Z : State → Prop} {H : Heap} {locs : List Loc} {lsx : Array Slot} {cells slots : Nat} {σ : Sto} {rest : List Value} {pc c t0 : Nat} {n : Int32} {aty : ArrayType} {ty : FieldType}
    (C : Ctx b0 D cy av L xs m p R s mid args meth c0 n0) (hW : Wr b0 D cy L xs σ H) (hS : va_S (fun q => b0 ≤ q) s.heap H locs) (hd : decode (mco m) pc = .ok (.newarray aty, 2)) (hty : newarray.typeOf aty = ty) (hw : Cond.arrayClass ty ∈ Big) (h0 : (tyl cy)[t0]? = some (cy c, ty)) (hc1 : ¬ c < 13) (hc2 : c < 23) (hdef : defaultValue ty = .int 0) (hby : componentBytes ty ≤ 4)
    (ht : tg σ.1 = (c, n.toNatClampNeg)) (hn : ¬ n < 0) (hcl : cells + 1 ≤ R.cells) (hsl : slots + n.toNatClampNeg ≤ R.slots) (k : ∀ (q : Nat) (H1 : Heap), va_P D vwCl (wl b0 cy σ ++ [(q, ce b0 cy (sN σ) σ.1)]) H1 → va_D (fun q => b0 ≤ q) (wl b0 cy σ ++ [(q, ce b0 cy (sN σ) σ.1)]) → va_S (fun q => b0 ≤ q) s.heap H1 locs → W p l e R s mid args below meth c0 H1 locs (cells + 1) (slots + n.toNatClampNeg) Z (F0 mid (pc + 2) lsx (.ref q :: rest))) : W p l e R s mid args below meth c0 H locs cells slots Z (F0 mid pc lsx (.int n :: rest)) := by
  obtain ⟨hx, hb, hml, hown, hts, hin, hC, hs0, hfr, hlo⟩ := id C
  have hce : ce b0 cy (sN σ) σ.1 = .inl (cy c, n.toNatClampNeg, .inl (fun _ => 0)) := by
    rw [ce_arr (c := c) (by rw [ht]) hc1 hc2, ht]
    simp [sN, va_up]
  rw [hce] at k
  have hle := tg_le σ.1
  rw [ht] at hle
  have hle : n.toNatClampNeg ≤ 300 := hle
  refine va_newa hx hb (atype := aty) (by rw [hty]; exact hts _ hw) hty hC.1 hW.1 (wl_D b0 cy σ) hS (fun q hq => by show b0 ≤ q; omega) (a0 := (n.toNatClampNeg, .inl (fun _ => 0))) ?_ hn rfl ?_ hcl hsl hd (fun q cA H1 hK2 hP hD hS1 => ?_)
  · intro cA
    rw [hdef]
    rfl
  · calc n.toNatClampNeg * componentBytes ty ≤ 300 * 4 := Nat.mul_le_mul hle hby
      _ ≤ 536870912 := by omega
  · have e := same_cls hC.1 h0 hK2
    subst e
    exact k q H1 hP hD hS1
theorem ok_newarray (hr : OkR rec) {ty : ArrayType} (hd : decode (mco m) pc = .ok (.newarray ty, k)) (h : (if k = 2 then (match st with
    | .int n :: r => (match ty with
      | .int => if newc σ 20 n.toNatClampNeg = true ∧ ¬ n < 0 then rec m (pc + 2) ls (.ref σ.1 :: r) (sN σ) else none
      | .byte => if newc σ 21 n.toNatClampNeg = true ∧ ¬ n < 0 then rec m (pc + 2) ls (.ref σ.1 :: r) (sN σ) else none
      | .boolean => if newc σ 22 n.toNatClampNeg = true ∧ ¬ n < 0 then rec m (pc + 2) ls (.ref σ.1 :: r) (sN σ) else none
      | _ => none)
    | _ => none) else none) = some (r, σ')) : Gm m pc ls st σ r σ' := by
  split at h
  · rename_i hk; subst hk
    split at h
    · rename_i n r0
      split at h
      · split at h
        · rename_i hn
          obtain ⟨ht, h100⟩ := newc_spec hn.1
          refine gm_new (N := n.toNatClampNeg) (hr _ _ _ _ _ _ _ h) h100 (by simp [ssz, ht]) ?_
          intro b0 D cy av L xs p l e R s mid args below meth c0 n0 Z H locs lsx cells slots C hW hS hcl hsl k
          exact w_newa (t0 := 0) (c := 20) C hW hS hd rfl arr_in.1 rfl (by omega) (by omega) rfl (by decide) ht hn.2 hcl hsl k
        · cases h
      · split at h
        · rename_i hn
          obtain ⟨ht, h100⟩ := newc_spec hn.1
          refine gm_new (N := n.toNatClampNeg) (hr _ _ _ _ _ _ _ h) h100 (by simp [ssz, ht]) ?_
          intro b0 D cy av L xs p l e R s mid args below meth c0 n0 Z H locs lsx cells slots C hW hS hcl hsl k
          exact w_newa (t0 := 1) (c := 21) C hW hS hd rfl arr_in.2.1 rfl (by omega) (by omega) rfl (by decide) ht hn.2 hcl hsl k
        · cases h
      · split at h
        · rename_i hn
          obtain ⟨ht, h100⟩ := newc_spec hn.1
          refine gm_new (N := n.toNatClampNeg) (hr _ _ _ _ _ _ _ h) h100 (by simp [ssz, ht]) ?_
          intro b0 D cy av L xs p l e R s mid args below meth c0 n0 Z H locs lsx cells slots C hW hS hcl hsl k
          exact w_newa (t0 := 2) (c := 22) C hW hS hd rfl arr_in.2.2 rfl (by omega) (by omega) rfl (by decide) ht hn.2 hcl hsl k
        · cases h
      · cases h
    · cases h
  · cases h
theorem w_newq {b0 : Nat} {D : va_G} {cy : Nat → ClassId} {av : Nat → Value} {L : Nat} {xs : Nat → Int32} {m : Nat} {p : Program} {l : Launch} {e : Env} {R : Room} {s : State} {mid : MethodId} {args : Array Value} {below : List Frame} {meth : Method} {c0 : Code} {n0 : Nat} {Z : State → Prop} {H : Heap} {locs : List Loc} {lsx : Array Slot} {cells slots : Nat} {σ : Sto} {rest : List Value} {pc c t0 i : Nat} {n : Int32} {E : String}
    (C : Ctx b0 D cy av L xs m p R s mid args meth c0 n0) (hW : Wr b0 D cy L xs σ H) (hS : va_S (fun q => b0 ≤ q) s.heap H locs) (hd : decode (mco m) pc = .ok (.anewarray i, 3)) (hw : Cond.classLink (Rc (mcl m)) i E ∈ Big) (hov : va_AO E s) (h0 : (tyl cy)[t0]? = some (cy c, .object E)) (hc1 : ¬ c < 13) (hc2 : ¬ c < 23)
    (ht : tg σ.1 = (c, n.toNatClampNeg)) (hn : ¬ n < 0) (hcl : cells + 1 ≤ R.cells) (hsl : slots + n.toNatClampNeg ≤ R.slots) (k : ∀ (q : Nat) (H1 : Heap), va_P D vwCl (wl b0 cy σ ++ [(q, ce b0 cy (sN σ) σ.1)]) H1 → va_D (fun q => b0 ≤ q) (wl b0 cy σ ++ [(q, ce b0 cy (sN σ) σ.1)]) → va_S (fun q => b0 ≤ q) s.heap H1 locs → W p l e R s mid args below meth c0 H1 locs (cells + 1) (slots + n.toNatClampNeg) Z (F0 mid (pc + 3) lsx (.ref q :: rest))) : W p l e R s mid args below meth c0 H locs cells slots Z (F0 mid pc lsx (.int n :: rest)) := by
  obtain ⟨hx, hb, hml, hown, hts, hin, hC, hs0, hfr, hlo⟩ := id C
  have hce : ce b0 cy (sN σ) σ.1 = .inl (cy c, n.toNatClampNeg, .inr (.inr (.inr (.inr (fun _ => none))))) := by
    rw [ce_ref (c := c) (by rw [ht]) hc1 hc2, ht]
    simp [sN, va_up]
  rw [hce] at k
  have hle := tg_le σ.1
  rw [ht] at hle
  have hle : n.toNatClampNeg ≤ 300 := hle
  refine va_newq hx hb hown (hts _ hw) hov hC.1 hW.1 (wl_D b0 cy σ) hS (fun q hq => by show b0 ≤ q; omega) hn rfl (by omega) hcl hsl hd (fun q cA H1 hK2 hP hD hS1 => ?_)
  have e := same_cls hC.1 h0 hK2
  subst e
  exact k q H1 hP hD hS1
theorem ok_anewarray (hr : OkR rec) {n : Nat} (hd : decode (mco m) pc = .ok (.anewarray n, k)) (h : (if k = 3 then (match st with
    | .int x :: r => (match nwc (mcl m) n with
      | some 5 => if newc σ 23 x.toNatClampNeg = true ∧ ¬ x < 0 then rec m (pc + 3) ls (.ref σ.1 :: r) (sN σ) else none
      | some 9 => if newc σ 24 x.toNatClampNeg = true ∧ ¬ x < 0 then rec m (pc + 3) ls (.ref σ.1 :: r) (sN σ) else none
      | _ => none)
    | _ => none) else none) = some (r, σ')) : Gm m pc ls st σ r σ' := by
  split at h
  · rename_i hk; subst hk
    split at h
    · rename_i x r0
      split at h
      · rename_i hc
        obtain ⟨w1, -, -, -⟩ := nwc_spec hc
        split at h
        · rename_i hn
          obtain ⟨ht, h100⟩ := newc_spec hn.1
          refine gm_new (N := x.toNatClampNeg) (hr _ _ _ _ _ _ _ h) h100 (by simp [ssz, ht]) ?_
          intro b0 D cy av L xs p l e R s mid args below meth c0 n0 Z H locs lsx cells slots C hW hS hcl hsl k
          exact w_newq (t0 := 3) (c := 23) C hW hS hd w1 C.2.2.2.2.2.2.1.2.2.1.1 rfl (by omega) (by omega) ht hn.2 hcl hsl k
        · cases h
      · rename_i hc
        obtain ⟨w1, -, -, -⟩ := nwc_spec hc
        split at h
        · rename_i hn
          obtain ⟨ht, h100⟩ := newc_spec hn.1
          refine gm_new (N := x.toNatClampNeg) (hr _ _ _ _ _ _ _ h) h100 (by simp [ssz, ht]) ?_
          intro b0 D cy av L xs p l e R s mid args below meth c0 n0 Z H locs lsx cells slots C hW hS hcl hsl k
          exact w_newq (t0 := 4) (c := 24) C hW hS hd w1 C.2.2.2.2.2.2.1.2.2.1.2.1 rfl (by omega) (by omega) ht hn.2 hcl hsl k
        · cases h
      · cases h
    · cases h
  · cases h
end OPS
