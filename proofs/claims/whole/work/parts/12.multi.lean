/-! SOUNDNESS, 7: new int[6][8] (vr_o is claim/NAMES's own row on the outer array) -/
theorem vr_o (c : ClassId) (N h0 : Nat) : ∀ i : Nat, Jvm.Free.Multi.outerC c N h0 i = arrV c N (fun j => va_rf (if j < i then some (h0 + 1 + j) else none))
  | 0 => by
    show ({ cls := c, slots := Array.replicate N .null, vm := .none } : Cell) = _
    rw [arrV_new]
    refine congrArg (arrV c N) (funext fun j => ?_)
    simp [va_rf]
  | i + 1 => by
    show (Jvm.Free.Multi.outerC c N h0 i).setSlot i (.ref (h0 + 1 + i)) = _
    rw [vr_o c N h0 i, arrV_store]
    refine congrArg (arrV c N) (funext fun j => ?_)
    by_cases e : j = i
    · subst e
      simp [updV, va_rf]
    · by_cases h : j < i
      · simp [updV, e, h, Nat.lt_succ_of_lt h]
      · simp [updV, e, h, show ¬ j < i + 1 by omega]
theorem ml_in : Cond.classLink RX11 60 ("[" ++ (FieldType.array .int).toString) ∈ Big := by
  have h : (decide (Cond.classLink RX11 60 ("[" ++ (FieldType.array .int).toString) ∈ lw_tbl) && goodWord (Cond.classLink RX11 60 ("[" ++ (FieldType.array .int).toString))) = true := by decide +kernel
  simp only [Bool.and_eq_true, decide_eq_true_eq] at h
  exact List.mem_filter.mpr ⟨h.1, h.2⟩
/-- the store behind it -/
def sM (σ : Sto) : Sto := sB (sB (sB (sB (sB (sB (sN (sN (sN (sN (sN (sN (sN σ))))))) 79 0) 79 1) 79 2) 79 3) 79 4) 79 5
theorem sM_n {σ : Sto} (h : σ.1 = 79) : (sM σ).1 = 86 := by simp [sM, sB, sN, h]
theorem sM_row {σ : Sto} (h : σ.1 = 79) (j : Nat) : (sM σ).2.1 79 j = decide (j < 6) := by
  by_cases hj : j < 6
  · rcases (show j = 0 ∨ j = 1 ∨ j = 2 ∨ j = 3 ∨ j = 4 ∨ j = 5 by omega) with rfl | rfl | rfl | rfl | rfl | rfl <;> simp [sM, sB, sN, va_up, h]
  · simp [sM, sB, sN, va_up, h, show j ≠ 0 by omega, show j ≠ 1 by omega, show j ≠ 2 by omega, show j ≠ 3 by omega, show j ≠ 4 by omega, show j ≠ 5 by omega, hj]
theorem sM_old {σ : Sto} (h : σ.1 = 79) {a : Nat} (ha : a < 79 ∨ 86 ≤ a) : (sM σ).2.1 a = σ.2.1 a ∧ (sM σ).2.2.1 a = σ.2.2.1 a ∧ (sM σ).2.2.2 a = σ.2.2.2 a := by
  simp [sM, sB, sN, va_up, h, show a ≠ 79 by omega, show a ≠ 80 by omega, show a ≠ 81 by omega, show a ≠ 82 by omega, show a ≠ 83 by omega, show a ≠ 84 by omega, show a ≠ 85 by omega]
theorem sM_new {σ : Sto} (h : σ.1 = 79) {a : Nat} (h1 : 79 < a) (h2 : a < 86) : (sM σ).2.2.1 a = fun _ => 0 := by
  rcases (show a = 80 ∨ a = 81 ∨ a = 82 ∨ a = 83 ∨ a = 84 ∨ a = 85 by omega) with rfl | rfl | rfl | rfl | rfl | rfl <;> simp [sM, sB, sN, va_up, h]
theorem sM_tg : tg 79 = (25, 6) ∧ (∀ a, 79 < a → a < 86 → tg a = (20, 8)) ∧ (∀ j, j < 6 → rf 79 j = 80 + j) ∧ ss 86 = ss 79 + 54 := by
  refine ⟨by decide, ?_, by decide, by decide⟩
  intro a h1 h2
  rcases (show a = 80 ∨ a = 81 ∨ a = 82 ∨ a = 83 ∨ a = 84 ∨ a = 85 by omega) with rfl | rfl | rfl | rfl | rfl | rfl <;> decide
section OPS
variable {rec : Rec} {m pc k : Nat} {ls st : Vs} {σ : Sto} {r : Option Value} {σ' : Sto}
theorem ok_multianewarray (hr : OkR rec) {n d : Nat} (hd : decode (mco m) pc = .ok (.multianewarray n d, k)) (h : (if k = 4 ∧ d = 2 ∧ n = 60 ∧ mcl m = 11 then (match st with
    | .int 8 :: .int 6 :: r => if σ.1 = 79 then rec m (pc + 4) ls (.ref σ.1 :: r) (sB (sB (sB (sB (sB (sB (sN (sN (sN (sN (sN (sN (sN σ))))))) 79 0) 79 1) 79 2) 79 3) 79 4) 79 5) else none
    | _ => none) else none) = some (r, σ')) : Gm m pc ls st σ r σ' := by
  split at h
  · rename_i hk
    obtain ⟨rfl, rfl, rfl, hmc⟩ := hk
    split at h
    · rename_i r0
      split at h
      · rename_i h79
        have hg : Gm m (pc + 4) ls (.ref σ.1 :: r0) (sM σ) r σ' := hr _ _ _ _ _ _ _ h
        have hn1 := sM_n h79
        obtain ⟨hg1, hg2⟩ := hg
        rw [hn1] at hg1
        refine ⟨by omega, ?_⟩
        intro b0 D cy av L xs p l e R s mid args below meth c0 n0 Z C H locs lsx hl hW hS hn hc hk
        obtain ⟨hx, hb, hml, hown, hts, hin, hC, hs0, hfr, hlo⟩ := id C
        obtain ⟨tg79, tgn, rf79, ss79⟩ := sM_tg
        have hs1 : ss 86 ≤ ss σ'.1 := ss_mono hg1
        have hs2 : ss n0 ≤ ss 79 := ss_mono (by omega)
        obtain ⟨hc1, hc2⟩ := id hc
        intro T hT X
        have hsz : H.size = b0 + 79 := by
          have h1 := X.heapSize
          rw [hT] at h1
          have h2 := (hW.1 78 _ (wl_get (by omega))).lt
          dsimp only at h2
          omega
        rw [hmc] at hown
        obtain ⟨vm₁, cA, comp, -, fA, fC, -, -, X', step⟩ := X.multianewarray2F (ty := .int) (n := 6) (k := 8) hx (own := RX11) hown (hts _ ml_in) hC.2.2.1.2.2 (hts _ arr_in.1) (g := F0 mid pc lsx (.int 8 :: .int 6 :: r0.map (cv b0 av))) rfl (by rw [hb]; exact hd) rfl (by decide) (by decide) (by decide) (by decide) (by decide) rfl rfl
          (by show σ.1 - n0 + (1 + 6) ≤ R.cells; omega) (by show ss σ.1 - ss n0 + (6 + 6 * 8) ≤ R.slots; rw [h79]; omega)
        have eA : cA = cy 25 := Option.some.inj (fA.symm.trans (hC.1.2 5 _ rfl).2)
        have eC : comp = cy 20 := Option.some.inj (fC.symm.trans (hC.1.2 0 _ rfl).2)
        subst eA
        subst eC
        have e6 : (6 : Int32).toNatClampNeg = 6 := by decide
        have e8 : (8 : Int32).toNatClampNeg = 8 := by decide
        rw [e6, e8] at X' step
        generalize hF : Jvm.Free.Multi.fill (T.setVm vm₁) (cy 25) (cy 20) 6 8 (defaultValue .int) 6 = F at X' step
        have hTh : (T.setVm vm₁).heap = H := hT
        obtain ⟨f1, f2, -, -⟩ := Jvm.Free.Multi.fill_facts (T.setVm vm₁) (cy 25) (cy 20) 6 8 (defaultValue .int) 6
        rw [hF, hTh] at f1 f2
        have hold : ∀ x : Nat, x < H.size → F.heap[x]? = H[x]? := fun x hx => by
          have := Jvm.Free.Multi.fill_old (T.setVm vm₁) (cy 25) (cy 20) 6 8 (defaultValue .int) (a := x) (by rw [hTh]; exact hx) 6
          rw [hF, hTh] at this
          exact this
        have hrow : ∀ j : Nat, j < 6 → F.heap[H.size + 1 + j]? = some (Jvm.Free.Multi.innerC (cy 20) 8 (.int 0)) := fun j hj => by
          have := Jvm.Free.Multi.fill_inner (T.setVm vm₁) (cy 25) (cy 20) 6 8 (defaultValue .int) 6 j hj
          rw [hF, hTh] at this
          exact this
        rw [vr_o, hsz] at f2
        rw [hsz] at hrow
        have hP : va_P D vwCl (wl b0 cy (sM σ)) F.heap := by
          intro a q hq
          have ha : a < 86 := by
            have := (List.getElem?_eq_some_iff.mp hq).1
            simpa [wl, hn1] using this
          rw [wl_get (by omega)] at hq
          cases hq
          by_cases h1 : a < 79
          · have h0 := hW.1 a _ (wl_get (by omega))
            obtain ⟨q1, q2, q3⟩ := sM_old h79 (Or.inl h1)
            rw [ce_congr q1 q2 q3]
            exact h0.kept (hold _ (by show b0 + a < H.size; omega))
          · by_cases h2 : a = 79
            · subst h2
              rw [ce_ref (c := 25) (by rw [tg79]) (by omega) (by omega), tg79]
              show F.heap[b0 + 79]? = some (vp_cell _ _)
              rw [f2, vp_cell_q]
              refine congrArg some (congrArg (arrV (cy 25) 6) (funext fun j => ?_))
              rw [sM_row h79]
              by_cases hj : j < 6
              · simp only [hj, decide_true, if_true]
                rw [rf79 j hj]
                exact congrArg Value.ref (show (b0 + 79 + 1 + j : Nat) = b0 + (80 + j) by omega)
              · simp [hj]
            · rw [ce_arr (c := 20) (by rw [tgn a (by omega) ha]) (by omega) (by omega), tgn a (by omega) ha, sM_new h79 (by omega) ha]
              show F.heap[b0 + a]? = some (vp_cell _ _)
              have := hrow (a - 80) (by omega)
              rw [show b0 + 79 + 1 + (a - 80) = b0 + a by omega] at this
              rw [this, vp_cell_i]
              unfold Jvm.Free.Multi.innerC
              rw [arrV_new]
        have hW1 : Wr b0 D cy L xs (sM σ) F.heap := by
          refine ⟨hP, by omega, fun hf => ?_⟩
          rw [(sM_old h79 (a := 999) (Or.inr (by omega))).1] at hf
          rw [(sM_old h79 (a := 999) (Or.inr (by omega))).2.1, (sM_old h79 (a := 1000) (Or.inr (by omega))).2.1]
          exact hW.2.2 hf
        have hS1 : va_S (fun q => b0 ≤ q) s.heap F.heap locs := ⟨by have := hS.1; omega, fun x h1 h2 => (hold x (Nat.lt_of_lt_of_le h1 hS.1)).trans (hS.2.1 x h1 h2), hS.2.2⟩
        have hw := hg2 _ _ _ _ _ _ _ _ _ _ _ _ _ _ _ _ _ _ C _ _ _ hl hW1 hS1 (by omega) hc hk
        rw [List.map_cons, cv_own (show σ.1 < 1000 by omega), hn1] at hw
        have hw2 := W.cs (cells := σ.1 - n0 + 1 + 6) (slots := ss σ.1 - ss n0 + 6 + 6 * 8) (by omega) (by rw [h79]; omega) hw
        obtain ⟨t, a1, b1⟩ := hw2 F rfl X'
        refine ⟨t, step t ?_, b1⟩
        have et : T.heap.size = b0 + σ.1 := by rw [hT, hsz, h79]
        rw [et]
        exact a1
      · cases h
    · cases h
  · cases h
end OPS
