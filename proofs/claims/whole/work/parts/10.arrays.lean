/-! SOUNDNESS, 5: arrays, constants, increments, returns -/
section OPS
variable {rec : Rec} {m pc k : Nat} {ls st : Vs} {σ : Sto} {r : Option Value} {σ' : Sto}
theorem inb_vp {i : Int32} {n : Nat} (h : inbB i n = true) : vp_in i n := (inb_iff i n).mp h
theorem ok_iaload (hr : OkR rec) (hd : decode (mco m) pc = .ok (.iaload, k)) (h : (if k = 1 then (match st with
    | .int i :: .ref a :: r => if isA σ a 20 = true ∧ inbB i (tg a).2 = true then rec m (pc + 1) ls (.int (σ.2.2.1 a i.toNatClampNeg) :: r) σ else (match olen σ a with
      | some n => if inbB i n = true then rec m (pc + 1) ls (.int (oval σ a i.toNatClampNeg) :: r) σ else none
      | none => none)
    | _ => none) else none) = some (r, σ')) : Gm m pc ls st σ r σ' := by
  split at h
  · rename_i hk; subst hk
    split at h
    · rename_i i a r0
      split at h
      · rename_i hc
        obtain ⟨hc, hi⟩ := hc
        obtain ⟨ha1, ha2⟩ := isA_spec hc
        refine gm_pure (hr _ _ _ _ _ _ _ h) ?_
        intro b0 D cy av L xs p l e R s mid args below meth c0 n0 Z H locs lsx cells slots C hl hW hS k
        obtain ⟨hx, hb, hml, hown, hts, hin, hC, hs0, hfr, hlo⟩ := id C
        rw [List.map_cons, List.map_cons, cv_own (wr_cell hW ha1)]
        exact va_iald hx hb hC.1 hW.1 a 0 (by rw [wl_get ha1, ce_arr ha2 (by omega) (by omega)]) rfl (inb_vp hi) hd k
      · split at h
        · rename_i n hn
          split at h
          · rename_i hi
            refine gm_pure (hr _ _ _ _ _ _ _ h) ?_
            intro b0 D cy av L xs p l e R s mid args below meth c0 n0 Z H locs lsx cells slots C hl hW hS k
            obtain ⟨hx, hb, hml, hown, hts, hin, hC, hs0, hfr, hlo⟩ := id C
            obtain ⟨-, -, -, -, -, -, -, h9, ⟨t, ht, hL, hT⟩, -⟩ := id hC
            unfold olen at hn
            split at hn
            · rename_i ha
              obtain ⟨ha, hfl⟩ := ha
              subst ha
              cases hn
              have hWs := hW.2.2 hfl
              rw [List.map_cons, List.map_cons, show cv b0 av (.ref 1000) = .ref t from ht]
              rw [hWs.1, nI_clamp hL] at hi
              refine va_ti hx hb hT hS (inb_vp hi) (v := .int (oval σ 1000 i.toNatClampNeg)) ?_ hd k
              show Value.int (xs _) = _
              rw [← hWs.2]
              rfl
            · split at hn
              · rename_i ha
                have hn := Option.some.inj hn
                subst hn
                obtain ⟨ha1, ha2⟩ := ha
                obtain ⟨j, rfl⟩ := Nat.exists_eq_add_of_le ha1
                have ha2 : (1001 : Nat) + j ≤ 1003 := ha2
                have hj : j < 3 := by omega
                obtain ⟨t2, e1, -, e3⟩ := h9 j hj
                rw [show 1001 + j - 1001 = j by omega] at hi
                have e0 : cv b0 av (.ref (1001 + j)) = .ref t2 := by
                  simp only [cv, show ¬ 1001 + j < 1000 by omega, if_false]; exact e1
                rw [List.map_cons, List.map_cons, e0]
                refine va_ti hx hb e3 hS (inb_vp hi) (v := .int (oval σ (1001 + j) i.toNatClampNeg)) ?_ hd k
                show Value.int _ = _
                simp only [oval, show ¬ 1001 + j = 1000 by omega, if_false, show 1001 + j - 1001 = j by omega]
              · cases hn
          · cases h
        · cases h
    · cases h
  · cases h
theorem ok_baload (hr : OkR rec) (hd : decode (mco m) pc = .ok (.baload, k)) (h : (if k = 1 then (match st with
    | .int i :: .ref a :: r => if (isA σ a 21 = true ∨ isA σ a 22 = true) ∧ inbB i (tg a).2 = true then rec m (pc + 1) ls (.int (σ.2.2.1 a i.toNatClampNeg) :: r) σ else if 1020 ≤ a ∧ a < 1025 ∧ inbB i (stb.getD (a - 1020) []).length = true then rec m (pc + 1) ls (.int ((stb.getD (a - 1020) []).getD i.toNatClampNeg 0) :: r) σ else none
    | _ => none) else none) = some (r, σ')) : Gm m pc ls st σ r σ' := by
  split at h
  · rename_i hk; subst hk
    split at h
    · rename_i i a r0
      split at h
      · rename_i hc
        obtain ⟨hc, hi⟩ := hc
        refine gm_pure (hr _ _ _ _ _ _ _ h) ?_
        intro b0 D cy av L xs p l e R s mid args below meth c0 n0 Z H locs lsx cells slots C hl hW hS k
        obtain ⟨hx, hb, hml, hown, hts, hin, hC, hs0, hfr, hlo⟩ := id C
        rcases hc with hc | hc
        · obtain ⟨ha1, ha2⟩ := isA_spec hc
          rw [List.map_cons, List.map_cons, cv_own (wr_cell hW ha1)]
          exact va_bald hx hb hC.1 hW.1 a 1 (by rw [wl_get ha1, ce_arr ha2 (by omega) (by omega)]) rfl (inb_vp hi) hd k
        · obtain ⟨ha1, ha2⟩ := isA_spec hc
          rw [List.map_cons, List.map_cons, cv_own (wr_cell hW ha1)]
          exact va_zald hx hb hC.1 hW.1 a 2 (by rw [wl_get ha1, ce_arr ha2 (by omega) (by omega)]) rfl (inb_vp hi) hd k
      · split at h
        · rename_i hc
          obtain ⟨hc1, hc2, hi⟩ := hc
          refine gm_pure (hr _ _ _ _ _ _ _ h) ?_
          intro b0 D cy av L xs p l e R s mid args below meth c0 n0 Z H locs lsx cells slots C hl hW hS k
          obtain ⟨hx, hb, hml, hown, hts, hin, hC, hs0, hfr, hlo⟩ := id C
          obtain ⟨-, -, -, -, -, -, -, -, -, adK, adV, hE, hR⟩ := id hC
          obtain ⟨j, rfl⟩ := Nat.exists_eq_add_of_le hc1
          have hc2 : (1020 : Nat) + j < 1025 := hc2
          have hj : j < 5 := by omega
          rw [show 1020 + j - 1020 = j by omega] at hi k
          have e0 : cv b0 av (.ref (1020 + j)) = .ref (adV j) := by
            simp only [cv, show ¬ 1020 + j < 1000 by omega, if_false]; exact (hR j hj).2.1
          have hln : sln.getD j 0 = (stb.getD j []).length := by
            have : ∀ j, j < 5 → sln.getD j 0 = (stb.getD j []).length := by decide
            exact this j hj
          rw [List.map_cons, List.map_cons, e0]
          have hT := (hE.1 j hj).2.2.2
          rw [hln] at hT
          exact va_tb hx hb hT hS (inb_vp hi) (v := .int ((stb.getD j []).getD i.toNatClampNeg 0)) rfl hd k
        · cases h
    · cases h
  · cases h
theorem ok_iastore (hr : OkR rec) (hd : decode (mco m) pc = .ok (.iastore, k)) (h : (if k = 1 then (match st with
    | .int x :: .int i :: .ref a :: r => if isA σ a 20 = true ∧ inbB i (tg a).2 = true then rec m (pc + 1) ls r (sI σ a i.toNatClampNeg x) else none
    | _ => none) else none) = some (r, σ')) : Gm m pc ls st σ r σ' := by
  split at h
  · rename_i hk; subst hk
    split at h
    · rename_i x i a r0
      split at h
      · rename_i hc
        obtain ⟨hc, hi⟩ := hc
        obtain ⟨ha1, ha2⟩ := isA_spec hc
        refine gm_heap (hr _ _ _ _ _ _ _ h) rfl ?_
        intro b0 D cy av L xs p l e R s mid args below meth c0 n0 Z H locs lsx cells slots C hl hW hS k
        obtain ⟨hx, hb, hml, hown, hts, hin, hC, hs0, hfr, hlo⟩ := id C
        rw [List.map_cons, List.map_cons, List.map_cons, cv_own (wr_cell hW ha1)]
        exact va_iast hx hb hC.1 hW.1 (wl_D b0 cy σ) hS a 0 (by rw [wl_get ha1, ce_arr ha2 (by omega) (by omega)]) rfl (inb_vp hi) hd (fun H1 locs1 q1 q2 q3 => k H1 locs1 (wr_set hW.2 ha1 rfl (sI_ca ha2 (by omega) (by omega)) (fun b hb => sI_ce_o hb) (fun b hb => va_up_ne _ _ hb) (fun b hb => rfl) q1) q3)
      · cases h
    · cases h
  · cases h
theorem ok_bastore (hr : OkR rec) (hd : decode (mco m) pc = .ok (.bastore, k)) (h : (if k = 1 then (match st with
    | .int x :: .int i :: .ref a :: r => if isA σ a 21 = true ∧ inbB i (tg a).2 = true then rec m (pc + 1) ls r (sI σ a i.toNatClampNeg (vp_nar .byte x)) else if isA σ a 22 = true ∧ inbB i (tg a).2 = true then rec m (pc + 1) ls r (sI σ a i.toNatClampNeg (vp_nar .boolean x)) else none
    | _ => none) else none) = some (r, σ')) : Gm m pc ls st σ r σ' := by
  split at h
  · rename_i hk; subst hk
    split at h
    · rename_i x i a r0
      split at h
      · rename_i hc
        obtain ⟨hc, hi⟩ := hc
        obtain ⟨ha1, ha2⟩ := isA_spec hc
        refine gm_heap (hr _ _ _ _ _ _ _ h) rfl ?_
        intro b0 D cy av L xs p l e R s mid args below meth c0 n0 Z H locs lsx cells slots C hl hW hS k
        obtain ⟨hx, hb, hml, hown, hts, hin, hC, hs0, hfr, hlo⟩ := id C
        rw [List.map_cons, List.map_cons, List.map_cons, cv_own (wr_cell hW ha1)]
        exact va_bast hx hb hC.1 hW.1 (wl_D b0 cy σ) hS a 1 (by rw [wl_get ha1, ce_arr ha2 (by omega) (by omega)]) rfl (inb_vp hi) hd (fun H1 locs1 q1 q2 q3 => k H1 locs1 (wr_set hW.2 ha1 rfl (sI_ca ha2 (by omega) (by omega)) (fun b hb => sI_ce_o hb) (fun b hb => va_up_ne _ _ hb) (fun b hb => rfl) q1) q3)
      · split at h
        · rename_i hc
          obtain ⟨hc, hi⟩ := hc
          obtain ⟨ha1, ha2⟩ := isA_spec hc
          refine gm_heap (hr _ _ _ _ _ _ _ h) rfl ?_
          intro b0 D cy av L xs p l e R s mid args below meth c0 n0 Z H locs lsx cells slots C hl hW hS k
          obtain ⟨hx, hb, hml, hown, hts, hin, hC, hs0, hfr, hlo⟩ := id C
          rw [List.map_cons, List.map_cons, List.map_cons, cv_own (wr_cell hW ha1)]
          exact va_zast hx hb hC.1 hW.1 (wl_D b0 cy σ) hS a 2 (by rw [wl_get ha1, ce_arr ha2 (by omega) (by omega)]) rfl (inb_vp hi) hd (fun H1 locs1 q1 q2 q3 => k H1 locs1 (wr_set hW.2 ha1 rfl (sI_ca ha2 (by omega) (by omega)) (fun b hb => sI_ce_o hb) (fun b hb => va_up_ne _ _ hb) (fun b hb => rfl) q1) q3)
        · cases h
    · cases h
  · cases h
theorem ok_aaload (hr : OkR rec) (hd : decode (mco m) pc = .ok (.aaload, k)) (h : (if k = 1 then (match st with
    | .int i :: .ref a :: r => if (isA σ a 23 = true ∨ isA σ a 24 = true ∨ isA σ a 25 = true) ∧ inbB i (tg a).2 = true ∧ σ.2.1 a i.toNatClampNeg = true then rec m (pc + 1) ls (.ref (rf a i.toNatClampNeg) :: r) σ else none
    | _ => none) else none) = some (r, σ')) : Gm m pc ls st σ r σ' := by
  split at h
  · rename_i hk; subst hk
    split at h
    · rename_i i a r0
      split at h
      · rename_i hc
        obtain ⟨hc, hi, hini⟩ := hc
        refine gm_pure (hr _ _ _ _ _ _ _ h) ?_
        intro b0 D cy av L xs p l e R s mid args below meth c0 n0 Z H locs lsx cells slots C hl hW hS k
        obtain ⟨hx, hb, hml, hown, hts, hin, hC, hs0, hfr, hlo⟩ := id C
        have hlt := rf_lt a i.toNatClampNeg
        rw [List.map_cons, cv_own (show rf a i.toNatClampNeg < 1000 by omega)] at k
        have hk1 : va_rf (if σ.2.1 a i.toNatClampNeg = true then some (b0 + rf a i.toNatClampNeg) else none) = .ref (b0 + rf a i.toNatClampNeg) := by rw [if_pos hini]; rfl
        rcases hc with hc | hc | hc
        · obtain ⟨ha1, ha2⟩ := isA_spec hc
          rw [List.map_cons, List.map_cons, cv_own (wr_cell hW ha1)]
          exact va_aldq (C := RX5) hx hb hC.1 hW.1 a 3 (by rw [wl_get ha1, ce_ref ha2 (by omega) (by omega)]) rfl (inb_vp hi) hd (by rw [hk1]; exact k)
        · obtain ⟨ha1, ha2⟩ := isA_spec hc
          rw [List.map_cons, List.map_cons, cv_own (wr_cell hW ha1)]
          exact va_aldq (C := RX9) hx hb hC.1 hW.1 a 4 (by rw [wl_get ha1, ce_ref ha2 (by omega) (by omega)]) rfl (inb_vp hi) hd (by rw [hk1]; exact k)
        · obtain ⟨ha1, ha2⟩ := isA_spec hc
          rw [List.map_cons, List.map_cons, cv_own (wr_cell hW ha1)]
          have hv := inb_vp hi
          have hlt : i.toNatClampNeg < (tg a).2 := Nat.not_le.mp fun q => hv (Or.inr q)
          have ha : (wl b0 cy σ)[a]? = some (b0 + a, .inl (cy 25, (tg a).2, .inr (.inr (.inr (.inr (fun j => if σ.2.1 a j = true then some (b0 + rf a j) else none)))))) := by rw [wl_get ha1, ce_ref ha2 (by omega) (by omega)]
          exact W.aald (v := .ref (b0 + rf a i.toNatClampNeg)) (ty := .array .int) hx hb (hW.1 a _ ha) ((hC.1.2 5 _ rfl).1 (tg a).2 (fun j => va_rf (if σ.2.1 a j = true then some (b0 + rf a j) else none))) rfl (fun q => by cases q) (by show ¬ (i < 0 ∨ (arrV _ _ _).slots.size ≤ _); rw [arrV_size]; exact hv) (by show (arrV _ _ _).slots[_]? = _; rw [arrV_read _ _ hlt, hk1]) rfl rfl hd k
      · cases h
    · cases h
  · cases h
theorem ok_aastore (hr : OkR rec) (hd : decode (mco m) pc = .ok (.aastore, k)) (h : (if k = 1 then (match st with
    | .ref x :: .int i :: .ref a :: r => if ((isA σ a 23 = true ∧ (tg x).1 ≤ 8 ∧ (pk (tg x).1).isSome = true) ∨ (isA σ a 24 = true ∧ (tg x).1 = 9)) ∧ x < σ.1 ∧ inbB i (tg a).2 = true ∧ rf a i.toNatClampNeg = x then rec m (pc + 1) ls r (sB σ a i.toNatClampNeg) else none
    | _ => none) else none) = some (r, σ')) : Gm m pc ls st σ r σ' := by
  split at h
  · rename_i hk; subst hk
    split at h
    · rename_i x i a r0
      split at h
      · rename_i hc
        obtain ⟨hc, hxl, hi, hrf⟩ := hc
        refine gm_heap (hr _ _ _ _ _ _ _ h) rfl ?_
        intro b0 D cy av L xs p l e R s mid args below meth c0 n0 Z H locs lsx cells slots C hl hW hS k
        obtain ⟨hx, hb, hml, hown, hts, hin, hC, hs0, hfr, hlo⟩ := id C
        have hx1 : cv b0 av (.ref x) = .ref (b0 + x) := cv_own (wr_cell hW hxl)
        rcases hc with ⟨hc, hx8, hpk⟩ | ⟨hc, hx9⟩
        · obtain ⟨ha1, ha2⟩ := isA_spec hc
          rw [List.map_cons, List.map_cons, List.map_cons, cv_own (wr_cell hW ha1), hx1]
          have hpc : (tg x).1 = 5 ∨ ((tg x).1 = 0 ∨ (tg x).1 = 1 ∨ (tg x).1 = 2 ∨ (tg x).1 = 3 ∨ (tg x).1 = 8) := by
            have : ∀ c, c ≤ 8 → (pk c).isSome = true → c = 5 ∨ (c = 0 ∨ c = 1 ∨ c = 2 ∨ c = 3 ∨ c = 8) := by decide
            exact this _ hx8 hpk
          have hw := fun (H1 : Heap) (locs1 : List Loc) (q1 : va_P D vwCl ((wl b0 cy σ).set a (b0 + a, .inl (cy 23, (tg a).2, .inr (.inr (.inr (.inr (va_up (fun j => if σ.2.1 a j = true then some (b0 + rf a j) else none) i.toNatClampNeg (some (b0 + x)))))))) ) H1) (_ : va_D (fun q => b0 ≤ q) ((wl b0 cy σ).set a (b0 + a, .inl (cy 23, (tg a).2, .inr (.inr (.inr (.inr (va_up (fun j => if σ.2.1 a j = true then some (b0 + rf a j) else none) i.toNatClampNeg (some (b0 + x))))))))) ) (q3 : va_S (fun q => b0 ≤ q) s.heap H1 locs1) => k H1 locs1 (wr_set hW.2 ha1 rfl (by rw [sB_ca ha2 (by omega) (by omega), hrf]) (fun b hb => sB_ce_o hb) (fun b hb => rfl) (fun b hb => va_up_ne _ _ hb) q1) q3
          rcases hpc with h5 | ho
          · exact va_astq hx hb hC.1 hW.1 (wl_D b0 cy σ) hS a 3 x 5 (r := (RX5, TX5, 0)) (by rw [wl_get ha1, ce_ref ha2 (by omega) (by omega)]) rfl (by rw [wl_get hxl, ce_obj h5 (by omega)]) rfl (inb_vp hi) hd hw
          · have h13 : (tg x).1 < 13 := by omega
            exact va_astqO hx hb hC.1 hW.1 (wl_D b0 cy σ) hS a 3 x (tg x).1 (E := RX5) (r := (Rc (tg x).1, Tc (tg x).1, nf (tg x).1)) (by rw [wl_get ha1, ce_ref ha2 (by omega) (by omega)]) rfl (hC.2.2.2.1 _ ho) (by rw [wl_get hxl, ce_obj rfl h13]) (cl_get _ h13) (inb_vp hi) hd hw
        · obtain ⟨ha1, ha2⟩ := isA_spec hc
          rw [List.map_cons, List.map_cons, List.map_cons, cv_own (wr_cell hW ha1), hx1]
          exact va_astq hx hb hC.1 hW.1 (wl_D b0 cy σ) hS a 4 x 9 (r := (RX9, TX9, 6)) (by rw [wl_get ha1, ce_ref ha2 (by omega) (by omega)]) rfl (by rw [wl_get hxl, ce_obj hx9 (by omega)]) rfl (inb_vp hi) hd (fun H1 locs1 q1 q2 q3 => k H1 locs1 (wr_set hW.2 ha1 rfl (by rw [sB_ca ha2 (by omega) (by omega), hrf]) (fun b hb => sB_ce_o hb) (fun b hb => rfl) (fun b hb => va_up_ne _ _ hb) q1) q3)
      · cases h
    · cases h
  · cases h
theorem ok_arraylength (hr : OkR rec) (hd : decode (mco m) pc = .ok (.arraylength, k)) (h : (if k = 1 then (match st with
    | .ref a :: r => if a < σ.1 ∧ 20 ≤ (tg a).1 ∧ (tg a).1 < 23 then rec m (pc + 1) ls (.int (Int32.ofNat (tg a).2) :: r) σ else if 1020 ≤ a ∧ a < 1025 then rec m (pc + 1) ls (.int (Int32.ofNat (stb.getD (a - 1020) []).length) :: r) σ else if a = 1000 ∧ σ.2.1 999 0 = true then rec m (pc + 1) ls (.int (σ.2.2.1 999 0) :: r) σ else none
    | _ => none) else none) = some (r, σ')) : Gm m pc ls st σ r σ' := by
  split at h
  · rename_i hk; subst hk
    split at h
    · rename_i a r0
      split at h
      · rename_i hc
        obtain ⟨ha1, h20, h23⟩ := hc
        refine gm_pure (hr _ _ _ _ _ _ _ h) ?_
        intro b0 D cy av L xs p l e R s mid args below meth c0 n0 Z H locs lsx cells slots C hl hW hS k
        obtain ⟨hx, hb, hml, hown, hts, hin, hC, hs0, hfr, hlo⟩ := id C
        rw [List.map_cons, cv_own (wr_cell hW ha1)]
        have hcs : (tg a).1 = 20 ∨ (tg a).1 = 21 ∨ (tg a).1 = 22 := by omega
        rcases hcs with h | h | h
        · exact va_alen hx hb hC.1 hW.1 a 0 (x := ((tg a).2, .inl (σ.2.2.1 a))) (ty := .int) (by rw [wl_get ha1, ce_arr h (by omega) (by omega)]) rfl rfl hd k
        · exact va_alen hx hb hC.1 hW.1 a 1 (x := ((tg a).2, .inl (σ.2.2.1 a))) (ty := .byte) (by rw [wl_get ha1, ce_arr h (by omega) (by omega)]) rfl rfl hd k
        · exact va_alen hx hb hC.1 hW.1 a 2 (x := ((tg a).2, .inl (σ.2.2.1 a))) (ty := .boolean) (by rw [wl_get ha1, ce_arr h (by omega) (by omega)]) rfl rfl hd k
      · split at h
        · rename_i hc
          obtain ⟨hc1, hc2⟩ := hc
          refine gm_pure (hr _ _ _ _ _ _ _ h) ?_
          intro b0 D cy av L xs p l e R s mid args below meth c0 n0 Z H locs lsx cells slots C hl hW hS k
          obtain ⟨hx, hb, hml, hown, hts, hin, hC, hs0, hfr, hlo⟩ := id C
          obtain ⟨-, -, -, -, -, -, -, -, -, adK, adV, hE, hR⟩ := id hC
          obtain ⟨j, rfl⟩ := Nat.exists_eq_add_of_le hc1
          have hc2 : (1020 : Nat) + j < 1025 := hc2
          have hj : j < 5 := by omega
          rw [show 1020 + j - 1020 = j by omega] at k
          have e0 : cv b0 av (.ref (1020 + j)) = .ref (adV j) := by
            simp only [cv, show ¬ 1020 + j < 1000 by omega, if_false]; exact (hR j hj).2.1
          have hln : sln.getD j 0 = (stb.getD j []).length := by
            have : ∀ j, j < 5 → sln.getD j 0 = (stb.getD j []).length := by decide
            exact this j hj
          rw [List.map_cons, e0]
          have hT := (hE.1 j hj).2.2.2
          rw [hln] at hT
          exact va_tlen hx hb hT hS rfl hd k
        · split at h
          · rename_i ha
            obtain ⟨ha, hfl⟩ := ha
            subst ha
            refine gm_pure (hr _ _ _ _ _ _ _ h) ?_
            intro b0 D cy av L xs p l e R s mid args below meth c0 n0 Z H locs lsx cells slots C hl hW hS k
            obtain ⟨hx, hb, hml, hown, hts, hin, hC, hs0, hfr, hlo⟩ := id C
            obtain ⟨-, -, -, -, -, -, -, -, ⟨t, ht, hL, hT⟩, -⟩ := id hC
            rw [List.map_cons, show cv b0 av (.ref 1000) = .ref t from ht]
            exact va_tlen hx hb hT hS (v := σ.2.2.1 999 0) (hW.2.2 hfl).1.symm hd k
          · cases h
    · cases h
  · cases h
theorem ok_ldc (hr : OkR rec) {n : Nat} (hd : decode (mco m) pc = .ok (.ldc n, k)) (h : (if k = 2 then (match cs (mcl m) n with
    | some (.int x) => psh rec 2 (.int x) m pc ls st σ
    | some (.ref x) => psh rec 2 (.ref x) m pc ls st σ
    | _ => none) else none) = some (r, σ')) : Gm m pc ls st σ r σ' := by
  split at h
  · rename_i hk; subst hk
    split at h
    · rename_i x hc
      rcases cs_spec hc with ⟨y, hy, hw⟩ | ⟨y, hy, hw⟩ | ⟨j, hy, hj, ho, hi⟩
      · cases hy
        refine gm_pure (hr _ _ _ _ _ _ _ h) ?_
        intro b0 D cy av L xs p l e R s mid args below meth c0 n0 Z H locs lsx cells slots C hl hW hS k
        obtain ⟨hx, hb, hml, hown, hts, hin, hC, hs0, hfr, hlo⟩ := id C
        exact lv_ldc hx hb hown (hts _ hw) hd k
      · cases hy
      · cases hy
    · rename_i x hc
      rcases cs_spec hc with ⟨y, hy, hw⟩ | ⟨y, hy, hw⟩ | ⟨j, hy, hj, ho, hi⟩
      · cases hy
      · cases hy
      · cases hy
        refine gm_pure (hr _ _ _ _ _ _ _ h) ?_
        intro b0 D cy av L xs p l e R s mid args below meth c0 n0 Z H locs lsx cells slots C hl hW hS k
        obtain ⟨hx, hb, hml, hown, hts, hin, hC, hs0, hfr, hlo⟩ := id C
        obtain ⟨-, -, -, -, -, -, -, -, -, adK, adV, hE, hR⟩ := id hC
        have e0 : cv b0 av (.ref (1010 + j)) = .ref (adK j) := by
          simp only [cv, show ¬ 1010 + j < 1000 by omega, if_false]; exact (hR j hj).1
        rw [List.map_cons, e0] at k
        rw [ho] at hown
        have hZ := (hR j hj).2.2
        rw [hi] at hZ
        exact va_ldcS hx hb (own := RX6) hown hZ hd k
    · cases h
  · cases h
theorem ok_ldc_w (hr : OkR rec) {n : Nat} (hd : decode (mco m) pc = .ok (.ldc_w n, k)) (h : (if k = 3 then (match cs (mcl m) n with
    | some (.int x) => psh rec 3 (.int x) m pc ls st σ
    | _ => none) else none) = some (r, σ')) : Gm m pc ls st σ r σ' := by
  split at h
  · rename_i hk; subst hk
    split at h
    · rename_i x hc
      rcases cs_spec hc with ⟨y, hy, hw⟩ | ⟨y, hy, hw⟩ | ⟨j, hy, hj, ho, hi⟩
      · cases hy
        refine gm_pure (hr _ _ _ _ _ _ _ h) ?_
        intro b0 D cy av L xs p l e R s mid args below meth c0 n0 Z H locs lsx cells slots C hl hW hS k
        obtain ⟨hx, hb, hml, hown, hts, hin, hC, hs0, hfr, hlo⟩ := id C
        exact lv_ldcw hx hb hown (hts _ hw) hd k
      · cases hy
      · cases hy
    · cases h
  · cases h
theorem ok_ldc2_w (hr : OkR rec) {n : Nat} (hd : decode (mco m) pc = .ok (.ldc2_w n, k)) (h : (if k = 3 then (match cs (mcl m) n with
    | some (.long x) => psh rec 3 (.long x) m pc ls st σ
    | _ => none) else none) = some (r, σ')) : Gm m pc ls st σ r σ' := by
  split at h
  · rename_i hk; subst hk
    split at h
    · rename_i x hc
      rcases cs_spec hc with ⟨y, hy, hw⟩ | ⟨y, hy, hw⟩ | ⟨j, hy, hj, ho, hi⟩
      · cases hy
      · cases hy
        refine gm_pure (hr _ _ _ _ _ _ _ h) ?_
        intro b0 D cy av L xs p l e R s mid args below meth c0 n0 Z H locs lsx cells slots C hl hW hS k
        obtain ⟨hx, hb, hml, hown, hts, hin, hC, hs0, hfr, hlo⟩ := id C
        exact lv_ldc2 hx hb hown (hts _ hw) hd k
      · cases hy
    · cases h
  · cases h
theorem ok_iinc (hr : OkR rec) {n : Nat} {d : Int} (hd : decode (mco m) pc = .ok (.iinc n d, k)) (h : (if k = 3 then (match lget ls n with
    | .int x => if n < mml m then rec m (pc + 3) (sto1 ls n (.int (x + Int32.ofInt d))) st σ else none
    | _ => none) else none) = some (r, σ')) : Gm m pc ls st σ r σ' := by
  split at h
  · rename_i hk; subst hk
    split at h
    · rename_i x hx
      split at h
      · rename_i hlt
        refine gm_loc (hr _ _ _ _ _ _ _ h) ?_
        intro b0 D cy av L xs p l e R s mid args below meth c0 n0 Z H locs lsx cells slots C hl hW hS k
        have hm : (n, Value.int x) ∈ lvl b0 av ls := by
          refine lvl_mem.mpr ⟨.int x, ?_, fun q => (by cases q), rfl⟩
          unfold lget at hx
          rw [List.getD_eq_getElem?_getD] at hx
          cases hl2 : ls[n]? with
          | none => rw [hl2] at hx; cases hx
          | some w => rw [hl2] at hx; exact congrArg some hx
        obtain ⟨q, hq⟩ := List.getElem?_of_mem hm
        exact lv_iinc (k := q) C.1 C.2.1 hd hl.lv hq rfl hlt rfl (fun lsx1 h1 => k lsx1 (Lr.of1 C.av h1))
      · cases h
    · cases h
  · cases h
theorem gm_ret {x : Option Value} (hR : Rd m pc x) (he : ∀ (b0 : Nat) (av : Nat → Value), st.map (cv b0 av) = x.toList.map (cv b0 av)) : Gm m pc ls st σ x σ := by
  refine ⟨Nat.le_refl _, ?_⟩
  intro b0 D cy av L xs p l e R s mid args below meth c0 n0 Z C H locs lsx hl hW hS hn hc hk
  rw [he]
  exact hk pc H locs lsx hW hS hR
theorem ok_ireturn (hd : decode (mco m) pc = .ok (.ireturn, k)) (h : (if k = 1 then (match st with
    | [.int x] => (match mre m with
      | some .int => some (some (.int x), σ)
      | some .boolean => if x = 0 ∨ x = 1 then some (some (.int x), σ) else none
      | some .byte => if narrow .byte (.int x) = .int x then some (some (.int x), σ) else none
      | some .char => if narrow .char (.int x) = .int x then some (some (.int x), σ) else none
      | _ => none)
    | _ => none) else none) = some (r, σ')) : Gm m pc ls st σ r σ' := by
  split at h
  · rename_i hk; subst hk
    split at h
    · rename_i x
      split at h
      · rename_i hm
        cases h
        exact gm_ret ⟨hd, .int, hm, rfl⟩ (fun _ _ => rfl)
      · rename_i hm
        split at h
        · rename_i hb
          cases h
          exact gm_ret ⟨hd, .boolean, hm, by rcases hb with rfl | rfl <;> rfl⟩ (fun _ _ => rfl)
        · cases h
      · rename_i hm
        split at h
        · rename_i hb
          cases h
          exact gm_ret ⟨hd, .byte, hm, hb⟩ (fun _ _ => rfl)
        · cases h
      · rename_i hm
        split at h
        · rename_i hb
          cases h
          exact gm_ret ⟨hd, .char, hm, hb⟩ (fun _ _ => rfl)
        · cases h
      · cases h
    · cases h
  · cases h
theorem ok_lreturn (hd : decode (mco m) pc = .ok (.lreturn, k)) (h : (if k = 1 then (match st with
    | [.long x] => if mre m = some .long then some (some (.long x), σ) else none
    | _ => none) else none) = some (r, σ')) : Gm m pc ls st σ r σ' := by
  split at h
  · rename_i hk; subst hk
    split at h
    · split at h
      · rename_i hm
        cases h
        exact gm_ret ⟨hd, hm⟩ (fun _ _ => rfl)
      · cases h
    · cases h
  · cases h
theorem ok_areturn (hd : decode (mco m) pc = .ok (.areturn, k)) (h : (if k = 1 then (match st with
    | [.ref x] => if mre m = some (.object RX9) ∧ x < 1000 then some (some (.ref x), σ) else none
    | _ => none) else none) = some (r, σ')) : Gm m pc ls st σ r σ' := by
  split at h
  · rename_i hk; subst hk
    split at h
    · split at h
      · rename_i hm
        cases h
        exact gm_ret ⟨hd, hm.2, hm.1⟩ (fun _ _ => rfl)
      · cases h
    · cases h
  · cases h
theorem ok_return (hd : decode (mco m) pc = .ok (.return_, k)) (h : (if k = 1 then (match st with
    | [] => if mre m = none then some (none, σ) else none
    | _ => none) else none) = some (r, σ')) : Gm m pc ls st σ r σ' := by
  split at h
  · rename_i hk; subst hk
    split at h
    · split at h
      · rename_i hm
        cases h
        exact gm_ret ⟨hd, hm⟩ (fun _ _ => rfl)
      · cases h
    · cases h
  · cases h
end OPS
