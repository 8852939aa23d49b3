/-! SOUNDNESS, 4: fields, arrays, constants, returns -/
section OPS
variable {rec : Rec} {m pc k : Nat} {ls st : Vs} {σ : Sto} {r : Option Value} {σ' : Sto}
theorem w_get {b0 : Nat} {D : va_G} {cy : Nat → ClassId} {av : Nat → Value} {L : Nat} {xs : Nat → Int32} {m : Nat} {p : Program} {l : Launch} {e : Env} {R : Room} {s : State} {mid : MethodId} {args : Array Value} {below : List Frame} {meth : Method} {c0 : Code} {n0 : Nat} {Z : State → Prop} {H : Heap} {locs : List Loc} {lsx : Array Slot} {cells slots : Nat} {σ : Sto} {rest : List Value} {pc a c j n : Nat} {v : Value}
    (C : Ctx b0 D cy av L xs m p R s mid args meth c0 n0) (hW : Wr b0 D cy L xs σ H) (hd : decode (mco m) pc = .ok (.getfield n, 3)) (hf : fl (mcl m) n = some (0, c, j)) (ha : isA σ a c = true) (hv : fval σ a c j = some v) (k : W p l e R s mid args below meth c0 H locs cells slots Z (F0 mid (pc + 3) lsx (cv b0 av v :: rest))) : W p l e R s mid args below meth c0 H locs cells slots Z (F0 mid pc lsx (.ref (b0 + a) :: rest)) := by
  obtain ⟨g, hg⟩ := fl_spec hf
  simp only [okF, Bool.and_eq_true, decide_eq_true_eq] at hg
  obtain ⟨⟨⟨h1, h2⟩, h3⟩, h4⟩ := hg
  obtain ⟨ha1, ha2⟩ := isA_spec ha
  obtain ⟨hx, hb, hml, hown, hts, hin, hC, hs0, hfr, hlo⟩ := id C
  refine va_get (own := Rc (mcl m)) (ref := Rc c) (C := Rc c) (T := Tc c) (N := nf c) (ci := c) (index := n) hx hb hts (lay_in c h3) hown hC.1 hW.1 a (fs := (List.range (nf c)).map (fvc b0 σ a c)) ?_ (cl_get c h3) j h4 (hts _ (okw_in h1)) ?_ (v := cv b0 av v) ?_ hd k
  · rw [wl_get ha1, ce_obj ha2 h3]
  · intro x hx
    rw [h2] at hx
    exact hx
  · rw [fval_cv hv]
    simp [h4]
theorem ok_getfield (hr : OkR rec) {n : Nat} (hd : decode (mco m) pc = .ok (.getfield n, k)) (h : (if k = 3 then (match st with
    | .ref a :: r => (match fl (mcl m) n with
      | some (0, c, j) => if isA σ a c = true ∧ j < nf c then (fval σ a c j).bind (fun v => rec m (pc + 3) ls (v :: r) σ) else none
      | some (1, 0, _) => if 1010 ≤ a ∧ a < 1015 then rec m (pc + 3) ls (.ref (a + 10) :: r) σ else none
      | some (1, _, _) => if 1010 ≤ a ∧ a < 1015 then rec m (pc + 3) ls (.int 0 :: r) σ else none
      | _ => none)
    | _ => none) else none) = some (r, σ')) : Gm m pc ls st σ r σ' := by
  split at h
  · rename_i hk; subst hk
    split at h
    · rename_i a r0
      split at h
      · rename_i c j hf
        split at h
        · rename_i hc
          cases hv : fval σ a c j with
          | none => rw [hv] at h; cases h
          | some v =>
            rw [hv] at h
            refine gm_pure (hr _ _ _ _ _ _ _ h) ?_
            intro b0 D cy av L xs p l e R s mid args below meth c0 n0 Z H locs lsx cells slots C hl hW hS k
            rw [List.map_cons, cv_own (wr_cell hW (isA_spec hc.1).1)]
            exact w_get C hW hd hf hc.1 hv k
        · cases h
      · rename_i z hf
        split at h
        · rename_i hc
          obtain ⟨g, hg⟩ := fl_spec hf
          refine gm_pure (hr _ _ _ _ _ _ _ h) ?_
          intro b0 D cy av L xs p l e R s mid args below meth c0 n0 Z H locs lsx cells slots C hl hW hS k
          obtain ⟨hx, hb, hml, hown, hts, hin, hC, hs0, hfr, hlo⟩ := id C
          obtain ⟨-, -, -, -, -, -, -, -, -, adK, adV, hE, hR⟩ := id hC
          obtain ⟨hc1, hc2⟩ := hc
          obtain ⟨j, rfl⟩ := Nat.exists_eq_add_of_le hc1
          have hc2 : (1010 : Nat) + j < 1015 := hc2
          have hj : j < 5 := by omega
          have e1 : cv b0 av (.ref (1010 + j)) = .ref (adK j) := by
            simp only [cv, show ¬ 1010 + j < 1000 by omega, if_false]; exact (hR j hj).1
          have e2 : cv b0 av (.ref (1010 + j + 10)) = .ref (adV j) := by
            rw [show 1010 + j + 10 = 1020 + j by omega]
            simp only [cv, show ¬ 1020 + j < 1000 by omega, if_false]; exact (hR j hj).2.1
          rw [List.map_cons, e1]
          rw [List.map_cons, e2] at k
          exact vk_getf hx hb (hE.1 j hj).2.2.1 hS hown (hts _ (okw_in hg)) (fun _ q => q) hd k
        · cases h
      · rename_i y z hne hf
        split at h
        · rename_i hc
          obtain ⟨g, hg⟩ := fl_spec hf
          have hg' : okw g (.fieldLink (Rc (mcl m)) n "java/lang/String" "coder" "B") = true := by
            cases y with
            | zero => exact (hne rfl).elim
            | succ y => exact hg
          refine gm_pure (hr _ _ _ _ _ _ _ h) ?_
          intro b0 D cy av L xs p l e R s mid args below meth c0 n0 Z H locs lsx cells slots C hl hW hS k
          obtain ⟨hx, hb, hml, hown, hts, hin, hC, hs0, hfr, hlo⟩ := id C
          obtain ⟨-, -, -, -, -, -, -, -, -, adK, adV, hE, hR⟩ := id hC
          obtain ⟨hc1, hc2⟩ := hc
          obtain ⟨j, rfl⟩ := Nat.exists_eq_add_of_le hc1
          have hc2 : (1010 : Nat) + j < 1015 := hc2
          have hj : j < 5 := by omega
          have e1 : cv b0 av (.ref (1010 + j)) = .ref (adK j) := by
            simp only [cv, show ¬ 1010 + j < 1000 by omega, if_false]; exact (hR j hj).1
          rw [List.map_cons, e1]
          exact vk_getf hx hb (hE.1 j hj).2.1 hS hown (hts _ (okw_in hg')) (fun _ q => q) hd k
        · cases h
      · cases h
    · cases h
  · cases h
theorem w_put {b0 : Nat} {D : va_G} {cy : Nat → ClassId} {av : Nat → Value} {L : Nat} {xs : Nat → Int32} {m : Nat} {p : Program} {l : Launch} {e : Env} {R : Room} {s : State} {mid : MethodId} {args : Array Value} {below : List Frame} {meth : Method} {c0 : Code} {n0 : Nat} {Z : State → Prop} {H : Heap} {locs : List Loc} {lsx : Array Slot} {cells slots : Nat} {σ : Sto} {rest : List Value} {pc a c j n : Nat} {v : Value}
    (C : Ctx b0 D cy av L xs m p R s mid args meth c0 n0) (hW : Wr b0 D cy L xs σ H) (hS : va_S (fun q => b0 ≤ q) s.heap H locs) (hd : decode (mco m) pc = .ok (.putfield n, 3)) (hf : fl (mcl m) n = some (0, c, j)) (ha : isA σ a c = true) (hfin : (Tc c j).2.2.2 = true → (mna m).name = "<init>" ∧ mcl m = c)
    (hn : narrow (tyc c j) v = v) (hfit : fits (tyc c j) v = true) (k : ∀ (H1 : Heap) (locs1 : List Loc), va_P D vwCl ((wl b0 cy σ).set a (b0 + a, .inr (c, ((List.range (nf c)).map (fvc b0 σ a c)).set j v))) H1 → va_S (fun q => b0 ≤ q) s.heap H1 locs1 → W p l e R s mid args below meth c0 H1 locs1 cells slots Z (F0 mid (pc + 3) lsx rest)) : W p l e R s mid args below meth c0 H locs cells slots Z (F0 mid pc lsx (v :: .ref (b0 + a) :: rest)) := by
  obtain ⟨g, hg⟩ := fl_spec hf
  simp only [okF, Bool.and_eq_true, decide_eq_true_eq] at hg
  obtain ⟨⟨⟨h1, h2⟩, h3⟩, h4⟩ := hg
  obtain ⟨ha1, ha2⟩ := isA_spec ha
  obtain ⟨hx, hb, hml, hown, hts, hin, hC, hs0, hfr, hlo⟩ := id C
  have he : (wl b0 cy σ)[a]? = some (b0 + a, .inr (c, (List.range (nf c)).map (fvc b0 σ a c))) := by rw [wl_get ha1, ce_obj ha2 h3]
  have hsame : ∀ x, s.fieldFound? (Tc c j).1 (Tc c j).2.1 (Tc c j).2.2.1 = some x → s.fieldFound? (Rc c) (Tc c j).2.1 (Tc c j).2.2.1 = some x := fun x q => by rw [h2] at q; exact q
  cases hq : (Tc c j).2.2.2 with
  | false => exact va_put (own := Rc (mcl m)) (ref := Rc c) (C := Rc c) (T := Tc c) (N := nf c) (ci := c) (index := n) hx hb hts (lay_in c h3) (tyc c) (ty_c c h3) (nm_c c h3) hown hC.1 hW.1 (wl_D b0 cy σ) hS a he (cl_get c h3) j h4 (hts _ (okw_in h1)) hsame hq (ty_c c h3 j h4) hn hfit (by simp [h4]) hd (fun H1 locs1 q1 q2 q3 => k H1 locs1 q1 q3)
  | true =>
    obtain ⟨f1, f2⟩ := hfin hq
    exact va_putF (own := Rc (mcl m)) (ref := Rc c) (C := Rc c) (T := Tc c) (N := nf c) (ci := c) (index := n) hx hb hts (lay_in c h3) (tyc c) (ty_c c h3) (nm_c c h3) hown hC.1 hW.1 (wl_D b0 cy σ) hS a he (cl_get c h3) j h4 (hts _ (okw_in h1)) hsame hq (hin f1) (by rw [h2, f2]) (ty_c c h3 j h4) hn hfit (by simp [h4]) hd (fun H1 locs1 q1 q2 q3 => k H1 locs1 q1 q3)
theorem ok_putfield (hr : OkR rec) {n : Nat} (hd : decode (mco m) pc = .ok (.putfield n, k)) (h : (if k = 3 then (match st with
    | v :: .ref a :: r => (match fl (mcl m) n with
      | some (0, c, j) => if isA σ a c = true ∧ j < nf c ∧ ((Tc c j).2.2.2 = true → (mna m).name = "<init>" ∧ mcl m = c) then (fput σ a c j v).bind (fun σ1 => rec m (pc + 3) ls r σ1) else none
      | _ => none)
    | _ => none) else none) = some (r, σ')) : Gm m pc ls st σ r σ' := by
  split at h
  · rename_i hk; subst hk
    split at h
    · rename_i v a r0
      split at h
      · rename_i c j hf
        split at h
        · rename_i hc
          obtain ⟨hc1, hc2, hc3⟩ := hc
          obtain ⟨g, hg⟩ := fl_spec hf
          simp only [okF, Bool.and_eq_true, decide_eq_true_eq] at hg
          have h13 : c < 13 := hg.1.2
          obtain ⟨ha1, ha2⟩ := isA_spec hc1
          cases hv : fput σ a c j v with
          | none => rw [hv] at h; cases h
          | some σ1 =>
            rw [hv] at h
            dsimp only [Option.bind_some] at h
            unfold fput at hv
            split at hv
            · rename_i x
              split at hv
              · rename_i h0
                cases hv
                refine gm_heap (hr _ _ _ _ _ _ _ h) rfl ?_
                intro b0 D cy av L xs p l e R s mid args below meth c0 n0 Z H locs lsx cells slots C hl hW hS k
                rw [List.map_cons, List.map_cons, cv_own (wr_cell hW ha1)]
                exact w_put C hW hS hd hf hc1 hc3 (by rw [ft_0 h13 hc2 h0]; rfl) (by rw [ft_0 h13 hc2 h0]; rfl) (fun H1 locs1 q1 q3 => k H1 locs1 (wr_set hW.2 ha1 rfl (sI_ce ha2 h13 hc2 h0) (fun b hb => sI_ce_o hb) (fun b hb => va_up_ne _ _ hb) (fun b hb => rfl) q1) q3)
              · cases hv
            · rename_i x
              split at hv
              · rename_i h0
                cases hv
                refine gm_heap (hr _ _ _ _ _ _ _ h) rfl ?_
                intro b0 D cy av L xs p l e R s mid args below meth c0 n0 Z H locs lsx cells slots C hl hW hS k
                rw [List.map_cons, List.map_cons, cv_own (wr_cell hW ha1)]
                exact w_put C hW hS hd hf hc1 hc3 (by rw [ft_1 h13 hc2 h0]; rfl) (by rw [ft_1 h13 hc2 h0]; rfl) (fun H1 locs1 q1 q3 => k H1 locs1 (wr_set hW.2 ha1 rfl (sL_ce ha2 h13 hc2 h0) (fun b hb => sL_ce_o hb) (fun b hb => rfl) (fun b hb => rfl) q1) q3)
              · cases hv
            · rename_i x
              split at hv
              · rename_i h0
                cases hv
                obtain ⟨h0, hx⟩ := h0
                subst hx
                refine gm_heap (hr _ _ _ _ _ _ _ h) rfl ?_
                intro b0 D cy av L xs p l e R s mid args below meth c0 n0 Z H locs lsx cells slots C hl hW hS k
                have hlt := rf_lt a j
                rw [List.map_cons, List.map_cons, cv_own (wr_cell hW ha1), cv_own (show rf a j < 1000 by omega)]
                exact w_put C hW hS hd hf hc1 hc3 (by rcases ft_2 h13 hc2 h0 with ⟨q, hq⟩ | ⟨q, hq⟩ <;> rw [hq] <;> rfl) (by rcases ft_2 h13 hc2 h0 with ⟨q, hq⟩ | ⟨q, hq⟩ <;> rw [hq] <;> rfl) (fun H1 locs1 q1 q3 => k H1 locs1 (wr_set hW.2 ha1 rfl (sB_ce ha2 h13 hc2 h0) (fun b hb => sB_ce_o hb) (fun b hb => rfl) (fun b hb => va_up_ne _ _ hb) q1) q3)
              · cases hv
            · cases hv
        · cases h
      · cases h
    · cases h
  · cases h
theorem ok_getstatic (hr : OkR rec) {n : Nat} (hd : decode (mco m) pc = .ok (.getstatic n, k)) (h : (if k = 3 then (match fl (mcl m) n with
    | some (2, 1, _) => rec m (pc + 3) ls (.int 1 :: st) σ
    | some (2, w, _) => rec m (pc + 3) ls (.ref w :: st) σ
    | _ => none) else none) = some (r, σ')) : Gm m pc ls st σ r σ' := by
  split at h
  · rename_i hk; subst hk
    split at h
    · rename_i z hf
      obtain ⟨g, hg⟩ := fl_spec hf
      simp only [okF, Bool.and_eq_true, decide_eq_true_eq] at hg
      refine gm_pure (hr _ _ _ _ _ _ _ h) ?_
      intro b0 D cy av L xs p l e R s mid args below meth c0 n0 Z H locs lsx cells slots C hl hW hS k
      obtain ⟨hx, hb, hml, hown, hts, hin, hC, hs0, hfr, hlo⟩ := id C
      exact va_gets hx hb hC.2.2.2.2.2.1 hS hown (hts _ (okw_in hg.1)) (fun _ q => q) hd k
    · rename_i w z hne hf
      obtain ⟨g, hg⟩ := fl_spec hf
      simp only [okF, Bool.and_eq_true, decide_eq_true_eq] at hg
      obtain ⟨hg, hw⟩ := hg
      refine gm_pure (hr _ _ _ _ _ _ _ h) ?_
      intro b0 D cy av L xs p l e R s mid args below meth c0 n0 Z H locs lsx cells slots C hl hW hS k
      obtain ⟨hx, hb, hml, hown, hts, hin, hC, hs0, hfr, hlo⟩ := id C
      obtain ⟨-, -, -, -, -, -, hF, h9, -⟩ := id hC
      rw [List.map_cons] at k
      rcases hw with rfl | rfl | rfl | rfl | rfl
      · exact (hne rfl).elim
      · obtain ⟨t, e1, e2, -⟩ := h9 0 (by omega)
        rw [show cv b0 av (.ref 1001) = .ref t from e1] at k
        exact va_gets hx hb e2 hS hown (hts _ (okw_in hg)) (fun _ q => q) hd k
      · obtain ⟨t, e1, e2, -⟩ := h9 1 (by omega)
        rw [show cv b0 av (.ref 1002) = .ref t from e1] at k
        exact va_gets hx hb e2 hS hown (hts _ (okw_in hg)) (fun _ q => q) hd k
      · obtain ⟨t, e1, e2, -⟩ := h9 2 (by omega)
        rw [show cv b0 av (.ref 1003) = .ref t from e1] at k
        exact va_gets hx hb e2 hS hown (hts _ (okw_in hg)) (fun _ q => q) hd k
      · exact va_gets hx hb hF hS hown (hts _ (okw_in hg)) (fun _ q => q) hd k
    · cases h
  · cases h
end OPS
