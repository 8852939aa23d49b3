/-! SOUNDNESS, 1: what a flat store says of the heap -/
def cv (b0 : Nat) (av : Nat → Value) (v : Value) : Value := match v with
  | .ref k => if k < 1000 then .ref (b0 + k) else av k
  | v => v
def fvc (b0 : Nat) (σ : Sto) (a c k : Nat) : Value := match ft c k with
  | 0 => .int (σ.2.2.1 a k)
  | 1 => .long (σ.2.2.2 a k)
  | _ => if σ.2.1 a k = true then .ref (b0 + rf a k) else .null
def ce (b0 : Nat) (cy : Nat → ClassId) (σ : Sto) (a : Nat) : va_E :=
  if (tg a).1 < 13 then .inr ((tg a).1, (List.range (nf (tg a).1)).map (fvc b0 σ a (tg a).1))
  else if (tg a).1 < 23 then .inl (cy (tg a).1, (tg a).2, .inl (σ.2.2.1 a))
  else .inl (cy (tg a).1, (tg a).2, .inr (.inr (.inr (.inr (fun j => if σ.2.1 a j = true then some (b0 + rf a j) else none)))))
def wl (b0 : Nat) (cy : Nat → ClassId) (σ : Sto) : va_W := (List.range σ.1).map (fun a => (b0 + a, ce b0 cy σ a))
theorem wl_get {b0 : Nat} {cy : Nat → ClassId} {σ : Sto} {a : Nat} (h : a < σ.1) : (wl b0 cy σ)[a]? = some (b0 + a, ce b0 cy σ a) := by
  simp [wl, h]
theorem wl_set {b0 : Nat} {cy : Nat → ClassId} {σ σ' : Sto} {a : Nat} {e : va_E} (hn : σ'.1 = σ.1) (he : ce b0 cy σ' a = e) (ho : ∀ b, b < σ.1 → b ≠ a → ce b0 cy σ' b = ce b0 cy σ b) : (wl b0 cy σ).set a (b0 + a, e) = wl b0 cy σ' := by
  apply List.ext_getElem?
  intro i
  rw [List.getElem?_set]
  by_cases hi : i < σ.1
  · rw [wl_get (σ := σ') (by omega), wl_get hi]
    by_cases h : a = i
    · subst h
      rw [if_pos rfl, if_pos (by simp [wl]; exact hi), he]
    · rw [if_neg h, ho i hi (fun q => h q.symm)]
  · have h1 : (wl b0 cy σ)[i]? = none := List.getElem?_eq_none (by simp [wl]; omega)
    have h2 : (wl b0 cy σ')[i]? = none := List.getElem?_eq_none (by simp [wl]; omega)
    rw [h1, h2]
    by_cases h : a = i
    · subst h
      rw [if_pos rfl, if_neg (by simp [wl]; omega)]
    · rw [if_neg h]
theorem wl_push {b0 : Nat} {cy : Nat → ClassId} {σ σ' : Sto} {e : va_E} (hn : σ'.1 = σ.1 + 1) (he : ce b0 cy σ' σ.1 = e) (ho : ∀ b, b < σ.1 → ce b0 cy σ' b = ce b0 cy σ b) : wl b0 cy σ ++ [(b0 + σ.1, e)] = wl b0 cy σ' := by
  unfold wl
  rw [hn, List.range_succ, List.map_append, List.map_cons, List.map_nil, he]
  congr 1
  apply List.map_congr_left
  intro a ha
  rw [ho a (List.mem_range.mp ha)]
theorem wl_D (b0 : Nat) (cy : Nat → ClassId) (σ : Sto) : va_D (fun q => b0 ≤ q) (wl b0 cy σ) := by
  have key : ∀ (k : Nat) (q : Nat × va_E), (wl b0 cy σ)[k]? = some q → q.1 = b0 + k := by
    intro k q h
    have hk : k < σ.1 := by
      have := (List.getElem?_eq_some_iff.mp h).1
      simpa [wl] using this
    rw [wl_get hk] at h
    cases h
    rfl
  refine ⟨fun i j p q hi hj h => ?_, fun k q h => ?_⟩
  · have h1 := key i p hi
    have h2 := key j q hj
    omega
  · have h1 := key k q h
    show b0 ≤ q.1
    omega
def tyl (cy : Nat → ClassId) : List (ClassId × FieldType) := [(cy 20, .int), (cy 21, .byte), (cy 22, .boolean), (cy 23, .object RX5), (cy 24, .object RX9), (cy 25, .array .int)]
/-- the lengths of the texts -/
def sln : List Nat := stb.map (fun x => x.length)
/-- what holds of the machine at any time of the run: classes, links, statics, texts, the script -/
def Cx (b0 : Nat) (D : va_G) (cy : Nat → ClassId) (av : Nat → Value) (L : Nat) (xs : Nat → Int32) (s : State) (H : Heap) : Prop :=
  va_K D vwCl (tyl cy) s ∧ (∀ q ∈ nsl, va_Nw (.methodLinkNest q.1 q.2.1 (mna q.2.2.1) q.2.2.2) s) ∧ (va_AO RX5 s ∧ va_AO RX9 s ∧ (Cond.arrayOver (.array .int)).before #[] s = true) ∧ (∀ c, (c = 0 ∨ c = 1 ∨ c = 2 ∨ c = 3 ∨ c = 8) → va_Nw (.castable (Rc c) RX5) s) ∧
  (∀ k, (av k).category = 1) ∧ va_Z "java/lang/String" "COMPACT_STRINGS" "Z" (.int 1) (fun q => b0 ≤ q) s H ∧ va_Z "jdk/internal/util/Preconditions" "SIOOBE_FORMATTER" "Ljava/util/function/BiFunction;" (av 2000) (fun q => b0 ≤ q) s H ∧
  (∀ j, j < 3 → ∃ t, av (1001 + j) = .ref t ∧ va_Z RX6 (stn (1001 + j)).2.1 "[I" (.ref t) (fun q => b0 ≤ q) s H ∧ va_T .int t (otb.getD j []).length (fun i => .int ((otb.getD j []).getD i 0)) (fun q => b0 ≤ q) s H) ∧
  (∃ t, av 1000 = .ref t ∧ L < 2 ^ 31 ∧ va_T .int t L (fun i => .int (xs i)) (fun q => b0 ≤ q) s H) ∧
  (∃ adK adV : Nat → Nat, vk_S 5 sln stb adK adV (fun q => b0 ≤ q) s H ∧ ∀ j, j < 5 → av (1010 + j) = .ref (adK j) ∧ av (1020 + j) = .ref (adV j) ∧ vk_R RX6 (sti.getD j (0, "")).1 (sti.getD j (0, "")).2 (adK j) s)
theorem Cx.next {b0 : Nat} {D : va_G} {cy : Nat → ClassId} {av : Nat → Value} {L : Nat} {xs : Nat → Int32} {s U : State} {H H1 : Heap} (h : Cx b0 D cy av L xs s H) (hW : s.WarmedH U.vm) (hq : ∀ a : Nat, a < H.size → ¬ b0 ≤ a → H1[a]? = H[a]?) : Cx b0 D cy av L xs U H1 := by
  obtain ⟨h1, h2, ⟨h3, h4, h4b⟩, h5, h6, h7, h8, h9, ⟨t, ht, hL, hT⟩, adK, adV, hS, hR⟩ := h
  refine ⟨va_K.moved hW.alike h1, fun q hq => (h2 q hq).warmM hW, ⟨h3.moved hW.alike, h4.moved hW.alike, Jvm.Stand.arrayOver_alikeB hW.alike h4b⟩, fun c hc => (h5 c hc).warmC hW, h6, (h7.moved hW.alike).kept hq, (h8.moved hW.alike).kept hq, fun j hj => ?_, ⟨t, ht, hL, (hT.moved hW.alike).kept hq⟩, adK, adV, (hS.moved hW.alike).kept hq, fun j hj => ⟨(hR j hj).1, (hR j hj).2.1, (hR j hj).2.2.warm hW⟩⟩
  obtain ⟨t, e1, e2, e3⟩ := h9 j hj
  exact ⟨t, e1, (e2.moved hW.alike).kept hq, (e3.moved hW.alike).kept hq⟩
/-- slots of the first n cells -/
def ssz (a : Nat) : Nat := if (tg a).1 < 13 then nf (tg a).1 else (tg a).2
def ss (n : Nat) : Nat := ((List.range n).map ssz).sum
theorem ss_succ (n : Nat) : ss (n + 1) = ss n + ssz n := by
  simp [ss, List.range_succ]
theorem ss_mono {a b : Nat} (h : a ≤ b) : ss a ≤ ss b := by
  obtain ⟨k, rfl⟩ := Nat.exists_eq_add_of_le h
  induction k with
  | zero => exact Nat.le_refl _
  | succ k ih =>
    have := ih (by omega)
    rw [show a + (k + 1) = (a + k) + 1 by omega, ss_succ]
    omega
/-- the locals -/
def Lr (b0 : Nat) (av : Nat → Value) (lsx : Array Slot) (n : Nat) (ls : Vs) : Prop := lsx.size = n ∧ lv_wf lsx ∧ ∀ (i : Nat) (v : Value), ls[i]? = some v → v ≠ .null → lsx[i]? = some (.val (cv b0 av v))
theorem Lr.get {b0 : Nat} {av : Nat → Value} {lsx : Array Slot} {n : Nat} {ls : Vs} (h : Lr b0 av lsx n ls) {i : Nat} {v : Value} (hv : lget ls i = v) (hn : v ≠ .null) : lsx[i]? = some (.val (cv b0 av v)) := by
  refine h.2.2 i v ?_ hn
  unfold lget at hv
  rw [List.getD_eq_getElem?_getD] at hv
  cases hl : ls[i]? with
  | none => rw [hl] at hv; exact absurd hv.symm hn
  | some w => rw [hl] at hv; simpa using hv
def lvl (b0 : Nat) (av : Nat → Value) (ls : Vs) : List (Nat × Value) := ls.zipIdx.filterMap (fun q => if q.1 = .null then none else some (q.2, cv b0 av q.1))
theorem lvl_mem {b0 : Nat} {av : Nat → Value} {ls : Vs} {i : Nat} {w : Value} : (i, w) ∈ lvl b0 av ls ↔ ∃ v, ls[i]? = some v ∧ v ≠ .null ∧ w = cv b0 av v := by
  unfold lvl
  rw [List.mem_filterMap]
  constructor
  · rintro ⟨⟨v, j⟩, hm, hq⟩
    rw [List.mem_zipIdx_iff_getElem?] at hm
    by_cases hv : v = .null
    · simp [hv] at hq
    · simp only [hv, if_false] at hq
      cases hq
      exact ⟨v, hm, hv, rfl⟩
  · rintro ⟨v, h1, h2, rfl⟩
    exact ⟨(v, i), List.mem_zipIdx_iff_getElem?.mpr h1, by simp [h2]⟩
theorem Lr.lv {b0 : Nat} {av : Nat → Value} {lsx : Array Slot} {n : Nat} {ls : Vs} (h : Lr b0 av lsx n ls) : lv_has lsx n (lvl b0 av ls) := by
  refine ⟨h.1, h.2.1, fun q hq => ?_⟩
  obtain ⟨v, h1, h2, h3⟩ := lvl_mem.mp (show (q.1, q.2) ∈ lvl b0 av ls from hq)
  rw [h3]
  exact h.2.2 _ v h1 h2
theorem kl1_get {ls : Vs} {j k : Nat} {v w : Value} (h : (kl1 ls j v)[k]? = some w) (hw : w ≠ .null) : ls[k]? = some w ∧ (k = j → v.category = 1) := by
  cases v <;> simp only [kl1] at h
  case int => exact ⟨h, fun _ => rfl⟩
  case ref => exact ⟨h, fun _ => rfl⟩
  case null => exact ⟨h, fun _ => rfl⟩
  all_goals
    rw [List.getElem?_set] at h
    by_cases e : j = k
    · rw [if_pos e] at h
      split at h
      · cases h; exact absurd rfl hw
      · cases h
    · rw [if_neg e] at h
      exact ⟨h, fun q => absurd q.symm e⟩
theorem kil_get {b0 : Nat} {av : Nat → Value} (hav : ∀ k, (av k).category = 1) {ls : Vs} {i k : Nat} {w : Value} (h : (kil ls i)[k]? = some w) (hw : w ≠ .null) : ls[k]? = some w ∧ (k + 1 = i → (cv b0 av w).category = 1) := by
  cases i with
  | zero => exact ⟨h, fun q => by omega⟩
  | succ j =>
    obtain ⟨h1, h2⟩ := kl1_get (v := lget ls j) h hw
    refine ⟨h1, fun q => ?_⟩
    have e : k = j := by omega
    subst e
    have h3 := h2 rfl
    have h4 : lget ls k = w := by
      unfold lget
      rw [List.getD_eq_getElem?_getD, h1]
      rfl
    rw [h4] at h3
    cases w with
    | ref a =>
      unfold cv
      dsimp only
      split
      · rfl
      · exact hav a
    | int x => rfl
    | long x => cases h3
    | float x => rfl
    | double x => cases h3
    | null => rfl
    | retAddr x => rfl
theorem Lr.of1 {b0 : Nat} {av : Nat → Value} (hav : ∀ k, (av k).category = 1) {lsx : Array Slot} {n : Nat} {ls : Vs} {i : Nat} {v : Value} (h : lv_has lsx n ((i, cv b0 av v) :: (lvl b0 av ls).filter (fun q => !(q.1 == i) && !(q.1 + 1 == i && q.2.category == 2)))) : Lr b0 av lsx n (sto1 ls i v) := by
  refine ⟨h.1, h.2.1, fun k w hk hw => ?_⟩
  unfold sto1 at hk
  rw [List.getElem?_set] at hk
  by_cases e : i = k
  · subst e
    rw [if_pos rfl] at hk
    split at hk
    · cases hk
      exact h.2.2 _ List.mem_cons_self
    · cases hk
  · rw [if_neg e] at hk
    obtain ⟨h1, h2⟩ := kil_get hav hk hw (b0 := b0)
    refine h.2.2 (k, cv b0 av w) (List.mem_cons_of_mem _ (List.mem_filter.mpr ⟨lvl_mem.mpr ⟨w, h1, hw, rfl⟩, ?_⟩))
    simp only [Bool.and_eq_true, Bool.not_eq_true', beq_eq_false_iff_ne, ne_eq, Bool.and_eq_false_iff]
    refine ⟨fun q => e q.symm, ?_⟩
    by_cases q : k + 1 = i
    · exact Or.inr (by rw [h2 q]; decide)
    · exact Or.inl q
theorem Lr.of2 {b0 : Nat} {av : Nat → Value} (hav : ∀ k, (av k).category = 1) {lsx : Array Slot} {n : Nat} {ls : Vs} {i : Nat} {v : Value} (h : lv_has lsx n ((i, cv b0 av v) :: (lvl b0 av ls).filter (fun q => !(q.1 == i) && (!(q.1 == i + 1) && !(q.1 + 1 == i && q.2.category == 2))))) : Lr b0 av lsx n (sto2 ls i v) := by
  refine ⟨h.1, h.2.1, fun k w hk hw => ?_⟩
  unfold sto2 at hk
  rw [List.getElem?_set] at hk
  by_cases e : i = k
  · subst e
    rw [if_pos rfl] at hk
    split at hk
    · cases hk
      exact h.2.2 _ List.mem_cons_self
    · cases hk
  · rw [if_neg e, List.getElem?_set] at hk
    by_cases e2 : i + 1 = k
    · rw [if_pos e2] at hk
      split at hk
      · cases hk; exact absurd rfl hw
      · cases hk
    · rw [if_neg e2] at hk
      obtain ⟨h1, h2⟩ := kil_get hav hk hw (b0 := b0)
      refine h.2.2 (k, cv b0 av w) (List.mem_cons_of_mem _ (List.mem_filter.mpr ⟨lvl_mem.mpr ⟨w, h1, hw, rfl⟩, ?_⟩))
      simp only [Bool.and_eq_true, Bool.not_eq_true', beq_eq_false_iff_ne, ne_eq, Bool.and_eq_false_iff]
      refine ⟨fun q => e q.symm, fun q => e2 q.symm, ?_⟩
      by_cases q : k + 1 = i
      · exact Or.inr (by rw [h2 q]; decide)
      · exact Or.inl q
/-- the world -/
def Wr (b0 : Nat) (D : va_G) (cy : Nat → ClassId) (L : Nat) (xs : Nat → Int32) (σ : Sto) (H : Heap) : Prop := va_P D vwCl (wl b0 cy σ) H ∧ σ.1 ≤ 100 ∧ (σ.2.1 999 0 = true → σ.2.2.1 999 0 = nI L ∧ σ.2.2.1 1000 = xs)
/-- the return that the interpreter has come to -/
def Rd (m pc : Nat) (r : Option Value) : Prop := match r with
  | none => decode (mco m) pc = .ok (.return_, 1) ∧ mre m = none
  | some (.int x) => decode (mco m) pc = .ok (.ireturn, 1) ∧ ∃ ty, mre m = some ty ∧ narrow ty (.int x) = .int x
  | some (.long _) => decode (mco m) pc = .ok (.lreturn, 1) ∧ mre m = some .long
  | some (.ref k) => decode (mco m) pc = .ok (.areturn, 1) ∧ k < 1000 ∧ mre m = some (.object RX9)
  | _ => False
/-- a method's stay: the machine, its code, the tables' words, the room -/
def Ctx (b0 : Nat) (D : va_G) (cy : Nat → ClassId) (av : Nat → Value) (L : Nat) (xs : Nat → Int32) (m : Nat) (p : Program) (R : Room) (s : State) (mid : MethodId) (args : Array Value) (meth : Method) (c : Code) (n0 : Nat) : Prop :=
  p.tables.exec = Jvm.exec ∧ c.code = mco m ∧ c.maxLocals = mml m ∧ s.vm.findClass (Rc (mcl m)) = some mid.cls ∧ (∀ w ∈ Big, w.before args s = true) ∧ ((mna m).name = "<init>" → meth.name = "<init>") ∧ Cx b0 D cy av L xs s s.heap ∧ s.heap.size = b0 + n0 ∧ mhg m ≤ R.frames ∧ 31 * mhg m ≤ R.locals
/-- from here the machine comes to a return with r, and the store is σ' -/
def Gd (m pc : Nat) (ls st : Vs) (σ : Sto) (r : Option Value) (σ' : Sto) : Prop :=
  ∀ (b0 : Nat) (D : va_G) (cy : Nat → ClassId) (av : Nat → Value) (L : Nat) (xs : Nat → Int32) (p : Program) (l : Launch) (e : Env) (R : Room) (s : State) (mid : MethodId) (args : Array Value) (below : List Frame) (meth : Method) (c : Code) (n0 : Nat) (Z : State → Prop),
    Ctx b0 D cy av L xs m p R s mid args meth c n0 → ∀ (H : Heap) (locs : List Loc) (lsx : Array Slot), Lr b0 av lsx (mml m) ls → Wr b0 D cy L xs σ H → va_S (fun q => b0 ≤ q) s.heap H locs → n0 ≤ σ.1 → (σ'.1 ≤ n0 + R.cells ∧ ss σ'.1 ≤ ss n0 + R.slots) →
    (∀ (pc1 : Nat) (H1 : Heap) (locs1 : List Loc) (lsx1 : Array Slot), Wr b0 D cy L xs σ' H1 → va_S (fun q => b0 ≤ q) s.heap H1 locs1 → Rd m pc1 r → W p l e R s mid args below meth c H1 locs1 (σ'.1 - n0) (ss σ'.1 - ss n0) Z (F0 mid pc1 lsx1 (r.toList.map (cv b0 av)))) →
    W p l e R s mid args below meth c H locs (σ.1 - n0) (ss σ.1 - ss n0) Z (F0 mid pc lsx (st.map (cv b0 av)))
def Gm (m pc : Nat) (ls st : Vs) (σ : Sto) (r : Option Value) (σ' : Sto) : Prop := σ.1 ≤ σ'.1 ∧ Gd m pc ls st σ r σ'
def OkR (rec : Rec) : Prop := ∀ (m pc : Nat) (ls st : Vs) (σ : Sto) (r : Option Value) (σ' : Sto), rec m pc ls st σ = some (r, σ') → Gm m pc ls st σ r σ'
