/-! the tables hold: every word that an entry names stands among the tables' good words -/
def Big : List Cond := lw_tbl.filter goodWord
theorem big_good : GoodIn Big Big := fun w hw => ⟨hw, good_of_word (List.mem_filter.mp hw).2⟩
def okw (i : Nat) (w : Cond) : Bool := decide (lw_tbl[i]? = some w) && goodWord w
theorem okw_in {i : Nat} {w : Cond} (h : okw i w = true) : w ∈ Big := by
  simp only [okw, Bool.and_eq_true, decide_eq_true_eq] at h
  exact List.mem_filter.mpr ⟨List.mem_of_getElem? h.1, h.2⟩
theorem big_hts {args : Array Value} {s : State} (h : ∀ w ∈ lw_tbl, w.before args s = true) : ∀ w ∈ Big, w.before args s = true := fun w hw => h w (List.mem_filter.mp hw).1
/-- statics by number: class, name, descriptor -/
def stn (w : Nat) : String × String × String := if w = 1 then ("java/lang/String", "COMPACT_STRINGS", "Z") else if w = 1001 then (RX6, "AMOUNT", "[I") else if w = 1002 then (RX6, "LEAST", "[I") else if w = 1003 then (RX6, "MOST", "[I") else ("jdk/internal/util/Preconditions", "SIOOBE_FORMATTER", "Ljava/util/function/BiFunction;")
def okF (e : Nat × Nat × Nat × Nat × Nat × Nat) : Bool := match e with
  | (o, i, 0, c, k, h) => okw h (.fieldLink (Rc o) i (Rc c) (Tc c k).2.1 (Tc c k).2.2.1) && decide ((Tc c k).1 = Rc c) && decide (c < 13) && decide (k < nf c)
  | (o, i, 1, 0, _, h) => okw h (.fieldLink (Rc o) i "java/lang/String" "value" "[B")
  | (o, i, 1, _, _, h) => okw h (.fieldLink (Rc o) i "java/lang/String" "coder" "B")
  | (o, i, 2, w, _, h) => okw h (.fieldLink (Rc o) i (stn w).1 (stn w).2.1 (stn w).2.2) && decide (w = 1 ∨ w = 1001 ∨ w = 1002 ∨ w = 1003 ∨ w = 2000)
  | _ => false
set_option maxRecDepth 100000 in
theorem flt_ok : flt.all okF = true := by decide +kernel
/-- a method's own facts -/
def okM (e : MethodName × ByteArray × Nat × Option FieldType × Nat × Nat) : Bool := decide (e.1.cls = Rc e.2.2.2.2.1) && plainFor e.1 && decide (e.1.cls ≠ "java/lang/invoke/MethodHandle") && decide (e.1.cls ≠ "java/lang/invoke/VarHandle") && decide (e.2.2.1 ≤ 12)
set_option maxRecDepth 100000 in
theorem mtl_ok : mtl.all okM = true := by decide +kernel
/-- the code words, by their places -/
def cdl : List Nat := [103, 546, 96, 550, 124, 554, 110, 557, 178, 319, 767, 337, 579, 89, 567, 236, 383, 387, 396, 404, 416, 481, 496, 409, 412, 488, 420, 425, 163, 360, 596, 636, 365, 315, 510, 527, 667, 587, 796, 117, 562, 131, 311, 501, 523, 539, 519, 611, 628, 707, 711, 716, 137, 200, 505, 352, 348, 531, 571, 679, 620, 663, 687, 80, 307, 323, 344, 356, 370, 374, 379, 392, 400, 515, 575, 583, 592, 603, 616, 624, 632, 640, 651, 655, 671, 675, 683, 691, 695, 699, 720, 734, 738, 749, 759, 763, 771, 775, 779, 787, 329, 326, 791, 333, 783, 607, 659, 703, 724, 729, 741, 745, 802, 892, 897, 974, 916, 1040, 806, 881, 928, 991, 888, 947, 983, 1020, 877, 901, 885, 905, 919, 910, 931, 923, 935, 943, 959, 963, 966, 955, 951, 1004, 939, 970, 978, 987, 1000, 996, 1008, 1016, 1029, 1012, 1024, 1036, 1033, 1044, 1052, 1048, 1056, 1061, 1070, 1066, 1074, 1078, 1090, 1086, 1082, 1099, 1094, 1103, 1112, 1107, 1116, 1126, 1131, 1142, 1147, 1139, 1157, 1153, 1169, 1165, 1173, 1177, 1181, 1161, 1135, 1185, 1189, 1193, 1197, 1210, 1206, 1202, 1220, 1214, 643, 566, 534, 429, 439, 433, 443, 449, 446, 467, 463, 457, 460, 203, 454, 0]
set_option maxRecDepth 100000 in
theorem cdl_ok_0 : ∀ m, 0 ≤ m → m < 30 → lw_tbl[cdl.getD m 0]? = some (.code (mna m) (mco m) (mml m) (mre m)) := fun m h1 h2 => by
  obtain ⟨j, rfl⟩ := Nat.exists_eq_add_of_le h1
  match j, h2 with
  | 0, _ => rfl
  | 1, _ => rfl
  | 2, _ => rfl
  | 3, _ => rfl
  | 4, _ => rfl
  | 5, _ => rfl
  | 6, _ => rfl
  | 7, _ => rfl
  | 8, _ => rfl
  | 9, _ => rfl
  | 10, _ => rfl
  | 11, _ => rfl
  | 12, _ => rfl
  | 13, _ => rfl
  | 14, _ => rfl
  | 15, _ => rfl
  | 16, _ => rfl
  | 17, _ => rfl
  | 18, _ => rfl
  | 19, _ => rfl
  | 20, _ => rfl
  | 21, _ => rfl
  | 22, _ => rfl
  | 23, _ => rfl
  | 24, _ => rfl
  | 25, _ => rfl
  | 26, _ => rfl
  | 27, _ => rfl
  | 28, _ => rfl
  | 29, _ => rfl
  | j + 30, h2 => omega
set_option maxRecDepth 100000 in
theorem cdl_ok_30 : ∀ m, 30 ≤ m → m < 60 → lw_tbl[cdl.getD m 0]? = some (.code (mna m) (mco m) (mml m) (mre m)) := fun m h1 h2 => by
  obtain ⟨j, rfl⟩ := Nat.exists_eq_add_of_le h1
  match j, h2 with
  | 0, _ => rfl
  | 1, _ => rfl
  | 2, _ => rfl
  | 3, _ => rfl
  | 4, _ => rfl
  | 5, _ => rfl
  | 6, _ => rfl
  | 7, _ => rfl
  | 8, _ => rfl
  | 9, _ => rfl
  | 10, _ => rfl
  | 11, _ => rfl
  | 12, _ => rfl
  | 13, _ => rfl
  | 14, _ => rfl
  | 15, _ => rfl
  | 16, _ => rfl
  | 17, _ => rfl
  | 18, _ => rfl
  | 19, _ => rfl
  | 20, _ => rfl
  | 21, _ => rfl
  | 22, _ => rfl
  | 23, _ => rfl
  | 24, _ => rfl
  | 25, _ => rfl
  | 26, _ => rfl
  | 27, _ => rfl
  | 28, _ => rfl
  | 29, _ => rfl
  | j + 30, h2 => omega
set_option maxRecDepth 100000 in
theorem cdl_ok_60 : ∀ m, 60 ≤ m → m < 90 → lw_tbl[cdl.getD m 0]? = some (.code (mna m) (mco m) (mml m) (mre m)) := fun m h1 h2 => by
  obtain ⟨j, rfl⟩ := Nat.exists_eq_add_of_le h1
  match j, h2 with
  | 0, _ => rfl
  | 1, _ => rfl
  | 2, _ => rfl
  | 3, _ => rfl
  | 4, _ => rfl
  | 5, _ => rfl
  | 6, _ => rfl
  | 7, _ => rfl
  | 8, _ => rfl
  | 9, _ => rfl
  | 10, _ => rfl
  | 11, _ => rfl
  | 12, _ => rfl
  | 13, _ => rfl
  | 14, _ => rfl
  | 15, _ => rfl
  | 16, _ => rfl
  | 17, _ => rfl
  | 18, _ => rfl
  | 19, _ => rfl
  | 20, _ => rfl
  | 21, _ => rfl
  | 22, _ => rfl
  | 23, _ => rfl
  | 24, _ => rfl
  | 25, _ => rfl
  | 26, _ => rfl
  | 27, _ => rfl
  | 28, _ => rfl
  | 29, _ => rfl
  | j + 30, h2 => omega
set_option maxRecDepth 100000 in
theorem cdl_ok_90 : ∀ m, 90 ≤ m → m < 120 → lw_tbl[cdl.getD m 0]? = some (.code (mna m) (mco m) (mml m) (mre m)) := fun m h1 h2 => by
  obtain ⟨j, rfl⟩ := Nat.exists_eq_add_of_le h1
  match j, h2 with
  | 0, _ => rfl
  | 1, _ => rfl
  | 2, _ => rfl
  | 3, _ => rfl
  | 4, _ => rfl
  | 5, _ => rfl
  | 6, _ => rfl
  | 7, _ => rfl
  | 8, _ => rfl
  | 9, _ => rfl
  | 10, _ => rfl
  | 11, _ => rfl
  | 12, _ => rfl
  | 13, _ => rfl
  | 14, _ => rfl
  | 15, _ => rfl
  | 16, _ => rfl
  | 17, _ => rfl
  | 18, _ => rfl
  | 19, _ => rfl
  | 20, _ => rfl
  | 21, _ => rfl
  | 22, _ => rfl
  | 23, _ => rfl
  | 24, _ => rfl
  | 25, _ => rfl
  | 26, _ => rfl
  | 27, _ => rfl
  | 28, _ => rfl
  | 29, _ => rfl
  | j + 30, h2 => omega
set_option maxRecDepth 100000 in
theorem cdl_ok_120 : ∀ m, 120 ≤ m → m < 150 → lw_tbl[cdl.getD m 0]? = some (.code (mna m) (mco m) (mml m) (mre m)) := fun m h1 h2 => by
  obtain ⟨j, rfl⟩ := Nat.exists_eq_add_of_le h1
  match j, h2 with
  | 0, _ => rfl
  | 1, _ => rfl
  | 2, _ => rfl
  | 3, _ => rfl
  | 4, _ => rfl
  | 5, _ => rfl
  | 6, _ => rfl
  | 7, _ => rfl
  | 8, _ => rfl
  | 9, _ => rfl
  | 10, _ => rfl
  | 11, _ => rfl
  | 12, _ => rfl
  | 13, _ => rfl
  | 14, _ => rfl
  | 15, _ => rfl
  | 16, _ => rfl
  | 17, _ => rfl
  | 18, _ => rfl
  | 19, _ => rfl
  | 20, _ => rfl
  | 21, _ => rfl
  | 22, _ => rfl
  | 23, _ => rfl
  | 24, _ => rfl
  | 25, _ => rfl
  | 26, _ => rfl
  | 27, _ => rfl
  | 28, _ => rfl
  | 29, _ => rfl
  | j + 30, h2 => omega
set_option maxRecDepth 100000 in
theorem cdl_ok_150 : ∀ m, 150 ≤ m → m < 180 → lw_tbl[cdl.getD m 0]? = some (.code (mna m) (mco m) (mml m) (mre m)) := fun m h1 h2 => by
  obtain ⟨j, rfl⟩ := Nat.exists_eq_add_of_le h1
  match j, h2 with
  | 0, _ => rfl
  | 1, _ => rfl
  | 2, _ => rfl
  | 3, _ => rfl
  | 4, _ => rfl
  | 5, _ => rfl
  | 6, _ => rfl
  | 7, _ => rfl
  | 8, _ => rfl
  | 9, _ => rfl
  | 10, _ => rfl
  | 11, _ => rfl
  | 12, _ => rfl
  | 13, _ => rfl
  | 14, _ => rfl
  | 15, _ => rfl
  | 16, _ => rfl
  | 17, _ => rfl
  | 18, _ => rfl
  | 19, _ => rfl
  | 20, _ => rfl
  | 21, _ => rfl
  | 22, _ => rfl
  | 23, _ => rfl
  | 24, _ => rfl
  | 25, _ => rfl
  | 26, _ => rfl
  | 27, _ => rfl
  | 28, _ => rfl
  | 29, _ => rfl
  | j + 30, h2 => omega
set_option maxRecDepth 100000 in
theorem cdl_ok_180 : ∀ m, 180 ≤ m → m < 210 → lw_tbl[cdl.getD m 0]? = some (.code (mna m) (mco m) (mml m) (mre m)) := fun m h1 h2 => by
  obtain ⟨j, rfl⟩ := Nat.exists_eq_add_of_le h1
  match j, h2 with
  | 0, _ => rfl
  | 1, _ => rfl
  | 2, _ => rfl
  | 3, _ => rfl
  | 4, _ => rfl
  | 5, _ => rfl
  | 6, _ => rfl
  | 7, _ => rfl
  | 8, _ => rfl
  | 9, _ => rfl
  | 10, _ => rfl
  | 11, _ => rfl
  | 12, _ => rfl
  | 13, _ => rfl
  | 14, _ => rfl
  | 15, _ => rfl
  | 16, _ => rfl
  | 17, _ => rfl
  | 18, _ => rfl
  | 19, _ => rfl
  | 20, _ => rfl
  | 21, _ => rfl
  | 22, _ => rfl
  | 23, _ => rfl
  | 24, _ => rfl
  | 25, _ => rfl
  | 26, _ => rfl
  | 27, _ => rfl
  | 28, _ => rfl
  | 29, _ => rfl
  | j + 30, h2 => omega
set_option maxRecDepth 100000 in
theorem cdl_ok_210 : ∀ m, 210 ≤ m → m < 211 → lw_tbl[cdl.getD m 0]? = some (.code (mna m) (mco m) (mml m) (mre m)) := fun m h1 h2 => by
  obtain ⟨j, rfl⟩ := Nat.exists_eq_add_of_le h1
  match j, h2 with
  | 0, _ => rfl
  | j + 1, h2 => omega
def okC (e : Nat × Nat × Nat × Nat × Nat × List Nat) : Bool := match e with
  | (o, i, 0, t, n, [a, b, c, d, _]) => okw a (.methodLink (Rc o) i (mna t)) && okw b (.instanceMethod (mna t)) && okw c (.selects (mna t).cls (mna t) (mna t)) && okw d (.initialized (mna t).cls) && decide (t < 211) && decide ((parseMethodDescriptor (mna t).desc).map (fun d => d.parameters.length) = some n)
  | (o, i, 1, t, n, [a, b, d, _]) => okw a (.methodLink (Rc o) i (mna t)) && okw b (.static (mna t)) && okw d (.initialized (mna t).cls) && decide (t < 211) && decide ((parseMethodDescriptor (mna t).desc).map (fun d => d.parameters.length) = some n)
  | (o, i, 2, t, n, [b, d, _]) => okw b (.static (mna t)) && okw d (.initialized (mna t).cls) && decide (t < 211) && decide ((parseMethodDescriptor (mna t).desc).map (fun d => d.parameters.length) = some n) && nsl.any (fun q => decide (q.1 = Rc o ∧ q.2.1 = i ∧ q.2.2.1 = t))
  | (o, i, 3, t, n, [a, b, d, _]) => okw a (.methodLink (Rc o) i (mna t)) && okw b (.instanceMethod (mna t)) && okw d (.initialized (mna t).cls) && decide (t < 211) && decide ((parseMethodDescriptor (mna t).desc).map (fun d => d.parameters.length) = some n) && decide ((mna t).name = "<init>") && decide (mre t = none)
  | (o, i, 4, t, n, [b, d, _]) => okw b (.instanceMethod (mna t)) && okw d (.initialized (mna t).cls) && decide (t < 211) && decide ((parseMethodDescriptor (mna t).desc).map (fun d => d.parameters.length) = some n) && nsl.any (fun q => decide (q.1 = Rc o ∧ q.2.1 = i ∧ q.2.2.1 = t)) && decide ((mna t).name = "<init>") && decide (mre t = none)
  | (o, i, 5, t, n, [a, b, c, d, g, _]) => okw a (.methodLink (Rc o) i (mna t)) && okw b (.sameMethod (mna t).cls (mna t).cls (mna t).name (mna t).desc) && okw c (.superclass (Rc o) (mna t).cls) && okw d (.instanceMethod (mna t)) && okw g (.initialized (mna t).cls) && decide (t < 211) && decide ((parseMethodDescriptor (mna t).desc).map (fun d => d.parameters.length) = some n) && decide ((mna t).name ≠ "<init>")
  | (o, i, 6, _, _, [a, b, f]) => okw a (.methodLink (Rc o) i Lib.objectInit) && okw b (.instanceMethod Lib.objectInit) && okw f (.code Lib.objectInit ⟨#[0xb1]⟩ 1 none)
  | (o, i, 7, t, n, [a, b, d, _]) => okw a (.methodLink (Rc o) i (mna t)) && okw b (.sameMethod (mna t).cls (mna t).cls (mna t).name (mna t).desc) && okw d (.instanceMethod (mna t)) && decide (mna t = yX5_pull) && decide (n = 4)
  | (o, i, 8, _, _, [a, b, c, d]) => okw a (.methodLink (Rc o) i arraycopyName) && okw b (.native arraycopyName) && okw c (.static arraycopyName) && okw d (.initialized "java/lang/System")
  | _ => false
set_option maxRecDepth 100000 in
theorem ctl_ok : ctl.all okC = true := by decide +kernel
def okP (e : Nat × Nat × List Nat) : Bool := match e with
  | (c, t, [a, b, d, _]) => okw a (.selects (Rc c) yX5_pull (mna t)) && okw b (.instanceMethod (mna t)) && okw d (.initialized (mna t).cls) && decide (t < 211) && decide (c < 13) && decide (mcl t = c)
  | _ => false
theorem plt_ok : plt.all okP = true := by decide +kernel
def okS (e : Nat × Nat × Nat × Int × Nat) : Bool := match e with
  | (o, i, 0, v, h) => okw h (.constant (Rc o) i (Int32.ofInt v))
  | (o, i, 1, v, h) => okw h (.constantLong (Rc o) i (Int64.ofInt v))
  | (o, i, 2, v, _) => decide (o = 6) && decide (1010 ≤ v) && decide (v < 1015) && decide ((sti.getD (v.toNat - 1010) (0, "")).1 = i)
  | _ => false
theorem csl_ok : csl.all okS = true := by decide +kernel
def okN (e : Nat × Nat × Nat × Nat × Nat × Nat) : Bool := match e with
  | (o, i, c, h, g, f) => okw h (.classLink (Rc o) i (Rc c)) && okw g (.instantiable (Rc c) (nf c)) && okw f (.initialized (Rc c)) && decide (c < 13)
theorem nwl_ok : nwl.all okN = true := by decide +kernel
/-- the classes' own facts -/
theorem lays_ok : (List.range 13).all (fun c => (u_ws (Rc c) (Tc c) (nf c)).all (fun w => decide (w ∈ lw_tbl) && goodWord w)) = true := by decide +kernel
theorem cls_ok : (List.range 13).all (fun c => decide (vwCl[c]?.map (fun q => (q.1, q.2.2)) = some (Rc c, nf c))) = true := by decide +kernel
theorem rft_ok : rft.all (fun r => r.all (fun x => decide (x < 100))) = true := by decide +kernel
