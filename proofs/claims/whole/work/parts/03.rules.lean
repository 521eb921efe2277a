/-! the small machine: addresses below 64 are special (old) things, others count the cells that the law has made since its entry -/
abbrev gE : Type := Nat × (Nat → Nat)
def gA (E : gE) (k : Nat) : Nat := if k < 64 then E.2 k else E.1 + (k - 64)
def gV (E : gE) (v : Value) : Value := match v with
  | .ref k => .ref (gA E k)
  | v => v
abbrev gC : Type := (Nat × vp_A) ⊕ (Nat × List Value)
abbrev gH : Type := List gC
def gCe (E : gE) (cA : Nat → ClassId) (x : gC) : va_E := match x with
  | .inl (t, n, .inr (.inr (.inr (.inr f)))) => .inl (cA t, n, .inr (.inr (.inr (.inr (fun j => (f j).map (gA E))))))
  | .inl (t, n, .inl f) => .inl (cA t, n, .inl f)
  | .inl (t, n, .inr (.inl f)) => .inl (cA t, n, .inr (.inl f))
  | .inl (t, n, .inr (.inr (.inl f))) => .inl (cA t, n, .inr (.inr (.inl f)))
  | .inl (t, n, .inr (.inr (.inr (.inl f)))) => .inl (cA t, n, .inr (.inr (.inr (.inl f))))
  | .inr (ci, fs) => .inr (ci, fs.map (gV E))
def gW (E : gE) (cA : Nat → ClassId) (h : gH) : va_W := h.mapIdx (fun i x => (E.1 + i, gCe E cA x))
def gat (h : gH) (a : Nat) : Option gC := if a < 64 then none else h[a - 64]?
def gput (h : gH) (a : Nat) (c : gC) : gH := if a < 64 then h else h.set (a - 64) c
theorem gat_ge {h : gH} {a : Nat} {x : gC} (hg : gat h a = some x) : ¬ a < 64 := by
  intro q
  simp [gat, q] at hg
theorem gat_in {h : gH} {a : Nat} {x : gC} (hg : gat h a = some x) : h[a - 64]? = some x := by
  have q := gat_ge hg
  simpa [gat, q] using hg
theorem gat_lt {h : gH} {a : Nat} {x : gC} (hg : gat h a = some x) : a - 64 < h.length := by
  have := gat_in hg
  exact (List.getElem?_eq_some_iff.mp this).1
theorem gat_put {h : gH} {a : Nat} {x c : gC} (hg : gat h a = some x) : gat (gput h a c) a = some c := by
  have q := gat_ge hg
  have l := gat_lt hg
  simp [gat, gput, q, l]
theorem gat_ne {h : gH} {a b : Nat} {c : gC} (n : a ≠ b) : gat (gput h a c) b = gat h b := by
  by_cases qa : a < 64
  · simp [gput, qa]
  · by_cases qb : b < 64
    · simp [gat, qb]
    · have : a - 64 ≠ b - 64 := by omega
      simp [gat, gput, qa, qb, List.getElem?_set_ne this]
theorem gput_len {h : gH} {a : Nat} {c : gC} : (gput h a c).length = h.length := by
  by_cases qa : a < 64 <;> simp [gput, qa]
theorem gput_put {h : gH} {a : Nat} {c d : gC} : gput (gput h a c) a d = gput h a d := by
  by_cases qa : a < 64 <;> simp [gput, qa]
theorem gW_get {E : gE} {cA : Nat → ClassId} {h : gH} {a : Nat} {x : gC} (hg : gat h a = some x) : (gW E cA h)[a - 64]? = some (gA E a, gCe E cA x) := by
  have q := gat_ge hg
  simp [gW, List.getElem?_mapIdx, gat_in hg, gA, q]
theorem gW_set {E : gE} {cA : Nat → ClassId} {h : gH} {a : Nat} {c : gC} (q : ¬ a < 64) : (gW E cA h).set (a - 64) (gA E a, gCe E cA c) = gW E cA (gput h a c) := by
  apply List.ext_getElem?
  intro i
  simp only [gW, gput, q, if_false, List.getElem?_set, List.getElem?_mapIdx, List.length_mapIdx, gA]
  by_cases hi : a - 64 = i
  · subst hi
    by_cases hl : a - 64 < h.length <;> simp [hl]
  · simp [hi]
theorem gW_push {E : gE} {cA : Nat → ClassId} {h : gH} {c : gC} : gW E cA h ++ [(E.1 + h.length, gCe E cA c)] = gW E cA (h ++ [c]) := by
  simp [gW, List.mapIdx_append]
theorem gW_D (E : gE) (cA : Nat → ClassId) (h : gH) : va_D (fun q => E.1 ≤ q) (gW E cA h) := by
  refine ⟨fun i j p q hp hq e => ?_, fun k q hq => ?_⟩
  · simp only [gW, List.getElem?_mapIdx, Option.map_eq_some_iff] at hp hq
    obtain ⟨x, -, rfl⟩ := hp
    obtain ⟨y, -, rfl⟩ := hq
    simp only at e
    omega
  · simp only [gW, List.getElem?_mapIdx, Option.map_eq_some_iff] at hq
    obtain ⟨x, -, rfl⟩ := hq
    exact Nat.le_add_right _ _
/-! the words that every method has -/
def gT : List Cond := lw_tbl.filter goodWord
abbrev gM : Type := String × MethodName × ByteArray × Nat × Option FieldType
abbrev gWs (M : gM) : List Cond := Cond.code M.2.1 M.2.2.1 M.2.2.2.1 M.2.2.2.2 :: gT
theorem gT_of {w : Cond} (hw : w ∈ lw_tbl) (hg : goodWord w = true) : w ∈ gT := List.mem_filter.mpr ⟨hw, hg⟩
theorem gT_ok {w : Cond} (hw : w ∈ gT) : (w.onTables && w.keeps) = true ∨ ∃ ty, w = .arrayClass ty := good_of_word (List.mem_filter.mp hw).2
theorem gGood {M M2 : gM} (hc : Cond.code M2.2.1 M2.2.2.1 M2.2.2.2.1 M2.2.2.2.2 ∈ gT) : GoodIn (gWs M) (gWs M2) := by
  intro w hw
  have hm : w ∈ gT := by
    rcases List.mem_cons.mp hw with rfl | h
    · exact hc
    · exact h
  exact ⟨List.mem_cons_of_mem _ hm, gT_ok hm⟩
theorem gGood1 {M : gM} {w : Cond} (hm : w ∈ gT) : w ∈ gWs M ∧ ((w.onTables && w.keeps) = true ∨ ∃ ty, w = .arrayClass ty) := ⟨List.mem_cons_of_mem _ hm, gT_ok hm⟩
theorem gt_s {w : Cond} (hw : w ∈ k2_sels lw_privs) (hg : goodWord w = true) : w ∈ gT := gT_of (List.mem_append_left _ hw) hg
theorem gt_1 {w : Cond} (hw : w ∈ tables_1_1) (hg : goodWord w = true) : w ∈ gT := gT_of (List.mem_append_right _ (List.mem_append_left _ hw)) hg
theorem gt_2 {w : Cond} (hw : w ∈ tables_1_2) (hg : goodWord w = true) : w ∈ gT := gT_of (List.mem_append_right _ (List.mem_append_right _ (List.mem_append_left _ hw))) hg
theorem gt_3 {w : Cond} (hw : w ∈ tables_1_3) (hg : goodWord w = true) : w ∈ gT := gT_of (List.mem_append_right _ (List.mem_append_right _ (List.mem_append_right _ (List.mem_append_left _ hw)))) hg
theorem gt_4 {w : Cond} (hw : w ∈ tables_1_4) (hg : goodWord w = true) : w ∈ gT := gT_of (List.mem_append_right _ (List.mem_append_right _ (List.mem_append_right _ (List.mem_append_right _ (List.mem_append_left _ hw))))) hg
theorem gt_5 {w : Cond} (hw : w ∈ tables_1_5) (hg : goodWord w = true) : w ∈ gT := gT_of (List.mem_append_right _ (List.mem_append_right _ (List.mem_append_right _ (List.mem_append_right _ (List.mem_append_right _ (List.mem_append_left _ hw)))))) hg
theorem gt_6 {w : Cond} (hw : w ∈ tables_1_6) (hg : goodWord w = true) : w ∈ gT := gT_of (List.mem_append_right _ (List.mem_append_right _ (List.mem_append_right _ (List.mem_append_right _ (List.mem_append_right _ (List.mem_append_right _ hw)))))) hg
abbrev gTys (cA : Nat → ClassId) : List (ClassId × FieldType) := [(cA 0, .int), (cA 1, .long), (cA 2, .boolean), (cA 3, .object "HillRider$Way")]
/-! what is old and stays: String constants, and which class is under which -/
def gLen : List Nat := [5, 3, 5, 4, 4, 3, 5, 4, 4, 6, 4, 2, 3, 5, 6, 5]
def gTxt : List String := ["keswr", "<=>", "piece", "bend", "ease", "bar", "store", "back", "heat", "piece ", "end ", "r ", "ck ", "ease ", "store ", "heat "]
def gByt : List (List Int32) := [[107, 101, 115, 119, 114], [60, 61, 62], [112, 105, 101, 99, 101], [98, 101, 110, 100], [101, 97, 115, 101], [98, 97, 114], [115, 116, 111, 114, 101], [98, 97, 99, 107], [104, 101, 97, 116], [112, 105, 101, 99, 101, 32], [101, 110, 100, 32], [114, 32], [99, 107, 32], [101, 97, 115, 101, 32], [115, 116, 111, 114, 101, 32], [104, 101, 97, 116, 32]]
def gLit : List (String × Nat × Nat) := [("HillRider$Reader", 148, 0), ("HillRider$Reader", 154, 1), ("HillRider$Reader", 69, 2), ("HillRider$Reader", 71, 3), ("HillRider$Reader", 73, 4), ("HillRider$Reader", 75, 5), ("HillRider$Reader", 77, 6), ("HillRider$Reader", 79, 7), ("HillRider$Reader", 81, 8), ("HillRiderModel", 102, 0), ("HillRiderModel", 108, 1), ("HillRiderModel", 116, 9), ("HillRiderModel", 126, 10), ("HillRiderModel", 128, 11), ("HillRiderModel", 134, 12), ("HillRiderModel", 142, 13), ("HillRiderModel", 144, 14), ("HillRiderModel", 146, 15)]
/-- classes that aren't under one another -/
def gNot : List (String × String) := [("HillRider$Way", "HillRider$Even"), ("HillRider$Way", "HillRider$Sloped"), ("HillRider$Way", "HillRider$Best"), ("HillRider$Way", "HillRider$Feel"), ("HillRider$Way", "HillRider$Told"), ("HillRider$Way", "HillRider$Follow"),
  ("HillRider$Even", "HillRider$Sloped"), ("HillRider$Even", "HillRider$Best"), ("HillRider$Even", "HillRider$Feel"), ("HillRider$Even", "HillRider$Told"), ("HillRider$Even", "HillRider$Follow"),
  ("HillRider$Sloped", "HillRider$Even"), ("HillRider$Sloped", "HillRider$Best"), ("HillRider$Sloped", "HillRider$Feel"), ("HillRider$Sloped", "HillRider$Told"), ("HillRider$Sloped", "HillRider$Follow"),
  ("HillRider$Best", "HillRider$Sloped"), ("HillRider$Best", "HillRider$Feel"), ("HillRider$Best", "HillRider$Told"), ("HillRider$Best", "HillRider$Follow"),
  ("HillRider$Feel", "HillRider$Sloped"), ("HillRider$Feel", "HillRider$Best"), ("HillRider$Feel", "HillRider$Told"), ("HillRider$Feel", "HillRider$Follow"),
  ("HillRider$Told", "HillRider$Even"), ("HillRider$Told", "HillRider$Best"), ("HillRider$Told", "HillRider$Feel"), ("HillRider$Told", "HillRider$Follow"),
  ("HillRider$Follow", "HillRider$Even"), ("HillRider$Follow", "HillRider$Sloped"), ("HillRider$Follow", "HillRider$Best"), ("HillRider$Follow", "HillRider$Feel"), ("HillRider$Follow", "HillRider$Told")]
def gYes : List (String × String) := [("HillRider$Best", "HillRider$Even"), ("HillRider$Feel", "HillRider$Even"), ("HillRider$Told", "HillRider$Sloped"), ("HillRider$Best", "HillRider$Way"), ("HillRider$Feel", "HillRider$Way"), ("HillRider$Told", "HillRider$Way"), ("HillRider$Even", "HillRider$Way"), ("HillRider$Sloped", "HillRider$Way"), ("HillRider$Follow", "HillRider$Way"), ("HillRider$Way", "HillRider$Way")]
/-- private members of nest mates that are called -/
def gNest : List (String × Nat × MethodName × String) := [("HillRider", 11, ⟨"HillRider$Scene", "<init>", "()V"⟩, "HillRider"), ("HillRider", 23, ⟨"HillRider$Reader", "<init>", "()V"⟩, "HillRider"), ("HillRider", 30, ⟨"HillRider$Plan", "<init>", "()V"⟩, "HillRider"),
  ("HillRider$Reader", 22, ⟨"HillRider", "copyRow", "([I[I)V"⟩, "HillRider"), ("HillRider$Reader", 42, ⟨"HillRider$Road", "reset", "()V"⟩, "HillRider"), ("HillRider$Road", 64, ⟨"HillRider", "copyRow", "([I[I)V"⟩, "HillRider"), ("HillRider$Scene", 37, ⟨"HillRider", "copyRow", "([I[I)V"⟩, "HillRider")]
def gYc (C T : String) (U : State) : Prop := ∃ c t : ClassId, U.vm.findClass C = some c ∧ U.vm.findClass T = some t ∧ U.vm.assignable c t = true
theorem gYc.moved {C T : String} {u U : State} (hvm : u.vm.Alike U.vm) (h : gYc C T u) : gYc C T U := by
  obtain ⟨c, t, h1, h2, h3⟩ := h
  exact ⟨c, t, by rw [hvm.findClass]; exact h1, by rw [hvm.findClass]; exact h2, by rw [hvm.assignable]; exact h3⟩
theorem gYc.cast {C T : String} {U : State} (h : gYc C T U) : va_Nw (.castable C T) U := by
  obtain ⟨c, t, h1, h2, h3⟩ := h
  simp [va_Nw, Cond.before, Cond.holds, Cond.value, h1, h2, h3]
theorem gYc.of {args : Array Value} {U : State} {C T : String} (h : (Cond.castable C T).before args U = true) : gYc C T U := by
  simp only [Cond.before, Cond.holds, Cond.value] at h
  cases h1 : U.vm.findClass C with
  | none => simp [h1] at h
  | some c =>
    cases h2 : U.vm.findClass T with
    | none => simp [h1, h2] at h
    | some t =>
      simp [h1, h2] at h
      exact ⟨c, t, h1, h2, h⟩
def gOldV (E : gE) (U : State) : Prop := (∀ q ∈ gLit, vk_R q.1 q.2.1 (gTxt.getD q.2.2 "") (E.2 (1 + q.2.2)) U) ∧ (∀ q ∈ gNot, va_Nc q.1 q.2 U) ∧ (∀ q ∈ gYes, gYc q.1 q.2 U) ∧ va_AO "HillRider$Way" U ∧ ∀ q ∈ gNest, va_Nw (.methodLinkNest q.1 q.2.1 q.2.2.1 q.2.2.2) U
def gOldH (E : gE) (U : State) (H : Heap) : Prop := vk_S 16 gLen gByt (fun i => E.2 (1 + i)) (fun i => E.2 (33 + i)) (fun q => E.1 ≤ q) U H ∧ va_Z "java/lang/String" "COMPACT_STRINGS" "Z" (.int 1) (fun q => E.1 ≤ q) U H ∧
  (va_Z "jdk/internal/util/Preconditions" "SIOOBE_FORMATTER" "Ljava/util/function/BiFunction;" .null (fun q => E.1 ≤ q) U H ∨ va_Z "jdk/internal/util/Preconditions" "SIOOBE_FORMATTER" "Ljava/util/function/BiFunction;" (.ref (E.2 63)) (fun q => E.1 ≤ q) U H)
theorem gOldV.same {E : gE} {u U : State} (h : u.vm = U.vm) (k : gOldV E u) : gOldV E U :=
  ⟨fun q hq => (k.1 q hq).same h.symm, fun q hq => by have := k.2.1 q hq; unfold va_Nc at this ⊢; rw [← h]; exact this, fun q hq => by have := k.2.2.1 q hq; unfold gYc at this ⊢; rw [← h]; exact this, k.2.2.2.1.moved (by rw [h]; exact Vm.Alike.refl _), fun q hq => va_tabs rfl h (k.2.2.2.2 q hq)⟩
theorem gOldV.warm {E : gE} {s U : State} (hW : s.WarmedH U.vm) (k : gOldV E s) : gOldV E U :=
  ⟨fun q hq => (k.1 q hq).warm hW, fun q hq => (k.2.1 q hq).moved hW.alike, fun q hq => (k.2.2.1 q hq).moved hW.alike, k.2.2.2.1.moved hW.alike, fun q hq => va_Nw.warmM hW (k.2.2.2.2 q hq)⟩
theorem gOldH.moved {E : gE} {u U : State} {H : Heap} (hvm : u.vm.Alike U.vm) (k : gOldH E u H) : gOldH E U H := ⟨k.1.moved hvm, k.2.1.moved hvm, k.2.2.imp (fun z => z.moved hvm) (fun z => z.moved hvm)⟩
theorem gOldH.kept {E : gE} {U : State} {H H1 : Heap} (k : gOldH E U H) (hq : ∀ a : Nat, a < H.size → ¬ E.1 ≤ a → H1[a]? = H[a]?) : gOldH E U H1 := ⟨k.1.kept hq, k.2.1.kept hq, k.2.2.imp (fun z => z.kept hq) (fun z => z.kept hq)⟩
def gRm (d mc ms : Nat) : Room := { frames := d, cells := mc, slots := ms, locals := 64 * d }
/-- a heap that the small one tells -/
def gIs (E : gE) (D : va_G) (cA : Nat → ClassId) (h : gH) (H : Heap) : Prop := H.size = E.1 + h.length ∧ va_P D vwCl (gW E cA h) H
def gIn (E : gE) (D : va_G) (cA : Nat → ClassId) (h : gH) (U : State) : Prop := gIs E D cA h U.heap ∧ va_K D vwCl (gTys cA) U ∧ gOldV E U ∧ gOldH E U U.heap
def gPc (E : gE) (D : va_G) (cA : Nat → ClassId) (args : List Value) (h : gH) : Array Value → State → Prop := va_Pc (args.map (gV E)) (gIn E D cA h)
def gQc (E : gE) (D : va_G) (cA : Nat → ClassId) (Q : Option Value → gH → Prop) : Array Value → State → Outcome → State → Prop := fun _ st oc t =>
  (∃ (r : Option Value) (h' : gH), oc = .returned (r.map (gV E)) ∧ Q r h' ∧ gIs E D cA h' t.heap) ∧ va_F (fun q => E.1 ≤ q) st t
/-- a method's contract over the small machine, d levels deep, with room for mc cells of ms slots -/
def T (M : gM) (d mc ms : Nat) (args : List Value) (h : gH) (Q : Option Value → gH → Prop) : Prop :=
  ∀ (l : Launch) (E : gE) (D : va_G) (cA : Nat → ClassId), Met l M.2.1 (gWs M) (gRm d mc ms) (gPc E D cA args h) (gQc E D cA Q) mc ms (fun q => E.1 ≤ q)
def gCx (l : Launch) (E : gE) (D : va_G) (cA : Nat → ClassId) (M : gM) (p : Program) (s : State) (m : MethodId) (args : Array Value) (meth : Method) (c : Code) : Prop :=
  p.tables.exec = Jvm.exec ∧ c.code = M.2.2.1 ∧ meth.sig.returnType = M.2.2.2.2 ∧ c.maxLocals = M.2.2.2.1 ∧ s.vm.findClass M.1 = some m.cls ∧ (∀ w ∈ gWs M, w.before args s = true) ∧ meth.locks = false ∧ va_K D vwCl (gTys cA) s ∧ gOldV E s ∧ gOldH E s s.heap ∧ E.1 ≤ s.heap.size ∧ meth.name = M.2.1.name
def gLv (E : gE) (ls : Array Slot) (n : Nat) (lv : List (Option Value)) : Prop := ls.size = n ∧ lv_wf ls ∧ ∀ (i : Nat) (v : Value), lv[i]? = some (some v) → ls[i]? = some (.val (gV E v))
/-- what is still to be run: from pc with these locals and this stack the method comes to its end with Q; k cells of n slots are made so far -/
def G (M : gM) (d mc ms k n : Nat) (pc : Nat) (lv : List (Option Value)) (st : List Value) (h : gH) (Q : Option Value → gH → Prop) : Prop :=
  ∀ (l : Launch) (E : gE) (D : va_G) (cA : Nat → ClassId) (p : Program) (e : Env) (s : State) (m : MethodId) (args : Array Value) (below : List Frame) (meth : Method) (c : Code), gCx l E D cA M p s m args meth c →
    ∀ (H : Heap) (locs : List Loc) (ls : Array Slot), gIs E D cA h H → va_S (fun q => E.1 ≤ q) s.heap H locs → gLv E ls M.2.2.2.1 lv →
      W p l e (gRm d mc ms) s m args below meth c H locs k n (MQ below (gQc E D cA Q) args s mc ms (fun q => E.1 ≤ q)) (F0 m pc ls (st.map (gV E)))
def gArgs : List Value → List (Option Value)
  | [] => []
  | v :: r => if v.category = 2 then some v :: none :: gArgs r else some v :: gArgs r
theorem gV_cat (E : gE) (v : Value) : (gV E v).category = v.category := by cases v <;> rfl
theorem gSl_len (E : gE) : ∀ vs : List Value, (lg_sl (vs.map (gV E))).length = (gArgs vs).length := by
  intro vs
  induction vs with
  | nil => rfl
  | cons v r ih =>
    have e : lg_sl (gV E v :: List.map (gV E) r) = (if (gV E v).category = 2 then [.val (gV E v), .second] else [.val (gV E v)]) ++ lg_sl (List.map (gV E) r) := by simp [lg_sl]
    rw [List.map_cons, e, List.length_append, ih, gV_cat, gArgs]
    by_cases hc : v.category = 2
    · simp [hc]; omega
    · simp [hc]; omega
theorem gArgs_in (E : gE) : ∀ (vs : List Value) (o i : Nat) (v : Value), (gArgs vs)[i]? = some (some v) → (o + i, gV E v) ∈ lv_args o (vs.map (gV E)) := by
  intro vs
  induction vs with
  | nil => intro o i v h; simp [gArgs] at h
  | cons w r ih =>
    intro o i v h
    by_cases hc : w.category = 2
    · simp only [gArgs, hc, if_true] at h
      match i, h with
      | 0, h =>
        simp at h
        subst h
        simp [lv_args]
      | 1, h => simp at h
      | i + 2, h =>
        have h' : (gArgs r)[i]? = some (some v) := by simpa using h
        have := ih (o + 2) i v h'
        simp only [List.map_cons, lv_args, gV_cat, hc]
        refine List.mem_cons_of_mem _ ?_
        have e : o + (i + 2) = o + 2 + i := by omega
        rw [e]
        simpa using this
    · simp only [gArgs, hc, if_false] at h
      have hc1 : w.category = 1 := (lv_cat w).resolve_right hc
      match i, h with
      | 0, h =>
        simp at h
        subst h
        simp [lv_args]
      | i + 1, h =>
        have h' : (gArgs r)[i]? = some (some v) := by simpa using h
        have := ih (o + 1) i v h'
        simp only [List.map_cons, lv_args, gV_cat, hc1]
        refine List.mem_cons_of_mem _ ?_
        have e : o + (i + 1) = o + 1 + i := by omega
        rw [e]
        simpa using this
section GR
variable {M : gM} {d mc ms kc kn pc : Nat} {lv : List (Option Value)} {st : List Value} {h : gH} {Q : Option Value → gH → Prop}
theorem T_of_G {args : List Value} {L : Nat} (hy : plainName M.2.1.cls = true) (hown : M.1 = M.2.1.cls) (hL : (gArgs args).length ≤ M.2.2.2.1) (hg : G M d mc ms 0 0 0 (gArgs args ++ List.replicate L none) [] h Q) : T M d mc ms args h Q := by
  intro l E D cA
  refine Met.ofW (cc := M.2.2.1) (maxL := M.2.2.2.1) (ret := M.2.2.2.2) hy rfl ?_
  intro p e s m a below meth c s₁ B hml hv
  obtain ⟨rfl, hI, hK, hO, hOH⟩ := hv
  rw [lg_entry_eq]
  have hx := lv_entry (args.map (gV E)) (n := M.2.2.2.1) (by rw [gSl_len]; exact hL)
  have hsz : E.1 ≤ s.heap.size := by rw [hI.1]; exact Nat.le_add_right _ _
  refine hg l E D cA p e s m _ below meth c ⟨B.exec, B.bytes, B.returns, hml, by rw [hown]; exact findClass_of_methodNamed B.named, atoms_spec (ws := gWs M) B.pre, B.notSynchronized, hK, hO, hOH, hsz, (name_of_methodNamed B.named B.method).1⟩ s.heap [] _ hI va_S.rf ⟨hx.1, hx.2.1, fun i v hiv => ?_⟩
  have h1 : (gArgs args)[i]? = some (some v) := by
    rcases Nat.lt_or_ge i (gArgs args).length with q | q
    · rwa [List.getElem?_append_left q] at hiv
    · rw [List.getElem?_append_right q, List.getElem?_replicate] at hiv
      by_cases z : i - (gArgs args).length < L <;> simp [z] at hiv
  have h2 := gArgs_in E args 0 i v h1
  rw [Nat.zero_add] at h2
  exact hx.2.2 _ h2
def gEnum (E : gE) (lv : List (Option Value)) : List (Nat × Value) := (List.range lv.length).filterMap (fun i => match lv[i]? with
  | some (some v) => some (i, gV E v)
  | _ => none)
theorem gEnum_mem {E : gE} {lv : List (Option Value)} {i : Nat} {w : Value} : (i, w) ∈ gEnum E lv ↔ ∃ v, lv[i]? = some (some v) ∧ w = gV E v := by
  constructor
  · intro hm
    obtain ⟨j, -, hj⟩ := List.mem_filterMap.mp hm
    split at hj
    · rename_i v hv
      cases hj
      exact ⟨v, hv, rfl⟩
    · cases hj
  · rintro ⟨v, hv, rfl⟩
    refine List.mem_filterMap.mpr ⟨i, List.mem_range.mpr (List.getElem?_eq_some_iff.mp hv).1, ?_⟩
    rw [hv]
theorem gLv.has {E : gE} {ls : Array Slot} {n : Nat} {lv : List (Option Value)} (hl : gLv E ls n lv) : lv_has ls n (gEnum E lv) :=
  ⟨hl.1, hl.2.1, fun q hq => by
    obtain ⟨i, w⟩ := q
    obtain ⟨v, hv, rfl⟩ := gEnum_mem.mp hq
    exact hl.2.2 i v hv⟩
def gKill (lv : List (Option Value)) (i : Nat) : List (Option Value) := match i with
  | 0 => lv
  | j + 1 => match lv[j]? with
    | some (some v) => if v.category = 2 then lv.set j none else lv
    | _ => lv
def gSet1 (lv : List (Option Value)) (i : Nat) (v : Value) : List (Option Value) := (gKill lv i).set i (some v)
def gSet2 (lv : List (Option Value)) (i : Nat) (v : Value) : List (Option Value) := ((gKill lv i).set i (some v)).set (i + 1) none
theorem gKill_get {lv : List (Option Value)} {i j : Nat} {v : Value} (hv : (gKill lv i)[j]? = some (some v)) : lv[j]? = some (some v) ∧ ¬ (j + 1 = i ∧ v.category = 2) := by
  match i, hv with
  | 0, hv => exact ⟨hv, fun q => by omega⟩
  | i + 1, hv =>
    simp only [gKill] at hv
    split at hv
    · rename_i w hw
      split at hv
      · rename_i hc
        by_cases hj : j = i
        · subst hj
          simp [List.getElem?_set] at hv
        · rw [List.getElem?_set_ne (Ne.symm hj)] at hv
          exact ⟨hv, fun q => hj (by omega)⟩
      · rename_i hc
        refine ⟨hv, fun q => ?_⟩
        have hj : j = i := by omega
        subst hj
        rw [hv] at hw
        cases hw
        exact hc q.2
    · rename_i hn
      refine ⟨hv, fun q => ?_⟩
      have hj : j = i := by omega
      subst hj
      exact hn v hv
theorem gLv.set1 {E : gE} {ls : Array Slot} {n i : Nat} {lv : List (Option Value)} {v : Value} (hl : lv_has ls n ((i, gV E v) :: (gEnum E lv).filter (fun q => !(q.1 == i) && !(q.1 + 1 == i && q.2.category == 2)))) : gLv E ls n (gSet1 lv i v) := by
  refine ⟨hl.1, hl.2.1, fun j w hw => ?_⟩
  refine hl.2.2 (j, gV E w) ?_
  by_cases hj : j = i
  · subst hj
    simp only [gSet1, List.getElem?_set, if_true] at hw
    split at hw
    · cases hw
      exact List.mem_cons_self
    · cases hw
  · rw [gSet1, List.getElem?_set_ne (Ne.symm hj)] at hw
    obtain ⟨h1, h2⟩ := gKill_get hw
    refine List.mem_cons_of_mem _ (List.mem_filter.mpr ⟨gEnum_mem.mpr ⟨w, h1, rfl⟩, ?_⟩)
    rw [gV_cat]
    by_cases h3 : j + 1 = i
    · have h4 : ¬ w.category = 2 := fun q => h2 ⟨h3, q⟩
      simp [hj, h4]
    · simp [hj, h3]
theorem gLv.set2 {E : gE} {ls : Array Slot} {n i : Nat} {lv : List (Option Value)} {v : Value} (hl : lv_has ls n ((i, gV E v) :: (gEnum E lv).filter (fun q => !(q.1 == i) && (!(q.1 == i + 1) && !(q.1 + 1 == i && q.2.category == 2))))) : gLv E ls n (gSet2 lv i v) := by
  refine ⟨hl.1, hl.2.1, fun j w hw => ?_⟩
  refine hl.2.2 (j, gV E w) ?_
  by_cases hj1 : j = i + 1
  · subst hj1
    simp only [gSet2, List.getElem?_set, if_true] at hw
    split at hw <;> cases hw
  · rw [gSet2, List.getElem?_set_ne (Ne.symm hj1)] at hw
    by_cases hj : j = i
    · subst hj
      simp only [List.getElem?_set, if_true] at hw
      split at hw
      · cases hw
        exact List.mem_cons_self
      · cases hw
    · rw [List.getElem?_set_ne (Ne.symm hj)] at hw
      obtain ⟨h1, h2⟩ := gKill_get hw
      refine List.mem_cons_of_mem _ (List.mem_filter.mpr ⟨gEnum_mem.mpr ⟨w, h1, rfl⟩, ?_⟩)
      rw [gV_cat]
      by_cases h3 : j + 1 = i
      · have h4 : ¬ w.category = 2 := fun q => h2 ⟨h3, q⟩
        simp [hj, hj1, h4]
      · simp [hj, hj1, h3]
theorem g_iconst {n : Int} {v : Int32} (hdg : decode M.2.2.1 pc = .ok (.iconst n, 1)) (hv : Int32.ofInt n = v) (kk : G M d mc ms kc kn (pc + 1) lv (.int v :: st) h Q) : G M d mc ms kc kn pc lv (st) h Q := by
  intro l E D cA p e s m args below meth c X H locs ls hI hS hl
  exact lv_iconst X.1 X.2.1 hdg hv (kk l E D cA p e s m args below meth c X H locs ls hI hS hl)
theorem g_bipush {n : Int} {v : Int32} (hdg : decode M.2.2.1 pc = .ok (.bipush n, 2)) (hv : (Int8.ofInt n).toInt32 = v) (kk : G M d mc ms kc kn (pc + 2) lv (.int v :: st) h Q) : G M d mc ms kc kn pc lv (st) h Q := by
  intro l E D cA p e s m args below meth c X H locs ls hI hS hl
  exact lv_bipush X.1 X.2.1 hdg hv (kk l E D cA p e s m args below meth c X H locs ls hI hS hl)
theorem g_sipush {n : Int} {v : Int32} (hdg : decode M.2.2.1 pc = .ok (.sipush n, 3)) (hv : (Int16.ofInt n).toInt32 = v) (kk : G M d mc ms kc kn (pc + 3) lv (.int v :: st) h Q) : G M d mc ms kc kn pc lv (st) h Q := by
  intro l E D cA p e s m args below meth c X H locs ls hI hS hl
  exact lv_sipush X.1 X.2.1 hdg hv (kk l E D cA p e s m args below meth c X H locs ls hI hS hl)
theorem g_lconst {n : Fin 2} {v : Int64} (hdg : decode M.2.2.1 pc = .ok (.lconst n, 1)) (hv : Int64.ofNat (n : Nat) = v) (kk : G M d mc ms kc kn (pc + 1) lv (.long v :: st) h Q) : G M d mc ms kc kn pc lv (st) h Q := by
  intro l E D cA p e s m args below meth c X H locs ls hI hS hl
  exact lv_lconst X.1 X.2.1 hdg hv (kk l E D cA p e s m args below meth c X H locs ls hI hS hl)
theorem g_iadd {x y : Int32} (hdg : decode M.2.2.1 pc = .ok (.iadd, 1)) (kk : G M d mc ms kc kn (pc + 1) lv (.int (x + y) :: st) h Q) : G M d mc ms kc kn pc lv (.int y :: .int x :: st) h Q := by
  intro l E D cA p e s m args below meth c X H locs ls hI hS hl
  exact lv_iadd X.1 X.2.1 hdg (kk l E D cA p e s m args below meth c X H locs ls hI hS hl)
theorem g_isub {x y : Int32} (hdg : decode M.2.2.1 pc = .ok (.isub, 1)) (kk : G M d mc ms kc kn (pc + 1) lv (.int (x - y) :: st) h Q) : G M d mc ms kc kn pc lv (.int y :: .int x :: st) h Q := by
  intro l E D cA p e s m args below meth c X H locs ls hI hS hl
  exact lv_isub X.1 X.2.1 hdg (kk l E D cA p e s m args below meth c X H locs ls hI hS hl)
theorem g_imul {x y : Int32} (hdg : decode M.2.2.1 pc = .ok (.imul, 1)) (kk : G M d mc ms kc kn (pc + 1) lv (.int (x * y) :: st) h Q) : G M d mc ms kc kn pc lv (.int y :: .int x :: st) h Q := by
  intro l E D cA p e s m args below meth c X H locs ls hI hS hl
  exact lv_imul X.1 X.2.1 hdg (kk l E D cA p e s m args below meth c X H locs ls hI hS hl)
theorem g_iand {x y : Int32} (hdg : decode M.2.2.1 pc = .ok (.iand, 1)) (kk : G M d mc ms kc kn (pc + 1) lv (.int (x &&& y) :: st) h Q) : G M d mc ms kc kn pc lv (.int y :: .int x :: st) h Q := by
  intro l E D cA p e s m args below meth c X H locs ls hI hS hl
  exact lv_iand X.1 X.2.1 hdg (kk l E D cA p e s m args below meth c X H locs ls hI hS hl)
theorem g_ior {x y : Int32} (hdg : decode M.2.2.1 pc = .ok (.ior, 1)) (kk : G M d mc ms kc kn (pc + 1) lv (.int (x ||| y) :: st) h Q) : G M d mc ms kc kn pc lv (.int y :: .int x :: st) h Q := by
  intro l E D cA p e s m args below meth c X H locs ls hI hS hl
  exact lv_ior X.1 X.2.1 hdg (kk l E D cA p e s m args below meth c X H locs ls hI hS hl)
theorem g_ixor {x y : Int32} (hdg : decode M.2.2.1 pc = .ok (.ixor, 1)) (kk : G M d mc ms kc kn (pc + 1) lv (.int (x ^^^ y) :: st) h Q) : G M d mc ms kc kn pc lv (.int y :: .int x :: st) h Q := by
  intro l E D cA p e s m args below meth c X H locs ls hI hS hl
  exact lv_ixor X.1 X.2.1 hdg (kk l E D cA p e s m args below meth c X H locs ls hI hS hl)
theorem g_idiv {x y : Int32} (hdg : decode M.2.2.1 pc = .ok (.idiv, 1)) (hne : ¬ y = 0) (kk : G M d mc ms kc kn (pc + 1) lv (.int (x / y) :: st) h Q) : G M d mc ms kc kn pc lv (.int y :: .int x :: st) h Q := by
  intro l E D cA p e s m args below meth c X H locs ls hI hS hl
  exact lv_idiv X.1 X.2.1 hdg hne (kk l E D cA p e s m args below meth c X H locs ls hI hS hl)
theorem g_irem {x y : Int32} (hdg : decode M.2.2.1 pc = .ok (.irem, 1)) (hne : ¬ y = 0) (kk : G M d mc ms kc kn (pc + 1) lv (.int (x - x / y * y) :: st) h Q) : G M d mc ms kc kn pc lv (.int y :: .int x :: st) h Q := by
  intro l E D cA p e s m args below meth c X H locs ls hI hS hl
  exact lv_irem X.1 X.2.1 hdg hne (kk l E D cA p e s m args below meth c X H locs ls hI hS hl)
theorem g_ineg {x : Int32} (hdg : decode M.2.2.1 pc = .ok (.ineg, 1)) (kk : G M d mc ms kc kn (pc + 1) lv (.int (-x) :: st) h Q) : G M d mc ms kc kn pc lv (.int x :: st) h Q := by
  intro l E D cA p e s m args below meth c X H locs ls hI hS hl
  exact lv_ineg X.1 X.2.1 hdg (kk l E D cA p e s m args below meth c X H locs ls hI hS hl)
theorem g_ladd {x y : Int64} (hdg : decode M.2.2.1 pc = .ok (.ladd, 1)) (kk : G M d mc ms kc kn (pc + 1) lv (.long (x + y) :: st) h Q) : G M d mc ms kc kn pc lv (.long y :: .long x :: st) h Q := by
  intro l E D cA p e s m args below meth c X H locs ls hI hS hl
  exact lv_ladd X.1 X.2.1 hdg (kk l E D cA p e s m args below meth c X H locs ls hI hS hl)
theorem g_lsub {x y : Int64} (hdg : decode M.2.2.1 pc = .ok (.lsub, 1)) (kk : G M d mc ms kc kn (pc + 1) lv (.long (x - y) :: st) h Q) : G M d mc ms kc kn pc lv (.long y :: .long x :: st) h Q := by
  intro l E D cA p e s m args below meth c X H locs ls hI hS hl
  exact lv_lsub X.1 X.2.1 hdg (kk l E D cA p e s m args below meth c X H locs ls hI hS hl)
theorem g_lmul {x y : Int64} (hdg : decode M.2.2.1 pc = .ok (.lmul, 1)) (kk : G M d mc ms kc kn (pc + 1) lv (.long (x * y) :: st) h Q) : G M d mc ms kc kn pc lv (.long y :: .long x :: st) h Q := by
  intro l E D cA p e s m args below meth c X H locs ls hI hS hl
  exact lv_lmul X.1 X.2.1 hdg (kk l E D cA p e s m args below meth c X H locs ls hI hS hl)
theorem g_land {x y : Int64} (hdg : decode M.2.2.1 pc = .ok (.land, 1)) (kk : G M d mc ms kc kn (pc + 1) lv (.long (x &&& y) :: st) h Q) : G M d mc ms kc kn pc lv (.long y :: .long x :: st) h Q := by
  intro l E D cA p e s m args below meth c X H locs ls hI hS hl
  exact lv_land X.1 X.2.1 hdg (kk l E D cA p e s m args below meth c X H locs ls hI hS hl)
theorem g_lor {x y : Int64} (hdg : decode M.2.2.1 pc = .ok (.lor, 1)) (kk : G M d mc ms kc kn (pc + 1) lv (.long (x ||| y) :: st) h Q) : G M d mc ms kc kn pc lv (.long y :: .long x :: st) h Q := by
  intro l E D cA p e s m args below meth c X H locs ls hI hS hl
  exact lv_lor X.1 X.2.1 hdg (kk l E D cA p e s m args below meth c X H locs ls hI hS hl)
theorem g_lxor {x y : Int64} (hdg : decode M.2.2.1 pc = .ok (.lxor, 1)) (kk : G M d mc ms kc kn (pc + 1) lv (.long (x ^^^ y) :: st) h Q) : G M d mc ms kc kn pc lv (.long y :: .long x :: st) h Q := by
  intro l E D cA p e s m args below meth c X H locs ls hI hS hl
  exact lv_lxor X.1 X.2.1 hdg (kk l E D cA p e s m args below meth c X H locs ls hI hS hl)
theorem g_ldiv {x y : Int64} (hdg : decode M.2.2.1 pc = .ok (.ldiv, 1)) (hne : ¬ y = 0) (kk : G M d mc ms kc kn (pc + 1) lv (.long (x / y) :: st) h Q) : G M d mc ms kc kn pc lv (.long y :: .long x :: st) h Q := by
  intro l E D cA p e s m args below meth c X H locs ls hI hS hl
  exact lv_ldiv X.1 X.2.1 hdg hne (kk l E D cA p e s m args below meth c X H locs ls hI hS hl)
theorem g_lrem {x y : Int64} (hdg : decode M.2.2.1 pc = .ok (.lrem, 1)) (hne : ¬ y = 0) (kk : G M d mc ms kc kn (pc + 1) lv (.long (x - x / y * y) :: st) h Q) : G M d mc ms kc kn pc lv (.long y :: .long x :: st) h Q := by
  intro l E D cA p e s m args below meth c X H locs ls hI hS hl
  exact lv_lrem X.1 X.2.1 hdg hne (kk l E D cA p e s m args below meth c X H locs ls hI hS hl)
theorem g_lneg {x : Int64} (hdg : decode M.2.2.1 pc = .ok (.lneg, 1)) (kk : G M d mc ms kc kn (pc + 1) lv (.long (-x) :: st) h Q) : G M d mc ms kc kn pc lv (.long x :: st) h Q := by
  intro l E D cA p e s m args below meth c X H locs ls hI hS hl
  exact lv_lneg X.1 X.2.1 hdg (kk l E D cA p e s m args below meth c X H locs ls hI hS hl)
theorem g_ishl {x y : Int32} (hdg : decode M.2.2.1 pc = .ok (.ishl, 1)) (kk : G M d mc ms kc kn (pc + 1) lv (.int (x <<< (y &&& 31)) :: st) h Q) : G M d mc ms kc kn pc lv (.int y :: .int x :: st) h Q := by
  intro l E D cA p e s m args below meth c X H locs ls hI hS hl
  exact lv_ishl X.1 X.2.1 hdg (kk l E D cA p e s m args below meth c X H locs ls hI hS hl)
theorem g_ishr {x y : Int32} (hdg : decode M.2.2.1 pc = .ok (.ishr, 1)) (kk : G M d mc ms kc kn (pc + 1) lv (.int (x >>> (y &&& 31)) :: st) h Q) : G M d mc ms kc kn pc lv (.int y :: .int x :: st) h Q := by
  intro l E D cA p e s m args below meth c X H locs ls hI hS hl
  exact lv_ishr X.1 X.2.1 hdg (kk l E D cA p e s m args below meth c X H locs ls hI hS hl)
theorem g_i2l {x : Int32} {v : Int64} (hdg : decode M.2.2.1 pc = .ok (.i2l, 1)) (hv : x.toInt64 = v) (kk : G M d mc ms kc kn (pc + 1) lv (.long v :: st) h Q) : G M d mc ms kc kn pc lv (.int x :: st) h Q := by
  intro l E D cA p e s m args below meth c X H locs ls hI hS hl
  exact lv_i2l X.1 X.2.1 hdg hv (kk l E D cA p e s m args below meth c X H locs ls hI hS hl)
theorem g_l2i {x : Int64} {v : Int32} (hdg : decode M.2.2.1 pc = .ok (.l2i, 1)) (hv : x.toInt32 = v) (kk : G M d mc ms kc kn (pc + 1) lv (.int v :: st) h Q) : G M d mc ms kc kn pc lv (.long x :: st) h Q := by
  intro l E D cA p e s m args below meth c X H locs ls hI hS hl
  exact lv_l2i X.1 X.2.1 hdg hv (kk l E D cA p e s m args below meth c X H locs ls hI hS hl)
theorem g_i2c {x : Int32} {v : Int32} (hdg : decode M.2.2.1 pc = .ok (.i2c, 1)) (hv : (x.toUInt32 % 65536).toInt32 = v) (kk : G M d mc ms kc kn (pc + 1) lv (.int v :: st) h Q) : G M d mc ms kc kn pc lv (.int x :: st) h Q := by
  intro l E D cA p e s m args below meth c X H locs ls hI hS hl
  exact lv_i2c X.1 X.2.1 hdg hv (kk l E D cA p e s m args below meth c X H locs ls hI hS hl)
theorem g_iushr {x y v : Int32} (hdg : decode M.2.2.1 pc = .ok (.iushr, 1)) (hv : (x.toUInt32 >>> (y.toUInt32 &&& Int32.toUInt32 31)).toInt32 = v) (kk : G M d mc ms kc kn (pc + 1) lv (.int v :: st) h Q) : G M d mc ms kc kn pc lv (.int y :: .int x :: st) h Q := by
  intro l E D cA p e s m args below meth c X H locs ls hI hS hl
  exact lv_iushr X.1 X.2.1 hdg hv (kk l E D cA p e s m args below meth c X H locs ls hI hS hl)
theorem g_lushr {x v : Int64} {y : Int32} (hdg : decode M.2.2.1 pc = .ok (.lushr, 1)) (hv : (x.toUInt64 >>> (y.toInt64.toUInt64 &&& Int64.toUInt64 63)).toInt64 = v) (kk : G M d mc ms kc kn (pc + 1) lv (.long v :: st) h Q) : G M d mc ms kc kn pc lv (.int y :: .long x :: st) h Q := by
  intro l E D cA p e s m args below meth c X H locs ls hI hS hl
  exact lv_lushr X.1 X.2.1 hdg hv (kk l E D cA p e s m args below meth c X H locs ls hI hS hl)
theorem g_lshl {x v : Int64} {y : Int32} (hdg : decode M.2.2.1 pc = .ok (.lshl, 1)) (hv : x <<< (y.toInt64 &&& 63) = v) (kk : G M d mc ms kc kn (pc + 1) lv (.long v :: st) h Q) : G M d mc ms kc kn pc lv (.int y :: .long x :: st) h Q := by
  intro l E D cA p e s m args below meth c X H locs ls hI hS hl
  exact lv_lshl X.1 X.2.1 hdg hv (kk l E D cA p e s m args below meth c X H locs ls hI hS hl)
theorem g_lshr {x v : Int64} {y : Int32} (hdg : decode M.2.2.1 pc = .ok (.lshr, 1)) (hv : x >>> (y.toInt64 &&& 63) = v) (kk : G M d mc ms kc kn (pc + 1) lv (.long v :: st) h Q) : G M d mc ms kc kn pc lv (.int y :: .long x :: st) h Q := by
  intro l E D cA p e s m args below meth c X H locs ls hI hS hl
  exact lv_lshr X.1 X.2.1 hdg hv (kk l E D cA p e s m args below meth c X H locs ls hI hS hl)
theorem g_goto {off : Int} {tgt : Nat} (hdg : decode M.2.2.1 pc = .ok (.goto off, 3)) (ht : (pc : Int) + off = (tgt : Int)) (kk : G M d mc ms kc kn tgt lv st h Q) : G M d mc ms kc kn pc lv st h Q := by
  intro l E D cA p e s m args below meth c X H locs ls hI hS hl
  exact lv_goto X.1 X.2.1 hdg ht (kk l E D cA p e s m args below meth c X H locs ls hI hS hl)
theorem g_if_eq {x : Int32} {off : Int} {tgt : Nat} (hdg : decode M.2.2.1 pc = .ok (.ifCond .eq off, 3)) (ht : (pc : Int) + off = (tgt : Int)) (kt : x = 0 → G M d mc ms kc kn tgt lv st h Q) (kf : ¬ x = 0 → G M d mc ms kc kn (pc + 3) lv st h Q) : G M d mc ms kc kn pc lv (.int x :: st) h Q := by
  intro l E D cA p e s m args below meth c X H locs ls hI hS hl
  exact lv_if_eq X.1 X.2.1 hdg ht (fun q => kt q l E D cA p e s m args below meth c X H locs ls hI hS hl) (fun q => kf q l E D cA p e s m args below meth c X H locs ls hI hS hl)
theorem g_if_ne {x : Int32} {off : Int} {tgt : Nat} (hdg : decode M.2.2.1 pc = .ok (.ifCond .ne off, 3)) (ht : (pc : Int) + off = (tgt : Int)) (kt : ¬ x = 0 → G M d mc ms kc kn tgt lv st h Q) (kf : x = 0 → G M d mc ms kc kn (pc + 3) lv st h Q) : G M d mc ms kc kn pc lv (.int x :: st) h Q := by
  intro l E D cA p e s m args below meth c X H locs ls hI hS hl
  exact lv_if_ne X.1 X.2.1 hdg ht (fun q => kt q l E D cA p e s m args below meth c X H locs ls hI hS hl) (fun q => kf q l E D cA p e s m args below meth c X H locs ls hI hS hl)
theorem g_if_lt {x : Int32} {off : Int} {tgt : Nat} (hdg : decode M.2.2.1 pc = .ok (.ifCond .lt off, 3)) (ht : (pc : Int) + off = (tgt : Int)) (kt : x < 0 → G M d mc ms kc kn tgt lv st h Q) (kf : ¬ x < 0 → G M d mc ms kc kn (pc + 3) lv st h Q) : G M d mc ms kc kn pc lv (.int x :: st) h Q := by
  intro l E D cA p e s m args below meth c X H locs ls hI hS hl
  exact lv_if_lt X.1 X.2.1 hdg ht (fun q => kt q l E D cA p e s m args below meth c X H locs ls hI hS hl) (fun q => kf q l E D cA p e s m args below meth c X H locs ls hI hS hl)
theorem g_if_ge {x : Int32} {off : Int} {tgt : Nat} (hdg : decode M.2.2.1 pc = .ok (.ifCond .ge off, 3)) (ht : (pc : Int) + off = (tgt : Int)) (kt : 0 ≤ x → G M d mc ms kc kn tgt lv st h Q) (kf : ¬ 0 ≤ x → G M d mc ms kc kn (pc + 3) lv st h Q) : G M d mc ms kc kn pc lv (.int x :: st) h Q := by
  intro l E D cA p e s m args below meth c X H locs ls hI hS hl
  exact lv_if_ge X.1 X.2.1 hdg ht (fun q => kt q l E D cA p e s m args below meth c X H locs ls hI hS hl) (fun q => kf q l E D cA p e s m args below meth c X H locs ls hI hS hl)
theorem g_if_gt {x : Int32} {off : Int} {tgt : Nat} (hdg : decode M.2.2.1 pc = .ok (.ifCond .gt off, 3)) (ht : (pc : Int) + off = (tgt : Int)) (kt : 0 < x → G M d mc ms kc kn tgt lv st h Q) (kf : ¬ 0 < x → G M d mc ms kc kn (pc + 3) lv st h Q) : G M d mc ms kc kn pc lv (.int x :: st) h Q := by
  intro l E D cA p e s m args below meth c X H locs ls hI hS hl
  exact lv_if_gt X.1 X.2.1 hdg ht (fun q => kt q l E D cA p e s m args below meth c X H locs ls hI hS hl) (fun q => kf q l E D cA p e s m args below meth c X H locs ls hI hS hl)
theorem g_if_le {x : Int32} {off : Int} {tgt : Nat} (hdg : decode M.2.2.1 pc = .ok (.ifCond .le off, 3)) (ht : (pc : Int) + off = (tgt : Int)) (kt : x ≤ 0 → G M d mc ms kc kn tgt lv st h Q) (kf : ¬ x ≤ 0 → G M d mc ms kc kn (pc + 3) lv st h Q) : G M d mc ms kc kn pc lv (.int x :: st) h Q := by
  intro l E D cA p e s m args below meth c X H locs ls hI hS hl
  exact lv_if_le X.1 X.2.1 hdg ht (fun q => kt q l E D cA p e s m args below meth c X H locs ls hI hS hl) (fun q => kf q l E D cA p e s m args below meth c X H locs ls hI hS hl)
theorem g_icmp_eq {x y : Int32} {off : Int} {tgt : Nat} (hdg : decode M.2.2.1 pc = .ok (.if_icmp .eq off, 3)) (ht : (pc : Int) + off = (tgt : Int)) (kt : x = y → G M d mc ms kc kn tgt lv st h Q) (kf : ¬ x = y → G M d mc ms kc kn (pc + 3) lv st h Q) : G M d mc ms kc kn pc lv (.int y :: .int x :: st) h Q := by
  intro l E D cA p e s m args below meth c X H locs ls hI hS hl
  exact lv_icmp_eq X.1 X.2.1 hdg ht (fun q => kt q l E D cA p e s m args below meth c X H locs ls hI hS hl) (fun q => kf q l E D cA p e s m args below meth c X H locs ls hI hS hl)
theorem g_icmp_ne {x y : Int32} {off : Int} {tgt : Nat} (hdg : decode M.2.2.1 pc = .ok (.if_icmp .ne off, 3)) (ht : (pc : Int) + off = (tgt : Int)) (kt : ¬ x = y → G M d mc ms kc kn tgt lv st h Q) (kf : x = y → G M d mc ms kc kn (pc + 3) lv st h Q) : G M d mc ms kc kn pc lv (.int y :: .int x :: st) h Q := by
  intro l E D cA p e s m args below meth c X H locs ls hI hS hl
  exact lv_icmp_ne X.1 X.2.1 hdg ht (fun q => kt q l E D cA p e s m args below meth c X H locs ls hI hS hl) (fun q => kf q l E D cA p e s m args below meth c X H locs ls hI hS hl)
theorem g_icmp_lt {x y : Int32} {off : Int} {tgt : Nat} (hdg : decode M.2.2.1 pc = .ok (.if_icmp .lt off, 3)) (ht : (pc : Int) + off = (tgt : Int)) (kt : x < y → G M d mc ms kc kn tgt lv st h Q) (kf : ¬ x < y → G M d mc ms kc kn (pc + 3) lv st h Q) : G M d mc ms kc kn pc lv (.int y :: .int x :: st) h Q := by
  intro l E D cA p e s m args below meth c X H locs ls hI hS hl
  exact lv_icmp_lt X.1 X.2.1 hdg ht (fun q => kt q l E D cA p e s m args below meth c X H locs ls hI hS hl) (fun q => kf q l E D cA p e s m args below meth c X H locs ls hI hS hl)
theorem g_icmp_ge {x y : Int32} {off : Int} {tgt : Nat} (hdg : decode M.2.2.1 pc = .ok (.if_icmp .ge off, 3)) (ht : (pc : Int) + off = (tgt : Int)) (kt : y ≤ x → G M d mc ms kc kn tgt lv st h Q) (kf : ¬ y ≤ x → G M d mc ms kc kn (pc + 3) lv st h Q) : G M d mc ms kc kn pc lv (.int y :: .int x :: st) h Q := by
  intro l E D cA p e s m args below meth c X H locs ls hI hS hl
  exact lv_icmp_ge X.1 X.2.1 hdg ht (fun q => kt q l E D cA p e s m args below meth c X H locs ls hI hS hl) (fun q => kf q l E D cA p e s m args below meth c X H locs ls hI hS hl)
theorem g_icmp_gt {x y : Int32} {off : Int} {tgt : Nat} (hdg : decode M.2.2.1 pc = .ok (.if_icmp .gt off, 3)) (ht : (pc : Int) + off = (tgt : Int)) (kt : y < x → G M d mc ms kc kn tgt lv st h Q) (kf : ¬ y < x → G M d mc ms kc kn (pc + 3) lv st h Q) : G M d mc ms kc kn pc lv (.int y :: .int x :: st) h Q := by
  intro l E D cA p e s m args below meth c X H locs ls hI hS hl
  exact lv_icmp_gt X.1 X.2.1 hdg ht (fun q => kt q l E D cA p e s m args below meth c X H locs ls hI hS hl) (fun q => kf q l E D cA p e s m args below meth c X H locs ls hI hS hl)
theorem g_icmp_le {x y : Int32} {off : Int} {tgt : Nat} (hdg : decode M.2.2.1 pc = .ok (.if_icmp .le off, 3)) (ht : (pc : Int) + off = (tgt : Int)) (kt : x ≤ y → G M d mc ms kc kn tgt lv st h Q) (kf : ¬ x ≤ y → G M d mc ms kc kn (pc + 3) lv st h Q) : G M d mc ms kc kn pc lv (.int y :: .int x :: st) h Q := by
  intro l E D cA p e s m args below meth c X H locs ls hI hS hl
  exact lv_icmp_le X.1 X.2.1 hdg ht (fun q => kt q l E D cA p e s m args below meth c X H locs ls hI hS hl) (fun q => kf q l E D cA p e s m args below meth c X H locs ls hI hS hl)
theorem g_tableIn {dflt lo hi : Int} {offs : Array Int} {len : Nat} {x : Int32} {off : Int} {tgt : Nat} (hdg : decode M.2.2.1 pc = .ok (.tableswitch dflt lo hi offs, len)) (h1 : ¬ x.toInt < lo) (h2 : ¬ hi < x.toInt) (ho : offs[(x.toInt - lo).toNat]? = some off) (ht : (pc : Int) + off = (tgt : Int)) (kk : G M d mc ms kc kn tgt lv st h Q) : G M d mc ms kc kn pc lv (.int x :: st) h Q := by
  intro l E D cA p e s m args below meth c X H locs ls hI hS hl
  exact lv_tableIn X.1 X.2.1 hdg h1 h2 ho ht (kk l E D cA p e s m args below meth c X H locs ls hI hS hl)
theorem g_tableOut {dflt lo hi : Int} {offs : Array Int} {len : Nat} {x : Int32} {tgt : Nat} (hdg : decode M.2.2.1 pc = .ok (.tableswitch dflt lo hi offs, len)) (hh : x.toInt < lo ∨ hi < x.toInt) (ht : (pc : Int) + dflt = (tgt : Int)) (kk : G M d mc ms kc kn tgt lv st h Q) : G M d mc ms kc kn pc lv (.int x :: st) h Q := by
  intro l E D cA p e s m args below meth c X H locs ls hI hS hl
  exact lv_tableOut X.1 X.2.1 hdg hh ht (kk l E D cA p e s m args below meth c X H locs ls hI hS hl)
theorem g_lookup {dflt : Int} {ps : Array (Int × Int)} {len : Nat} {x : Int32} {off : Int} {tgt : Nat} (hdg : decode M.2.2.1 pc = .ok (.lookupswitch dflt ps, len)) (hp : (ps.toList.zip (ps.toList.drop 1)).all (fun (a, next) => a.1 < next.1) = true) (ho : Op.lookupswitch.offset ps.toList dflt x.toInt = off) (ht : (pc : Int) + off = (tgt : Int)) (kk : G M d mc ms kc kn tgt lv st h Q) : G M d mc ms kc kn pc lv (.int x :: st) h Q := by
  intro l E D cA p e s m args below meth c X H locs ls hI hS hl
  exact lv_lookup X.1 X.2.1 hdg hp ho ht (kk l E D cA p e s m args below meth c X H locs ls hI hS hl)
theorem g_iload {i : Nat} {x : Int32} (hdg : decode M.2.2.1 pc = .ok (.iload i, 2)) (hv : lv[i]? = some (some (.int x))) (kk : G M d mc ms kc kn (pc + 2) lv (.int x :: st) h Q) : G M d mc ms kc kn pc lv st h Q := by
  intro l E D cA p e s m args below meth c X H locs ls hI hS hl
  exact lv_iload X.1 X.2.1 hdg (hl.2.2 i _ hv) (kk l E D cA p e s m args below meth c X H locs ls hI hS hl)
theorem g_iload_n {i : Fin 4} {x : Int32} (hdg : decode M.2.2.1 pc = .ok (.iload_n i, 1)) (hv : lv[(i : Nat)]? = some (some (.int x))) (kk : G M d mc ms kc kn (pc + 1) lv (.int x :: st) h Q) : G M d mc ms kc kn pc lv st h Q := by
  intro l E D cA p e s m args below meth c X H locs ls hI hS hl
  exact lv_iload_n X.1 X.2.1 hdg rfl (hl.2.2 i _ hv) (kk l E D cA p e s m args below meth c X H locs ls hI hS hl)
theorem g_lload {i : Nat} {x : Int64} (hdg : decode M.2.2.1 pc = .ok (.lload i, 2)) (hv : lv[i]? = some (some (.long x))) (kk : G M d mc ms kc kn (pc + 2) lv (.long x :: st) h Q) : G M d mc ms kc kn pc lv st h Q := by
  intro l E D cA p e s m args below meth c X H locs ls hI hS hl
  exact lv_lload X.1 X.2.1 hdg (hl.2.2 i _ hv) (kk l E D cA p e s m args below meth c X H locs ls hI hS hl)
theorem g_lload_n {i : Fin 4} {x : Int64} (hdg : decode M.2.2.1 pc = .ok (.lload_n i, 1)) (hv : lv[(i : Nat)]? = some (some (.long x))) (kk : G M d mc ms kc kn (pc + 1) lv (.long x :: st) h Q) : G M d mc ms kc kn pc lv st h Q := by
  intro l E D cA p e s m args below meth c X H locs ls hI hS hl
  exact lv_lload_n X.1 X.2.1 hdg rfl (hl.2.2 i _ hv) (kk l E D cA p e s m args below meth c X H locs ls hI hS hl)
theorem g_aload {i : Nat} {x : Nat} (hdg : decode M.2.2.1 pc = .ok (.aload i, 2)) (hv : lv[i]? = some (some (.ref x))) (kk : G M d mc ms kc kn (pc + 2) lv (.ref x :: st) h Q) : G M d mc ms kc kn pc lv st h Q := by
  intro l E D cA p e s m args below meth c X H locs ls hI hS hl
  exact lv_aload X.1 X.2.1 hdg (hl.2.2 i _ hv) (kk l E D cA p e s m args below meth c X H locs ls hI hS hl)
theorem g_aload_n {i : Fin 4} {x : Nat} (hdg : decode M.2.2.1 pc = .ok (.aload_n i, 1)) (hv : lv[(i : Nat)]? = some (some (.ref x))) (kk : G M d mc ms kc kn (pc + 1) lv (.ref x :: st) h Q) : G M d mc ms kc kn pc lv st h Q := by
  intro l E D cA p e s m args below meth c X H locs ls hI hS hl
  exact lv_aload_n X.1 X.2.1 hdg rfl (hl.2.2 i _ hv) (kk l E D cA p e s m args below meth c X H locs ls hI hS hl)
theorem g_istore {i : Nat} {x : Int32} (hdg : decode M.2.2.1 pc = .ok (.istore i, 2)) (hn : i < M.2.2.2.1) (kk : G M d mc ms kc kn (pc + 2) (gSet1 lv i (.int x)) st h Q) : G M d mc ms kc kn pc lv (.int x :: st) h Q := by
  intro l E D cA p e s m args below meth c X H locs ls hI hS hl
  exact lv_istore X.1 X.2.1 hdg hl.has hn rfl (fun ls2 hl2 => kk l E D cA p e s m args below meth c X H locs ls2 hI hS (gLv.set1 (v := .int x) hl2))
theorem g_istore_n {i : Fin 4} {x : Int32} (hdg : decode M.2.2.1 pc = .ok (.istore_n i, 1)) (hn : (i : Nat) < M.2.2.2.1) (kk : G M d mc ms kc kn (pc + 1) (gSet1 lv i (.int x)) st h Q) : G M d mc ms kc kn pc lv (.int x :: st) h Q := by
  intro l E D cA p e s m args below meth c X H locs ls hI hS hl
  exact lv_istore_n X.1 X.2.1 hdg rfl hl.has hn rfl (fun ls2 hl2 => kk l E D cA p e s m args below meth c X H locs ls2 hI hS (gLv.set1 (v := .int x) hl2))
theorem g_lstore {i : Nat} {x : Int64} (hdg : decode M.2.2.1 pc = .ok (.lstore i, 2)) (hn : i + 1 < M.2.2.2.1) (kk : G M d mc ms kc kn (pc + 2) (gSet2 lv i (.long x)) st h Q) : G M d mc ms kc kn pc lv (.long x :: st) h Q := by
  intro l E D cA p e s m args below meth c X H locs ls hI hS hl
  exact lv_lstore X.1 X.2.1 hdg hl.has hn rfl (fun ls2 hl2 => kk l E D cA p e s m args below meth c X H locs ls2 hI hS (gLv.set2 (v := .long x) hl2))
theorem g_lstore_n {i : Fin 4} {x : Int64} (hdg : decode M.2.2.1 pc = .ok (.lstore_n i, 1)) (hn : (i : Nat) + 1 < M.2.2.2.1) (kk : G M d mc ms kc kn (pc + 1) (gSet2 lv i (.long x)) st h Q) : G M d mc ms kc kn pc lv (.long x :: st) h Q := by
  intro l E D cA p e s m args below meth c X H locs ls hI hS hl
  exact lv_lstore_n X.1 X.2.1 hdg rfl hl.has hn rfl (fun ls2 hl2 => kk l E D cA p e s m args below meth c X H locs ls2 hI hS (gLv.set2 (v := .long x) hl2))
theorem g_astore {i : Nat} {x : Nat} (hdg : decode M.2.2.1 pc = .ok (.astore i, 2)) (hn : i < M.2.2.2.1) (kk : G M d mc ms kc kn (pc + 2) (gSet1 lv i (.ref x)) st h Q) : G M d mc ms kc kn pc lv (.ref x :: st) h Q := by
  intro l E D cA p e s m args below meth c X H locs ls hI hS hl
  exact lv_astore X.1 X.2.1 hdg hl.has hn rfl (fun ls2 hl2 => kk l E D cA p e s m args below meth c X H locs ls2 hI hS (gLv.set1 (v := .ref x) hl2))
theorem g_astore_n {i : Fin 4} {x : Nat} (hdg : decode M.2.2.1 pc = .ok (.astore_n i, 1)) (hn : (i : Nat) < M.2.2.2.1) (kk : G M d mc ms kc kn (pc + 1) (gSet1 lv i (.ref x)) st h Q) : G M d mc ms kc kn pc lv (.ref x :: st) h Q := by
  intro l E D cA p e s m args below meth c X H locs ls hI hS hl
  exact lv_astore_n X.1 X.2.1 hdg rfl hl.has hn rfl (fun ls2 hl2 => kk l E D cA p e s m args below meth c X H locs ls2 hI hS (gLv.set1 (v := .ref x) hl2))
theorem g_iinc {i : Nat} {x : Int32} {z : Int} (hdg : decode M.2.2.1 pc = .ok (.iinc i z, 3)) (hv : lv[i]? = some (some (.int x))) (hn : i < M.2.2.2.1) (kk : G M d mc ms kc kn (pc + 3) (gSet1 lv i (.int (x + Int32.ofInt z))) st h Q) : G M d mc ms kc kn pc lv st h Q := by
  intro l E D cA p e s m args below meth c X H locs ls hI hS hl
  obtain ⟨j, hj⟩ := List.getElem?_of_mem (gEnum_mem (E := E).mpr ⟨_, hv, rfl⟩)
  exact lv_iinc (v := x + Int32.ofInt z) X.1 X.2.1 hdg hl.has (k := j) hj rfl hn rfl (fun ls2 hl2 => kk l E D cA p e s m args below meth c X H locs ls2 hI hS (gLv.set1 (v := .int _) hl2))
theorem g_dup {v : Value} (hdg : decode M.2.2.1 pc = .ok (.dup, 1)) (hc : v.category = 1) (kk : G M d mc ms kc kn (pc + 1) lv (v :: v :: st) h Q) : G M d mc ms kc kn pc lv (v :: st) h Q := by
  intro l E D cA p e s m args below meth c X H locs ls hI hS hl
  exact lv_dup X.1 X.2.1 hdg (by rw [gV_cat]; exact hc) (kk l E D cA p e s m args below meth c X H locs ls hI hS hl)
theorem g_dup2 {v w : Value} (hdg : decode M.2.2.1 pc = .ok (.dup2, 1)) (hc : v.category = 1) (hc2 : w.category = 1) (kk : G M d mc ms kc kn (pc + 1) lv (v :: w :: v :: w :: st) h Q) : G M d mc ms kc kn pc lv (v :: w :: st) h Q := by
  intro l E D cA p e s m args below meth c X H locs ls hI hS hl
  exact lv_dup2_11 X.1 X.2.1 hdg (by rw [gV_cat]; exact hc) (by rw [gV_cat]; exact hc2) (kk l E D cA p e s m args below meth c X H locs ls hI hS hl)
theorem g_dup_x1 {v w : Value} (hdg : decode M.2.2.1 pc = .ok (.dup_x1, 1)) (hc : v.category = 1) (hc2 : w.category = 1) (kk : G M d mc ms kc kn (pc + 1) lv (v :: w :: v :: st) h Q) : G M d mc ms kc kn pc lv (v :: w :: st) h Q := by
  intro l E D cA p e s m args below meth c X H locs ls hI hS hl
  exact lv_dup_x1 X.1 X.2.1 hdg (by rw [gV_cat]; exact hc) (by rw [gV_cat]; exact hc2) (kk l E D cA p e s m args below meth c X H locs ls hI hS hl)
theorem g_pop {v : Value} (hdg : decode M.2.2.1 pc = .ok (.pop, 1)) (hc : v.category = 1) (kk : G M d mc ms kc kn (pc + 1) lv st h Q) : G M d mc ms kc kn pc lv (v :: st) h Q := by
  intro l E D cA p e s m args below meth c X H locs ls hI hS hl
  exact lv_pop X.1 X.2.1 hdg (by rw [gV_cat]; exact hc) (kk l E D cA p e s m args below meth c X H locs ls hI hS hl)
theorem g_lcmp {x y : Int64} (hdg : decode M.2.2.1 pc = .ok (.lcmp, 1)) (kk : G M d mc ms kc kn (pc + 1) lv (.int (lg_cmp x y) :: st) h Q) : G M d mc ms kc kn pc lv (.long y :: .long x :: st) h Q := by
  intro l E D cA p e s m args below meth c X H locs ls hI hS hl
  exact W.lcmp X.1 X.2.1 hdg (kk l E D cA p e s m args below meth c X H locs ls hI hS hl)
theorem g_null (hdg : decode M.2.2.1 pc = .ok (.aconst_null, 1)) (kk : G M d mc ms kc kn (pc + 1) lv (.null :: st) h Q) : G M d mc ms kc kn pc lv st h Q := by
  intro l E D cA p e s m args below meth c X H locs ls hI hS hl
  exact lv_null X.1 X.2.1 hdg (kk l E D cA p e s m args below meth c X H locs ls hI hS hl)
theorem g_ldc {index : Nat} {v : Int32} (hw : Cond.constant M.1 index v ∈ gT) (hdg : decode M.2.2.1 pc = .ok (.ldc index, 2)) (kk : G M d mc ms kc kn (pc + 2) lv (.int v :: st) h Q) : G M d mc ms kc kn pc lv st h Q := by
  intro l E D cA p e s m args below meth c X H locs ls hI hS hl
  exact lv_ldc X.1 X.2.1 X.2.2.2.2.1 (X.2.2.2.2.2.1 _ (List.mem_cons_of_mem _ hw)) hdg (kk l E D cA p e s m args below meth c X H locs ls hI hS hl)
theorem g_ldc2 {index : Nat} {v : Int64} (hw : Cond.constantLong M.1 index v ∈ gT) (hdg : decode M.2.2.1 pc = .ok (.ldc2_w index, 3)) (kk : G M d mc ms kc kn (pc + 3) lv (.long v :: st) h Q) : G M d mc ms kc kn pc lv st h Q := by
  intro l E D cA p e s m args below meth c X H locs ls hI hS hl
  exact lv_ldc2 X.1 X.2.1 X.2.2.2.2.1 (X.2.2.2.2.2.1 _ (List.mem_cons_of_mem _ hw)) hdg (kk l E D cA p e s m args below meth c X H locs ls hI hS hl)
theorem g_ldcS {index i : Nat} (hw : (M.1, index, i) ∈ gLit) (hdg : decode M.2.2.1 pc = .ok (.ldc index, 2)) (kk : G M d mc ms kc kn (pc + 2) lv (.ref (1 + i) :: st) h Q) (hi : i < 16) : G M d mc ms kc kn pc lv st h Q := by
  intro l E D cA p e s m args below meth c X H locs ls hI hS hl
  have e9 : gA E (1 + i) = E.2 (1 + i) := by simp [gA, show 1 + i < 64 by omega]
  refine va_ldcS X.1 X.2.1 X.2.2.2.2.1 (X.2.2.2.2.2.2.2.2.1.1 _ hw) hdg ?_
  rw [← e9]
  exact kk l E D cA p e s m args below meth c X H locs ls hI hS hl
theorem g_ifnonnull {x : Nat} {off : Int} {tgt : Nat} (hdg : decode M.2.2.1 pc = .ok (.ifnonnull off, 3)) (ht : (pc : Int) + off = (tgt : Int)) (kk : G M d mc ms kc kn tgt lv st h Q) : G M d mc ms kc kn pc lv (.ref x :: st) h Q := by
  intro l E D cA p e s m args below meth c X H locs ls hI hS hl
  exact lv_ifnonnull X.1 X.2.1 hdg ht (kk l E D cA p e s m args below meth c X H locs ls hI hS hl)
theorem g_ifnull {x : Nat} {off : Int} (hdg : decode M.2.2.1 pc = .ok (.ifnull off, 3)) (kk : G M d mc ms kc kn (pc + 3) lv st h Q) : G M d mc ms kc kn pc lv (.ref x :: st) h Q := by
  intro l E D cA p e s m args below meth c X H locs ls hI hS hl
  exact lv_ifnull X.1 X.2.1 hdg (kk l E D cA p e s m args below meth c X H locs ls hI hS hl)
theorem gEnd {E : gE} {D : va_G} {cA : Nat → ClassId} {s t : State} {args : Array Value} {H : Heap} {locs : List Loc} {r : Option Value} (hI : gIs E D cA h H) (hS : va_S (fun q => E.1 ≤ q) s.heap H locs) (hq : Q r h) (ht : t.heap = H) : gQc E D cA Q args s (.returned (r.map (gV E))) t :=
  ⟨⟨r, h, rfl, hq, by rw [ht]; exact hI⟩, hS.F ht⟩
theorem g_iret {v : Int32} (hdg : decode M.2.2.1 pc = .ok (.ireturn, 1)) (hr : M.2.2.2.2 = some .int) (hq : Q (some (.int v)) h) (hc : kc ≤ mc) (hn : kn ≤ ms) : G M d mc ms kc kn pc lv [.int v] h Q := by
  intro l E D cA p e s m args below meth c X H locs ls hI hS hl
  refine W.widen hc hn ?_
  exact W.iret X.1 X.2.1 (X.2.2.1.trans hr) (fun t ht _ => gEnd (r := some (.int v)) hI hS hq ht) hS.2.2 hdg (hlocks := X.2.2.2.2.2.2.1)
theorem g_zret {v : Int32} {ty : FieldType} (hdg : decode M.2.2.1 pc = .ok (.ireturn, 1)) (hr : M.2.2.2.2 = some ty) (hv : narrow ty (.int v) = .int v) (hq : Q (some (.int v)) h) (hc : kc ≤ mc) (hn : kn ≤ ms) : G M d mc ms kc kn pc lv [.int v] h Q := by
  intro l E D cA p e s m args below meth c X H locs ls hI hS hl
  refine W.widen hc hn ?_
  exact W.zret X.1 X.2.1 (X.2.2.1.trans hr) hv (fun t ht _ => gEnd (r := some (.int v)) hI hS hq ht) hS.2.2 hdg (hlocks := X.2.2.2.2.2.2.1)
theorem g_lret {v : Int64} (hdg : decode M.2.2.1 pc = .ok (.lreturn, 1)) (hr : M.2.2.2.2 = some .long) (hq : Q (some (.long v)) h) (hc : kc ≤ mc) (hn : kn ≤ ms) : G M d mc ms kc kn pc lv [.long v] h Q := by
  intro l E D cA p e s m args below meth c X H locs ls hI hS hl
  refine W.widen hc hn ?_
  exact W.lret X.1 X.2.1 (X.2.2.1.trans hr) (fun t ht _ => gEnd (r := some (.long v)) hI hS hq ht) hS.2.2 hdg (hlocks := X.2.2.2.2.2.2.1)
theorem g_vret (hdg : decode M.2.2.1 pc = .ok (.return_, 1)) (hr : M.2.2.2.2 = none) (hq : Q none h) (hc : kc ≤ mc) (hn : kn ≤ ms) : G M d mc ms kc kn pc lv [] h Q := by
  intro l E D cA p e s m args below meth c X H locs ls hI hS hl
  refine W.widen hc hn ?_
  exact W.vret X.1 X.2.1 (X.2.2.1.trans hr) (fun t ht _ => gEnd (r := none) hI hS hq ht) hS.2.2 hdg (hlocks := X.2.2.2.2.2.2.1)
theorem g_aret {r : Option Nat} {C : String} (hdg : decode M.2.2.1 pc = .ok (.areturn, 1)) (hr : M.2.2.2.2 = some (.object C)) (hq : Q (some (va_rf r)) h) (hc : kc ≤ mc) (hn : kn ≤ ms) : G M d mc ms kc kn pc lv [va_rf r] h Q := by
  intro l E D cA p e s m args below meth c X H locs ls hI hS hl
  refine W.widen hc hn ?_
  exact W.aret X.1 X.2.1 (X.2.2.1.trans hr) (Or.inl ⟨C, rfl⟩) (by cases r with
    | none => exact Or.inl rfl
    | some a => exact Or.inr ⟨_, rfl⟩) (fun t ht _ => gEnd (r := some (va_rf r)) hI hS hq ht) hS.2.2 hdg (hlocks := X.2.2.2.2.2.2.1)
end GR
