def R_law : String := "HillRiderLaw"
def lw_P (b : Addr) (xs : List Int32) (args : Array Value) (s : State) : Prop := args = #[.ref b] ∧ s.IntsAt b xs ∧ xs.length ≤ 320 ∧ (Jvm.Cond.and given_1 narrow_1).before args s = true
def lw_Q (_ : Array Value) (s : State) (o : Outcome) (t : State) : Prop := o = .returned (some (.int 1)) ∧ Framed s o t [] 600000 7302250
def lw_Z (below : List Frame) (a : Array Value) (s : State) : State → Prop := fun t => ∃ o, t.status = .running ∧ Ended t below o ∧ lw_Q a s o t
/-- the law's own end, with 1 on the stack, nothing written that was there before, its room as the claim has it -/
theorem lw_ret {p : Program} {l : Launch} {e : Env} {s : State} {m : MethodId} {below : List Frame} {meth : Method} {c : Code} {b : Nat} (hx : p.tables.exec = Jvm.exec) (hb : c.code = code) (hr : meth.sig.returnType = ret) (hlocks : meth.locks = false) {pc : Nat} {H : Heap} {ls : Array Slot} (hdg : decode code pc = .ok (.ireturn, 1)) : W p l e room_1 s m #[Value.ref b] below meth c H [] 600000 7302250 (lw_Z below #[Value.ref b] s) (F0 m pc ls [.int 1]) := by
  intro T hT X
  obtain ⟨fs, hret, hrun, hended, hW, hframe⟩ := X.leave (v := some (.int 1)) (hlocks := hlocks) (fun h => by rw [hr] at h; cases h)
  have hmeth' : T.vm.method? m = some meth := X.method'
  refine ⟨T.setFrames fs, ?_, .returned (some (.int 1)), hrun, hended, rfl, ⟨_, rfl⟩, hW, hframe⟩
  jvm_step X.here [X.here.top, hx, hb, hdg, hmeth', hr, ret, narrow_b1]
  (try refine ⟨rfl, ?_⟩); (try refine ⟨rfl, ?_⟩)
  first | (intro acts; rw [hret _ acts rfl rfl rfl]) | rw [hret _ _ rfl rfl rfl]
  exact Steps.refl _
/-- what holds at the law's entry: the machine, the code, the tables' words (any of lw_tbl by 'hts w (by decide +kernel)'), the script of L ints xs at the cell b, what the Statement gives of the start (any of its parts by flat_of_before) -/
def lw_At (p : Program) (s : State) (m : MethodId) (meth : Method) (c : Code) (b L : Nat) (xs : Nat → Int32) : Prop :=
  p.tables.exec = Jvm.exec ∧ c.code = code ∧ meth.sig.returnType = ret ∧ c.maxLocals = 4 ∧ s.vm.findClass R_law = some m.cls ∧ (∀ w ∈ lw_tbl, w.before #[Value.ref b] s = true) ∧ va_X b L xs s s.heap ∧ b < s.heap.size ∧ meth.locks = false ∧ (Jvm.Cond.and given_1 narrow_1).before #[Value.ref b] s = true
/-! the law's walk: its locals are the script, x at 64, m at 120, and i -/
def lwC (p : Program) (s : State) (m : MethodId) (meth : Method) (c : Code) (b L : Nat) (xs : Nat → Int32) (E : gE) (D : va_G) (cA : Nat → ClassId) : Prop :=
  p.tables.exec = Jvm.exec ∧ c.code = code ∧ meth.sig.returnType = ret ∧ c.maxLocals = 4 ∧ s.vm.findClass RL = some m.cls ∧ (∀ w ∈ gT, w.before #[Value.ref b] s = true) ∧ va_X b L xs s s.heap ∧ b < s.heap.size ∧ meth.locks = false ∧ va_K D vwCl (gTys cA) s ∧ gOldV E s ∧ gOldH E s s.heap ∧ E.1 = s.heap.size ∧ E.2 0 = b
def LG (b L : Nat) (xs : Nat → Int32) (kc kn pc : Nat) (iv : Int32) (st : List Value) (h : gH) : Prop :=
  ∀ (p : Program) (l : Launch) (e : Env) (s : State) (m : MethodId) (below : List Frame) (meth : Method) (c : Code) (E : gE) (D : va_G) (cA : Nat → ClassId), lwC p s m meth c b L xs E D cA →
    ∀ (H : Heap) (locs : List Loc) (ls : Array Slot), gIs E D cA h H → va_S (fun q => E.1 ≤ q) s.heap H locs → lv_has ls 4 [(3, .int iv), (2, .ref (gA E 120)), (1, .ref (gA E 64)), (0, .ref b)] →
      W p l e room_1 s m #[Value.ref b] below meth c H locs kc kn (lw_Z below #[Value.ref b] s) (F0 m pc ls (st.map (gV E)))
section LGS
variable {b L kc kn pc : Nat} {xs : Nat → Int32} {iv : Int32} {st : List Value} {h : gH}
theorem lg_iconst {n : Int} {v : Int32} (hdg : decode code pc = .ok (.iconst n, 1)) (hv : Int32.ofInt n = v) (kk : LG b L xs kc kn (pc + 1) iv (.int v :: st) h) : LG b L xs kc kn pc iv (st) h := by
  intro p l e s m below meth c E D cA X H locs ls hI hS hl
  exact lv_iconst X.1 X.2.1 hdg hv (kk p l e s m below meth c E D cA X H locs ls hI hS hl)
theorem lg_bipush {n : Int} {v : Int32} (hdg : decode code pc = .ok (.bipush n, 2)) (hv : (Int8.ofInt n).toInt32 = v) (kk : LG b L xs kc kn (pc + 2) iv (.int v :: st) h) : LG b L xs kc kn pc iv (st) h := by
  intro p l e s m below meth c E D cA X H locs ls hI hS hl
  exact lv_bipush X.1 X.2.1 hdg hv (kk p l e s m below meth c E D cA X H locs ls hI hS hl)
theorem lg_iadd {x y : Int32} (hdg : decode code pc = .ok (.iadd, 1)) (kk : LG b L xs kc kn (pc + 1) iv (.int (x + y) :: st) h) : LG b L xs kc kn pc iv (.int y :: .int x :: st) h := by
  intro p l e s m below meth c E D cA X H locs ls hI hS hl
  exact lv_iadd X.1 X.2.1 hdg (kk p l e s m below meth c E D cA X H locs ls hI hS hl)
theorem lg_isub {x y : Int32} (hdg : decode code pc = .ok (.isub, 1)) (kk : LG b L xs kc kn (pc + 1) iv (.int (x - y) :: st) h) : LG b L xs kc kn pc iv (.int y :: .int x :: st) h := by
  intro p l e s m below meth c E D cA X H locs ls hI hS hl
  exact lv_isub X.1 X.2.1 hdg (kk p l e s m below meth c E D cA X H locs ls hI hS hl)
theorem lg_iand {x y : Int32} (hdg : decode code pc = .ok (.iand, 1)) (kk : LG b L xs kc kn (pc + 1) iv (.int (x &&& y) :: st) h) : LG b L xs kc kn pc iv (.int y :: .int x :: st) h := by
  intro p l e s m below meth c E D cA X H locs ls hI hS hl
  exact lv_iand X.1 X.2.1 hdg (kk p l e s m below meth c E D cA X H locs ls hI hS hl)
theorem lg_i2l {x : Int32} {v : Int64} (hdg : decode code pc = .ok (.i2l, 1)) (hv : x.toInt64 = v) (kk : LG b L xs kc kn (pc + 1) iv (.long v :: st) h) : LG b L xs kc kn pc iv (.int x :: st) h := by
  intro p l e s m below meth c E D cA X H locs ls hI hS hl
  exact lv_i2l X.1 X.2.1 hdg hv (kk p l e s m below meth c E D cA X H locs ls hI hS hl)
theorem lg_lshl {x v : Int64} {y : Int32} (hdg : decode code pc = .ok (.lshl, 1)) (hv : x <<< (y.toInt64 &&& 63) = v) (kk : LG b L xs kc kn (pc + 1) iv (.long v :: st) h) : LG b L xs kc kn pc iv (.int y :: .long x :: st) h := by
  intro p l e s m below meth c E D cA X H locs ls hI hS hl
  exact lv_lshl X.1 X.2.1 hdg hv (kk p l e s m below meth c E D cA X H locs ls hI hS hl)
theorem lg_land {x y : Int64} (hdg : decode code pc = .ok (.land, 1)) (kk : LG b L xs kc kn (pc + 1) iv (.long (x &&& y) :: st) h) : LG b L xs kc kn pc iv (.long y :: .long x :: st) h := by
  intro p l e s m below meth c E D cA X H locs ls hI hS hl
  exact lv_land X.1 X.2.1 hdg (kk p l e s m below meth c E D cA X H locs ls hI hS hl)
theorem lg_lor {x y : Int64} (hdg : decode code pc = .ok (.lor, 1)) (kk : LG b L xs kc kn (pc + 1) iv (.long (x ||| y) :: st) h) : LG b L xs kc kn pc iv (.long y :: .long x :: st) h := by
  intro p l e s m below meth c E D cA X H locs ls hI hS hl
  exact lv_lor X.1 X.2.1 hdg (kk p l e s m below meth c E D cA X H locs ls hI hS hl)
theorem lg_goto {off : Int} {tgt : Nat} (hdg : decode code pc = .ok (.goto off, 3)) (ht : (pc : Int) + off = (tgt : Int)) (kk : LG b L xs kc kn tgt iv st h) : LG b L xs kc kn pc iv st h := by
  intro p l e s m below meth c E D cA X H locs ls hI hS hl
  exact lv_goto X.1 X.2.1 hdg ht (kk p l e s m below meth c E D cA X H locs ls hI hS hl)
theorem lg_if_eq {x : Int32} {off : Int} {tgt : Nat} (hdg : decode code pc = .ok (.ifCond .eq off, 3)) (ht : (pc : Int) + off = (tgt : Int)) (kt : x = 0 → LG b L xs kc kn tgt iv st h) (kf : ¬ x = 0 → LG b L xs kc kn (pc + 3) iv st h) : LG b L xs kc kn pc iv (.int x :: st) h := by
  intro p l e s m below meth c E D cA X H locs ls hI hS hl
  exact lv_if_eq X.1 X.2.1 hdg ht (fun q => kt q p l e s m below meth c E D cA X H locs ls hI hS hl) (fun q => kf q p l e s m below meth c E D cA X H locs ls hI hS hl)
theorem lg_icmp_eq {x y : Int32} {off : Int} {tgt : Nat} (hdg : decode code pc = .ok (.if_icmp .eq off, 3)) (ht : (pc : Int) + off = (tgt : Int)) (kt : x = y → LG b L xs kc kn tgt iv st h) (kf : ¬ x = y → LG b L xs kc kn (pc + 3) iv st h) : LG b L xs kc kn pc iv (.int y :: .int x :: st) h := by
  intro p l e s m below meth c E D cA X H locs ls hI hS hl
  exact lv_icmp_eq X.1 X.2.1 hdg ht (fun q => kt q p l e s m below meth c E D cA X H locs ls hI hS hl) (fun q => kf q p l e s m below meth c E D cA X H locs ls hI hS hl)
theorem lg_icmp_gt {x y : Int32} {off : Int} {tgt : Nat} (hdg : decode code pc = .ok (.if_icmp .gt off, 3)) (ht : (pc : Int) + off = (tgt : Int)) (kt : y < x → LG b L xs kc kn tgt iv st h) (kf : ¬ y < x → LG b L xs kc kn (pc + 3) iv st h) : LG b L xs kc kn pc iv (.int y :: .int x :: st) h := by
  intro p l e s m below meth c E D cA X H locs ls hI hS hl
  exact lv_icmp_gt X.1 X.2.1 hdg ht (fun q => kt q p l e s m below meth c E D cA X H locs ls hI hS hl) (fun q => kf q p l e s m below meth c E D cA X H locs ls hI hS hl)
theorem lg_tableIn {dflt lo hi : Int} {offs : Array Int} {len : Nat} {x : Int32} {off : Int} {tgt : Nat} (hdg : decode code pc = .ok (.tableswitch dflt lo hi offs, len)) (h1 : ¬ x.toInt < lo) (h2 : ¬ hi < x.toInt) (ho : offs[(x.toInt - lo).toNat]? = some off) (ht : (pc : Int) + off = (tgt : Int)) (kk : LG b L xs kc kn tgt iv st h) : LG b L xs kc kn pc iv (.int x :: st) h := by
  intro p l e s m below meth c E D cA X H locs ls hI hS hl
  exact lv_tableIn X.1 X.2.1 hdg h1 h2 ho ht (kk p l e s m below meth c E D cA X H locs ls hI hS hl)
theorem lg_tableOut {dflt lo hi : Int} {offs : Array Int} {len : Nat} {x : Int32} {tgt : Nat} (hdg : decode code pc = .ok (.tableswitch dflt lo hi offs, len)) (hh : x.toInt < lo ∨ hi < x.toInt) (ht : (pc : Int) + dflt = (tgt : Int)) (kk : LG b L xs kc kn tgt iv st h) : LG b L xs kc kn pc iv (.int x :: st) h := by
  intro p l e s m below meth c E D cA X H locs ls hI hS hl
  exact lv_tableOut X.1 X.2.1 hdg hh ht (kk p l e s m below meth c E D cA X H locs ls hI hS hl)
theorem lg_ldc2 {index : Nat} {v : Int64} (hw : Cond.constantLong RL index v ∈ gT) (hdg : decode code pc = .ok (.ldc2_w index, 3)) (kk : LG b L xs kc kn (pc + 3) iv (.long v :: st) h) : LG b L xs kc kn pc iv st h := by
  intro p l e s m below meth c E D cA X H locs ls hI hS hl
  exact lv_ldc2 X.1 X.2.1 X.2.2.2.2.1 (X.2.2.2.2.2.1 _ hw) hdg (kk p l e s m below meth c E D cA X H locs ls hI hS hl)
theorem lg_lcmp {x y : Int64} (hdg : decode code pc = .ok (.lcmp, 1)) (kk : LG b L xs kc kn (pc + 1) iv (.int (lg_cmp x y) :: st) h) : LG b L xs kc kn pc iv (.long y :: .long x :: st) h := by
  intro p l e s m below meth c E D cA X H locs ls hI hS hl
  exact W.lcmp X.1 X.2.1 hdg (kk p l e s m below meth c E D cA X H locs ls hI hS hl)
theorem lg_i (hdg : decode code pc = .ok (.iload_n 3, 1)) (kk : LG b L xs kc kn (pc + 1) iv (.int iv :: st) h) : LG b L xs kc kn pc iv st h := by
  intro p l e s m below meth c E D cA X H locs ls hI hS hl
  exact lv_iload_n X.1 X.2.1 hdg rfl (lv_at hl 0 rfl) (kk p l e s m below meth c E D cA X H locs ls hI hS hl)
theorem lg_m (hdg : decode code pc = .ok (.aload_n 2, 1)) (kk : LG b L xs kc kn (pc + 1) iv (.ref 120 :: st) h) : LG b L xs kc kn pc iv st h := by
  intro p l e s m below meth c E D cA X H locs ls hI hS hl
  exact lv_aload_n X.1 X.2.1 hdg rfl (lv_at hl 1 rfl) (kk p l e s m below meth c E D cA X H locs ls hI hS hl)
theorem lg_x (hdg : decode code pc = .ok (.aload_n 1, 1)) (kk : LG b L xs kc kn (pc + 1) iv (.ref 64 :: st) h) : LG b L xs kc kn pc iv st h := by
  intro p l e s m below meth c E D cA X H locs ls hI hS hl
  exact lv_aload_n X.1 X.2.1 hdg rfl (lv_at hl 2 rfl) (kk p l e s m below meth c E D cA X H locs ls hI hS hl)
theorem lg_s (hdg : decode code pc = .ok (.aload_n 0, 1)) (kk : LG b L xs kc kn (pc + 1) iv (.ref 0 :: st) h) : LG b L xs kc kn pc iv st h := by
  intro p l e s m below meth c E D cA X H locs ls hI hS hl
  have e0 : gA E 0 = b := by simp [gA, X.2.2.2.2.2.2.2.2.2.2.2.2.2]
  have k1 := kk p l e s m below meth c E D cA X H locs ls hI hS hl
  refine lv_aload_n X.1 X.2.1 hdg rfl (lv_at hl 3 rfl) ?_
  show W _ _ _ _ _ _ _ _ _ _ _ _ _ _ _ (F0 m (pc + 1) ls (Value.ref b :: st.map (gV E)))
  have e1 : Value.ref b = gV E (.ref 0) := by show _ = Value.ref (gA E 0); rw [e0]
  rw [List.map_cons, ← e1] at k1
  exact k1
theorem lg_ld {i : Int32} (hin : vp_in i L) (hdg : decode code pc = .ok (.iaload, 1)) (kk : LG b L xs kc kn (pc + 1) iv (.int (xs i.toNatClampNeg) :: st) h) : LG b L xs kc kn pc iv (.int i :: .ref 0 :: st) h := by
  intro p l e s m below meth c E D cA X H locs ls hI hS hl
  have e0 : gA E 0 = b := by simp [gA, X.2.2.2.2.2.2.2.2.2.2.2.2.2]
  have k1 := kk p l e s m below meth c E D cA X H locs ls hI hS hl
  show W _ _ _ _ _ _ _ _ _ _ _ _ _ _ _ (F0 m pc ls (Value.int i :: Value.ref (gA E 0) :: st.map (gV E)))
  rw [e0]
  exact va_sld X.1 X.2.1 X.2.2.2.2.2.2.1 X.2.2.2.2.2.2.2.1 (by rw [X.2.2.2.2.2.2.2.2.2.2.2.2.1]; exact Nat.not_le.mpr X.2.2.2.2.2.2.2.1) hS hin hdg k1
theorem lg_len (hdg : decode code pc = .ok (.arraylength, 1)) (kk : LG b L xs kc kn (pc + 1) iv (.int (Int32.ofNat L) :: st) h) : LG b L xs kc kn pc iv (.ref 0 :: st) h := by
  intro p l e s m below meth c E D cA X H locs ls hI hS hl
  have e0 : gA E 0 = b := by simp [gA, X.2.2.2.2.2.2.2.2.2.2.2.2.2]
  have k1 := kk p l e s m below meth c E D cA X H locs ls hI hS hl
  show W _ _ _ _ _ _ _ _ _ _ _ _ _ _ _ (F0 m pc ls (Value.ref (gA E 0) :: st.map (gV E)))
  rw [e0]
  exact va_slen X.1 X.2.1 X.2.2.2.2.2.2.1 X.2.2.2.2.2.2.2.1 (by rw [X.2.2.2.2.2.2.2.2.2.2.2.2.1]; exact Nat.not_le.mpr X.2.2.2.2.2.2.2.1) hS hdg k1
theorem lg_inc {iv2 : Int32} (hz : iv + Int32.ofInt 5 = iv2) (hdg : decode code pc = .ok (.iinc 3 5, 3)) (kk : LG b L xs kc kn (pc + 3) iv2 st h) : LG b L xs kc kn pc iv st h := by
  intro p l e s m below meth c E D cA X H locs ls hI hS hl
  exact lv_iinc (v := iv2) (lv' := [(3, .int iv2), (2, .ref (gA E 120)), (1, .ref (gA E 64)), (0, .ref b)]) X.1 X.2.1 hdg hl (k := 0) rfl hz (by decide) rfl (fun ls2 hl2 => kk p l e s m below meth c E D cA X H locs ls2 hI hS hl2)
theorem lg_wid {kc2 kn2 : Nat} (h1 : kc ≤ kc2) (h2 : kn ≤ kn2) (kk : LG b L xs kc2 kn2 pc iv st h) : LG b L xs kc kn pc iv st h := by
  intro p l e s m below meth c E D cA X H locs ls hI hS hl
  exact W.widen h1 h2 (kk p l e s m below meth c E D cA X H locs ls hI hS hl)
theorem lg_pc {pc2 : Nat} {st2 : List Value} (e1 : pc = pc2) (e2 : st = st2) (kk : LG b L xs kc kn pc2 iv st2 h) : LG b L xs kc kn pc iv st h := e1 ▸ e2 ▸ kk
theorem lg_end (hc : kc ≤ 600000) (hn : kn ≤ 7302250) (hdg : decode code pc = .ok (.ireturn, 1)) : LG b L xs kc kn pc iv [.int 1] h := by
  intro p l e s m below meth c E D cA X H locs ls hI hS hl
  refine W.widen hc hn ?_
  refine va_forget (fun q hq => ?_) (lw_ret X.1 X.2.1 X.2.2.1 X.2.2.2.2.2.2.2.2.1 hdg)
  have := hS.2.2 q hq
  rw [X.2.2.2.2.2.2.2.2.2.2.2.2.1] at this
  exact this
theorem lg_back {p : Program} {l : Launch} {e : Env} {s : State} {m : MethodId} {below : List Frame} {meth : Method} {c : Code} {E : gE} {D : va_G} {cA : Nat → ClassId} {H : Heap} {locs : List Loc} {ls : Array Slot} {mc1 ms1 : Nat} {st0 : List Value} {a : Array Value} {Q1 : Option Value → gH → Prop}
    (X : lwC p s m meth c b L xs E D cA) (hS : va_S (fun q => E.1 ≤ q) s.heap H locs) (hl : lv_has ls 4 [(3, .int iv), (2, .ref (gA E 120)), (1, .ref (gA E 64)), (0, .ref b)])
    (hr : va_Run p l e room_1 s m #[Value.ref b] below meth c H locs kc kn mc1 ms1 (F0 m pc ls st0) (st.map (gV E)) (gQc E D cA Q1 a) (fun q => E.1 ≤ q))
    (kk : ∀ (r : Option Value) (h' : gH), Q1 r h' → LG b L xs (kc + mc1) (kn + ms1) (pc + 3) iv (r.toList ++ st) h') : W p l e room_1 s m #[Value.ref b] below meth c H locs kc kn (lw_Z below #[Value.ref b] s) (F0 m pc ls st0) := by
  intro T hT X0
  obtain ⟨v, st₀, t, T', L2, h0, X', hL, e1, e2, ⟨⟨r, h', hv, hq, hI'⟩, hz, hk⟩, stp⟩ := hr T hT X0
  cases hv
  rw [h0] at hz hk
  obtain ⟨t2, a1, b1⟩ := kk r h' hq p l e s m below meth c E D cA X T'.heap (locs ++ L2) ls (by rw [e1]; exact hI') ⟨Nat.le_trans hS.1 (by rw [e1]; exact hz), fun q h1 h2 => by rw [e1, hk q (Nat.lt_of_lt_of_le h1 hS.1) h2]; exact hS.2.1 q h1 h2, fun q hq => by
      rcases List.mem_append.mp hq with h | h
      · exact hS.2.2 q h
      · exact hL q h⟩ hl T' rfl X'
  refine ⟨t2, stp t2 ?_, b1⟩
  have e3 : (r.map (gV E)).toList ++ st.map (gV E) = (r.toList ++ st).map (gV E) := by cases r <;> rfl
  rw [e3]
  exact a1
theorem lg_pre {p : Program} {s : State} {m : MethodId} {meth : Method} {c : Code} {E : gE} {D : va_G} {cA : Nat → ClassId} {H : Heap} {locs : List Loc} {as : List Value} (X : lwC p s m meth c b L xs E D cA) (hI : gIs E D cA h H) (hS : va_S (fun q => E.1 ≤ q) s.heap H locs) (U : State) (hU : U.heap = H) (hW : s.WarmedH U.vm) : gPc E D cA as h (as.map (gV E)).toArray U :=
  ⟨rfl, by rw [hU]; exact hI, va_K.moved hW.alike X.2.2.2.2.2.2.2.2.2.1, X.2.2.2.2.2.2.2.2.2.2.1.warm hW, by rw [hU]; exact (X.2.2.2.2.2.2.2.2.2.2.2.1.kept hS.2.1).moved hW.alike⟩
theorem gGoodT {M2 : gM} (hc : Cond.code M2.2.1 M2.2.2.1 M2.2.2.2.1 M2.2.2.2.2 ∈ gT) : GoodIn gT (gWs M2) := by
  intro w hw
  rcases List.mem_cons.mp hw with rfl | q
  · exact ⟨hc, gT_ok hc⟩
  · exact ⟨q, gT_ok q⟩
theorem lg_call {M2 : gM} {idx ci n d bb : Nat} {fs as : List Value} {mc1 ms1 : Nat} {Q1 : Option Value → gH → Prop} (F : gCv RL idx ci M2 n) (hdg : decode code pc = .ok (.invokevirtual idx, 3)) (hat : gat h bb = some (.inr (ci, fs))) (hn : as.length = n) (hcat : (st.map fun v => v.category).sum ≤ 8) (hcm : kc + mc1 ≤ 600000) (hsm : kn + ms1 ≤ 7302250) (hd : d ≤ 1000)
    (hM : T M2 d mc1 ms1 (.ref bb :: as) h Q1) (kk : ∀ (r : Option Value) (h' : gH), Q1 r h' → LG b L xs (kc + mc1) (kn + ms1) (pc + 3) iv (r.toList ++ st) h') : LG b L xs kc kn pc iv (as.reverse ++ .ref bb :: st) h := by
  intro p l e s m below meth c E D cA X H locs ls hI hS hl
  obtain ⟨⟨w1, w2, w3, w4, w5⟩, w6, w7, w8⟩ := F
  have hts := X.2.2.2.2.2.1
  obtain ⟨cq, hcq, hcn⟩ : ∃ cq : vw_C, vwCl[ci]? = some cq ∧ cq.1 = M2.2.1.cls := by
    cases hc : vwCl[ci]? with
    | none => rw [hc] at w8; cases w8
    | some cq => rw [hc] at w8; exact ⟨cq, rfl, Option.some.inj w8⟩
  have hrec := va_recv X.2.2.2.2.2.2.2.2.2.1 hI.2 hcq (gW_get (E := E) (cA := cA) hat)
  rw [hcn] at hrec
  have hG : GoodIn gT (wsV RL idx M2.2.1.cls M2.2.1 (gWs M2)) := by
    intro w hw
    unfold wsV at hw
    rcases List.mem_append.mp hw with q | q
    · simp only [List.mem_cons, List.not_mem_nil, or_false] at q
      rcases q with rfl | rfl | rfl | rfl
      · exact ⟨w3, gT_ok w3⟩
      · exact ⟨w6, gT_ok w6⟩
      · exact ⟨w7, gT_ok w7⟩
      · exact ⟨w2, gT_ok w2⟩
    · exact gGoodT w1 w q
  have hR : (gRm d mc1 ms1).frames + 1 ≤ room_1.frames ∧ 8 + (M2.2.2.2.1 + 11) + (gRm d mc1 ms1).locals ≤ room_1.locals := by
    constructor
    · show d + 1 ≤ 2048
      omega
    · show 8 + (M2.2.2.2.1 + 11) + 64 * d ≤ 84000
      omega
  rw [gRev]
  refine lg_back (st := st) X hS hl (va_runV (As := as.map (gV E)) (rest := st.map (gV E)) (b := gA E bb) (n := n) (C := M2.2.1.cls) (ws := gWs M2) (Ts := gT) (cc := code) (nL := 4) (own := RL) (index := idx) (rm := gRm d mc1 ms1) (Pc := gPc E D cA (.ref bb :: as) h) ⟨X.1, X.2.1, X.2.2.2.1, X.2.2.2.2.1, hts⟩ (hM l E D cA) (cwV n hts hG rfl rfl rfl ⟨rfl, w4⟩ hR) ⟨gBlind, hrec, fun U hU hW => lg_pre X hI hS U hU hW⟩ rfl (by rw [List.length_map]; exact hn) hl.1 rfl (lv_room (by rw [gCat]; exact hcat)) hdg ⟨hcm, hsm⟩) kk
end LGS
