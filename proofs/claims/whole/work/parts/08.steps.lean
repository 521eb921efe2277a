def nO (h : gH) (ci : Nat) (fs : List Value) : Option (Nat × gH) := some (64 + h.length, h ++ [.inr (ci, fs)])
def nIa (h : gH) (n : Nat) : Option (Nat × gH) := some (64 + h.length, h ++ [.inl (0, n, .inl (fun _ => 0))])
def nLa (h : gH) (n : Nat) : Option (Nat × gH) := some (64 + h.length, h ++ [.inl (1, n, .inr (.inl (fun _ => 0)))])
def nZa (h : gH) (n : Nat) : Option (Nat × gH) := some (64 + h.length, h ++ [.inl (2, n, .inl (fun _ => 0))])
def nQa (h : gH) (n : Nat) : Option (Nat × gH) := some (64 + h.length, h ++ [.inl (3, n, .inr (.inr (.inr (.inr (fun _ => none)))))])
def gInst (h : gH) (a : Nat) (L : List Nat) : Option Int32 := (gOw h a).map fun q => if q.1 ∈ L then 1 else 0
def gInOk (own : String) (idx : Nat) (nm : String) (L : List Nat) : Prop := Cond.classLink own idx nm ∈ gT ∧ ∀ c ∈ gWays, (c ∈ L ∧ ∃ q, vwCl[c]? = some q ∧ ((q.1, nm) ∈ gYes ∨ q.1 = nm)) ∨ (¬ c ∈ L ∧ ∃ q, vwCl[c]? = some q ∧ (q.1, nm) ∈ gNot)
theorem gWays_lt {c : Nat} (hc : c ∈ gWays) : c < vwCl.length := by
  simp only [gWays, List.mem_cons, List.not_mem_nil, or_false] at hc
  rcases hc with rfl | rfl | rfl | rfl | rfl | rfl | rfl <;> decide
section GST
variable {M : gM} {d mc ms kc kn pc : Nat} {lv : List (Option Value)} {st : List Value} {h : gH} {Q : Option Value → gH → Prop}
theorem g_gI {a ci k idx : Nat} {v : Int32} (F : gFg M.1 idx ci k) (hdg : decode M.2.2.1 pc = .ok (.getfield idx, 3)) (q : gI h a ci k = some v) (kk : G M d mc ms kc kn (pc + 3) lv (.int v :: st) h Q) : G M d mc ms kc kn pc lv (.ref a :: st) h Q := by
  obtain ⟨fs, e1, e2⟩ := gI_of q
  exact g_getf F hdg e1 e2 kk
theorem g_gL {a ci k idx : Nat} {v : Int64} (F : gFg M.1 idx ci k) (hdg : decode M.2.2.1 pc = .ok (.getfield idx, 3)) (q : gL h a ci k = some v) (kk : G M d mc ms kc kn (pc + 3) lv (.long v :: st) h Q) : G M d mc ms kc kn pc lv (.ref a :: st) h Q := by
  obtain ⟨fs, e1, e2⟩ := gL_of q
  exact g_getf F hdg e1 e2 kk
theorem g_gR {a ci k idx : Nat} {v : Nat} (F : gFg M.1 idx ci k) (hdg : decode M.2.2.1 pc = .ok (.getfield idx, 3)) (q : gR h a ci k = some v) (kk : G M d mc ms kc kn (pc + 3) lv (.ref v :: st) h Q) : G M d mc ms kc kn pc lv (.ref a :: st) h Q := by
  obtain ⟨fs, e1, e2⟩ := gR_of q
  exact g_getf F hdg e1 e2 kk
theorem g_gIw {a k idx : Nat} {v : Int32} (F : ∀ c ∈ gWays, gFg M.1 idx c k) (hdg : decode M.2.2.1 pc = .ok (.getfield idx, 3)) (q : gIw h a k = some v) (kk : G M d mc ms kc kn (pc + 3) lv (.int v :: st) h Q) : G M d mc ms kc kn pc lv (.ref a :: st) h Q := by
  obtain ⟨ci, fs, e0, e1, e2⟩ := gIw_of q
  exact g_getf (F ci e0) hdg e1 e2 kk
theorem g_pF {a ci k idx : Nat} {v : Value} {h2 : gH} {ty : FieldType} (F : gFp M.1 idx ci k ty false) (hdg : decode M.2.2.1 pc = .ok (.putfield idx, 3)) (q : pF h a ci k v = some h2) (hn : ∀ E, narrow ty (gV E v) = gV E v) (hf : ∀ E, fits ty (gV E v) = true) (kk : G M d mc ms kc kn (pc + 3) lv st h2 Q) : G M d mc ms kc kn pc lv (v :: .ref a :: st) h Q := by
  obtain ⟨fs, e1, e2, rfl⟩ := pF_of q
  exact g_putf F hdg e1 e2 hn hf kk
theorem g_pZ {a ci k idx : Nat} {x : Int32} {h2 : gH} (F : gFp M.1 idx ci k .boolean false) (hdg : decode M.2.2.1 pc = .ok (.putfield idx, 3)) (q : pZ h a ci k x = some h2) (kk : G M d mc ms kc kn (pc + 3) lv st h2 Q) : G M d mc ms kc kn pc lv (.int x :: .ref a :: st) h Q := by
  obtain ⟨hx, fs, e1, e2, rfl⟩ := pZ_of q
  exact g_putf F hdg e1 e2 (fun _ => gZ_nar hx) (fun _ => gZ_fit hx) kk
theorem g_pFf {a ci k idx : Nat} {v : Value} {h2 : gH} {ty : FieldType} (F : gFp M.1 idx ci k ty true) (hdg : decode M.2.2.1 pc = .ok (.putfield idx, 3)) (q : pF h a ci k v = some h2) (hi : M.2.1.name = "<init>") (hn : ∀ E, narrow ty (gV E v) = gV E v) (hf : ∀ E, fits ty (gV E v) = true) (kk : G M d mc ms kc kn (pc + 3) lv st h2 Q) : G M d mc ms kc kn pc lv (v :: .ref a :: st) h Q := by
  obtain ⟨fs, e1, e2, rfl⟩ := pF_of q
  exact g_putF F hi hdg e1 e2 hn hf kk
theorem g_pFw {a k idx : Nat} {v : Value} {h2 : gH} {ty : FieldType} (F : ∀ c ∈ gWays, gFp M.1 idx c k ty true) (hdg : decode M.2.2.1 pc = .ok (.putfield idx, 3)) (q : pFw h a k v = some h2) (hi : M.2.1.name = "<init>") (hn : ∀ E, narrow ty (gV E v) = gV E v) (hf : ∀ E, fits ty (gV E v) = true) (kk : G M d mc ms kc kn (pc + 3) lv st h2 Q) : G M d mc ms kc kn pc lv (v :: .ref a :: st) h Q := by
  obtain ⟨ci, fs, e0, e1, e2, rfl⟩ := pFw_of q
  exact g_putF (F ci e0) hi hdg e1 e2 hn hf kk
theorem g_aI {a : Nat} {i v : Int32} (hdg : decode M.2.2.1 pc = .ok (.iaload, 1)) (q : aI h a i = some v) (kk : G M d mc ms kc kn (pc + 1) lv (.int v :: st) h Q) : G M d mc ms kc kn pc lv (.int i :: .ref a :: st) h Q := by
  obtain ⟨n, f, e1, e2, rfl⟩ := aI_of q
  exact g_iald hdg e1 e2 kk
theorem g_aZ {a : Nat} {i v : Int32} (hdg : decode M.2.2.1 pc = .ok (.baload, 1)) (q : aZ h a i = some v) (kk : G M d mc ms kc kn (pc + 1) lv (.int v :: st) h Q) : G M d mc ms kc kn pc lv (.int i :: .ref a :: st) h Q := by
  obtain ⟨n, f, e1, e2, rfl⟩ := aZ_of q
  exact g_zald hdg e1 e2 kk
theorem g_aL {a : Nat} {i : Int32} {v : Int64} (hdg : decode M.2.2.1 pc = .ok (.laload, 1)) (q : aL h a i = some v) (kk : G M d mc ms kc kn (pc + 1) lv (.long v :: st) h Q) : G M d mc ms kc kn pc lv (.int i :: .ref a :: st) h Q := by
  obtain ⟨n, f, e1, e2, rfl⟩ := aL_of q
  exact g_lald hdg e1 e2 kk
theorem g_aQ {a : Nat} {i : Int32} {v : Option Nat} (hdg : decode M.2.2.1 pc = .ok (.aaload, 1)) (q : aQ h a i = some v) (kk : G M d mc ms kc kn (pc + 1) lv (va_rf v :: st) h Q) : G M d mc ms kc kn pc lv (.int i :: .ref a :: st) h Q := by
  obtain ⟨n, f, e1, e2, rfl⟩ := aQ_of q
  exact g_aald hdg e1 e2 kk
theorem g_sI {a : Nat} {i x : Int32} {h2 : gH} (hdg : decode M.2.2.1 pc = .ok (.iastore, 1)) (q : sI h a i x = some h2) (kk : G M d mc ms kc kn (pc + 1) lv st h2 Q) : G M d mc ms kc kn pc lv (.int x :: .int i :: .ref a :: st) h Q := by
  obtain ⟨n, f, e1, e2, rfl⟩ := sI_of q
  exact g_iast hdg e1 e2 kk
theorem g_sZ {a : Nat} {i x : Int32} {h2 : gH} (hdg : decode M.2.2.1 pc = .ok (.bastore, 1)) (q : sZ h a i x = some h2) (kk : G M d mc ms kc kn (pc + 1) lv st h2 Q) : G M d mc ms kc kn pc lv (.int x :: .int i :: .ref a :: st) h Q := by
  obtain ⟨n, f, e1, e2, rfl⟩ := sZ_of q
  exact g_zast hdg e1 e2 kk
theorem g_sL {a : Nat} {i : Int32} {x : Int64} {h2 : gH} (hdg : decode M.2.2.1 pc = .ok (.lastore, 1)) (q : sL h a i x = some h2) (kk : G M d mc ms kc kn (pc + 1) lv st h2 Q) : G M d mc ms kc kn pc lv (.long x :: .int i :: .ref a :: st) h Q := by
  obtain ⟨n, f, e1, e2, rfl⟩ := sL_of q
  exact g_last hdg e1 e2 kk
theorem g_sQ {a : Nat} {i : Int32} {x : Option Nat} {h2 : gH} (hdg : decode M.2.2.1 pc = .ok (.aastore, 1)) (q : sQ h a i x = some h2) (kk : G M d mc ms kc kn (pc + 1) lv st h2 Q) : G M d mc ms kc kn pc lv (va_rf x :: .int i :: .ref a :: st) h Q := by
  obtain ⟨n, f, e1, e2, e3, rfl⟩ := sQ_of q
  exact g_aastq hdg e1 e2 e3 kk
theorem g_lenI {a : Nat} {v : Int32} (hdg : decode M.2.2.1 pc = .ok (.arraylength, 1)) (q : lenI h a = some v) (kk : G M d mc ms kc kn (pc + 1) lv (.int v :: st) h Q) : G M d mc ms kc kn pc lv (.ref a :: st) h Q := by
  obtain ⟨n, f, e1, rfl⟩ := lenI_of q
  exact g_alenI hdg e1 kk
theorem g_nO {idx ci N a : Nat} {fs : List Value} {h2 : gH} (F : gNw M.1 idx ci N fs) (hdg : decode M.2.2.1 pc = .ok (.new idx, 3)) (q : nO h ci fs = some (a, h2)) (hcm : kc + 1 ≤ mc) (hsm : kn + N ≤ ms) (kk : G M d mc ms (kc + 1) (kn + N) (pc + 3) lv (.ref a :: st) h2 Q) : G M d mc ms kc kn pc lv st h Q := by
  cases q
  exact g_new F hdg hcm hsm kk
theorem g_nIa {N a : Nat} {n : Int32} {h2 : gH} (hw : Cond.arrayClass .int ∈ gT) (hdg : decode M.2.2.1 pc = .ok (.newarray .int, 2)) (q : nIa h N = some (a, h2)) (hn : ¬ n < 0) (hN : n.toNatClampNeg = N) (hb : N ≤ 100000) (hcm : kc + 1 ≤ mc) (hsm : kn + N ≤ ms) (kk : G M d mc ms (kc + 1) (kn + N) (pc + 2) lv (.ref a :: st) h2 Q) : G M d mc ms kc kn pc lv (.int n :: st) h Q := by
  cases q
  exact g_newI hw hdg hn hN hb hcm hsm kk
theorem g_nLa {N a : Nat} {n : Int32} {h2 : gH} (hw : Cond.arrayClass .long ∈ gT) (hdg : decode M.2.2.1 pc = .ok (.newarray .long, 2)) (q : nLa h N = some (a, h2)) (hn : ¬ n < 0) (hN : n.toNatClampNeg = N) (hb : N ≤ 100000) (hcm : kc + 1 ≤ mc) (hsm : kn + N ≤ ms) (kk : G M d mc ms (kc + 1) (kn + N) (pc + 2) lv (.ref a :: st) h2 Q) : G M d mc ms kc kn pc lv (.int n :: st) h Q := by
  cases q
  exact g_newL hw hdg hn hN hb hcm hsm kk
theorem g_nZa {N a : Nat} {n : Int32} {h2 : gH} (hw : Cond.arrayClass .boolean ∈ gT) (hdg : decode M.2.2.1 pc = .ok (.newarray .boolean, 2)) (q : nZa h N = some (a, h2)) (hn : ¬ n < 0) (hN : n.toNatClampNeg = N) (hb : N ≤ 100000) (hcm : kc + 1 ≤ mc) (hsm : kn + N ≤ ms) (kk : G M d mc ms (kc + 1) (kn + N) (pc + 2) lv (.ref a :: st) h2 Q) : G M d mc ms kc kn pc lv (.int n :: st) h Q := by
  cases q
  exact g_newZ hw hdg hn hN hb hcm hsm kk
theorem g_nQa {N a idx : Nat} {n : Int32} {h2 : gH} (hw : Cond.classLink M.1 idx "HillRider$Way" ∈ gT) (hdg : decode M.2.2.1 pc = .ok (.anewarray idx, 3)) (q : nQa h N = some (a, h2)) (hn : ¬ n < 0) (hN : n.toNatClampNeg = N) (hb : N ≤ 100000) (hcm : kc + 1 ≤ mc) (hsm : kn + N ≤ ms) (kk : G M d mc ms (kc + 1) (kn + N) (pc + 3) lv (.ref a :: st) h2 Q) : G M d mc ms kc kn pc lv (.int n :: st) h Q := by
  cases q
  exact g_newW hw hdg hn hN hb hcm hsm kk
theorem g_inst {a idx : Nat} {nm : String} {L : List Nat} {v : Int32} (F : gInOk M.1 idx nm L) (hdg : decode M.2.2.1 pc = .ok (.instanceof idx, 3)) (q : gInst h a L = some v) (kk : G M d mc ms kc kn (pc + 3) lv (.int v :: st) h Q) : G M d mc ms kc kn pc lv (.ref a :: st) h Q := by
  unfold gInst at q
  obtain ⟨p, e1, rfl⟩ := Option.map_eq_some_iff.mp q
  have e2 := gOw_of e1
  rcases F.2 p.1 e2.1 with ⟨hL, hc⟩ | ⟨hL, hc⟩
  · rw [if_pos hL] at kk
    exact g_instY F.1 hdg e2.2 hc kk
  · rw [if_neg hL] at kk
    exact g_instN F.1 hdg e2.2 hc kk
theorem g_tswK {dflt lo hi : Int} {offs : Array Int} {len : Nat} {x k : Int32} {off : Int} {tgt : Nat} (hdg : decode M.2.2.1 pc = .ok (.tableswitch dflt lo hi offs, len)) (hx : x = k) (h1 : ¬ k.toInt < lo) (h2 : ¬ hi < k.toInt) (ho : offs[(k.toInt - lo).toNat]? = some off) (ht : (pc : Int) + off = (tgt : Int)) (kk : G M d mc ms kc kn tgt lv st h Q) : G M d mc ms kc kn pc lv (.int x :: st) h Q := by
  subst hx
  exact g_tableIn hdg h1 h2 ho ht kk
theorem g_lswK {dflt : Int} {ps : Array (Int × Int)} {len : Nat} {x k : Int32} {off : Int} {tgt : Nat} (hdg : decode M.2.2.1 pc = .ok (.lookupswitch dflt ps, len)) (hx : x = k) (hp : (ps.toList.zip (ps.toList.drop 1)).all (fun (a, next) => a.1 < next.1) = true) (ho : Op.lookupswitch.offset ps.toList dflt k.toInt = off) (ht : (pc : Int) + off = (tgt : Int)) (kk : G M d mc ms kc kn tgt lv st h Q) : G M d mc ms kc kn pc lv (.int x :: st) h Q := by
  subst hx
  exact g_lookup hdg hp ho ht kk
theorem g_lvp {lv2 : List (Option Value)} {pc2 : Nat} (e : lv = lv2) (e2 : pc = pc2) (kk : G M d mc ms kc kn pc2 lv2 st h Q) : G M d mc ms kc kn pc lv st h Q := e ▸ e2 ▸ kk
theorem g_stp {st2 : List Value} {pc2 kc2 kn2 : Nat} (e : st = st2) (e2 : pc = pc2) (e3 : kc = kc2) (e4 : kn = kn2) (kk : G M d mc ms kc2 kn2 pc2 lv st2 h Q) : G M d mc ms kc kn pc lv st h Q := e ▸ e2 ▸ e3 ▸ e4 ▸ kk
theorem g_widen {kc2 kn2 : Nat} (h1 : kc ≤ kc2) (h2 : kn ≤ kn2) (kk : G M d mc ms kc2 kn2 pc lv st h Q) : G M d mc ms kc kn pc lv st h Q := by
  intro l E D cA p e s m args below meth c X H locs ls hI hS hl
  exact W.widen h1 h2 (kk l E D cA p e s m args below meth c X H locs ls hI hS hl)
theorem g_ldcw {index : Nat} {v : Int32} (hw : Cond.constant M.1 index v ∈ gT) (hdg : decode M.2.2.1 pc = .ok (.ldc_w index, 3)) (kk : G M d mc ms kc kn (pc + 3) lv (.int v :: st) h Q) : G M d mc ms kc kn pc lv st h Q := by
  intro l E D cA p e s m args below meth c X H locs ls hI hS hl
  exact lv_ldcw X.1 X.2.1 X.2.2.2.2.1 (X.2.2.2.2.2.1 _ (List.mem_cons_of_mem _ hw)) hdg (kk l E D cA p e s m args below meth c X H locs ls hI hS hl)
end GST
/-! calls on a String constant -/
def gCq (own : String) (idx : Nat) (M2 : gM) (n : Nat) : Prop := gCa own idx M2 n ∧ Cond.instanceMethod M2.2.1 ∈ gT ∧ Cond.selects M2.2.1.cls M2.2.1 M2.2.1 ∈ gT ∧ M2.2.1.cls = "java/lang/String"
section GSS
variable {M : gM} {d mc ms kc kn pc : Nat} {lv : List (Option Value)} {st : List Value} {h : gH} {Q : Option Value → gH → Prop}
theorem g_callStr {M2 : gM} {idx n b : Nat} {as : List Value} {mc1 ms1 : Nat} {Q1 : Option Value → gH → Prop} (F : gCq M.1 idx M2 n) (hdg : decode M.2.2.1 pc = .ok (.invokevirtual idx, 3)) (hb : 1 ≤ b ∧ b < 17) (hn : as.length = n) (hcat : (st.map fun v => v.category).sum ≤ 8) (hcm : kc + mc1 ≤ mc) (hsm : kn + ms1 ≤ ms)
    (hM : T M2 d mc1 ms1 (.ref b :: as) h Q1) (kk : ∀ (r : Option Value) (h' : gH), Q1 r h' → G M (d + 1) mc ms (kc + mc1) (kn + ms1) (pc + 3) lv (r.toList ++ st) h' Q) : G M (d + 1) mc ms kc kn pc lv (as.reverse ++ .ref b :: st) h Q := by
  intro l E D cA p e s m args below meth c X H locs ls hI hS hl
  obtain ⟨⟨w1, w2, w3, w4, w5⟩, w6, w7, w8⟩ := F
  have hts := X.2.2.2.2.2.1
  have hrec := vk_recv (i := b - 1) X.2.2.2.2.2.2.2.2.2.1.1 (by omega) hS
  have eA : gA E b = E.2 (1 + (b - 1)) := by
    have : b < 64 := by omega
    have e9 : 1 + (b - 1) = b := by omega
    rw [e9]
    simp only [gA, this, if_true]
  rw [← eA, ← w8] at hrec
  have hG : GoodIn (gWs M) (wsV M.1 idx M2.2.1.cls M2.2.1 (gWs M2)) := by
    intro w hw
    unfold wsV at hw
    rcases List.mem_append.mp hw with q | q
    · simp only [List.mem_cons, List.not_mem_nil, or_false] at q
      rcases q with rfl | rfl | rfl | rfl
      · exact gGood1 w3
      · exact gGood1 w6
      · exact gGood1 w7
      · exact gGood1 w2
    · exact gGood w1 w q
  rw [gRev]
  refine g_back (st := st) X hS hl (va_runV (As := as.map (gV E)) (rest := st.map (gV E)) (b := gA E b) (n := n) (C := M2.2.1.cls) (ws := gWs M2) (Ts := gWs M) (cc := M.2.2.1) (nL := M.2.2.2.1) (own := M.1) (index := idx) (rm := gRm d mc1 ms1) (Pc := gPc E D cA (.ref b :: as) h) ⟨X.1, X.2.1, X.2.2.2.1, X.2.2.2.2.1, hts⟩ (hM l E D cA) (cwV n hts hG rfl rfl rfl ⟨rfl, w4⟩ (gRoom w5)) ⟨gBlind, hrec, fun U hU hW => gPre X hI hS U hU hW⟩ rfl (by rw [List.length_map]; exact hn) hl.1 rfl (lv_room (by rw [gCat]; exact hcat)) hdg ⟨hcm, hsm⟩) kk
end GSS
/-! what length, charAt and indexOf say of a String constant: reference b is the constant b - 1 -/
def gIx : List Int32 → Int32 → Nat → Int32
  | [], _, _ => -1
  | b :: l, c, k => if b = c then nI k else gIx l c (k + 1)
def F_J0_length_8abf5 (_ : Nat) (a : Nat) (h : gH) : Option (Int32 × gH) := if 1 ≤ a ∧ a < 17 then some (nI (gLen.getD (a - 1) 0), h) else none
def F_J0_charAt_5068e (_ : Nat) (a : Nat) (i : Int32) (h : gH) : Option (Int32 × gH) := if (1 ≤ a ∧ a < 17) ∧ 0 ≤ i ∧ i.toNatClampNeg < gLen.getD (a - 1) 0 then some ((gByt.getD (a - 1) []).getD i.toNatClampNeg 0, h) else none
def F_J0_indexOf_0f7a4 (_ : Nat) (a : Nat) (c : Int32) (h : gH) : Option (Int32 × gH) := if 1 ≤ a ∧ a < 17 then some (gIx (gByt.getD (a - 1) []) c 0, h) else none
theorem b_J0_length_8abf5 {n a : Nat} {h rh : gH} {rv : Int32} (e : F_J0_length_8abf5 n a h = some (rv, rh)) : 1 ≤ a ∧ a < 17 := by
  unfold F_J0_length_8abf5 at e
  split at e
  · assumption
  · cases e
theorem b_J0_charAt_5068e {n a : Nat} {i : Int32} {h rh : gH} {rv : Int32} (e : F_J0_charAt_5068e n a i h = some (rv, rh)) : 1 ≤ a ∧ a < 17 := by
  unfold F_J0_charAt_5068e at e
  split at e
  · rename_i q; exact q.1
  · cases e
theorem b_J0_indexOf_0f7a4 {n a : Nat} {c : Int32} {h rh : gH} {rv : Int32} (e : F_J0_indexOf_0f7a4 n a c h = some (rv, rh)) : 1 ≤ a ∧ a < 17 := by
  unfold F_J0_indexOf_0f7a4 at e
  split at e
  · assumption
  · cases e
