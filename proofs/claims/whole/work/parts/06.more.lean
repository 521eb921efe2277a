section GMO
variable {M : gM} {d mc ms kc kn pc : Nat} {lv : List (Option Value)} {st : List Value} {h : gH} {Q : Option Value → gH → Prop}
/-- a virtual call that finds a body inherited or overriding: x is what the call names, the callee's own name y -/
def gCu (own : String) (idx ci : Nat) (x : MethodName) (M2 : gM) (n : Nat) : Prop := ∃ (C owner : String) (b0 : ByteArray) (m0 : Nat) (r0 : Option FieldType), (vwCl[ci]?).map (fun q => q.1) = some C ∧ Cond.code M2.2.1 M2.2.2.1 M2.2.2.2.1 M2.2.2.2.2 ∈ gT ∧ Cond.initialized M2.2.1.cls ∈ gT ∧ Cond.methodLink own idx x ∈ gT ∧ Cond.sameMethod x.cls owner x.name x.desc ∈ gT ∧ Cond.selects C x M2.2.1 ∈ gT ∧ Cond.instanceMethod M2.2.1 ∈ gT ∧ Cond.instanceMethod ⟨owner, x.name, x.desc⟩ ∈ gT ∧ Cond.code ⟨owner, x.name, x.desc⟩ b0 m0 r0 ∈ gT ∧ (owner ≠ "java/lang/invoke/MethodHandle" ∧ owner ≠ "java/lang/invoke/VarHandle" ∧ (parseMethodDescriptor x.desc).map (fun d => d.parameters.length) = some n) ∧ M2.2.2.2.1 ≤ 45
theorem g_callU {M2 : gM} {x : MethodName} {idx ci n b : Nat} {fs as : List Value} {mc1 ms1 : Nat} {Q1 : Option Value → gH → Prop} (F : gCu M.1 idx ci x M2 n) (hdg : decode M.2.2.1 pc = .ok (.invokevirtual idx, 3)) (hat : gat h b = some (.inr (ci, fs))) (hn : as.length = n) (hcat : (st.map fun v => v.category).sum ≤ 8) (hcm : kc + mc1 ≤ mc) (hsm : kn + ms1 ≤ ms)
    (hM : T M2 d mc1 ms1 (.ref b :: as) h Q1) (kk : ∀ (r : Option Value) (h' : gH), Q1 r h' → G M (d + 1) mc ms (kc + mc1) (kn + ms1) (pc + 3) lv (r.toList ++ st) h' Q) : G M (d + 1) mc ms kc kn pc lv (as.reverse ++ .ref b :: st) h Q := by
  intro l E D cA p e s m args below meth c X H locs ls hI hS hl
  obtain ⟨C, owner, b0, m0, r0, w0, w1, w2, w3, w4, w5, w6, w6b, w7, w8, w9⟩ := F
  have hts := X.2.2.2.2.2.1
  obtain ⟨cq, hcq, hcn⟩ : ∃ cq : vw_C, vwCl[ci]? = some cq ∧ cq.1 = C := by
    cases hc : vwCl[ci]? with
    | none => rw [hc] at w0; cases w0
    | some cq => rw [hc] at w0; exact ⟨cq, rfl, Option.some.inj w0⟩
  have hrec := va_recv X.2.2.2.2.2.2.2.1 hI.2 hcq (gW_get (E := E) (cA := cA) hat)
  rw [hcn] at hrec
  have hG : GoodIn (gWs M) (va_wsO M.1 idx C owner x M2.2.1 (gWs M2)) := by
    intro w hw
    unfold va_wsO at hw
    rcases List.mem_append.mp hw with q | q
    · simp only [List.mem_cons, List.not_mem_nil, or_false] at q
      rcases q with rfl | rfl | rfl | rfl | rfl | rfl
      · exact gGood1 w3
      · exact gGood1 w4
      · exact gGood1 w6b
      · exact gGood1 w5
      · exact gGood1 w6
      · exact gGood1 w2
    · exact gGood w1 w q
  rw [gRev]
  refine g_back (st := st) X hS hl (va_runU (As := as.map (gV E)) (rest := st.map (gV E)) (b := gA E b) (n := n) (C := C) (owner := owner) (x := x) (ws := gWs M2) (Ts := gWs M) (cc := M.2.2.1) (nL := M.2.2.2.1) (own := M.1) (index := idx) (rm := gRm d mc1 ms1) (Pc := gPc E D cA (.ref b :: as) h) ⟨X.1, X.2.1, X.2.2.2.1, X.2.2.2.2.1, hts⟩ (hM l E D cA) (va_cwO n hts hG rfl rfl rfl (List.mem_cons_of_mem _ w7) w8 (gRoom w9)) ⟨gBlind, hrec, fun U hU hW => gPre X hI hS U hU hW⟩ rfl (by rw [List.length_map]; exact hn) hl.1 rfl (lv_room (by rw [gCat]; exact hcat)) hdg ⟨hcm, hsm⟩) kk
/-- super.m(..): own's class above it -/
def gCp (own : String) (idx : Nat) (M2 : gM) (n : Nat) : Prop := Cond.code M2.2.1 M2.2.2.1 M2.2.2.2.1 M2.2.2.2.2 ∈ gT ∧ Cond.initialized M2.2.1.cls ∈ gT ∧ Cond.methodLink own idx M2.2.1 ∈ gT ∧ Cond.sameMethod M2.2.1.cls M2.2.1.cls M2.2.1.name M2.2.1.desc ∈ gT ∧ Cond.superclass own M2.2.1.cls ∈ gT ∧ Cond.instanceMethod M2.2.1 ∈ gT ∧ (M2.2.1.name ≠ "<init>" ∧ (parseMethodDescriptor M2.2.1.desc).map (fun d => d.parameters.length) = some n) ∧ M2.2.2.2.1 ≤ 45
theorem g_callP {M2 : gM} {idx ci n b : Nat} {fs as : List Value} {mc1 ms1 : Nat} {Q1 : Option Value → gH → Prop} (F : gCp M.1 idx M2 n) (hdg : decode M.2.2.1 pc = .ok (.invokespecial idx, 3)) (hat : gat h b = some (.inr (ci, fs))) (hci : ci < vwCl.length) (hn : as.length = n) (hcat : (st.map fun v => v.category).sum ≤ 8) (hcm : kc + mc1 ≤ mc) (hsm : kn + ms1 ≤ ms)
    (hM : T M2 d mc1 ms1 (.ref b :: as) h Q1) (kk : ∀ (r : Option Value) (h' : gH), Q1 r h' → G M (d + 1) mc ms (kc + mc1) (kn + ms1) (pc + 3) lv (r.toList ++ st) h' Q) : G M (d + 1) mc ms kc kn pc lv (as.reverse ++ .ref b :: st) h Q := by
  intro l E D cA p e s m args below meth c X H locs ls hI hS hl
  obtain ⟨w1, w2, w3, w4, w5, w6, w7, w8⟩ := F
  have hts := X.2.2.2.2.2.1
  obtain ⟨cq, hcq⟩ : ∃ cq : vw_C, vwCl[ci]? = some cq := ⟨_, List.getElem?_eq_getElem hci⟩
  have hrec := va_recv X.2.2.2.2.2.2.2.1 hI.2 hcq (gW_get (E := E) (cA := cA) hat)
  have hat2 := (X.2.2.2.2.2.2.2.1.1 ci cq hcq).2
  have hG : GoodIn (gWs M) (va_wsSU M.1 idx M2.2.1 (gWs M2)) := by
    intro w hw
    unfold va_wsSU at hw
    rcases List.mem_append.mp hw with q | q
    · simp only [List.mem_cons, List.not_mem_nil, or_false] at q
      rcases q with rfl | rfl | rfl | rfl | rfl
      · exact gGood1 w3
      · exact gGood1 w4
      · exact gGood1 w5
      · exact gGood1 w6
      · exact gGood1 w2
    · exact gGood w1 w q
  rw [gRev]
  refine g_back (st := st) X hS hl (va_runSU (As := as.map (gV E)) (rest := st.map (gV E)) (b := gA E b) (n := n) (C := cq.1) (ws := gWs M2) (Ts := gWs M) (cc := M.2.2.1) (nL := M.2.2.2.1) (own := M.1) (index := idx) (rm := gRm d mc1 ms1) (Pc := gPc E D cA (.ref b :: as) h) hat2 ⟨X.1, X.2.1, X.2.2.2.1, X.2.2.2.2.1, hts⟩ (hM l E D cA) (va_cwSU n hts hG rfl rfl rfl w7 (gRoom w8)) ⟨gBlind, hrec, fun U hU hW => gPre X hI hS U hU hW⟩ rfl (by rw [List.length_map]; exact hn) hl.1 rfl (lv_room (by rw [gCat]; exact hcat)) hdg ⟨hcm, hsm⟩) kk
/-! private members of nest mates -/
def gCn (own : String) (idx : Nat) (M2 : gM) (n : Nat) : Prop := Cond.code M2.2.1 M2.2.2.1 M2.2.2.2.1 M2.2.2.2.2 ∈ gT ∧ Cond.initialized M2.2.1.cls ∈ gT ∧ (own, idx, M2.2.1, "HillRider") ∈ gNest ∧ (M2.2.1.cls ≠ "java/lang/invoke/MethodHandle" ∧ M2.2.1.cls ≠ "java/lang/invoke/VarHandle" ∧ (parseMethodDescriptor M2.2.1.desc).map (fun d => d.parameters.length) = some n) ∧ M2.2.2.2.1 ≤ 45
theorem g_callSN {M2 : gM} {idx n : Nat} {as : List Value} {mc1 ms1 : Nat} {Q1 : Option Value → gH → Prop} (F : gCn M.1 idx M2 n ∧ Cond.static M2.2.1 ∈ gT) (hdg : decode M.2.2.1 pc = .ok (.invokestatic idx, 3)) (hn : as.length = n) (hcat : (st.map fun v => v.category).sum ≤ 8) (hcm : kc + mc1 ≤ mc) (hsm : kn + ms1 ≤ ms)
    (hM : T M2 d mc1 ms1 as h Q1) (kk : ∀ (r : Option Value) (h' : gH), Q1 r h' → G M (d + 1) mc ms (kc + mc1) (kn + ms1) (pc + 3) lv (r.toList ++ st) h' Q) : G M (d + 1) mc ms kc kn pc lv (as.reverse ++ st) h Q := by
  intro l E D cA p e s m args below meth c X H locs ls hI hS hl
  obtain ⟨⟨w1, w2, w3, w4, w5⟩, w6⟩ := F
  have hts := X.2.2.2.2.2.1
  rw [gRev]
  refine g_back (st := st) X hS hl (va_runSN (As := as.map (gV E)) (rest := st.map (gV E)) (n := n) (ws := gWs M2) (Ts := gWs M) (cc := M.2.2.1) (nL := M.2.2.2.1) (own := M.1) (index := idx) (host := "HillRider") (rm := gRm d mc1 ms1) (Pc := gPc E D cA as h) ⟨X.1, X.2.1, X.2.2.2.1, X.2.2.2.2.1, hts⟩ (hM l E D cA) ⟨va_cnB n hts (gGood w1) rfl rfl rfl (X.2.2.2.2.2.2.2.2.1.2.2.2.2 _ w3) (hts _ (List.mem_cons_of_mem _ w2)) w4 (gRoom w5), hts _ (List.mem_cons_of_mem _ w6), trivial⟩ ⟨gBlind, fun U hU hW => gPre X hI hS U hU hW⟩ rfl (by rw [List.length_map]; exact hn) hl.1 rfl (lv_room (by rw [gCat]; exact hcat)) hdg ⟨hcm, hsm⟩) kk
theorem g_callIN {M2 : gM} {idx n b : Nat} {as : List Value} {mc1 ms1 : Nat} {Q1 : Option Value → gH → Prop} (F : gCn M.1 idx M2 n ∧ Cond.instanceMethod M2.2.1 ∈ gT ∧ M2.2.1.name = "<init>" ∧ M2.2.2.2.2 = none) (hdg : decode M.2.2.1 pc = .ok (.invokespecial idx, 3)) (hn : as.length = n) (hcat : (st.map fun v => v.category).sum ≤ 8) (hcm : kc + mc1 ≤ mc) (hsm : kn + ms1 ≤ ms)
    (hM : T M2 d mc1 ms1 (.ref b :: as) h Q1) (kk : ∀ (r : Option Value) (h' : gH), Q1 r h' → G M (d + 1) mc ms (kc + mc1) (kn + ms1) (pc + 3) lv (r.toList ++ st) h' Q) : G M (d + 1) mc ms kc kn pc lv (as.reverse ++ .ref b :: st) h Q := by
  intro l E D cA p e s m args below meth c X H locs ls hI hS hl
  obtain ⟨⟨w1, w2, w3, w4, w5⟩, w6, w7, w8⟩ := F
  have hts := X.2.2.2.2.2.1
  rw [gRev]
  refine g_back (st := st) X hS hl (va_runIN (As := as.map (gV E)) (rest := st.map (gV E)) (b := gA E b) (n := n) (ws := gWs M2) (Ts := gWs M) (cc := M.2.2.1) (nL := M.2.2.2.1) (own := M.1) (index := idx) (host := "HillRider") (rm := gRm d mc1 ms1) (Pc := gPc E D cA (.ref b :: as) h) ⟨X.1, X.2.1, X.2.2.2.1, X.2.2.2.2.1, hts⟩ (hM l E D cA) ⟨va_cnB n hts (gGood w1) (by rw [← w8]) rfl rfl (X.2.2.2.2.2.2.2.2.1.2.2.2.2 _ w3) (hts _ (List.mem_cons_of_mem _ w2)) w4 (gRoom w5), w7, hts _ (List.mem_cons_of_mem _ w6)⟩ ⟨gBlind, fun U hU hW => gPre X hI hS U hU hW⟩ rfl (by rw [List.length_map]; exact hn) hl.1 rfl (lv_room (by rw [gCat]; exact hcat)) hdg ⟨hcm, hsm⟩) kk
theorem g_callVN {M2 : gM} {idx ci n b : Nat} {fs as : List Value} {mc1 ms1 : Nat} {Q1 : Option Value → gH → Prop} (F : gCn M.1 idx M2 n ∧ Cond.instanceMethod M2.2.1 ∈ gT ∧ Cond.selects M2.2.1.cls M2.2.1 M2.2.1 ∈ gT ∧ (vwCl[ci]?).map (fun q => q.1) = some M2.2.1.cls) (hdg : decode M.2.2.1 pc = .ok (.invokevirtual idx, 3)) (hat : gat h b = some (.inr (ci, fs))) (hn : as.length = n) (hcat : (st.map fun v => v.category).sum ≤ 8) (hcm : kc + mc1 ≤ mc) (hsm : kn + ms1 ≤ ms)
    (hM : T M2 d mc1 ms1 (.ref b :: as) h Q1) (kk : ∀ (r : Option Value) (h' : gH), Q1 r h' → G M (d + 1) mc ms (kc + mc1) (kn + ms1) (pc + 3) lv (r.toList ++ st) h' Q) : G M (d + 1) mc ms kc kn pc lv (as.reverse ++ .ref b :: st) h Q := by
  intro l E D cA p e s m args below meth c X H locs ls hI hS hl
  obtain ⟨⟨w1, w2, w3, w4, w5⟩, w6, w7, w8⟩ := F
  have hts := X.2.2.2.2.2.1
  obtain ⟨cq, hcq, hcn⟩ : ∃ cq : vw_C, vwCl[ci]? = some cq ∧ cq.1 = M2.2.1.cls := by
    cases hc : vwCl[ci]? with
    | none => rw [hc] at w8; cases w8
    | some cq => rw [hc] at w8; exact ⟨cq, rfl, Option.some.inj w8⟩
  have hrec := va_recv X.2.2.2.2.2.2.2.1 hI.2 hcq (gW_get (E := E) (cA := cA) hat)
  rw [hcn] at hrec
  rw [gRev]
  refine g_back (st := st) X hS hl (va_runVN (As := as.map (gV E)) (rest := st.map (gV E)) (b := gA E b) (n := n) (C := M2.2.1.cls) (ws := gWs M2) (Ts := gWs M) (cc := M.2.2.1) (nL := M.2.2.2.1) (own := M.1) (index := idx) (host := "HillRider") (rm := gRm d mc1 ms1) (Pc := gPc E D cA (.ref b :: as) h) ⟨X.1, X.2.1, X.2.2.2.1, X.2.2.2.2.1, hts⟩ (hM l E D cA) ⟨va_cnB n hts (gGood w1) rfl rfl rfl (X.2.2.2.2.2.2.2.2.1.2.2.2.2 _ w3) (hts _ (List.mem_cons_of_mem _ w2)) w4 (gRoom w5), hts _ (List.mem_cons_of_mem _ w6), hts _ (List.mem_cons_of_mem _ w7)⟩ ⟨gBlind, hrec, fun U hU hW => gPre X hI hS U hU hW⟩ rfl (by rw [List.length_map]; exact hn) hl.1 rfl (lv_room (by rw [gCat]; exact hcat)) hdg ⟨hcm, hsm⟩) kk
/-! null -/
theorem g_aload_nN {i : Fin 4} (hdg : decode M.2.2.1 pc = .ok (.aload_n i, 1)) (hv : lv[(i : Nat)]? = some (some .null)) (kk : G M d mc ms kc kn (pc + 1) lv (.null :: st) h Q) : G M d mc ms kc kn pc lv st h Q := by
  intro l E D cA p e s m args below meth c X H locs ls hI hS hl
  exact lv_aload_nN X.1 X.2.1 hdg rfl (hl.2.2 i _ hv) (kk l E D cA p e s m args below meth c X H locs ls hI hS hl)
theorem g_aloadN {i : Nat} (hdg : decode M.2.2.1 pc = .ok (.aload i, 2)) (hv : lv[i]? = some (some .null)) (kk : G M d mc ms kc kn (pc + 2) lv (.null :: st) h Q) : G M d mc ms kc kn pc lv st h Q := by
  intro l E D cA p e s m args below meth c X H locs ls hI hS hl
  exact lv_aloadN X.1 X.2.1 hdg (hl.2.2 i _ hv) (kk l E D cA p e s m args below meth c X H locs ls hI hS hl)
theorem g_astore_nN {i : Fin 4} (hdg : decode M.2.2.1 pc = .ok (.astore_n i, 1)) (hn : (i : Nat) < M.2.2.2.1) (kk : G M d mc ms kc kn (pc + 1) (gSet1 lv i .null) st h Q) : G M d mc ms kc kn pc lv (.null :: st) h Q := by
  intro l E D cA p e s m args below meth c X H locs ls hI hS hl
  exact lv_astore_nN X.1 X.2.1 hdg rfl hl.has hn rfl (fun ls2 hl2 => kk l E D cA p e s m args below meth c X H locs ls2 hI hS (gLv.set1 (v := .null) hl2))
theorem g_astoreN {i : Nat} (hdg : decode M.2.2.1 pc = .ok (.astore i, 2)) (hn : i < M.2.2.2.1) (kk : G M d mc ms kc kn (pc + 2) (gSet1 lv i .null) st h Q) : G M d mc ms kc kn pc lv (.null :: st) h Q := by
  intro l E D cA p e s m args below meth c X H locs ls hI hS hl
  exact lv_astoreN X.1 X.2.1 hdg hl.has hn rfl (fun ls2 hl2 => kk l E D cA p e s m args below meth c X H locs ls2 hI hS (gLv.set1 (v := .null) hl2))
/-- references that may be null, by what they are -/
theorem g_aload_q {i : Fin 4} {r : Option Nat} (hdg : decode M.2.2.1 pc = .ok (.aload_n i, 1)) (hv : lv[(i : Nat)]? = some (some (va_rf r))) (kk : G M d mc ms kc kn (pc + 1) lv (va_rf r :: st) h Q) : G M d mc ms kc kn pc lv st h Q := by
  cases r with
  | none => exact g_aload_nN hdg hv kk
  | some a => exact g_aload_n hdg hv kk
theorem g_aloadq {i : Nat} {r : Option Nat} (hdg : decode M.2.2.1 pc = .ok (.aload i, 2)) (hv : lv[i]? = some (some (va_rf r))) (kk : G M d mc ms kc kn (pc + 2) lv (va_rf r :: st) h Q) : G M d mc ms kc kn pc lv st h Q := by
  cases r with
  | none => exact g_aloadN hdg hv kk
  | some a => exact g_aload hdg hv kk
theorem g_astore_q {i : Fin 4} {r : Option Nat} (hdg : decode M.2.2.1 pc = .ok (.astore_n i, 1)) (hn : (i : Nat) < M.2.2.2.1) (kk : G M d mc ms kc kn (pc + 1) (gSet1 lv i (va_rf r)) st h Q) : G M d mc ms kc kn pc lv (va_rf r :: st) h Q := by
  cases r with
  | none => exact g_astore_nN hdg hn kk
  | some a => exact g_astore_n hdg hn kk
theorem g_astoreq {i : Nat} {r : Option Nat} (hdg : decode M.2.2.1 pc = .ok (.astore i, 2)) (hn : i < M.2.2.2.1) (kk : G M d mc ms kc kn (pc + 2) (gSet1 lv i (va_rf r)) st h Q) : G M d mc ms kc kn pc lv (va_rf r :: st) h Q := by
  cases r with
  | none => exact g_astoreN hdg hn kk
  | some a => exact g_astore hdg hn kk
theorem g_ifnullN {off : Int} {tgt : Nat} (hdg : decode M.2.2.1 pc = .ok (.ifnull off, 3)) (ht : (pc : Int) + off = (tgt : Int)) (kk : G M d mc ms kc kn tgt lv st h Q) : G M d mc ms kc kn pc lv (.null :: st) h Q := by
  intro l E D cA p e s m args below meth c X H locs ls hI hS hl
  exact lv_ifnullN X.1 X.2.1 hdg ht (kk l E D cA p e s m args below meth c X H locs ls hI hS hl)
theorem g_ifnonnullN {off : Int} (hdg : decode M.2.2.1 pc = .ok (.ifnonnull off, 3)) (kk : G M d mc ms kc kn (pc + 3) lv st h Q) : G M d mc ms kc kn pc lv (.null :: st) h Q := by
  intro l E D cA p e s m args below meth c X H locs ls hI hS hl
  exact lv_ifnonnullN X.1 X.2.1 hdg (kk l E D cA p e s m args below meth c X H locs ls hI hS hl)
theorem g_ifnullq {r : Option Nat} {off : Int} {tgt : Nat} (hdg : decode M.2.2.1 pc = .ok (.ifnull off, 3)) (ht : (pc : Int) + off = (tgt : Int)) (kt : r = none → G M d mc ms kc kn tgt lv st h Q) (kf : ¬ r = none → G M d mc ms kc kn (pc + 3) lv st h Q) : G M d mc ms kc kn pc lv (va_rf r :: st) h Q := by
  cases r with
  | none => exact g_ifnullN hdg ht (kt rfl)
  | some a => exact g_ifnull hdg (kf (fun q => by cases q))
theorem g_ifnonnullq {r : Option Nat} {off : Int} {tgt : Nat} (hdg : decode M.2.2.1 pc = .ok (.ifnonnull off, 3)) (ht : (pc : Int) + off = (tgt : Int)) (kt : ¬ r = none → G M d mc ms kc kn tgt lv st h Q) (kf : r = none → G M d mc ms kc kn (pc + 3) lv st h Q) : G M d mc ms kc kn pc lv (va_rf r :: st) h Q := by
  cases r with
  | none => exact g_ifnonnullN hdg (kf rfl)
  | some a => exact g_ifnonnull hdg ht (kt (fun q => by cases q))
/-! a reference into the row of ways -/
def gWays : List Nat := [0, 1, 2, 3, 8, 9, 10]
theorem g_aastS {a n v ci : Nat} {fs : List Value} {f : Nat → Option Nat} {i : Int32} (hdg : decode M.2.2.1 pc = .ok (.aastore, 1)) (hat : gat h a = some (.inl (3, n, .inr (.inr (.inr (.inr f)))))) (hv : gat h v = some (.inr (ci, fs))) (hci : ci ∈ gWays) (hin : vp_in i n) (kk : G M d mc ms kc kn (pc + 1) lv st (gput h a (.inl (3, n, .inr (.inr (.inr (.inr (va_up f i.toNatClampNeg (some v)))))))) Q) : G M d mc ms kc kn pc lv (.ref v :: .int i :: .ref a :: st) h Q := by
  intro l E D cA p e s m args below meth c X H locs ls hI hS hl
  have ha := gW_get (E := E) (cA := cA) hat
  have hlt : i.toNatClampNeg < n := Nat.not_le.mp fun q => hin (Or.inr q)
  have h0 : ¬ i < 0 := fun q => hin (Or.inl q)
  have hK := X.2.2.2.2.2.2.2.1
  obtain ⟨cq, hcq, hy⟩ : ∃ cq : vw_C, vwCl[ci]? = some cq ∧ (cq.1, "HillRider$Way") ∈ gYes := by
    simp only [gWays, List.mem_cons, List.not_mem_nil, or_false] at hci
    rcases hci with rfl | rfl | rfl | rfl | rfl | rfl | rfl <;> exact ⟨_, rfl, by decide +kernel⟩
  obtain ⟨c1, t1, y1, y2, y3⟩ := X.2.2.2.2.2.2.2.2.1.2.2.1 _ hy
  have hr : va_Any "HillRider$Way" s H (gA E v) := va_rAny hK hI.2 (gW_get (E := E) (cA := cA) hv) hcq (fun comp c0 q1 q2 => by
    cases Option.some.inj (q1.symm.trans y2)
    cases Option.some.inj (q2.symm.trans y1)
    exact y3)
  obtain ⟨cellV, g1, g3, ⟨kC, hkC⟩, hasg⟩ := hr
  obtain ⟨kA, comp, k1, k2, k3, -⟩ := (hK.2 3 _ rfl).2
  obtain ⟨kE, hkE, -⟩ := Vm.findClass_spec k3
  refine W.aast X.1 X.2.1 (hI.2 _ _ ha) (fun q h => by cases h) (fun h => by cases h) k1 k2 rfl hkE ⟨h0, by show _ < (arrV _ _ _).slots.size; rw [arrV_size]; exact hlt⟩ g1 (fun q h => by rw [h] at g3; cases g3) hkC (hasg _ k3) rfl rfl hdg fun H1 e1 z oq => ?_
  refine kk l E D cA p e s m args below meth c X H1 _ ls (hI.put hat ?_ z oq) (hS.put z oq (gA_ge (gat_ge hat))) hl
  show H1[gA E a]? = some (vp_cell _ _)
  rw [e1]
  show some ((vp_cell (cA 3) (n, .inr (.inr (.inr (.inr fun j => (f j).map (gA E)))))).setSlot _ _) = some (vp_cell (cA 3) (n, .inr (.inr (.inr (.inr _)))))
  rw [vp_cell_q, vp_cell_q, arrV_store]
  congr 2
  funext q
  by_cases hq : q = i.toNatClampNeg
  · subst hq
    simp [updV, va_up, va_rf]
  · simp [updV, va_up, hq]
theorem g_aastN {a n : Nat} {f : Nat → Option Nat} {i : Int32} (hdg : decode M.2.2.1 pc = .ok (.aastore, 1)) (hat : gat h a = some (.inl (3, n, .inr (.inr (.inr (.inr f)))))) (hin : vp_in i n) (kk : G M d mc ms kc kn (pc + 1) lv st (gput h a (.inl (3, n, .inr (.inr (.inr (.inr (va_up f i.toNatClampNeg none))))))) Q) : G M d mc ms kc kn pc lv (.null :: .int i :: .ref a :: st) h Q := by
  intro l E D cA p e s m args below meth c X H locs ls hI hS hl
  have ha := gW_get (E := E) (cA := cA) hat
  refine va_WaastN (C := "HillRider$Way") X.1 X.2.1 (hI.2 _ _ ha) ((X.2.2.2.2.2.2.2.1.2 3 _ rfl).1 n (fun j => va_rf ((f j).map (gA E)))) (fun h => by cases h) (by show ¬ (i < 0 ∨ (arrV _ _ _).slots.size ≤ _); rw [arrV_size]; exact hin) rfl rfl hdg fun H1 e1 z oq => ?_
  refine kk l E D cA p e s m args below meth c X H1 _ ls (hI.put hat ?_ z oq) (hS.put z oq (gA_ge (gat_ge hat))) hl
  show H1[gA E a]? = some (vp_cell _ _)
  rw [e1]
  show some ((vp_cell (cA 3) (n, .inr (.inr (.inr (.inr fun j => (f j).map (gA E)))))).setSlot _ _) = some (vp_cell (cA 3) (n, .inr (.inr (.inr (.inr _)))))
  rw [vp_cell_q, vp_cell_q, arrV_store]
  congr 2
  funext q
  by_cases hq : q = i.toNatClampNeg
  · subst hq
    simp [updV, va_up, va_rf]
  · simp [updV, va_up, hq]
/-! instanceof -/
theorem g_instY {a idx ci : Nat} {fs : List Value} {nm : String} (hw : Cond.classLink M.1 idx nm ∈ gT) (hdg : decode M.2.2.1 pc = .ok (.instanceof idx, 3)) (hat : gat h a = some (.inr (ci, fs))) (hci : ∃ q, vwCl[ci]? = some q ∧ ((q.1, nm) ∈ gYes ∨ q.1 = nm)) (kk : G M d mc ms kc kn (pc + 3) lv (.int 1 :: st) h Q) : G M d mc ms kc kn pc lv (.ref a :: st) h Q := by
  intro l E D cA p e s m args below meth c X H locs ls hI hS hl
  obtain ⟨cq, hcq, hy⟩ := hci
  have hrec := va_recv X.2.2.2.2.2.2.2.1 hI.2 hcq (gW_get (E := E) (cA := cA) hat)
  have hlk := X.2.2.2.2.2.1 _ (List.mem_cons_of_mem _ hw)
  rcases hy with hy | hy
  · exact va_instY X.1 X.2.1 X.2.2.2.2.1 hlk (X.2.2.2.2.2.2.2.2.1.2.2.1 _ hy).cast hrec hdg (kk l E D cA p e s m args below meth c X H locs ls hI hS hl)
  · rw [hy] at hrec
    exact va_instE X.1 X.2.1 X.2.2.2.2.1 hlk hrec hdg (kk l E D cA p e s m args below meth c X H locs ls hI hS hl)
theorem g_instN {a idx ci : Nat} {fs : List Value} {nm : String} (hw : Cond.classLink M.1 idx nm ∈ gT) (hdg : decode M.2.2.1 pc = .ok (.instanceof idx, 3)) (hat : gat h a = some (.inr (ci, fs))) (hci : ∃ q, vwCl[ci]? = some q ∧ (q.1, nm) ∈ gNot) (kk : G M d mc ms kc kn (pc + 3) lv (.int 0 :: st) h Q) : G M d mc ms kc kn pc lv (.ref a :: st) h Q := by
  intro l E D cA p e s m args below meth c X H locs ls hI hS hl
  obtain ⟨cq, hcq, hy⟩ := hci
  have hrec := va_recv X.2.2.2.2.2.2.2.1 hI.2 hcq (gW_get (E := E) (cA := cA) hat)
  exact va_instNo X.1 X.2.1 X.2.2.2.2.1 (X.2.2.2.2.2.1 _ (List.mem_cons_of_mem _ hw)) (X.2.2.2.2.2.2.2.2.1.2.1 _ hy) hrec hdg (kk l E D cA p e s m args below meth c X H locs ls hI hS hl)
/-! Math.max, Math.min -/
theorem g_max {idx : Nat} {x y : Int32} (hw : Cond.methodLink M.1 idx Lib.Math.max.name ∈ gT) (hw2 : Cond.static Lib.Math.max.name ∈ gT) (hw3 : Cond.initialized "java/lang/Math" ∈ gT) (hw4 : Cond.code Lib.Math.max.name Lib.Math.max.code 2 (some .int) ∈ gT) (hdg : decode M.2.2.1 pc = .ok (.invokestatic idx, 3)) (hcat : (st.map fun v => v.category).sum ≤ 8) (hcm : kc ≤ mc) (hsm : kn ≤ ms) (kk : G M (d + 1) mc ms kc kn (pc + 3) lv (.int (if x < y then y else x) :: st) h Q) : G M (d + 1) mc ms kc kn pc lv (.int y :: .int x :: st) h Q := by
  intro l E D cA p e s m args below meth c X H locs ls hI hS hl
  have hts := X.2.2.2.2.2.1
  exact va_mmax X.1 X.2.1 (X.2.2.2.1.trans hl.1.symm) X.2.2.2.2.1 (hts _ (List.mem_cons_of_mem _ hw)) (hts _ (List.mem_cons_of_mem _ hw2)) (hts _ (List.mem_cons_of_mem _ hw3)) (hts _ (List.mem_cons_of_mem _ hw4)) (by show 1 ≤ d + 1; omega) (by rw [gCat]; show _ ≤ 64 * (d + 1); omega) hcm hsm hdg (kk l E D cA p e s m args below meth c X H locs ls hI hS hl)
theorem g_min {idx : Nat} {x y : Int32} (hw : Cond.methodLink M.1 idx Lib.Math.min.name ∈ gT) (hw2 : Cond.static Lib.Math.min.name ∈ gT) (hw3 : Cond.initialized "java/lang/Math" ∈ gT) (hw4 : Cond.code Lib.Math.min.name Lib.Math.min.code 2 (some .int) ∈ gT) (hdg : decode M.2.2.1 pc = .ok (.invokestatic idx, 3)) (hcat : (st.map fun v => v.category).sum ≤ 8) (hcm : kc ≤ mc) (hsm : kn ≤ ms) (kk : G M (d + 1) mc ms kc kn (pc + 3) lv (.int (if y < x then y else x) :: st) h Q) : G M (d + 1) mc ms kc kn pc lv (.int y :: .int x :: st) h Q := by
  intro l E D cA p e s m args below meth c X H locs ls hI hS hl
  have hts := X.2.2.2.2.2.1
  exact va_mmin X.1 X.2.1 (X.2.2.2.1.trans hl.1.symm) X.2.2.2.2.1 (hts _ (List.mem_cons_of_mem _ hw)) (hts _ (List.mem_cons_of_mem _ hw2)) (hts _ (List.mem_cons_of_mem _ hw3)) (hts _ (List.mem_cons_of_mem _ hw4)) (by show 1 ≤ d + 1; omega) (by rw [gCat]; show _ ≤ 64 * (d + 1); omega) hcm hsm hdg (kk l E D cA p e s m args below meth c X H locs ls hI hS hl)
theorem g_iinc2 {i : Nat} {x w : Int32} {z : Int} (hdg : decode M.2.2.1 pc = .ok (.iinc i z, 3)) (hz : Int32.ofInt z = w) (hv : lv[i]? = some (some (.int x))) (hn : i < M.2.2.2.1) (kk : G M d mc ms kc kn (pc + 3) (gSet1 lv i (.int (x + w))) st h Q) : G M d mc ms kc kn pc lv st h Q := g_iinc hdg hv hn (hz ▸ kk)
theorem g_top {v w : Value} (e : v = w) (kk : G M d mc ms kc kn pc lv (w :: st) h Q) : G M d mc ms kc kn pc lv (v :: st) h Q := e ▸ kk
theorem g_lv {lv2 : List (Option Value)} (e : lv = lv2) (kk : G M d mc ms kc kn pc lv2 st h Q) : G M d mc ms kc kn pc lv st h Q := e ▸ kk
/-- fewer locals are known -/
def gLe : List (Option Value) → List (Option Value) → Prop
  | [], _ => True
  | none :: r, _ :: q => gLe r q
  | some v :: r, w :: q => w = some v ∧ gLe r q
  | _ :: _, [] => False
theorem gLe_get : ∀ (a b : List (Option Value)), gLe a b → ∀ (i : Nat) (v : Value), a[i]? = some (some v) → b[i]? = some (some v) := by
  intro a
  induction a with
  | nil => intro b _ i v q; simp at q
  | cons x r ih =>
    intro b hb i v q
    cases b with
    | nil => cases x <;> exact absurd hb (by simp [gLe])
    | cons w t =>
      cases x with
      | none =>
        cases i with
        | zero => simp at q
        | succ i => simpa using ih t hb i v (by simpa using q)
      | some y =>
        cases i with
        | zero =>
          have := hb.1
          simp at q
          subst q
          simp [this]
        | succ i => simpa using ih t hb.2 i v (by simpa using q)
theorem g_weak {lv2 : List (Option Value)} (e : gLe lv2 lv) (kk : G M d mc ms kc kn pc lv2 st h Q) : G M d mc ms kc kn pc lv st h Q := by
  intro l E D cA p e' s m args below meth c X H locs ls hI hS hl
  exact kk l E D cA p e' s m args below meth c X H locs ls hI hS ⟨hl.1, hl.2.1, fun i v q => hl.2.2 i v (gLe_get _ _ e i v q)⟩
end GMO
