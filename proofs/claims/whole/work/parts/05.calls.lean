section GCL
variable {M : gM} {d mc ms kc kn pc : Nat} {lv : List (Option Value)} {st : List Value} {h : gH} {Q : Option Value → gH → Prop}
theorem gIs.push {E : gE} {D : va_G} {cA : Nat → ClassId} {H H1 : Heap} {c : gC} (hI : gIs E D cA h H) (hc : va_at D vwCl (H.size, gCe E cA c) H1) (z : H1.size = H.size + 1) (oq : ∀ q : Nat, q < H.size → H1[q]? = H[q]?) : gIs E D cA (h ++ [c]) H1 := by
  refine ⟨by rw [z, hI.1]; simp; omega, ?_⟩
  rw [← gW_push]
  refine va_P.app (hI.2.kept fun k q hq => oq _ (hI.2 k q hq).lt) (fun k q hq => ?_)
  have hz : k < 1 := (List.getElem?_eq_some_iff.mp hq).1
  rw [show k = 0 by omega] at hq
  cases hq
  rw [← hI.1]
  exact hc
theorem gS.push {E : gE} {H0 H H1 : Heap} {locs : List Loc} (hS : va_S (fun q => E.1 ≤ q) H0 H locs) (z : H1.size = H.size + 1) (oq : ∀ q : Nat, q < H.size → H1[q]? = H[q]?) : va_S (fun q => E.1 ≤ q) H0 H1 locs :=
  ⟨Nat.le_trans hS.1 (by omega), fun x h1 h2 => (oq x (Nat.lt_of_lt_of_le h1 hS.1)).trans (hS.2.1 x h1 h2), hS.2.2⟩
def gNw (own : String) (idx ci N : Nat) (fs : List Value) : Prop := ∃ (C : String) (T : u_T) (ty : Nat → FieldType), vwCl[ci]? = some (C, T, N) ∧ (∀ w ∈ u_ws C T N, w ∈ gT) ∧ (∀ k, k < N → parseFieldDescriptor (T k).2.2.1 = some (ty k)) ∧ Cond.classLink own idx C ∈ gT ∧ Cond.instantiable C N ∈ gT ∧ Cond.initialized C ∈ gT ∧ (∀ j, j < N → defaultValue (ty j) = vp_V fs j) ∧ ∀ E, fs.map (gV E) = fs
theorem gA_new {E : gE} {h : gH} : gA E (64 + h.length) = E.1 + h.length := by
  have : ¬ 64 + h.length < 64 := by omega
  simp [gA, this]
theorem g_new {idx ci N : Nat} {fs : List Value} (F : gNw M.1 idx ci N fs) (hdg : decode M.2.2.1 pc = .ok (.new idx, 3)) (hcm : kc + 1 ≤ mc) (hsm : kn + N ≤ ms) (kk : G M d mc ms (kc + 1) (kn + N) (pc + 3) lv (.ref (64 + h.length) :: st) (h ++ [.inr (ci, fs)]) Q) : G M d mc ms kc kn pc lv st h Q := by
  intro l E D cA p e s m args below meth c X H locs ls hI hS hl
  obtain ⟨C, T, ty, hc, hin, hty, w1, w2, w3, hfs, hcl⟩ := F
  have hts := X.2.2.2.2.2.1
  have hKn := X.2.2.2.2.2.2.2.1.1 ci _ hc
  refine W.newcK X.1 X.2.1 X.2.2.2.2.1 (hts _ (List.mem_cons_of_mem _ w1)) (hts _ (List.mem_cons_of_mem _ w2)) (hts _ (List.mem_cons_of_mem _ w3)) rfl hdg hcm hsm hKn.2.1 rfl fun H1 kC hkC e1 z1 o1 => ?_
  have k1 := kk l E D cA p e s m args below meth c X H1 locs ls (hI.push ?_ z1 o1) (gS.push hS z1 o1) hl
  · have e2 : (Value.ref H.size) = gV E (.ref (64 + h.length)) := by rw [hI.1]; show _ = Value.ref (gA E _); rw [gA_new]
    rw [e2]
    exact k1
  · refine ⟨_, hc, ?_⟩
    show t_OB H.size _ _ _ _ (vp_V (fs.map (gV E)))
    rw [hcl]
    exact (u_born ty hts (fun w hw => List.mem_cons_of_mem _ (hin w hw)) hKn hkC e1 hty).to hfs
theorem gArr_put {s : State} {cA0 cA : ClassId} {nm : String} (h1 : s.vm.findClass nm = some cA0) (h2 : s.vm.findClass nm = some cA) : cA0 = cA := Option.some.inj (h1.symm.trans h2)
theorem g_newI {n : Int32} {N : Nat} (hw : Cond.arrayClass .int ∈ gT) (hdg : decode M.2.2.1 pc = .ok (.newarray .int, 2)) (hn : ¬ n < 0) (hN : n.toNatClampNeg = N) (hb : N ≤ 100000) (hcm : kc + 1 ≤ mc) (hsm : kn + N ≤ ms) (kk : G M d mc ms (kc + 1) (kn + N) (pc + 2) lv (.ref (64 + h.length) :: st) (h ++ [.inl (0, N, .inl (fun _ => 0))]) Q) : G M d mc ms kc kn pc lv (.int n :: st) h Q := by
  intro l E D cA p e s m args below meth c X H locs ls hI hS hl
  have hts := X.2.2.2.2.2.1
  refine va_newaK (atype := .int) X.1 X.2.1 (hts _ (List.mem_cons_of_mem _ hw)) rfl hdg rfl hn hN (by show N * 4 ≤ _; omega) hcm hsm rfl fun H1 c1 e1 z1 o1 hAr hNm => ?_
  have hc1 : c1 = cA 0 := gArr_put hNm (X.2.2.2.2.2.2.2.1.2 0 _ rfl).2
  subst hc1
  have k1 := kk l E D cA p e s m args below meth c X H1 locs ls (hI.push ?_ z1 o1) (gS.push hS z1 o1) hl
  · have e2 : (Value.ref H.size) = gV E (.ref (64 + h.length)) := by rw [hI.1]; show _ = Value.ref (gA E _); rw [gA_new]
    show W _ _ _ _ _ _ _ _ _ _ _ _ _ _ _ (F0 m (pc + 2) ls (Value.ref H.size :: st.map (gV E)))
    rw [e2]
    exact k1
  · exact e1
theorem g_newL {n : Int32} {N : Nat} (hw : Cond.arrayClass .long ∈ gT) (hdg : decode M.2.2.1 pc = .ok (.newarray .long, 2)) (hn : ¬ n < 0) (hN : n.toNatClampNeg = N) (hb : N ≤ 100000) (hcm : kc + 1 ≤ mc) (hsm : kn + N ≤ ms) (kk : G M d mc ms (kc + 1) (kn + N) (pc + 2) lv (.ref (64 + h.length) :: st) (h ++ [.inl (1, N, .inr (.inl (fun _ => 0)))]) Q) : G M d mc ms kc kn pc lv (.int n :: st) h Q := by
  intro l E D cA p e s m args below meth c X H locs ls hI hS hl
  have hts := X.2.2.2.2.2.1
  refine va_newaK (atype := .long) X.1 X.2.1 (hts _ (List.mem_cons_of_mem _ hw)) rfl hdg rfl hn hN (by show N * 8 ≤ _; omega) hcm hsm rfl fun H1 c1 e1 z1 o1 hAr hNm => ?_
  have hc1 : c1 = cA 1 := gArr_put hNm (X.2.2.2.2.2.2.2.1.2 1 _ rfl).2
  subst hc1
  have k1 := kk l E D cA p e s m args below meth c X H1 locs ls (hI.push ?_ z1 o1) (gS.push hS z1 o1) hl
  · have e2 : (Value.ref H.size) = gV E (.ref (64 + h.length)) := by rw [hI.1]; show _ = Value.ref (gA E _); rw [gA_new]
    show W _ _ _ _ _ _ _ _ _ _ _ _ _ _ _ (F0 m (pc + 2) ls (Value.ref H.size :: st.map (gV E)))
    rw [e2]
    exact k1
  · exact e1
theorem g_newZ {n : Int32} {N : Nat} (hw : Cond.arrayClass .boolean ∈ gT) (hdg : decode M.2.2.1 pc = .ok (.newarray .boolean, 2)) (hn : ¬ n < 0) (hN : n.toNatClampNeg = N) (hb : N ≤ 100000) (hcm : kc + 1 ≤ mc) (hsm : kn + N ≤ ms) (kk : G M d mc ms (kc + 1) (kn + N) (pc + 2) lv (.ref (64 + h.length) :: st) (h ++ [.inl (2, N, .inl (fun _ => 0))]) Q) : G M d mc ms kc kn pc lv (.int n :: st) h Q := by
  intro l E D cA p e s m args below meth c X H locs ls hI hS hl
  have hts := X.2.2.2.2.2.1
  refine va_newaK (atype := .boolean) X.1 X.2.1 (hts _ (List.mem_cons_of_mem _ hw)) rfl hdg rfl hn hN (by show N * 1 ≤ _; omega) hcm hsm rfl fun H1 c1 e1 z1 o1 hAr hNm => ?_
  have hc1 : c1 = cA 2 := gArr_put hNm (X.2.2.2.2.2.2.2.1.2 2 _ rfl).2
  subst hc1
  have k1 := kk l E D cA p e s m args below meth c X H1 locs ls (hI.push ?_ z1 o1) (gS.push hS z1 o1) hl
  · have e2 : (Value.ref H.size) = gV E (.ref (64 + h.length)) := by rw [hI.1]; show _ = Value.ref (gA E _); rw [gA_new]
    show W _ _ _ _ _ _ _ _ _ _ _ _ _ _ _ (F0 m (pc + 2) ls (Value.ref H.size :: st.map (gV E)))
    rw [e2]
    exact k1
  · exact e1
theorem g_newW {idx : Nat} {n : Int32} {N : Nat} (hw : Cond.classLink M.1 idx "HillRider$Way" ∈ gT) (hdg : decode M.2.2.1 pc = .ok (.anewarray idx, 3)) (hn : ¬ n < 0) (hN : n.toNatClampNeg = N) (hb : N ≤ 100000) (hcm : kc + 1 ≤ mc) (hsm : kn + N ≤ ms) (kk : G M d mc ms (kc + 1) (kn + N) (pc + 3) lv (.ref (64 + h.length) :: st) (h ++ [.inl (3, N, .inr (.inr (.inr (.inr (fun _ => none)))))]) Q) : G M d mc ms kc kn pc lv (.int n :: st) h Q := by
  intro l E D cA p e s m args below meth c X H locs ls hI hS hl
  have hts := X.2.2.2.2.2.1
  subst hN
  refine W.anew X.1 X.2.1 X.2.2.2.2.1 (hts _ (List.mem_cons_of_mem _ hw)) (va_AO.use X.2.2.2.2.2.2.2.2.1.2.2.2.1) rfl hdg rfl hn (by omega) hcm hsm fun c1 kA comp f1 f2 f3 f4 => ?_
  generalize hH1 : H.push ({ cls := c1, slots := Array.replicate n.toNatClampNeg .null, vm := .none } : Cell) = H1
  have z1 : H1.size = H.size + 1 := by rw [← hH1, Array.size_push]
  have e1 : H1[H.size]? = some (arrV c1 n.toNatClampNeg (fun _ => .null)) := by rw [← hH1, Array.getElem?_push_size, ← arrV_new]
  have o1 : ∀ q : Nat, q < H.size → H1[q]? = H[q]? := fun q hq => by rw [← hH1, Array.getElem?_push, if_neg (Nat.ne_of_lt hq)]
  have hc1 : c1 = cA 3 := by
    obtain ⟨kA2, comp2, g1, g2, g3, g4⟩ := (X.2.2.2.2.2.2.2.1.2 3 _ rfl).2
    exact gArr_put f1 g4
  subst hc1
  have k1 := kk l E D cA p e s m args below meth c X H1 locs ls (hI.push ?_ z1 o1) (gS.push hS z1 o1) hl
  · have e2 : (Value.ref H.size) = gV E (.ref (64 + h.length)) := by rw [hI.1]; show _ = Value.ref (gA E _); rw [gA_new]
    show W _ _ _ _ _ _ _ _ _ _ _ _ _ _ _ (F0 m (pc + 3) ls (Value.ref H.size :: st.map (gV E)))
    rw [e2]
    exact k1
  · exact e1
/-! calls -/
theorem gBlind {E : gE} {D : va_G} {cA : Nat → ClassId} {as : List Value} : FrameBlind (gPc E D cA as h) := fun a U g mk q =>
  ⟨q.1, q.2.1, va_K.moved (u := U) (U := U.calling g mk a) (Vm.Alike.refl U.vm) q.2.2.1, gOldV.same (u := U) (U := U.calling g mk a) rfl q.2.2.2.1, gOldH.moved (u := U) (U := U.calling g mk a) (Vm.Alike.refl U.vm) q.2.2.2.2⟩
theorem gPre {l : Launch} {E : gE} {D : va_G} {cA : Nat → ClassId} {p : Program} {s : State} {m : MethodId} {args : Array Value} {meth : Method} {c : Code} {H : Heap} {locs : List Loc} {as : List Value} (X : gCx l E D cA M p s m args meth c) (hI : gIs E D cA h H) (hS : va_S (fun q => E.1 ≤ q) s.heap H locs) (U : State) (hU : U.heap = H) (hW : s.WarmedH U.vm) : gPc E D cA as h (as.map (gV E)).toArray U :=
  ⟨rfl, by rw [hU]; exact hI, va_K.moved hW.alike X.2.2.2.2.2.2.2.1, X.2.2.2.2.2.2.2.2.1.warm hW, by rw [hU]; exact (X.2.2.2.2.2.2.2.2.2.1.kept hS.2.1).moved hW.alike⟩
theorem g_back {l : Launch} {E : gE} {D : va_G} {cA : Nat → ClassId} {p : Program} {e : Env} {s : State} {m : MethodId} {args : Array Value} {below : List Frame} {meth : Method} {c : Code} {H : Heap} {locs : List Loc} {ls : Array Slot} {mc1 ms1 : Nat} {st0 : List Value} {a : Array Value} {Q1 : Option Value → gH → Prop}
    (X : gCx l E D cA M p s m args meth c) (hS : va_S (fun q => E.1 ≤ q) s.heap H locs) (hl : gLv E ls M.2.2.2.1 lv)
    (hr : va_Run p l e (gRm d mc ms) s m args below meth c H locs kc kn mc1 ms1 (F0 m pc ls st0) (st.map (gV E)) (gQc E D cA Q1 a) (fun q => E.1 ≤ q))
    (kk : ∀ (r : Option Value) (h' : gH), Q1 r h' → G M d mc ms (kc + mc1) (kn + ms1) (pc + 3) lv (r.toList ++ st) h' Q) : W p l e (gRm d mc ms) s m args below meth c H locs kc kn (MQ below (gQc E D cA Q) args s mc ms (fun q => E.1 ≤ q)) (F0 m pc ls st0) := by
  intro T hT X0
  obtain ⟨v, st₀, t, T', L, h0, X', hL, e1, e2, ⟨⟨r, h', hv, hq, hI'⟩, hz, hk⟩, stp⟩ := hr T hT X0
  cases hv
  rw [h0] at hz hk
  obtain ⟨t2, a1, b1⟩ := kk r h' hq l E D cA p e s m args below meth c X T'.heap (locs ++ L) ls (by rw [e1]; exact hI') ⟨Nat.le_trans hS.1 (by rw [e1]; exact hz), fun q h1 h2 => by rw [e1, hk q (Nat.lt_of_lt_of_le h1 hS.1) h2]; exact hS.2.1 q h1 h2, fun q hq => by
      rcases List.mem_append.mp hq with h | h
      · exact hS.2.2 q h
      · exact hL q h⟩ hl T' rfl X'
  refine ⟨t2, stp t2 ?_, b1⟩
  have e3 : (r.map (gV E)).toList ++ st.map (gV E) = (r.toList ++ st).map (gV E) := by cases r <;> rfl
  rw [e3]
  exact a1
/-- what every call asks of its callee -/
def gCa (own : String) (idx : Nat) (M2 : gM) (n : Nat) : Prop := Cond.code M2.2.1 M2.2.2.1 M2.2.2.2.1 M2.2.2.2.2 ∈ gT ∧ Cond.initialized M2.2.1.cls ∈ gT ∧ Cond.methodLink own idx M2.2.1 ∈ gT ∧ (M2.2.1.cls ≠ "java/lang/invoke/MethodHandle" ∧ M2.2.1.cls ≠ "java/lang/invoke/VarHandle" ∧ (parseMethodDescriptor M2.2.1.desc).map (fun d => d.parameters.length) = some n) ∧ M2.2.2.2.1 ≤ 45
theorem gRoom {M2 : gM} {d mc ms mc1 ms1 : Nat} (hm : M2.2.2.2.1 ≤ 45) : (gRm d mc1 ms1).frames + 1 ≤ (gRm (d + 1) mc ms).frames ∧ 8 + (M2.2.2.2.1 + 11) + (gRm d mc1 ms1).locals ≤ (gRm (d + 1) mc ms).locals := by
  constructor
  · exact Nat.le_refl _
  · show 8 + (M2.2.2.2.1 + 11) + 64 * d ≤ 64 * (d + 1)
    omega
theorem gCat {E : gE} : ((st.map (gV E)).map fun v => v.category).sum = (st.map fun v => v.category).sum := by
  rw [List.map_map]
  congr 1
  exact List.map_congr_left fun v _ => gV_cat E v
theorem gRev {E : gE} {as : List Value} : (as.reverse ++ st).map (gV E) = (as.map (gV E)).reverse ++ st.map (gV E) := by simp
def gCv (own : String) (idx ci : Nat) (M2 : gM) (n : Nat) : Prop := gCa own idx M2 n ∧ Cond.instanceMethod M2.2.1 ∈ gT ∧ Cond.selects M2.2.1.cls M2.2.1 M2.2.1 ∈ gT ∧ (vwCl[ci]?).map (fun q => q.1) = some M2.2.1.cls
theorem g_callV {M2 : gM} {idx ci n b : Nat} {fs as : List Value} {mc1 ms1 : Nat} {Q1 : Option Value → gH → Prop} (F : gCv M.1 idx ci M2 n) (hdg : decode M.2.2.1 pc = .ok (.invokevirtual idx, 3)) (hat : gat h b = some (.inr (ci, fs))) (hn : as.length = n) (hcat : (st.map fun v => v.category).sum ≤ 8) (hcm : kc + mc1 ≤ mc) (hsm : kn + ms1 ≤ ms)
    (hM : T M2 d mc1 ms1 (.ref b :: as) h Q1) (kk : ∀ (r : Option Value) (h' : gH), Q1 r h' → G M (d + 1) mc ms (kc + mc1) (kn + ms1) (pc + 3) lv (r.toList ++ st) h' Q) : G M (d + 1) mc ms kc kn pc lv (as.reverse ++ .ref b :: st) h Q := by
  intro l E D cA p e s m args below meth c X H locs ls hI hS hl
  obtain ⟨⟨w1, w2, w3, w4, w5⟩, w6, w7, w8⟩ := F
  have hts := X.2.2.2.2.2.1
  obtain ⟨cq, hcq, hcn⟩ : ∃ cq : vw_C, vwCl[ci]? = some cq ∧ cq.1 = M2.2.1.cls := by
    cases hc : vwCl[ci]? with
    | none => rw [hc] at w8; cases w8
    | some cq => rw [hc] at w8; exact ⟨cq, rfl, Option.some.inj w8⟩
  have hrec := va_recv X.2.2.2.2.2.2.2.1 hI.2 hcq (gW_get (E := E) (cA := cA) hat)
  rw [hcn] at hrec
  have hG : GoodIn (gWs M) (wsV M.1 idx M2.2.1.cls M2.2.1 (gWs M2)) := by
    intro w hw
    unfold wsV at hw
    rcases List.mem_append.mp hw with q | q
    · simp only [List.mem_cons, List.not_mem_nil, or_false] at q
      rcases q with rfl | rfl | rfl | rfl
      · exact gGood1 w3
      · exact gGood1 w6
      · exact gGood1 w7
      · exact gGood1 w2
    · exact gGood w1 w q
  rw [gRev]
  refine g_back (st := st) X hS hl (va_runV (As := as.map (gV E)) (rest := st.map (gV E)) (b := gA E b) (n := n) (C := M2.2.1.cls) (ws := gWs M2) (Ts := gWs M) (cc := M.2.2.1) (nL := M.2.2.2.1) (own := M.1) (index := idx) (rm := gRm d mc1 ms1) (Pc := gPc E D cA (.ref b :: as) h) ⟨X.1, X.2.1, X.2.2.2.1, X.2.2.2.2.1, hts⟩ (hM l E D cA) (cwV n hts hG rfl rfl rfl ⟨rfl, w4⟩ (gRoom w5)) ⟨gBlind, hrec, fun U hU hW => gPre X hI hS U hU hW⟩ rfl (by rw [List.length_map]; exact hn) hl.1 rfl (lv_room (by rw [gCat]; exact hcat)) hdg ⟨hcm, hsm⟩) kk
def gCs (own : String) (idx : Nat) (M2 : gM) (n : Nat) : Prop := gCa own idx M2 n ∧ Cond.static M2.2.1 ∈ gT
theorem g_callS {M2 : gM} {idx n : Nat} {as : List Value} {mc1 ms1 : Nat} {Q1 : Option Value → gH → Prop} (F : gCs M.1 idx M2 n) (hdg : decode M.2.2.1 pc = .ok (.invokestatic idx, 3)) (hn : as.length = n) (hcat : (st.map fun v => v.category).sum ≤ 8) (hcm : kc + mc1 ≤ mc) (hsm : kn + ms1 ≤ ms)
    (hM : T M2 d mc1 ms1 as h Q1) (kk : ∀ (r : Option Value) (h' : gH), Q1 r h' → G M (d + 1) mc ms (kc + mc1) (kn + ms1) (pc + 3) lv (r.toList ++ st) h' Q) : G M (d + 1) mc ms kc kn pc lv (as.reverse ++ st) h Q := by
  intro l E D cA p e s m args below meth c X H locs ls hI hS hl
  obtain ⟨⟨w1, w2, w3, w4, w5⟩, w6⟩ := F
  have hts := X.2.2.2.2.2.1
  have hG : GoodIn (gWs M) (va_wsS M.1 idx M2.2.1 (gWs M2)) := by
    intro w hw
    unfold va_wsS at hw
    rcases List.mem_append.mp hw with q | q
    · simp only [List.mem_cons, List.not_mem_nil, or_false] at q
      rcases q with rfl | rfl | rfl
      · exact gGood1 w3
      · exact gGood1 w6
      · exact gGood1 w2
    · exact gGood w1 w q
  rw [gRev]
  refine g_back (st := st) X hS hl (va_runS (As := as.map (gV E)) (rest := st.map (gV E)) (n := n) (ws := gWs M2) (Ts := gWs M) (cc := M.2.2.1) (nL := M.2.2.2.1) (own := M.1) (index := idx) (rm := gRm d mc1 ms1) (Pc := gPc E D cA as h) ⟨X.1, X.2.1, X.2.2.2.1, X.2.2.2.2.1, hts⟩ (hM l E D cA) (va_cwS n hts hG rfl rfl rfl w4 (gRoom w5)) ⟨gBlind, fun U hU hW => gPre X hI hS U hU hW⟩ rfl (by rw [List.length_map]; exact hn) hl.1 rfl (lv_room (by rw [gCat]; exact hcat)) hdg ⟨hcm, hsm⟩) kk
def gCi (own : String) (idx : Nat) (M2 : gM) (n : Nat) : Prop := gCa own idx M2 n ∧ Cond.instanceMethod M2.2.1 ∈ gT ∧ M2.2.1.name = "<init>" ∧ M2.2.2.2.2 = none
theorem g_callI {M2 : gM} {idx n b : Nat} {as : List Value} {mc1 ms1 : Nat} {Q1 : Option Value → gH → Prop} (F : gCi M.1 idx M2 n) (hdg : decode M.2.2.1 pc = .ok (.invokespecial idx, 3)) (hn : as.length = n) (hcat : (st.map fun v => v.category).sum ≤ 8) (hcm : kc + mc1 ≤ mc) (hsm : kn + ms1 ≤ ms)
    (hM : T M2 d mc1 ms1 (.ref b :: as) h Q1) (kk : ∀ (r : Option Value) (h' : gH), Q1 r h' → G M (d + 1) mc ms (kc + mc1) (kn + ms1) (pc + 3) lv (r.toList ++ st) h' Q) : G M (d + 1) mc ms kc kn pc lv (as.reverse ++ .ref b :: st) h Q := by
  intro l E D cA p e s m args below meth c X H locs ls hI hS hl
  obtain ⟨⟨w1, w2, w3, w4, w5⟩, w6, w7, w8⟩ := F
  have hts := X.2.2.2.2.2.1
  rw [gRev]
  refine g_back (st := st) X hS hl (va_runI (As := as.map (gV E)) (rest := st.map (gV E)) (b := gA E b) (n := n) (ws := gWs M2) (Ts := gWs M) (cc := M.2.2.1) (nL := M.2.2.2.1) (own := M.1) (index := idx) (rm := gRm d mc1 ms1) (Pc := gPc E D cA (.ref b :: as) h) ⟨X.1, X.2.1, X.2.2.2.1, X.2.2.2.2.1, hts⟩ (hM l E D cA) (cwI n hts (gGood w1) (by rw [← w8]) rfl rfl (hts _ (List.mem_cons_of_mem _ w2)) (hts _ (List.mem_cons_of_mem _ w3)) (hts _ (List.mem_cons_of_mem _ w6)) w7 w4 (gRoom w5)) ⟨gBlind, fun U hU hW => gPre X hI hS U hU hW⟩ rfl (by rw [List.length_map]; exact hn) hl.1 rfl (lv_room (by rw [gCat]; exact hcat)) hdg ⟨hcm, hsm⟩) kk
theorem g_objInit {idx a : Nat} (hw : Cond.methodLink M.1 idx objectInit ∈ gT) (hw2 : Cond.instanceMethod objectInit ∈ gT) (hw3 : Cond.code objectInit ⟨#[0xb1]⟩ 1 none ∈ gT) (hdg : decode M.2.2.1 pc = .ok (.invokespecial idx, 3)) (hcat : (st.map fun v => v.category).sum ≤ 8) (kk : G M (d + 1) mc ms kc kn (pc + 3) lv st h Q) : G M (d + 1) mc ms kc kn pc lv (.ref a :: st) h Q := by
  intro l E D cA p e s m args below meth c X H locs ls hI hS hl
  have hts := X.2.2.2.2.2.1
  have hm : 2 * (F0 m pc ls ((Value.ref a :: st).map (gV E))).monitorRoom + ((st.map (gV E)).map fun v => v.category).sum ≤ 8 := lv_room (by rw [gCat]; exact hcat)
  refine W.objInit X.1 X.2.1 X.2.2.2.2.1 (hts _ (List.mem_cons_of_mem _ hw)) (hts _ (List.mem_cons_of_mem _ hw2)) (hts _ (List.mem_cons_of_mem _ hw3)) rfl (by rw [X.2.2.2.1]; exact hl.1) rfl hdg (by show 1 ≤ d + 1; omega) (by show _ ≤ 64 * (d + 1); omega) ?_
  exact kk l E D cA p e s m args below meth c X H locs ls hI hS hl
end GCL
