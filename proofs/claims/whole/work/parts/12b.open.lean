/-- super.m(..) whose body stands further up -/
def gCpU (own : String) (idx : Nat) (up : String) (M2 : gM) (n : Nat) : Prop := Cond.code M2.2.1 M2.2.2.1 M2.2.2.2.1 M2.2.2.2.2 ∈ gT ∧ Cond.initialized M2.2.1.cls ∈ gT ∧ Cond.methodLink own idx ⟨up, M2.2.1.name, M2.2.1.desc⟩ ∈ gT ∧ Cond.sameMethod up M2.2.1.cls M2.2.1.name M2.2.1.desc ∈ gT ∧ Cond.superclass own up ∈ gT ∧ Cond.instanceMethod M2.2.1 ∈ gT ∧ Cond.superclass up M2.2.1.cls ∈ gT ∧ (M2.2.1.name ≠ "<init>" ∧ (parseMethodDescriptor M2.2.1.desc).map (fun d => d.parameters.length) = some n) ∧ M2.2.2.2.1 ≤ 45
section GPA
variable {p : Program} {l : Launch} {e : Env} {R : Room} {s : State} {m : MethodId} {args : Array Value} {below : List Frame} {meth : Method} {c : Code}
theorem u_callUp {T : State} {locs : List Loc} {cells slots : Nat} (X : Stand p l e R s m args below meth c T locs cells slots) (hexec : p.tables.exec = Jvm.exec) {own up : String} {index : Nat} {y : MethodName} {bytes : ByteArray} {maxL : Nat} {ret : Option FieldType}
    (hown : s.vm.findClass own = some m.cls) (hlink : (Cond.methodLink own index ⟨up, y.name, y.desc⟩).before args s = true) (hsame : (Cond.sameMethod up y.cls y.name y.desc).before args s = true) (hsup : (Cond.superclass own up).before args s = true) (hsup2 : (Cond.superclass up y.cls).before args s = true)
    (hinst : (Cond.instanceMethod y).before args s = true) (hcode : (Cond.code y bytes maxL ret).before args s = true) (hno : y.name ≠ "<init>")
    {W : Nat} {Pre : Pt → Array Value → Prop} {Post : Pt → Array Value → Option Value → Pt → Prop} (hK : Back l R p e below s args y 3 W Pre Post)
    {b : Addr} {cellB : Cell} {kB : Class} (hcell : T.heap[b]? = some cellB) (hobj : cellB.vm.isStatics = false) (hkB : s.vm.classes[cellB.cls]? = some kB)
    {g : JFrame} (hg : g.method = m) (hsize : g.locals.size = c.maxLocals) {argsL rest : List Value} (hlen : ∀ sig, parseMethodDescriptor y.desc = some sig → argsL.length = sig.parameters.length)
    (hstack : g.stack = argsL.reverse ++ .ref b :: rest) (hW : 2 * g.monitorRoom + (rest.map fun v => v.category).sum ≤ W) (hdg : decode c.code g.pc = .ok (.invokespecial index, 3))
    (hpre : ∀ vm₁, s.WarmedH vm₁ → Pre ⟨T.setVm vm₁, locs, cells, slots⟩ (Value.ref b :: argsL).toArray) :
    ∃ (v : Option Value) (vm₁ : Vm) (B : Pt), s.WarmedH vm₁ ∧ Stand p l e R s m args below meth c B.U B.locs B.cells B.slots ∧ Post ⟨T.setVm vm₁, locs, cells, slots⟩ (Value.ref b :: argsL).toArray v B ∧
      ∀ target, Steps p.tables e below (B.U.setTop { g with pc := g.pc + 3, stack := v.toList ++ rest }) target → Steps p.tables e below (T.setTop g) target := by
  obtain ⟨mk, methM, hnamed, hmethM, hstM, habM⟩ := Cond.instanceMethod_spec hinst
  obtain ⟨methM', cM, hmethM', -, -, -, -, -, -, hsigM⟩ := Cond.code_spec hnamed hcode
  cases hmethM.symm.trans hmethM'
  obtain ⟨ps, dk, kp, hps, hdk, hkp, hsuper, -, -, hnid⟩ := Cond.superclass_spec hown hsup
  obtain ⟨ps2, dk2, kp2, hps2, hdk2, hkp2, hsuper2, -, -, -⟩ := Cond.superclass_spec hps hsup2
  have hn : s.methodNamed? ⟨y.cls, y.name, y.desc⟩ = some mk := hnamed
  have hpm : ps2 = mk.cls := Option.some.inj (hps2.symm.trans (findClass_of_methodNamed hnamed))
  have hsz : ∃ k, s.vm.classes.size = k + 1 := by
    have := (Array.getElem?_eq_some_iff.mp hdk2).1
    exact ⟨s.vm.classes.size - 1, by omega⟩
  obtain ⟨k, hk⟩ := hsz
  have hsub : s.vm.isSubclass ps mk.cls = true := by
    rw [← hpm]
    unfold Vm.isSubclass
    rw [hk]
    simp [Vm.isSubclassAux, hdk2, hsuper2]
  obtain ⟨vm₁, X₁, hstep₁⟩ := X.invokespecialUp (x := ⟨up, y.name, y.desc⟩) hexec hown hlink hsame hn hmethM hstM habM hno hdk hnid hps hsuper hsub (a := b) (cell := cellB) hcell
    (fun z h => by rw [h] at hobj; cases hobj) hkB (g := g) hg (argsL := argsL) (rest := rest) (hlen _ hsigM) hstack hdg
  obtain ⟨v, B, X', hpost, hsteps⟩ := hK m meth c ⟨T.setVm vm₁, locs, cells, slots⟩ { g with stack := rest } (.invokespecial index) mk (Value.ref b :: argsL).toArray X₁ hg hsize hdg hW (X₁.named hnamed) (hpre vm₁ X₁.warmed)
  exact ⟨v, vm₁, B, X₁.warmed, X', hpost, fun target h => hstep₁ _ (by rw [doInvoke_state]; exact hsteps.trans h)⟩
variable {H : Heap} {locs : List Loc} {cells slots : Nat}
theorem u_runUp {y : MethodName} {bytes cc : ByteArray} {maxL nL mc ms n index : Nat} {ret : Option FieldType} {ws : List Cond} {rm : Room} {Pc : Array Value → State → Prop} {Qc : Array Value → State → Outcome → State → Prop} {free : Addr → Prop} {Ts : List Cond} {own up C : String} {cC : ClassId} {b : Addr} {As rest : List Value} {g : JFrame}
    (hat : ClassAt s C cC) (S : CallFix p m c cc nL s args Ts own) (hM : Met l y ws rm Pc Qc mc ms free)
    (cw : (rm.cells = mc ∧ rm.slots = ms ∧ rm.frames + 1 ≤ R.frames ∧ 8 + (maxL + 11) + rm.locals ≤ R.locals ∧ (∀ w ∈ ws, ∀ (a' : Array Value) (U : State), s.WarmedH U.vm → w.before a' U = true) ∧ Cond.code y bytes maxL ret ∈ ws) ∧ (Cond.methodLink own index ⟨up, y.name, y.desc⟩).before args s = true ∧ (Cond.sameMethod up y.cls y.name y.desc).before args s = true ∧ (Cond.superclass own up).before args s = true ∧ (Cond.superclass up y.cls).before args s = true ∧ (Cond.instanceMethod y).before args s = true ∧ (Cond.initialized y.cls).before args s = true ∧ (Cond.code y bytes maxL ret).before args s = true ∧ y.name ≠ "<init>" ∧ (∀ sig, parseMethodDescriptor y.desc = some sig → n = sig.parameters.length)) (hp : PreV s H C b Pc As)
    (hg : g.method = m) (hn : As.length = n) (hsize : g.locals.size = nL) (hstack : g.stack = As.reverse ++ .ref b :: rest) (hW : 2 * g.monitorRoom + (rest.map fun v => v.category).sum ≤ 8) (hdg : decode cc g.pc = .ok (.invokespecial index, 3)) (hf : cells + mc ≤ R.cells ∧ slots + ms ≤ R.slots) :
    va_Run p l e R s m args below meth c H locs cells slots mc ms g rest (Qc (Value.ref b :: As).toArray) (free) := by
  obtain ⟨⟨hrc, hrs, hfr, hlo, hws, hcw⟩, hl1, hl2, hl3, hl5, hl4, hini, hcode, hno, hlen⟩ := cw
  have hK : Back l R p e below s args y 3 8 (PreOf R mc ms Pc) (PostOf Qc mc ms free) := back_of (bytes := bytes) (maxL := maxL) (ret := ret) hM hp.1 hrc hrs hfr hlo hws hcw (fun a' U hW => word_at hW (Or.inl (by first | rfl | simp [Cond.onTables, Cond.keeps, Cond.steady])) hini)
  obtain ⟨hx, hb, hml, ho, -⟩ := S
  obtain ⟨-, ⟨cellB, hcB, hoB, hclB⟩, hPc⟩ := hp
  obtain ⟨hfc, kB, hkB, -⟩ := hat
  cases hfc.symm.trans hclB
  intro T hT X
  obtain ⟨v, vm₁, ⟨U', l2, c2, s2⟩, hW₁, X', ⟨g', mk, t, L, e1, e2, hq, h1, hL, h2, h3⟩, st⟩ := u_callUp X hx (bytes := bytes) (maxL := maxL) (ret := ret) ho hl1 hl2 hl3 hl5 hl4 hcode hno hK (by rw [hT]; exact hcB) hoB hkB hg (hsize.trans hml.symm) (argsL := As) (rest := rest) (fun sig h => hn.trans (hlen sig h)) hstack hW (by rw [hb]; exact hdg)
    (fun vm₁ hW₁ => ⟨hf.1, hf.2, hPc (T.setVm vm₁) hT hW₁⟩)
  dsimp only [Pt.U, Pt.locs, Pt.cells, Pt.slots] at X' e1 e2 h1 h2 h3 st
  subst h1; subst h2; subst h3
  exact ⟨v, (T.setVm vm₁).calling g' mk (Value.ref b :: As).toArray, t, U', L, hT, X', hL, e1, e2, hq, st⟩
end GPA
section GPU
variable {M : gM} {d mc ms kc kn pc : Nat} {lv : List (Option Value)} {st : List Value} {h : gH} {Q : Option Value → gH → Prop}
theorem g_callPU {up : String} {M2 : gM} {idx ci n b : Nat} {fs as : List Value} {mc1 ms1 : Nat} {Q1 : Option Value → gH → Prop} (F : gCpU M.1 idx up M2 n) (hdg : decode M.2.2.1 pc = .ok (.invokespecial idx, 3)) (hat : gat h b = some (.inr (ci, fs))) (hci : ci < vwCl.length) (hn : as.length = n) (hcat : (st.map fun v => v.category).sum ≤ 8) (hcm : kc + mc1 ≤ mc) (hsm : kn + ms1 ≤ ms)
    (hM : T M2 d mc1 ms1 (.ref b :: as) h Q1) (kk : ∀ (r : Option Value) (h' : gH), Q1 r h' → G M (d + 1) mc ms (kc + mc1) (kn + ms1) (pc + 3) lv (r.toList ++ st) h' Q) : G M (d + 1) mc ms kc kn pc lv (as.reverse ++ .ref b :: st) h Q := by
  intro l E D cA p e s m args below meth c X H locs ls hI hS hl
  obtain ⟨w1, w2, w3, w4, w5, w6, w9, w7, w8⟩ := F
  have hts := X.2.2.2.2.2.1
  obtain ⟨cq, hcq⟩ : ∃ cq : vw_C, vwCl[ci]? = some cq := ⟨_, List.getElem?_eq_getElem hci⟩
  have hrec := va_recv X.2.2.2.2.2.2.2.1 hI.2 hcq (gW_get (E := E) (cA := cA) hat)
  have hat2 := (X.2.2.2.2.2.2.2.1.1 ci cq hcq).2
  have hR := gRoom (d := d) (mc := mc) (ms := ms) (mc1 := mc1) (ms1 := ms1) w8
  have hG : GoodIn (gWs M) (gWs M2) := fun w q => gGood w1 w q
  have hcw : Cond.code M2.2.1 M2.2.2.1 M2.2.2.2.1 M2.2.2.2.2 ∈ gWs M2 := by
    have : ∃ ws', gWs M2 = Cond.code M2.2.1 M2.2.2.1 M2.2.2.2.1 M2.2.2.2.2 :: ws' := ⟨_, rfl⟩
    obtain ⟨ws', e⟩ := this
    rw [e]
    exact List.mem_cons_self
  have hone : ∀ w, w ∈ gT → w.before args s = true := fun w hw => hts w (gGood1 hw).1
  rw [gRev]
  refine g_back (st := st) X hS hl (u_runUp (up := up) (bytes := M2.2.2.1) (maxL := M2.2.2.2.1) (ret := M2.2.2.2.2) (As := as.map (gV E)) (rest := st.map (gV E)) (b := gA E b) (n := n) (C := cq.1) (ws := gWs M2) (Ts := gWs M) (cc := M.2.2.1) (nL := M.2.2.2.1) (own := M.1) (index := idx) (rm := gRm d mc1 ms1) (Pc := gPc E D cA (.ref b :: as) h) hat2 ⟨X.1, X.2.1, X.2.2.2.1, X.2.2.2.2.1, hts⟩ (hM l E D cA) ⟨⟨rfl, rfl, hR.1, hR.2, pay_in hts hG, hcw⟩, hone _ w3, hone _ w4, hone _ w5, hone _ w9, hone _ w6, hone _ w2, hts _ (hG _ hcw).1, w7.1, fun sig h => ?_⟩ ⟨gBlind, hrec, fun U hU hW => gPre X hI hS U hU hW⟩ rfl (by rw [List.length_map]; exact hn) hl.1 rfl (lv_room (by rw [gCat]; exact hcat)) hdg ⟨hcm, hsm⟩) kk
  have h2 := w7.2
  rw [h] at h2
  exact (Option.some.inj h2).symm
end GPU
