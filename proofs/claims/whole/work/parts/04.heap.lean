section GHP
variable {M : gM} {d mc ms kc kn pc : Nat} {lv : List (Option Value)} {st : List Value} {h : gH} {Q : Option Value → gH → Prop}
theorem gA_ge {E : gE} {a : Nat} (q : ¬ a < 64) : E.1 ≤ gA E a := by simp [gA, q]
theorem gIs.put {E : gE} {D : va_G} {cA : Nat → ClassId} {H H1 : Heap} {a : Nat} {x c : gC} (hI : gIs E D cA h H) (hg : gat h a = some x) (hc : va_at D vwCl (gA E a, gCe E cA c) H1) (z : H1.size = H.size) (oq : ∀ q : Nat, q ≠ gA E a → H1[q]? = H[q]?) : gIs E D cA (gput h a c) H1 :=
  ⟨by rw [z, gput_len]; exact hI.1, by rw [← gW_set (gat_ge hg)]; exact hI.2.set (gW_D E cA h) (gW_get hg) hc oq⟩
/-- a field of an object: what the words say of it -/
def gFg (own : String) (idx ci kf : Nat) : Prop := ∃ (C : String) (T : u_T) (N : Nat) (ref : String), vwCl[ci]? = some (C, T, N) ∧ (∀ w ∈ u_ws C T N, w ∈ gT) ∧ kf < N ∧ Cond.fieldLink own idx ref (T kf).2.1 (T kf).2.2.1 ∈ gT ∧ (ref = (T kf).1 ∨ Cond.sameField ref (T kf).1 (T kf).2.1 (T kf).2.2.1 ∈ gT)
def gFp (own : String) (idx ci kf : Nat) (ty : FieldType) (fin : Bool) : Prop := ∃ (C : String) (T : u_T) (N : Nat) (ty0 : Nat → FieldType), vwCl[ci]? = some (C, T, N) ∧ (∀ w ∈ u_ws C T N, w ∈ gT) ∧ kf < N ∧ Cond.fieldLink own idx (T kf).1 (T kf).2.1 (T kf).2.2.1 ∈ gT ∧
  (∀ k, k < N → parseFieldDescriptor (T k).2.2.1 = some (ty0 k)) ∧ (∀ a, a < N → ∀ b, b < N → a ≠ b → (T a).2.1 ≠ (T b).2.1) ∧ parseFieldDescriptor (T kf).2.2.1 = some ty ∧ (T kf).2.2.2 = fin ∧ (fin = true → (T kf).1 = own)
theorem g_getf {a ci kf idx : Nat} {fs : List Value} {v : Value} (F : gFg M.1 idx ci kf) (hdg : decode M.2.2.1 pc = .ok (.getfield idx, 3)) (hat : gat h a = some (.inr (ci, fs))) (hv : fs[kf]? = some v) (kk : G M d mc ms kc kn (pc + 3) lv (v :: st) h Q) : G M d mc ms kc kn pc lv (.ref a :: st) h Q := by
  intro l E D cA p e s m args below meth c X H locs ls hI hS hl
  obtain ⟨C, T, N, ref, h1, h2, h3, h4, h5⟩ := F
  have hts := X.2.2.2.2.2.1
  refine va_get (C := C) (T := T) (N := N) (ref := ref) (index := idx) X.1 X.2.1 hts (fun w hw => List.mem_cons_of_mem _ (h2 w hw)) X.2.2.2.2.1 X.2.2.2.2.2.2.2.1 hI.2 (a - 64) (gW_get hat) h1 kf h3 (hts _ (List.mem_cons_of_mem _ h4)) ?_ (v := gV E v) ?_ hdg (kk l E D cA p e s m args below meth c X H locs ls hI hS hl)
  · intro x hx
    rcases h5 with rfl | h5
    · exact hx
    · exact u_same (hts _ (List.mem_cons_of_mem _ h5)) x hx
  · rw [List.getElem?_map, hv]; rfl
theorem g_putf {a ci kf idx : Nat} {fs : List Value} {v : Value} {ty : FieldType} (F : gFp M.1 idx ci kf ty false) (hdg : decode M.2.2.1 pc = .ok (.putfield idx, 3)) (hat : gat h a = some (.inr (ci, fs))) (hlen : kf < fs.length) (hn : ∀ E, narrow ty (gV E v) = gV E v) (hf : ∀ E, fits ty (gV E v) = true) (kk : G M d mc ms kc kn (pc + 3) lv st (gput h a (.inr (ci, fs.set kf v))) Q) : G M d mc ms kc kn pc lv (v :: .ref a :: st) h Q := by
  intro l E D cA p e s m args below meth c X H locs ls hI hS hl
  obtain ⟨C, T, N, ty0, hc, hin0, hk, hlk, hty, hnm, hd, hfin, -⟩ := F
  have hts := X.2.2.2.2.2.1
  have hin : ∀ w ∈ u_ws C T N, w ∈ gWs M := fun w hw => List.mem_cons_of_mem _ (hin0 w hw)
  have hlink := hts _ (List.mem_cons_of_mem _ hlk)
  have hK := X.2.2.2.2.2.2.2.1
  have hown := X.2.2.2.2.1
  have hap := va_apart (own := M.1) hts hin ty0 hty hnm hK hc
  have he := gW_get (E := E) (cA := cA) hat
  obtain ⟨r, h1, cell, q1, q2, q3, q4⟩ := hI.2 _ _ he
  have hr : r = (C, T, N) := Option.some.inj (h1.symm.trans hc)
  subst hr
  obtain ⟨hSl, hfc, kC, hkC, hkind⟩ := hK.1 ci _ hc
  obtain ⟨cf, kf2, fi, f, hi, hsl⟩ := hSl kf hk
  have hlay := hts _ (hin _ (u_in_lay hk))
  unfold u_lay at hlay
  rw [if_neg (by rw [hfin]; decide)] at hlay
  have hst := (u_facts hfc hkC (u_lays hts hin hk) hi).1
  have h6 := u_store hfc hkC hkind hlay hi hd (hn E) (hf E)
  refine W.putK X.1 X.2.1 (f := f) ⟨hown, hlink, ⟨_, _, _, hi⟩, hst⟩ (by rw [q2]; exact h6) q1 q3 (by rw [hsl]; exact k2_hasslot (q4 kf hk)) rfl rfl hdg fun H' e1 e2 e3 => ?_
  rw [hsl] at e1 ⊢
  refine kk l E D cA p e s m args below meth c X H' _ ls (hI.put hat ?_ e2 e3) (hS.put e2 e3 (gA_ge (gat_ge hat))) hl
  refine ⟨_, hc, ?_⟩
  refine t_OB.to (V := updV (vp_V (fs.map (gV E))) kf (gV E v)) ⟨_, e1, q2, q3, t_set q4 hap hk (gV E v)⟩ (fun j _ => ?_)
  simp only [List.map_set]
  exact vp_updV_set (by simpa using hlen) (gV E v) j
theorem g_putF {a ci kf idx : Nat} {fs : List Value} {v : Value} {ty : FieldType} (F : gFp M.1 idx ci kf ty true) (hin2 : M.2.1.name = "<init>") (hdg : decode M.2.2.1 pc = .ok (.putfield idx, 3)) (hat : gat h a = some (.inr (ci, fs))) (hlen : kf < fs.length) (hn : ∀ E, narrow ty (gV E v) = gV E v) (hf : ∀ E, fits ty (gV E v) = true) (kk : G M d mc ms kc kn (pc + 3) lv st (gput h a (.inr (ci, fs.set kf v))) Q) : G M d mc ms kc kn pc lv (v :: .ref a :: st) h Q := by
  intro l E D cA p e s m args below meth c X H locs ls hI hS hl
  obtain ⟨C, T, N, ty0, hc, hin0, hk, hlk, hty, hnm, hd, hfin, hdc⟩ := F
  have hdecl := hdc rfl
  have hts := X.2.2.2.2.2.1
  have hin : ∀ w ∈ u_ws C T N, w ∈ gWs M := fun w hw => List.mem_cons_of_mem _ (hin0 w hw)
  have hlink := hts _ (List.mem_cons_of_mem _ hlk)
  have hK := X.2.2.2.2.2.2.2.1
  have hown := X.2.2.2.2.1
  have hap := va_apart (own := M.1) hts hin ty0 hty hnm hK hc
  have he := gW_get (E := E) (cA := cA) hat
  obtain ⟨r, h1, cell, q1, q2, q3, q4⟩ := hI.2 _ _ he
  have hr : r = (C, T, N) := Option.some.inj (h1.symm.trans hc)
  subst hr
  obtain ⟨hSl, hfc, kC, hkC, hkind⟩ := hK.1 ci _ hc
  obtain ⟨cf, kf2, fi, f, hi, hsl⟩ := hSl kf hk
  have hlay := hts _ (hin _ (u_in_lay hk))
  unfold u_lay at hlay
  rw [if_pos hfin] at hlay
  have hst := (u_facts hfc hkC (u_lays hts hin hk) hi).1
  have hcf : m.cls = cf := by
    obtain ⟨_, _, c', _, _, _, -, -, hf', -, -, -, hown2, -⟩ := Cond.laysFinal_spec hlay
    have e1 : c' = cf := by have := hi.symm.trans hf'; simp at this; exact this.1.symm
    rw [hdecl] at hown2
    rw [← e1]; exact Option.some.inj (hown.symm.trans hown2)
  have h6 := u_fits hfc hkC hkind (Or.inr hlay) hi hd (hn E) (hf E)
  refine W.putFinK X.1 X.2.1 hown hlink hi hst hcf (X.2.2.2.2.2.2.2.2.2.2.2.trans hin2) (by rw [q2]; exact h6) q1 q3 (by rw [hsl]; exact k2_hasslot (q4 kf hk)) rfl rfl hdg fun H' e1 e2 e3 => ?_
  rw [hsl] at e1 ⊢
  refine kk l E D cA p e s m args below meth c X H' _ ls (hI.put hat ?_ e2 e3) (hS.put e2 e3 (gA_ge (gat_ge hat))) hl
  refine ⟨_, hc, ?_⟩
  refine t_OB.to (V := updV (vp_V (fs.map (gV E))) kf (gV E v)) ⟨_, e1, q2, q3, t_set q4 hap hk (gV E v)⟩ (fun j _ => ?_)
  simp only [List.map_set]
  exact vp_updV_set (by simpa using hlen) (gV E v) j
theorem g_iald {a n : Nat} {f : Nat → Int32} {i : Int32} (hdg : decode M.2.2.1 pc = .ok (.iaload, 1)) (hat : gat h a = some (.inl (0, n, .inl f))) (hin : vp_in i n) (kk : G M d mc ms kc kn (pc + 1) lv (.int (f i.toNatClampNeg) :: st) h Q) : G M d mc ms kc kn pc lv (.int i :: .ref a :: st) h Q := by
  intro l E D cA p e s m args below meth c X H locs ls hI hS hl
  exact va_iald X.1 X.2.1 X.2.2.2.2.2.2.2.1 hI.2 (a - 64) 0 (gW_get hat) rfl hin hdg (kk l E D cA p e s m args below meth c X H locs ls hI hS hl)
theorem g_lald {a n : Nat} {f : Nat → Int64} {i : Int32} (hdg : decode M.2.2.1 pc = .ok (.laload, 1)) (hat : gat h a = some (.inl (1, n, .inr (.inl f)))) (hin : vp_in i n) (kk : G M d mc ms kc kn (pc + 1) lv (.long (f i.toNatClampNeg) :: st) h Q) : G M d mc ms kc kn pc lv (.int i :: .ref a :: st) h Q := by
  intro l E D cA p e s m args below meth c X H locs ls hI hS hl
  exact va_lald X.1 X.2.1 X.2.2.2.2.2.2.2.1 hI.2 (a - 64) 1 (gW_get hat) rfl hin hdg (kk l E D cA p e s m args below meth c X H locs ls hI hS hl)
theorem g_zald {a n : Nat} {f : Nat → Int32} {i : Int32} (hdg : decode M.2.2.1 pc = .ok (.baload, 1)) (hat : gat h a = some (.inl (2, n, .inl f))) (hin : vp_in i n) (kk : G M d mc ms kc kn (pc + 1) lv (.int (f i.toNatClampNeg) :: st) h Q) : G M d mc ms kc kn pc lv (.int i :: .ref a :: st) h Q := by
  intro l E D cA p e s m args below meth c X H locs ls hI hS hl
  exact va_zald X.1 X.2.1 X.2.2.2.2.2.2.2.1 hI.2 (a - 64) 2 (gW_get hat) rfl hin hdg (kk l E D cA p e s m args below meth c X H locs ls hI hS hl)
theorem gV_rf (E : gE) (r : Option Nat) : gV E (va_rf r) = va_rf (r.map (gA E)) := by cases r <;> rfl
theorem g_aald {a n : Nat} {f : Nat → Option Nat} {i : Int32} (hdg : decode M.2.2.1 pc = .ok (.aaload, 1)) (hat : gat h a = some (.inl (3, n, .inr (.inr (.inr (.inr f)))))) (hin : vp_in i n) (kk : G M d mc ms kc kn (pc + 1) lv (va_rf (f i.toNatClampNeg) :: st) h Q) : G M d mc ms kc kn pc lv (.int i :: .ref a :: st) h Q := by
  intro l E D cA p e s m args below meth c X H locs ls hI hS hl
  refine va_aldq (C := "HillRider$Way") (f := fun j => (f j).map (gA E)) X.1 X.2.1 X.2.2.2.2.2.2.2.1 hI.2 (a - 64) 3 (gW_get hat) rfl hin hdg ?_
  rw [← gV_rf]
  exact kk l E D cA p e s m args below meth c X H locs ls hI hS hl
theorem g_iast {a n : Nat} {f : Nat → Int32} {i x : Int32} (hdg : decode M.2.2.1 pc = .ok (.iastore, 1)) (hat : gat h a = some (.inl (0, n, .inl f))) (hin : vp_in i n) (kk : G M d mc ms kc kn (pc + 1) lv st (gput h a (.inl (0, n, .inl (upd f i.toNatClampNeg x)))) Q) : G M d mc ms kc kn pc lv (.int x :: .int i :: .ref a :: st) h Q := by
  intro l E D cA p e s m args below meth c X H locs ls hI hS hl
  have ha := gW_get (E := E) (cA := cA) hat
  refine W.iast X.1 X.2.1 (hI.2 _ _ ha) ((X.2.2.2.2.2.2.2.1.2 0 _ rfl).1 n (fun j => .int (f j))) (fun q => by cases q) (by show ¬ (i < 0 ∨ (arrV _ _ _).slots.size ≤ _); rw [arrV_size]; exact hin) rfl rfl hdg fun H1 e1 z oq => ?_
  refine kk l E D cA p e s m args below meth c X H1 _ ls (hI.put hat ?_ z oq) (hS.put z oq (gA_ge (gat_ge hat))) hl
  show H1[gA E a]? = some (vp_cell _ _)
  rw [e1]
  show some ((vp_cell (cA 0) (n, .inl f)).setSlot _ _) = some (vp_cell (cA 0) (n, .inl _))
  rw [vp_cell_i, vp_cell_i, arrV_store]
  congr 2
  funext q
  by_cases hq : q = i.toNatClampNeg
  · subst hq
    simp [updV, upd]
  · simp [updV, upd, hq]
theorem g_zast {a n : Nat} {f : Nat → Int32} {i x : Int32} (hdg : decode M.2.2.1 pc = .ok (.bastore, 1)) (hat : gat h a = some (.inl (2, n, .inl f))) (hin : vp_in i n) (kk : G M d mc ms kc kn (pc + 1) lv st (gput h a (.inl (2, n, .inl (upd f i.toNatClampNeg (vp_nar .boolean x))))) Q) : G M d mc ms kc kn pc lv (.int x :: .int i :: .ref a :: st) h Q := by
  intro l E D cA p e s m args below meth c X H locs ls hI hS hl
  have ha := gW_get (E := E) (cA := cA) hat
  refine W.zast X.1 X.2.1 (hI.2 _ _ ha) ((X.2.2.2.2.2.2.2.1.2 2 _ rfl).1 n (fun j => .int (f j))) (fun q => by cases q) (by show ¬ (i < 0 ∨ (arrV _ _ _).slots.size ≤ _); rw [arrV_size]; exact hin) rfl rfl hdg fun H1 e1 z oq => ?_
  refine kk l E D cA p e s m args below meth c X H1 _ ls (hI.put hat ?_ z oq) (hS.put z oq (gA_ge (gat_ge hat))) hl
  show H1[gA E a]? = some (vp_cell _ _)
  rw [e1]
  show some ((vp_cell (cA 2) (n, .inl f)).setSlot _ _) = some (vp_cell (cA 2) (n, .inl _))
  rw [vp_cell_i, vp_cell_i, arrV_store]
  congr 2
  funext q
  by_cases hq : q = i.toNatClampNeg
  · subst hq
    simp [updV, upd, vp_nar]
    try rfl
  · simp [updV, upd, hq]
theorem g_last {a n : Nat} {f : Nat → Int64} {i : Int32} {x : Int64} (hdg : decode M.2.2.1 pc = .ok (.lastore, 1)) (hat : gat h a = some (.inl (1, n, .inr (.inl f)))) (hin : vp_in i n) (kk : G M d mc ms kc kn (pc + 1) lv st (gput h a (.inl (1, n, .inr (.inl (vp_updL f i.toNatClampNeg x))))) Q) : G M d mc ms kc kn pc lv (.long x :: .int i :: .ref a :: st) h Q := by
  intro l E D cA p e s m args below meth c X H locs ls hI hS hl
  have ha := gW_get (E := E) (cA := cA) hat
  refine W.last X.1 X.2.1 (hI.2 _ _ ha) ((X.2.2.2.2.2.2.2.1.2 1 _ rfl).1 n (fun j => .long (f j))) (fun q => by cases q) (by show ¬ (i < 0 ∨ (arrV _ _ _).slots.size ≤ _); rw [arrV_size]; exact hin) rfl rfl hdg fun H1 e1 z oq => ?_
  refine kk l E D cA p e s m args below meth c X H1 _ ls (hI.put hat ?_ z oq) (hS.put z oq (gA_ge (gat_ge hat))) hl
  show H1[gA E a]? = some (vp_cell _ _)
  rw [e1]
  show some ((vp_cell (cA 1) (n, .inr (.inl f))).setSlot _ _) = some (vp_cell (cA 1) (n, .inr (.inl _)))
  rw [vp_cell_l, vp_cell_l, arrV_store]
  congr 2
  funext q
  by_cases hq : q = i.toNatClampNeg
  · subst hq
    simp [updV, vp_updL]
  · simp [updV, vp_updL, hq]
theorem g_alenI {a n : Nat} {f : Nat → Int32} (hdg : decode M.2.2.1 pc = .ok (.arraylength, 1)) (hat : gat h a = some (.inl (0, n, .inl f))) (kk : G M d mc ms kc kn (pc + 1) lv (.int (Int32.ofNat n) :: st) h Q) : G M d mc ms kc kn pc lv (.ref a :: st) h Q := by
  intro l E D cA p e s m args below meth c X H locs ls hI hS hl
  exact va_alen X.1 X.2.1 X.2.2.2.2.2.2.2.1 hI.2 (a - 64) 0 (gW_get hat) rfl rfl hdg (kk l E D cA p e s m args below meth c X H locs ls hI hS hl)
end GHP
