/-! what the functions that are read off the code are made of; none: the machine would throw, or fuel is out -/
def gO (h : gH) (a ci : Nat) : Option (List Value) := match gat h a with
  | some (.inr (c, fs)) => if c = ci then some fs else none
  | _ => none
theorem gO_of {h : gH} {a ci : Nat} {fs : List Value} (e : gO h a ci = some fs) : gat h a = some (.inr (ci, fs)) := by
  unfold gO at e
  split at e
  · rename_i c fs2 hg
    split at e
    · rename_i hc
      cases e
      rw [hg, hc]
    · cases e
  · cases e
def gOw (h : gH) (a : Nat) : Option (Nat × List Value) := match gat h a with
  | some (.inr (c, fs)) => if c ∈ gWays then some (c, fs) else none
  | _ => none
theorem gOw_of {h : gH} {a : Nat} {q : Nat × List Value} (e : gOw h a = some q) : q.1 ∈ gWays ∧ gat h a = some (.inr (q.1, q.2)) := by
  unfold gOw at e
  split at e
  · rename_i c fs2 hg
    split at e
    · rename_i hc
      cases e
      exact ⟨hc, hg⟩
    · cases e
  · cases e
def vI (fs : List Value) (k : Nat) : Option Int32 := match fs[k]? with
  | some (.int v) => some v
  | _ => none
def vL (fs : List Value) (k : Nat) : Option Int64 := match fs[k]? with
  | some (.long v) => some v
  | _ => none
def vR (fs : List Value) (k : Nat) : Option Nat := match fs[k]? with
  | some (.ref v) => some v
  | _ => none
theorem vI_of {fs : List Value} {k : Nat} {v : Int32} (e : vI fs k = some v) : fs[k]? = some (.int v) := by
  unfold vI at e
  split at e
  · rename_i w hw; cases e; exact hw
  · cases e
theorem vL_of {fs : List Value} {k : Nat} {v : Int64} (e : vL fs k = some v) : fs[k]? = some (.long v) := by
  unfold vL at e
  split at e
  · rename_i w hw; cases e; exact hw
  · cases e
theorem vR_of {fs : List Value} {k : Nat} {v : Nat} (e : vR fs k = some v) : fs[k]? = some (.ref v) := by
  unfold vR at e
  split at e
  · rename_i w hw; cases e; exact hw
  · cases e
def gI (h : gH) (a ci k : Nat) : Option Int32 := (gO h a ci).bind fun fs => vI fs k
def gL (h : gH) (a ci k : Nat) : Option Int64 := (gO h a ci).bind fun fs => vL fs k
def gR (h : gH) (a ci k : Nat) : Option Nat := (gO h a ci).bind fun fs => vR fs k
def gIw (h : gH) (a k : Nat) : Option Int32 := (gOw h a).bind fun q => vI q.2 k
theorem gI_of {h : gH} {a ci k : Nat} {v : Int32} (e : gI h a ci k = some v) : ∃ fs, gat h a = some (.inr (ci, fs)) ∧ fs[k]? = some (.int v) := by
  obtain ⟨fs, e1, e2⟩ := Option.bind_eq_some_iff.mp e
  exact ⟨fs, gO_of e1, vI_of e2⟩
theorem gL_of {h : gH} {a ci k : Nat} {v : Int64} (e : gL h a ci k = some v) : ∃ fs, gat h a = some (.inr (ci, fs)) ∧ fs[k]? = some (.long v) := by
  obtain ⟨fs, e1, e2⟩ := Option.bind_eq_some_iff.mp e
  exact ⟨fs, gO_of e1, vL_of e2⟩
theorem gR_of {h : gH} {a ci k : Nat} {v : Nat} (e : gR h a ci k = some v) : ∃ fs, gat h a = some (.inr (ci, fs)) ∧ fs[k]? = some (.ref v) := by
  obtain ⟨fs, e1, e2⟩ := Option.bind_eq_some_iff.mp e
  exact ⟨fs, gO_of e1, vR_of e2⟩
theorem gIw_of {h : gH} {a k : Nat} {v : Int32} (e : gIw h a k = some v) : ∃ ci fs, ci ∈ gWays ∧ gat h a = some (.inr (ci, fs)) ∧ fs[k]? = some (.int v) := by
  obtain ⟨q, e1, e2⟩ := Option.bind_eq_some_iff.mp e
  exact ⟨q.1, q.2, (gOw_of e1).1, (gOw_of e1).2, vI_of e2⟩
def pF (h : gH) (a ci k : Nat) (v : Value) : Option gH := (gO h a ci).bind fun fs => if k < fs.length then some (gput h a (.inr (ci, fs.set k v))) else none
def pFw (h : gH) (a k : Nat) (v : Value) : Option gH := (gOw h a).bind fun q => if k < q.2.length then some (gput h a (.inr (q.1, q.2.set k v))) else none
def pZ (h : gH) (a ci k : Nat) (x : Int32) : Option gH := if x = 0 ∨ x = 1 then pF h a ci k (.int x) else none
theorem pF_of {h h2 : gH} {a ci k : Nat} {v : Value} (e : pF h a ci k v = some h2) : ∃ fs, gat h a = some (.inr (ci, fs)) ∧ k < fs.length ∧ h2 = gput h a (.inr (ci, fs.set k v)) := by
  obtain ⟨fs, e1, e2⟩ := Option.bind_eq_some_iff.mp e
  split at e2
  · rename_i hk
    cases e2
    exact ⟨fs, gO_of e1, hk, rfl⟩
  · cases e2
theorem pFw_of {h h2 : gH} {a k : Nat} {v : Value} (e : pFw h a k v = some h2) : ∃ ci fs, ci ∈ gWays ∧ gat h a = some (.inr (ci, fs)) ∧ k < fs.length ∧ h2 = gput h a (.inr (ci, fs.set k v)) := by
  obtain ⟨q, e1, e2⟩ := Option.bind_eq_some_iff.mp e
  split at e2
  · rename_i hk
    cases e2
    exact ⟨q.1, q.2, (gOw_of e1).1, (gOw_of e1).2, hk, rfl⟩
  · cases e2
theorem gZ_nar {x : Int32} (hx : x = 0 ∨ x = 1) : narrow .boolean (.int x) = .int x := by
  rcases hx with rfl | rfl <;> decide +kernel
theorem gZ_fit {x : Int32} (hx : x = 0 ∨ x = 1) : fits .boolean (.int x) = true := by
  rcases hx with rfl | rfl <;> decide +kernel
theorem pZ_of {h h2 : gH} {a ci k : Nat} {x : Int32} (e : pZ h a ci k x = some h2) : (x = 0 ∨ x = 1) ∧ ∃ fs, gat h a = some (.inr (ci, fs)) ∧ k < fs.length ∧ h2 = gput h a (.inr (ci, fs.set k (.int x))) := by
  unfold pZ at e
  split at e
  · rename_i hx
    exact ⟨hx, pF_of e⟩
  · cases e
def aI (h : gH) (a : Nat) (i : Int32) : Option Int32 := match gat h a with
  | some (.inl (0, n, .inl f)) => if i < 0 ∨ n ≤ i.toNatClampNeg then none else some (f i.toNatClampNeg)
  | _ => none
theorem aI_of {h : gH} {a : Nat} {i v : Int32} (e : aI h a i = some v) : ∃ n f, gat h a = some (.inl (0, n, .inl f)) ∧ vp_in i n ∧ f i.toNatClampNeg = v := by
  unfold aI at e
  split at e
  · rename_i n f hg
    split at e
    · cases e
    · rename_i hi
      cases e
      exact ⟨n, f, hg, hi, rfl⟩
  · cases e
def aZ (h : gH) (a : Nat) (i : Int32) : Option Int32 := match gat h a with
  | some (.inl (2, n, .inl f)) => if i < 0 ∨ n ≤ i.toNatClampNeg then none else some (f i.toNatClampNeg)
  | _ => none
theorem aZ_of {h : gH} {a : Nat} {i v : Int32} (e : aZ h a i = some v) : ∃ n f, gat h a = some (.inl (2, n, .inl f)) ∧ vp_in i n ∧ f i.toNatClampNeg = v := by
  unfold aZ at e
  split at e
  · rename_i n f hg
    split at e
    · cases e
    · rename_i hi
      cases e
      exact ⟨n, f, hg, hi, rfl⟩
  · cases e
def aL (h : gH) (a : Nat) (i : Int32) : Option Int64 := match gat h a with
  | some (.inl (1, n, .inr (.inl f))) => if i < 0 ∨ n ≤ i.toNatClampNeg then none else some (f i.toNatClampNeg)
  | _ => none
theorem aL_of {h : gH} {a : Nat} {i : Int32} {v : Int64} (e : aL h a i = some v) : ∃ n f, gat h a = some (.inl (1, n, .inr (.inl f))) ∧ vp_in i n ∧ f i.toNatClampNeg = v := by
  unfold aL at e
  split at e
  · rename_i n f hg
    split at e
    · cases e
    · rename_i hi
      cases e
      exact ⟨n, f, hg, hi, rfl⟩
  · cases e
def aQ (h : gH) (a : Nat) (i : Int32) : Option (Option Nat) := match gat h a with
  | some (.inl (3, n, .inr (.inr (.inr (.inr f))))) => if i < 0 ∨ n ≤ i.toNatClampNeg then none else some (f i.toNatClampNeg)
  | _ => none
theorem aQ_of {h : gH} {a : Nat} {i : Int32} {v : Option Nat} (e : aQ h a i = some v) : ∃ n f, gat h a = some (.inl (3, n, .inr (.inr (.inr (.inr f))))) ∧ vp_in i n ∧ f i.toNatClampNeg = v := by
  unfold aQ at e
  split at e
  · rename_i n f hg
    split at e
    · cases e
    · rename_i hi
      cases e
      exact ⟨n, f, hg, hi, rfl⟩
  · cases e
def sI (h : gH) (a : Nat) (i x : Int32) : Option gH := match gat h a with
  | some (.inl (0, n, .inl f)) => if i < 0 ∨ n ≤ i.toNatClampNeg then none else some (gput h a (.inl (0, n, .inl (upd f i.toNatClampNeg x))))
  | _ => none
theorem sI_of {h h2 : gH} {a : Nat} {i x : Int32} (e : sI h a i x = some h2) : ∃ n f, gat h a = some (.inl (0, n, .inl f)) ∧ vp_in i n ∧ h2 = gput h a (.inl (0, n, .inl (upd f i.toNatClampNeg x))) := by
  unfold sI at e
  split at e
  · rename_i n f hg
    split at e
    · cases e
    · rename_i hi
      cases e
      exact ⟨n, f, hg, hi, rfl⟩
  · cases e
def sZ (h : gH) (a : Nat) (i x : Int32) : Option gH := match gat h a with
  | some (.inl (2, n, .inl f)) => if i < 0 ∨ n ≤ i.toNatClampNeg then none else some (gput h a (.inl (2, n, .inl (upd f i.toNatClampNeg (vp_nar .boolean x)))))
  | _ => none
theorem sZ_of {h h2 : gH} {a : Nat} {i x : Int32} (e : sZ h a i x = some h2) : ∃ n f, gat h a = some (.inl (2, n, .inl f)) ∧ vp_in i n ∧ h2 = gput h a (.inl (2, n, .inl (upd f i.toNatClampNeg (vp_nar .boolean x)))) := by
  unfold sZ at e
  split at e
  · rename_i n f hg
    split at e
    · cases e
    · rename_i hi
      cases e
      exact ⟨n, f, hg, hi, rfl⟩
  · cases e
def sL (h : gH) (a : Nat) (i : Int32) (x : Int64) : Option gH := match gat h a with
  | some (.inl (1, n, .inr (.inl f))) => if i < 0 ∨ n ≤ i.toNatClampNeg then none else some (gput h a (.inl (1, n, .inr (.inl (vp_updL f i.toNatClampNeg x)))))
  | _ => none
theorem sL_of {h h2 : gH} {a : Nat} {i : Int32} {x : Int64} (e : sL h a i x = some h2) : ∃ n f, gat h a = some (.inl (1, n, .inr (.inl f))) ∧ vp_in i n ∧ h2 = gput h a (.inl (1, n, .inr (.inl (vp_updL f i.toNatClampNeg x)))) := by
  unfold sL at e
  split at e
  · rename_i n f hg
    split at e
    · cases e
    · rename_i hi
      cases e
      exact ⟨n, f, hg, hi, rfl⟩
  · cases e
def sQ (h : gH) (a : Nat) (i : Int32) (x : Option Nat) : Option gH := match gat h a with
  | some (.inl (3, n, .inr (.inr (.inr (.inr f))))) => if i < 0 ∨ n ≤ i.toNatClampNeg then none else if x.all (fun v => (gOw h v).isSome) = true then some (gput h a (.inl (3, n, .inr (.inr (.inr (.inr (va_up f i.toNatClampNeg x))))))) else none
  | _ => none
theorem sQ_of {h h2 : gH} {a : Nat} {i : Int32} {x : Option Nat} (e : sQ h a i x = some h2) : ∃ n f, gat h a = some (.inl (3, n, .inr (.inr (.inr (.inr f))))) ∧ vp_in i n ∧ (∀ v, x = some v → ∃ ci fs, ci ∈ gWays ∧ gat h v = some (.inr (ci, fs))) ∧ h2 = gput h a (.inl (3, n, .inr (.inr (.inr (.inr (va_up f i.toNatClampNeg x)))))) := by
  unfold sQ at e
  split at e
  · rename_i n f hg
    split at e
    · cases e
    · rename_i hi
      split at e
      · rename_i hx
        cases e
        refine ⟨n, f, hg, hi, fun v hv => ?_, rfl⟩
        subst hv
        simp only [Option.all_some] at hx
        obtain ⟨q, hq⟩ := Option.isSome_iff_exists.mp hx
        exact ⟨q.1, q.2, (gOw_of hq).1, (gOw_of hq).2⟩
      · cases e
  · cases e
def lenI (h : gH) (a : Nat) : Option Int32 := match gat h a with
  | some (.inl (0, n, .inl _)) => some (Int32.ofNat n)
  | _ => none
theorem lenI_of {h : gH} {a : Nat} {v : Int32} (e : lenI h a = some v) : ∃ n f, gat h a = some (.inl (0, n, .inl f)) ∧ Int32.ofNat n = v := by
  unfold lenI at e
  split at e
  · rename_i n f hg
    cases e
    exact ⟨n, f, hg, rfl⟩
  · cases e
def gB {α β : Type} (x : Option (α × gH)) (f : α → gH → Option β) : Option β := match x with
  | none => none
  | some q => f q.1 q.2
theorem gB_of {α β : Type} {x : Option (α × gH)} {f : α → gH → Option β} {b : β} (e : gB x f = some b) : ∃ v h, x = some (v, h) ∧ f v h = some b := by
  cases x with
  | none => cases e
  | some q => exact ⟨q.1, q.2, rfl, e⟩
theorem gB_some {α β : Type} {v : α} {h : gH} {f : α → gH → Option β} : gB (some (v, h)) f = f v h := rfl
/-- the ends -/
def qI (v : Int32) (h2 : gH) : Option Value → gH → Prop := fun r h => some (.int v) = r ∧ h2 = h
def qL (v : Int64) (h2 : gH) : Option Value → gH → Prop := fun r h => some (.long v) = r ∧ h2 = h
def qR (v : Nat) (h2 : gH) : Option Value → gH → Prop := fun r h => some (.ref v) = r ∧ h2 = h
def qO (v : Option Nat) (h2 : gH) : Option Value → gH → Prop := fun r h => some (va_rf v) = r ∧ h2 = h
def qV (h2 : gH) : Option Value → gH → Prop := fun r h => none = r ∧ h2 = h
abbrev gmin (x y : Int32) : Int32 := if y < x then y else x
abbrev gmax (x y : Int32) : Int32 := if x < y then y else x
section GQ
variable {M : gM} {d mc ms kc kn pc : Nat} {lv : List (Option Value)} {st : List Value} {h : gH} {Q : Option Value → gH → Prop}
theorem g_aastq {a n : Nat} {f : Nat → Option Nat} {i : Int32} {x : Option Nat} (hdg : decode M.2.2.1 pc = .ok (.aastore, 1)) (hat : gat h a = some (.inl (3, n, .inr (.inr (.inr (.inr f)))))) (hin : vp_in i n) (hx : ∀ v, x = some v → ∃ ci fs, ci ∈ gWays ∧ gat h v = some (.inr (ci, fs))) (kk : G M d mc ms kc kn (pc + 1) lv st (gput h a (.inl (3, n, .inr (.inr (.inr (.inr (va_up f i.toNatClampNeg x))))))) Q) : G M d mc ms kc kn pc lv (va_rf x :: .int i :: .ref a :: st) h Q := by
  cases x with
  | none => exact g_aastN hdg hat hin kk
  | some v =>
    obtain ⟨ci, fs, h1, h2⟩ := hx v rfl
    exact g_aastS hdg hat h2 h1 hin kk
theorem g_getfw {a kf idx : Nat} {v : Int32} {ci : Nat} {fs : List Value} (F : ∀ c ∈ gWays, gFg M.1 idx c kf) (hdg : decode M.2.2.1 pc = .ok (.getfield idx, 3)) (hci : ci ∈ gWays) (hat : gat h a = some (.inr (ci, fs))) (hv : fs[kf]? = some (.int v)) (kk : G M d mc ms kc kn (pc + 3) lv (.int v :: st) h Q) : G M d mc ms kc kn pc lv (.ref a :: st) h Q :=
  g_getf (F ci hci) hdg hat hv kk
theorem g_st {st2 : List Value} (e : st = st2) (kk : G M d mc ms kc kn pc lv st2 h Q) : G M d mc ms kc kn pc lv st h Q := e ▸ kk
end GQ
theorem u_of {ws : List Cond} (ps : List Nat) (hp : ws = ps.filterMap (fun i => tables_1[i]?)) (hg : ws.all goodWord = true) : ∀ w ∈ ws, w ∈ gT := by
  intro w hw
  have h1 := List.all_eq_true.mp hg w hw
  rw [hp] at hw
  obtain ⟨i, -, hi⟩ := List.mem_filterMap.mp hw
  exact gT_of (List.mem_append_right _ (List.mem_of_getElem? hi)) h1
