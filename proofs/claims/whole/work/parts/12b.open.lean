theorem t_J0_length_8abf5 {n d a : Nat} {h rh : gH} {rv : Int32} (hf : F_J0_length_8abf5 n a h = some (rv, rh)) : T M_J0_length_8abf5 (d + 6) 0 0 [.ref a] h (qI rv rh) := by
  sorry
theorem t_J0_charAt_5068e {n d a : Nat} {i : Int32} {h rh : gH} {rv : Int32} (hf : F_J0_charAt_5068e n a i h = some (rv, rh)) : T M_J0_charAt_5068e (d + 6) 0 0 [.ref a, .int i] h (qI rv rh) := by
  sorry
theorem t_J0_indexOf_0f7a4 {n d a : Nat} {c : Int32} {h rh : gH} {rv : Int32} (hf : F_J0_indexOf_0f7a4 n a c h = some (rv, rh)) : T M_J0_indexOf_0f7a4 (d + 6) 0 0 [.ref a, .int c] h (qI rv rh) := by
  sorry
/-- super.m(..) whose body stands further up -/
def gCpU (own : String) (idx : Nat) (up : String) (M2 : gM) (n : Nat) : Prop := Cond.code M2.2.1 M2.2.2.1 M2.2.2.2.1 M2.2.2.2.2 ∈ gT ∧ Cond.initialized M2.2.1.cls ∈ gT ∧ Cond.methodLink own idx ⟨up, M2.2.1.name, M2.2.1.desc⟩ ∈ gT ∧ Cond.sameMethod up M2.2.1.cls M2.2.1.name M2.2.1.desc ∈ gT ∧ Cond.superclass own up ∈ gT ∧ Cond.instanceMethod M2.2.1 ∈ gT ∧ (M2.2.1.name ≠ "<init>" ∧ (parseMethodDescriptor M2.2.1.desc).map (fun d => d.parameters.length) = some n) ∧ M2.2.2.2.1 ≤ 45
section GPU
variable {M : gM} {d mc ms kc kn pc : Nat} {lv : List (Option Value)} {st : List Value} {h : gH} {Q : Option Value → gH → Prop}
theorem g_callPU {up : String} {M2 : gM} {idx ci n b : Nat} {fs as : List Value} {mc1 ms1 : Nat} {Q1 : Option Value → gH → Prop} (F : gCpU M.1 idx up M2 n) (hdg : decode M.2.2.1 pc = .ok (.invokespecial idx, 3)) (hat : gat h b = some (.inr (ci, fs))) (hci : ci < vwCl.length) (hn : as.length = n) (hcat : (st.map fun v => v.category).sum ≤ 8) (hcm : kc + mc1 ≤ mc) (hsm : kn + ms1 ≤ ms)
    (hM : T M2 d mc1 ms1 (.ref b :: as) h Q1) (kk : ∀ (r : Option Value) (h' : gH), Q1 r h' → G M (d + 1) mc ms (kc + mc1) (kn + ms1) (pc + 3) lv (r.toList ++ st) h' Q) : G M (d + 1) mc ms kc kn pc lv (as.reverse ++ .ref b :: st) h Q := by
  sorry
end GPU
