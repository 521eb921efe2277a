/-! steps of the functions over the heap -/
def aLen (a : Nat) : Option Nat := tA.lookup a
theorem lk_in : ∀ {l : List (Nat × Nat)} {a n : Nat}, l.lookup a = some n → (a, n) ∈ l
  | [], a, n, h => by cases h
  | (b, k) :: l, a, n, h => by
    unfold List.lookup at h
    split at h
    · rename_i hb
      cases h
      rw [beq_iff_eq] at hb
      rw [hb]
      exact List.mem_cons_self ..
    · exact List.mem_cons_of_mem _ (lk_in h)
theorem aLen_in {a n : Nat} (h : aLen a = some n) : (a, n) ∈ tA := lk_in h
theorem tA_s : ∀ q ∈ tA, q.2 < 5000 := by decide
section ST
variable {A S : Nat → Nat → Int32} {J : Nat → Nat → Int64} {W : Nat → Nat → Option Nat} {ws : List gC} {α : Type} {r : Option α}
theorem st_gR {h : gH} {a ci k v : Nat} {F : Nat → Option α} (h1 : gR h a ci k = some v) (h2 : F v = r) : (gR h a ci k).bind F = r := by rw [h1]; exact h2
theorem st_gO {h : gH} {a ci : Nat} {v : List Value} {F : List Value → Option α} (h1 : gO h a ci = some v) (h2 : F v = r) : (gO h a ci).bind F = r := by rw [h1]; exact h2
theorem st_gI {a ci k : Nat} {v : Int32} {F : Int32 → Option α} (h1 : tI.contains (a, ci, k) = true) (h3 : S a k = v) (h2 : F v = r) : (gI (HP A S J W ws) a ci k).bind F = r := by rw [gI_HP (List.contains_iff_mem.mp h1), h3]; exact h2
theorem st_aI {a n k : Nat} {i v : Int32} {F : Int32 → Option α} (h1 : aLen a = some n) (h2 : i = nI k) (h3 : k < n) (h4 : A a k = v) (h5 : F v = r) : (aI (HP A S J W ws) a i).bind F = r := by
  have h6 := aLen_in h1
  have h7 := tA_s _ h6
  rw [h2, aI_HP h6, if_neg (nI_in (by omega) (by omega)), nI_clamp (by omega), h4]; exact h5
theorem st_sI {a n k : Nat} {i x v : Int32} {F : gH → Option α} (h1 : aLen a = some n) (h2 : i = nI k) (h3 : k < n) (h4 : x = v) (h5 : F (HP (up2 A a k v) S J W ws) = r) : (sI (HP A S J W ws) a i x).bind F = r := by
  have h6 := aLen_in h1
  have h7 := tA_s _ h6
  rw [h2, h4, sI_HP h6, if_neg (nI_in (by omega) (by omega)), nI_clamp (by omega)]; exact h5
theorem st_pF {a ci k : Nat} {x v : Int32} {F : gH → Option α} (h1 : tI.contains (a, ci, k) = true) (h3 : x = v) (h2 : F (HP A (up2 S a k v) J W ws) = r) : (pF (HP A S J W ws) a ci k (.int x)).bind F = r := by rw [h3, pF_HP (List.contains_iff_mem.mp h1)]; exact h2
theorem st_pZ {a ci k : Nat} {x : Int32} {F : gH → Option α} (h1 : tI.contains (a, ci, k) = true) (h3 : x = 0 ∨ x = 1) (h2 : F (HP A (up2 S a k x) J W ws) = r) : (pZ (HP A S J W ws) a ci k x).bind F = r := by unfold pZ; rw [if_pos h3, pF_HP (List.contains_iff_mem.mp h1)]; exact h2
theorem st_len {a n : Nat} {F : Int32 → Option α} (h1 : aLen a = some n) (h2 : F (nI n) = r) : (lenI (HP A S J W ws) a).bind F = r := by
  have h6 := aLen_in h1
  rw [lenI_HP h6]; exact h2
theorem st_gL {k : Nat} {v : Int64} {F : Int64 → Option α} (h1 : k = 16 ∨ k = 17) (h3 : J 120 k = v) (h2 : F v = r) : (gL (HP A S J W ws) 120 12 k).bind F = r := by
  rcases h1 with rfl | rfl <;> (subst h3; exact h2)
theorem st_pFL {k : Nat} {x v : Int64} {F : gH → Option α} (h1 : k = 16 ∨ k = 17) (h3 : x = v) (h2 : F (HP A S (up2 J 120 k v) W ws) = r) : (pF (HP A S J W ws) 120 12 k (.long x)).bind F = r := by
  rcases h1 with rfl | rfl <;> (subst h3; exact h2)
theorem st_aZ {k : Nat} {i v : Int32} {F : Int32 → Option α} (h2 : i = nI k) (h3 : k < 64) (h4 : A 124 k = v) (h5 : F v = r) : (aZ (HP A S J W ws) 124 i).bind F = r := by rw [h2, hZ h3, h4]; exact h5
theorem st_sZ {k : Nat} {i x v : Int32} {F : gH → Option α} (h2 : i = nI k) (h3 : k < 64) (h4 : vp_nar .boolean x = v) (h5 : F (HP (up2 A 124 k v) S J W ws) = r) : (sZ (HP A S J W ws) 124 i x).bind F = r := by rw [h2, hsZ h3, h4]; exact h5
theorem st_aL {k : Nat} {i : Int32} {v : Int64} {F : Int64 → Option α} (h2 : i = nI k) (h3 : k < 256) (h4 : J 119 k = v) (h5 : F v = r) : (aL (HP A S J W ws) 119 i).bind F = r := by rw [h2, haL h3, h4]; exact h5
theorem st_sL {k : Nat} {i : Int32} {x v : Int64} {F : gH → Option α} (h2 : i = nI k) (h3 : k < 256) (h4 : x = v) (h5 : F (HP A S (up2 J 119 k v) W ws) = r) : (sL (HP A S J W ws) 119 i x).bind F = r := by rw [h2, hsL h3, h4]; exact h5
theorem st_aQ {a k : Nat} {i : Int32} {v : Option Nat} {F : Option Nat → Option α} (ha : a = 76 ∨ a = 91) (h2 : i = nI k) (h3 : k < 8) (h4 : W a k = v) (h5 : F v = r) : (aQ (HP A S J W ws) a i).bind F = r := by
  rcases ha with rfl | rfl
  · rw [h2, haQ_76 h3, h4]; exact h5
  · rw [h2, haQ_91 h3, h4]; exact h5
theorem st_sQ {a k : Nat} {i : Int32} {x : Option Nat} {F : gH → Option α} (ha : a = 76 ∨ a = 91) (h2 : i = nI k) (h3 : k < 8) (hx : x.all (fun v => (gOw (HP A S J W ws) v).isSome) = true) (h5 : F (HP A S J (up2 W a k x) ws) = r) : (sQ (HP A S J W ws) a i x).bind F = r := by
  rcases ha with rfl | rfl
  · rw [h2, hsQ_76 h3 hx]; exact h5
  · rw [h2, hsQ_91 h3 hx]; exact h5
theorem ex_sm {β : Type} {v : β} {f : β → Option α} (h2 : f v = r) : (some v).bind f = r := h2
end ST
theorem vx {β : Type} {f : Nat → β} {i j : Nat} {v : β} (h : f j = v) (e : i = j) : f i = v := e ▸ h
theorem neg1 : (-1 : Int32) = -nI 1 := rfl
theorem m_eq {a b : Nat} (ha : a < 2 ^ 31) (hb0 : 0 < b) (hb : b < 2 ^ 31) : (nI a = -nI b) ↔ False := by
  constructor
  · intro e
    have e2 := congrArg Int32.toInt e
    rw [nI_toInt ha, Int32.toInt_neg, nI_toInt hb] at e2
    have : (-(b : Int)).bmod (2 ^ 32) = -b := by apply Int.bmod_eq_of_le <;> omega
    omega
  · exact False.elim
theorem nmT {b : Nat} (hb : b < 2 ^ 31) : (-nI b).toInt = -(b : Int) := by
  rw [Int32.toInt_neg, nI_toInt hb]
  apply Int.bmod_eq_of_le <;> omega
theorem m_eq' {a b : Nat} (ha : a < 2 ^ 31) (hb0 : 0 < b) (hb : b < 2 ^ 31) : (-nI b = nI a) ↔ False := by rw [eq_comm]; exact m_eq ha hb0 hb
theorem m_lt {a b : Nat} (ha : a < 2 ^ 31) (hb : b < 2 ^ 31) : (nI a < -nI b) ↔ False := by rw [Int32.lt_iff_toInt_lt, nI_toInt ha, nmT hb, iff_false]; omega
theorem m_le {a b : Nat} (ha : a < 2 ^ 31) (hb0 : 0 < b) (hb : b < 2 ^ 31) : (nI a ≤ -nI b) ↔ False := by rw [Int32.le_iff_toInt_le, nI_toInt ha, nmT hb, iff_false]; omega
theorem m_lt' {a b : Nat} (ha : a < 2 ^ 31) (hb0 : 0 < b) (hb : b < 2 ^ 31) : (-nI b < nI a) ↔ True := by rw [Int32.lt_iff_toInt_lt, nI_toInt ha, nmT hb, iff_true]; omega
theorem m_le' {a b : Nat} (ha : a < 2 ^ 31) (hb : b < 2 ^ 31) : (-nI b ≤ nI a) ↔ True := by rw [Int32.le_iff_toInt_le, nI_toInt ha, nmT hb, iff_true]; omega
theorem mm_eq {a b : Nat} (ha : a < 2 ^ 31) (hb : b < 2 ^ 31) : (-nI a = -nI b) ↔ a = b := by
  rw [← Int32.toInt_inj, nmT ha, nmT hb]; omega
theorem mm_lt {a b : Nat} (ha : a < 2 ^ 31) (hb : b < 2 ^ 31) : (-nI a < -nI b) ↔ b < a := by
  rw [Int32.lt_iff_toInt_lt, nmT ha, nmT hb]; omega
theorem mm_le {a b : Nat} (ha : a < 2 ^ 31) (hb : b < 2 ^ 31) : (-nI a ≤ -nI b) ↔ b ≤ a := by
  rw [Int32.le_iff_toInt_le, nmT ha, nmT hb]; omega
theorem nI_m1' {a : Nat} (h : 1 ≤ a) : nI a + -nI 1 = nI (a - 1) := nI_m1 h
theorem gmax_nn {a b : Nat} (ha : a < 2 ^ 31) (hb : b < 2 ^ 31) : gmax (nI a) (nI b) = nI (max a b) := gmax_n ha hb
/-! the road as plain data, and what is asked of it -/
abbrev rD : Type := (Nat → Nat) × (Nat → Nat → Nat) × List (Nat × List Nat)
def dN (D : rD) : Nat := D.1 0
def dBar (D : rD) : Nat := D.1 1
def dSto (D : rD) : Nat := D.1 2
def dBac (D : rD) : Nat := D.1 3
def dHea (D : rD) : Nat := D.1 4
def dLen (D : rD) (p : Nat) : Nat := D.2.1 0 p
def dSlo (D : rD) (p : Nat) : Nat := D.2.1 1 p
def dWin (D : rD) (p : Nat) : Nat := D.2.1 2 p
def dBen (D : rD) (p : Nat) : Nat := D.2.1 3 p
def dEas (D : rD) : List (Nat × List Nat) := D.2.2
/-- a step of an ease: 1 not, 2 and, 3 or, else a test -/
def tkOk (c : Nat) : Prop := c = 1 ∨ c = 2 ∨ c = 3 ∨ ∃ w q v : Nat, w < 5 ∧ q < 3 ∧ v < 100 ∧ c = 4 * w + 32 * q + 128 * v
def tkD : List Nat → Nat → Option Nat
  | [], d => some d
  | c :: r, d => if c = 1 then (if d = 0 then none else tkD r d) else if c = 2 ∨ c = 3 then (if d < 2 then none else tkD r (d - 1)) else if d < 13 then tkD r (d + 1) else none
def tkT (b : Nat → Nat) (c : Nat) : Bool := if c / 32 % 4 = 0 then decide (b (c / 4 % 8) < c / 128) else if c / 32 % 4 = 1 then decide (b (c / 4 % 8) = c / 128) else decide (c / 128 < b (c / 4 % 8))
def tkS (b : Nat → Nat) (c : Nat) (st : List Bool) : List Bool := if c = 1 then (match st with | x :: r => (!x) :: r | [] => []) else if c = 2 then (match st with | x :: y :: r => (x && y) :: r | _ => []) else if c = 3 then (match st with | x :: y :: r => (x || y) :: r | _ => []) else tkT b c :: st
def tkR (b : Nat → Nat) : List Nat → List Bool → List Bool
  | [], st => st
  | c :: r, st => tkR b r (tkS b c st)
def dBy (D : rD) (p e r : Nat) : Nat → Nat := fun w => if w = 0 then p else if w = 1 then e else if w = 2 then dSlo D p else if w = 3 then dWin D p else r
def dEsum (b : Nat → Nat) : List (Nat × List Nat) → Nat
  | [] => 0
  | q :: l => (if (tkR b q.2 []).headD false then q.1 else 0) + dEsum b l
def dSpd (D : rD) (p e r : Nat) : Nat := max 1 (min (dBen D p) ((55 + 4 * e) - (5 * dSlo D p + 2 * dWin D p + dEsum (dBy D p e r) (dEas D))))
def dSec (D : rD) (p e r : Nat) : Nat := (100 * dLen D p + dSpd D p e r - 1) / dSpd D p e r
def dUp (D : rD) (p e r : Nat) : Nat := min (dSto D) (r + dLen D p * (dBar D - e) * dBac D / 10)
def dCo (D : rD) (p e : Nat) : Nat := dLen D p * (e - dBar D)
def dBe (D : rD) (p e r : Nat) : Option Nat := if e ≤ dBar D then some (dUp D p e r) else if dCo D p e ≤ r then some (r - dCo D p e) else none
def dBeI (D : rD) (p e r : Nat) : Int32 := if e ≤ dBar D then nI (dUp D p e r) else nI r - nI (dCo D p e)
def eOk (q : Nat × List Nat) : Prop := q.1 ≤ 99 ∧ (∀ c ∈ q.2, tkOk c) ∧ tkD q.2 0 = some 1
def dCs (D : rD) : List Nat := (dEas D).flatMap fun q => q.2
def dOk (D : rD) : Prop := (dN D ≤ 8 ∧ dBar D ≤ 9 ∧ dSto D ≤ 60 ∧ dBac D ≤ 99 ∧ dHea D ≤ 10) ∧ (∀ p : Nat, p < dN D → 1 ≤ dLen D p ∧ dLen D p ≤ 9 ∧ dSlo D p ≤ 9 ∧ dWin D p ≤ 9) ∧ (∀ k : Nat, k < 10 → 1 ≤ dBen D k ∧ dBen D k ≤ 99) ∧ (dEas D).length ≤ 14 ∧ (dCs D).length ≤ 120 ∧ ∀ q ∈ dEas D, eOk q
/-- the road at rd of the class is D -/
def RdC (A S : Nat → Nat → Int32) (rd : Nat) (D : rD) : Prop := (S rd 8 = nI (dN D) ∧ S rd 11 = nI (dBar D) ∧ S rd 12 = nI (dSto D) ∧ S rd 13 = nI (dBac D) ∧ S rd 14 = nI (dHea D)) ∧
  (∀ p : Nat, p < dN D → A (rd + 1) p = nI (dLen D p) ∧ A (rd + 2) p = nI (dSlo D p) - nI 5 ∧ A (rd + 3) p = nI (dWin D p) - nI 5) ∧ (∀ k : Nat, k < 10 → A (rd + 4) k = nI (dBen D k)) ∧
  (S rd 9 = nI (dEas D).length ∧ S rd 10 = nI (dCs D).length) ∧ (∀ i q, (dEas D)[i]? = some q → A (rd + 5) i = nI q.1 ∧ A (rd + 6) i = nI (((dEas D).take (i + 1)).flatMap fun q => q.2).length) ∧ ∀ i c, (dCs D)[i]? = some c → A (rd + 7) i = nI c
theorem nI_div {a b : Nat} (ha : a < 2 ^ 31) (hb : b < 2 ^ 31) (h0 : 0 < b) : nI a / nI b = nI (a / b) := by
  apply Int32.toInt_inj.mp
  have hq : a / b ≤ a := Nat.div_le_self _ _
  rw [Int32.toInt_div_of_ne_right, nI_toInt ha, nI_toInt hb, nI_toInt (by omega)]
  · exact Int.ofNat_tdiv a b
  · intro e
    have e2 := congrArg Int32.toInt e
    rw [nI_toInt hb] at e2
    have : (-1 : Int32).toInt = -1 := by decide
    omega
theorem nI_neg {a b : Nat} (h : a < b) (hb : b < 2 ^ 31) : nI a - nI b < nI 0 := by
  rw [Int32.lt_iff_toInt_lt, Int32.toInt_sub, nI_toInt (by omega), nI_toInt hb, nI_toInt (by decide)]
  have : ((a : Int) - b).bmod (2 ^ 32) = a - b := by
    apply Int.bmod_eq_of_le <;> omega
  rw [this]
  omega
theorem dBeI_some {D : rD} {p e r k : Nat} (h : dBe D p e r = some k) : dBeI D p e r = nI k := by
  unfold dBe at h
  unfold dBeI
  split at h
  · rename_i c
    rw [if_pos c]
    cases h
    rfl
  · rename_i c
    rw [if_neg c]
    split at h
    · cases h
      exact nI_sub (by assumption)
    · cases h
theorem dBeI_none {D : rD} {p e r : Nat} (h : dBe D p e r = none) (hD : dOk D) (hp : p < dN D) (he : e < 10) : dBeI D p e r < nI 0 := by
  unfold dBe at h
  unfold dBeI
  split at h
  · cases h
  · rename_i c
    rw [if_neg c]
    split at h
    · cases h
    · have h1 := (hD.2.1 p hp).2.1
      have h2 : dCo D p e ≤ 9 * 9 := Nat.mul_le_mul h1 (by omega)
      exact nI_neg (by omega) (by omega)
theorem dBe_le {D : rD} {p e r k : Nat} (h : dBe D p e r = some k) (hr : r ≤ dSto D) : k ≤ dSto D := by
  unfold dBe at h
  split at h
  · cases h
    exact Nat.min_le_left _ _
  · split at h
    · cases h
      omega
    · cases h
theorem dBe_0 {D : rD} {p r : Nat} : dBe D p 0 r = some (dUp D p 0 r) := by
  unfold dBe
  rw [if_pos (Nat.zero_le _)]
theorem dUp_b {D : rD} (hD : dOk D) {p e : Nat} (hp : p < dN D) : dLen D p * (dBar D - e) * dBac D ≤ 9 * 9 * 99 := Nat.mul_le_mul (Nat.mul_le_mul (hD.2.1 p hp).2.1 (by have := hD.1.2.1; omega)) hD.1.2.2.2.1
theorem dSpd_b {D : rD} (hD : dOk D) {p e r : Nat} (hp : p < 10) : 1 ≤ dSpd D p e r ∧ dSpd D p e r ≤ 99 := by
  have := hD.2.2.1 p hp
  unfold dSpd
  omega
theorem dSec_b {D : rD} (hD : dOk D) {p e r : Nat} (hp : p < dN D) : dSec D p e r ≤ 1000 := by
  have h0 : p < 10 := by have := hD.1.1; omega
  have h1 := dSpd_b hD (e := e) (r := r) h0
  have h2 := hD.2.1 p hp
  unfold dSec
  exact Nat.le_trans (Nat.div_le_self _ _) (by omega)
def lI : Option Nat → Int32
  | none => -1
  | some e => nI e
/-- a step of an ease as the model has it -/
def mS (c : Nat) : Int32 := if c = 1 then -1 else if c = 2 then -2 else if c = 3 then -3 else nI (c / 4 % 8 + 8 * (c / 32 % 4) + 32 * (c / 128))
def dMs (D : rD) : List Int32 := (dEas D).flatMap fun q => q.2.map mS ++ [-10 - nI q.1]
/-- the road numbered a of the model's row m is D -/
def RdMa (A : Nat → Nat → Int32) (m : Nat) (D : rD) (a : Nat) : Prop := (A m (218 + a) = nI (dN D) ∧ A m (223 + a) = nI (dBar D) ∧ A m (228 + a) = nI (dSto D) ∧ A m (233 + a) = nI (dBac D) ∧ A m (238 + a) = nI (dHea D)) ∧
  (∀ p : Nat, p < dN D → A m (243 + 8 * a + p) = nI (dLen D p) ∧ A m (283 + 8 * a + p) = nI (dSlo D p) ∧ A m (323 + 8 * a + p) = nI (dWin D p)) ∧ (∀ k : Nat, k < 10 → ∃ b : Nat, A m (363 + 10 * a + k) = nI b ∧ b ≤ 99 ∧ dBen D k = max 1 b) ∧
  A m (413 + a) = nI (dMs D).length ∧ ∀ i t, (dMs D)[i]? = some t → A m (418 + 140 * a + i) = t
def RdM (A : Nat → Nat → Int32) (m : Nat) (D : rD) (k : Nat) : Prop := (A m 4 = -1 ∧ dN D = 0 ∧ dBar D = 4 ∧ dSto D = 20 ∧ dBac D = 5 ∧ dHea D = 0) ∨ ∃ a : Nat, a < 5 ∧ a < k ∧ A m 4 = nI a ∧ 1 ≤ dN D ∧ RdMa A m D a
theorem gmax_sub {a b : Nat} (ha : a < 2 ^ 30) (hb : b < 2 ^ 30) : gmax (nI 0) (nI a - nI b) = nI (a - b) := by
  by_cases c : b ≤ a
  · rw [nI_sub c, gmax_n (by decide) (by omega), Nat.zero_max]
  · have h := pk_sneg hb (show a < b by omega)
    have e : a - b = 0 := by omega
    rw [e, gmax, if_neg]
    intro q
    have h2 : nI 0 < nI 0 := Int32.lt_trans q h
    exact nI_nlt (Nat.le_refl 0) (by decide) h2
theorem sub_sub_n (a b c : Nat) : nI a - nI b - nI c = nI a - nI (b + c) := by
  rw [← nI_add]
  generalize nI a = x
  generalize nI b = y
  generalize nI c = z
  grind
theorem gms {a b w : Nat} (ha : a < 2 ^ 30) (hb : b < 2 ^ 30) (hw : w < 2 ^ 30) (h1 : 1 ≤ w) : gmax (nI 1) (gmin (nI w) (nI a - nI b)) = nI (max 1 (min w (a - b))) := by
  by_cases c : b ≤ a
  · rw [nI_sub c, gmin_n (by omega) (by omega), gmax_n (by omega) (by omega)]
  · have h := pk_sneg hb (show a < b by omega)
    have e : a - b = 0 := by omega
    have h3 : gmin (nI w) (nI a - nI b) = nI a - nI b := by
      rw [gmin, if_pos]
      exact Int32.lt_of_lt_of_le h (nI_pos' (by omega))
    rw [h3, e, gmax, if_neg]
    · congr 1; omega
    · intro q
      have h2 : nI 1 < nI 0 := Int32.lt_trans q h
      exact nI_nlt (Nat.zero_le 1) (by decide) h2
theorem spd_eq (e s w : Nat) : nI 20 + nI 4 * nI e - nI 5 * (nI s - nI 5) - nI 2 * (nI w - nI 5) = nI (55 + 4 * e) - nI (5 * s + 2 * w) := by
  rw [← nI_add, ← nI_add, ← nI_mul, ← nI_mul, ← nI_mul]
  generalize nI e = x
  generalize nI s = y
  generalize nI w = z
  have h20 : nI 20 = 20 := rfl
  have h4 : nI 4 = 4 := rfl
  have h5 : nI 5 = 5 := rfl
  have h2 : nI 2 = 2 := rfl
  have h55 : nI 55 = 55 := rfl
  rw [h20, h4, h5, h2, h55]
  grind
theorem tk1 : ∀ w : Nat, w < 5 → ∀ q : Nat, q < 3 → ∀ v : Nat, v < 100 → ((nI (4 * w + 32 * q + 128 * v) >>> ((5 : Int32) &&& 31)) &&& (3 : Int32)) = nI q ∧ ((nI (4 * w + 32 * q + 128 * v) >>> ((2 : Int32) &&& 31)) &&& (7 : Int32)) = nI w ∧ (nI (4 * w + 32 * q + 128 * v) >>> ((7 : Int32) &&& 31)) = nI v ∧ (nI (4 * w + 32 * q + 128 * v) &&& (3 : Int32)) = nI 0 := by decide +kernel
theorem bt_not : ∀ a : Nat, a < 64 → ∀ b : Nat, b < 64 → ∀ t : Nat, t < 2 → lN (t + 2 * (64 * a + b)) ^^^ (1 : Int64) = lN ((1 - t) + 2 * (64 * a + b)) := by decide +kernel
theorem bt_and : ∀ a : Nat, a < 32 → ∀ b : Nat, b < 64 → ∀ t : Nat, t < 2 → ∀ u : Nat, u < 2 → (lN (t + 2 * (u + 2 * (64 * a + b))) >>> ((1 : Int32).toInt64 &&& 63)) &&& (lN (t + 2 * (u + 2 * (64 * a + b))) ||| (-2 : Int64)) = lN (t * u + 2 * (64 * a + b)) := by decide +kernel
theorem bt_or : ∀ a : Nat, a < 32 → ∀ b : Nat, b < 64 → ∀ t : Nat, t < 2 → ∀ u : Nat, u < 2 → (lN (t + 2 * (u + 2 * (64 * a + b))) >>> ((1 : Int32).toInt64 &&& 63)) ||| (lN (t + 2 * (u + 2 * (64 * a + b))) &&& (1 : Int64)) = lN (max t u + 2 * (64 * a + b)) := by decide +kernel
theorem bt_push : ∀ a : Nat, a < 64 → ∀ b : Nat, b < 64 → ∀ t : Nat, t < 2 → (lN (64 * a + b) <<< ((1 : Int32).toInt64 &&& 63)) ||| (nI t).toInt64 = lN (t + 2 * (64 * a + b)) := by decide +kernel
theorem bt_end : ∀ a : Nat, a < 64 → ∀ b : Nat, b < 128 → ∀ t : Nat, t < 2 → (lg_cmp (lN (t + 2 * (128 * a + b)) &&& (1 : Int64)) (1 : Int64) = 0 ↔ t = 1) := by decide +kernel
