/-! what class and model have in common: scene at sc (its road at sc + 2) against the model's row m -/
/-- the class of a way of a kind -/
def ciK (k : Int32) : Nat := if k = 1 then 1 else if k = 2 then 8 else if k = 3 then 0 else if k = 4 then 2 else if k = 5 then 9 else if k = 6 then 3 else 10
def RelTape (A S : Nat → Nat → Int32) (sc m : Nat) : Prop := S sc 6 = A m 3 ∧ 0 ≤ A m 3 ∧ A m 3 ≤ 120 ∧ ∀ i : Nat, i < 120 → nI i < A m 3 → A (sc + 1) i = A m (10 + i) ∧ 0 ≤ A m (10 + i) ∧ A m (10 + i) ≤ 255
def RelRow (A S : Nat → Nat → Int32) (sc m : Nat) : Prop := S sc 9 = A m 2 ∧ 0 ≤ A m 2 ∧ A m 2 ≤ 8 ∧ ∀ i : Nat, i < 8 → nI i < A m 2 → A (sc + 13) i = A m (210 + i) ∧ 0 ≤ A m (210 + i) ∧ A m (210 + i) ≤ 9
def RelWays (A S : Nat → Nat → Int32) (W : Nat → Nat → Option Nat) (ws : List gC) (sc m : Nat) : Prop := S sc 8 = A m 0 ∧ 0 ≤ A m 0 ∧ A m 0 ≤ 8 ∧ ∀ w : Nat, w < 8 → nI w < A m 0 →
  0 ≤ A m (130 + w) ∧ A m (130 + w) ≤ 6 ∧ 0 ≤ A m (138 + w) ∧ A m (138 + w) ≤ 9 ∧ (∃ i, W (sc + 11) w = some (130 + i) ∧ ws[i]? = some (.inr (ciK (A m (130 + w)), [.int (nI w), .int (A m (138 + w))]))) ∧
  ∀ p : Nat, p < 8 → A (sc + 12) (8 * w + p) = A m (146 + 8 * w + p) ∧ -1 ≤ A m (146 + 8 * w + p) ∧ A m (146 + 8 * w + p) ≤ 9
/-- one step of an ease: the class's code and the model's -/
def tokOk (c m : Int32) : Prop := (c = 1 ∧ m = -1) ∨ (c = 2 ∧ m = -2) ∨ (c = 3 ∧ m = -3) ∨ ∃ w q v : Nat, w < 5 ∧ q < 3 ∧ v < 100 ∧ c = nI (4 * w + 32 * q + 128 * v) ∧ m = nI (w + 8 * q + 32 * v)
/-- how many truths stand behind a row of codes, none below 1 -/
def tokDepth : List Int32 → Nat → Option Nat
  | [], d => some d
  | c :: r, d => if c = 1 then (if d = 0 then none else tokDepth r d) else if c = 2 ∨ c = 3 then (if d < 2 then none else tokDepth r (d - 1)) else if d < 14 then tokDepth r (d + 1) else none
/-- the eases of a road: numbers and rows of codes -/
def RelEase (A S : Nat → Nat → Int32) (rd m a : Nat) : Prop := ∃ es : List (Int32 × List (Int32 × Int32)), es.length ≤ 14 ∧ S rd 9 = nI es.length ∧ (es.flatMap fun q => q.2).length ≤ 120 ∧ S rd 10 = nI (es.flatMap fun q => q.2).length ∧
  (∀ i q, es[i]? = some q → 0 ≤ q.1 ∧ q.1 ≤ 99 ∧ A (rd + 5) i = q.1 ∧ A (rd + 6) i = nI ((es.take (i + 1)).flatMap fun q => q.2).length ∧ (∀ t ∈ q.2, tokOk t.1 t.2) ∧ tokDepth (q.2.map fun t => t.1) 0 = some 1) ∧
  (∀ i t, (es.flatMap fun q => q.2)[i]? = some t → A (rd + 7) i = t.1) ∧
  A m (413 + a) = nI (es.flatMap fun q => q.2.map (fun t => t.2) ++ [-10 - q.1]).length ∧ (es.flatMap fun q => q.2.map (fun t => t.2) ++ [-10 - q.1]).length ≤ 140 ∧
  ∀ i t, (es.flatMap fun q => q.2.map (fun t => t.2) ++ [-10 - q.1])[i]? = some t → A m (418 + 140 * a + i) = t
def RelRoad (A S : Nat → Nat → Int32) (rd m : Nat) : Prop :=
  (A m 4 = -1 ∧ S rd 8 = 0 ∧ S rd 11 = 4 ∧ S rd 12 = 20 ∧ S rd 13 = 5 ∧ S rd 14 = 0 ∧ S rd 15 = 0) ∨
  ∃ a : Nat, a < 5 ∧ A m 4 = nI a ∧ nI a < A m 1 ∧ S rd 8 = A m (218 + a) ∧ 1 ≤ A m (218 + a) ∧ A m (218 + a) ≤ 8 ∧ S rd 11 = A m (223 + a) ∧ 0 ≤ A m (223 + a) ∧ A m (223 + a) ≤ 9 ∧ S rd 12 = A m (228 + a) ∧ 0 ≤ A m (228 + a) ∧ A m (228 + a) ≤ 60 ∧
    S rd 13 = A m (233 + a) ∧ 0 ≤ A m (233 + a) ∧ A m (233 + a) ≤ 99 ∧ S rd 14 = A m (238 + a) ∧ 0 ≤ A m (238 + a) ∧ A m (238 + a) ≤ 10 ∧ 1 ≤ S rd 15 ∧
    (∀ p : Nat, p < 8 → nI p < A m (218 + a) → A (rd + 1) p = A m (243 + 8 * a + p) ∧ 1 ≤ A m (243 + 8 * a + p) ∧ A m (243 + 8 * a + p) ≤ 9 ∧ A (rd + 2) p = A m (283 + 8 * a + p) - 5 ∧ 0 ≤ A m (283 + 8 * a + p) ∧ A m (283 + 8 * a + p) ≤ 9 ∧ A (rd + 3) p = A m (323 + 8 * a + p) - 5 ∧ 0 ≤ A m (323 + 8 * a + p) ∧ A m (323 + 8 * a + p) ≤ 9) ∧
    (∀ k : Nat, k < 10 → A (rd + 4) k = (if A m (363 + 10 * a + k) = 0 then 1 else A m (363 + 10 * a + k)) ∧ 0 ≤ A m (363 + 10 * a + k) ∧ A m (363 + 10 * a + k) ≤ 99) ∧
    RelEase A S rd m a
def RelSc (A S : Nat → Nat → Int32) (W : Nat → Nat → Option Nat) (ws : List gC) (sc m : Nat) : Prop := RelTape A S sc m ∧ RelRow A S sc m ∧ RelWays A S W ws sc m ∧ (S sc 7 = A m 1 ∧ 0 ≤ A m 1 ∧ A m 1 ≤ 5) ∧ RelRoad A S (sc + 2) m
theorem ix_nat {i : Int32} {n : Nat} (h0 : 0 ≤ i) (h1 : i < nI n) (hn : n < 2 ^ 31) : ∃ k : Nat, k < n ∧ i = nI k ∧ i.toNatClampNeg = k := by
  have e0 : (0 : Int32).toInt = 0 := by decide
  rw [Int32.le_iff_toInt_le, e0] at h0
  rw [Int32.lt_iff_toInt_lt, nI_toInt hn] at h1
  have e1 : i.toNatClampNeg = i.toInt.toNat := rfl
  refine ⟨i.toNatClampNeg, by omega, ?_, rfl⟩
  apply Int32.toInt_inj.mp
  rw [nI_toInt (by omega)]
  omega
theorem x11_count {n : Nat} {A S : Nat → Nat → Int32} {J : Nat → Nat → Int64} {W : Nat → Nat → Option Nat} {ws : List gC} {p : Int32} : F_X11_count n 64 p (HP A S J W ws) = some (if p = 0 then S 67 8 else if p = 1 then S 65 8 else if p = 2 then S 65 7 else if p = 3 then S 65 9 else if p = 4 then S 65 6 else if p = 5 then S 65 10 else -1, HP A S J W ws) := by
  unfold F_X11_count F_X11_count_0
  have h1 : gR (HP A S J W ws) 64 11 0 = some 65 := gR_HP (by decide)
  have h2 : gR (HP A S J W ws) 65 7 1 = some 67 := gR_HP (by decide)
  simp only [h1, h2, Option.bind_some, gI_HP (show (67, 6, 8) ∈ tI by decide), gI_HP (show (65, 7, 8) ∈ tI by decide), gI_HP (show (65, 7, 7) ∈ tI by decide), gI_HP (show (65, 7, 9) ∈ tI by decide), gI_HP (show (65, 7, 6) ∈ tI by decide), gI_HP (show (65, 7, 10) ∈ tI by decide)]
  repeat' split
  all_goals rfl
