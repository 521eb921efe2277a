/-! how the two are born -/
def gA0 (h : gH) (i : Nat) : Nat → Int32 := match h[i]? with
  | some (.inl (_, _, .inl f)) => f
  | _ => fun _ => 0
def gJ0 (h : gH) (i : Nat) : Nat → Int64 := match h[i]? with
  | some (.inl (_, _, .inr (.inl f))) => f
  | _ => fun _ => 0
def gW0 (h : gH) (i : Nat) : Nat → Option Nat := match h[i]? with
  | some (.inl (_, _, .inr (.inr (.inr (.inr f))))) => f
  | _ => fun _ => none
def cA (h : gH) (i k n : Nat) : Bool := match h[i]? with
  | some (.inl (k', n', .inl _)) => k' == k && n' == n
  | _ => false
def cJ (h : gH) (i k n : Nat) : Bool := match h[i]? with
  | some (.inl (k', n', .inr (.inl _))) => k' == k && n' == n
  | _ => false
def cW (h : gH) (i k n : Nat) : Bool := match h[i]? with
  | some (.inl (k', n', .inr (.inr (.inr (.inr _))))) => k' == k && n' == n
  | _ => false
def vEq : Value → Value → Bool
  | .ref a, .ref b => a == b
  | .int a, .int b => decide (a = b)
  | .long a, .long b => decide (a = b)
  | _, _ => false
def vEqs : List Value → List Value → Bool
  | [], [] => true
  | a :: l, b :: r => vEq a b && vEqs l r
  | _, _ => false
def cO (h : gH) (i ci : Nat) (fs : List Value) : Bool := match h[i]? with
  | some (.inr (c, l)) => c == ci && vEqs l fs
  | _ => false
theorem vEq_e {a b : Value} (h : vEq a b = true) : a = b := by
  unfold vEq at h
  split at h
  · rw [beq_iff_eq] at h; rw [h]
  · rw [of_decide_eq_true h]
  · rw [of_decide_eq_true h]
  · cases h
theorem vEqs_e : ∀ {l r : List Value}, vEqs l r = true → l = r
  | [], [], _ => rfl
  | a :: l, b :: r, h => by
    unfold vEqs at h
    rw [Bool.and_eq_true] at h
    rw [vEq_e h.1, vEqs_e h.2]
  | [], _ :: _, h => by cases h
  | _ :: _, [], h => by cases h
theorem cA_e {h : gH} {i k n : Nat} (e : cA h i k n = true) : h[i]? = some (.inl (k, n, .inl (gA0 h i))) := by
  unfold cA at e
  unfold gA0
  split at e
  · rename_i k' n' f hf
    rw [Bool.and_eq_true, beq_iff_eq, beq_iff_eq] at e
    rw [hf, e.1, e.2]
  · cases e
theorem cJ_e {h : gH} {i k n : Nat} (e : cJ h i k n = true) : h[i]? = some (.inl (k, n, .inr (.inl (gJ0 h i)))) := by
  unfold cJ at e
  unfold gJ0
  split at e
  · rename_i k' n' f hf
    rw [Bool.and_eq_true, beq_iff_eq, beq_iff_eq] at e
    rw [hf, e.1, e.2]
  · cases e
theorem cW_e {h : gH} {i k n : Nat} (e : cW h i k n = true) : h[i]? = some (.inl (k, n, .inr (.inr (.inr (.inr (gW0 h i)))))) := by
  unfold cW at e
  unfold gW0
  split at e
  · rename_i k' n' f hf
    rw [Bool.and_eq_true, beq_iff_eq, beq_iff_eq] at e
    rw [hf, e.1, e.2]
  · cases e
theorem cO_e {h : gH} {i ci : Nat} {fs : List Value} (e : cO h i ci fs = true) : h[i]? = some (.inr (ci, fs)) := by
  unfold cO at e
  split at e
  · rename_i c l hf
    rw [Bool.and_eq_true, beq_iff_eq] at e
    rw [hf, e.1, vEqs_e e.2]
  · cases e
def sI0 (c y : Nat) : Int32 := if c = 67 ∨ c = 82 ∨ c = 96 then (if y = 11 then 4 else if y = 12 then 20 else if y = 13 then 5 else 0) else 0
def aI0 (h : gH) (c : Nat) : Nat → Int32 := gA0 h (c - 64)
def jI0 (h : gH) (c : Nat) : Nat → Int64 := if c = 119 then gJ0 h 55 else fun _ => 0
def wI0 (h : gH) (c : Nat) : Nat → Option Nat := gW0 h (c - 64)
def ck0 (h : gH) : Bool := (cO h 0 11 [.ref 65, .ref 80, .ref 95, .ref 106, .ref 116, .ref 117, .ref 118, .ref 119, .int (sI0 64 8), .int (sI0 64 9), .int (sI0 64 10), .int (sI0 64 11)]) && (cO h 1 7 [.ref 66, .ref 67, .ref 76, .ref 77, .ref 78, .ref 79, .int (sI0 65 6), .int (sI0 65 7), .int (sI0 65 8), .int (sI0 65 9), .int (sI0 65 10)]) && (cA h 2 0 120) && (cO h 3 6 [.ref 68, .ref 69, .ref 70, .ref 71, .ref 72, .ref 73, .ref 74, .ref 75, .int (sI0 67 8), .int (sI0 67 9), .int (sI0 67 10), .int (sI0 67 11), .int (sI0 67 12), .int (sI0 67 13), .int (sI0 67 14), .int (sI0 67 15)]) && (cA h 4 0 8) && (cA h 5 0 8) && (cA h 6 0 8) && (cA h 7 0 10) && (cA h 8 0 14) && (cA h 9 0 14) && (cA h 10 0 120)
def ck1 (h : gH) : Bool := (cA h 11 0 5) && (cW h 12 3 8) && (cA h 13 0 64) && (cA h 14 0 8) && (cA h 15 0 20) && (cO h 16 7 [.ref 81, .ref 82, .ref 91, .ref 92, .ref 93, .ref 94, .int (sI0 80 6), .int (sI0 80 7), .int (sI0 80 8), .int (sI0 80 9), .int (sI0 80 10)]) && (cA h 17 0 120) && (cO h 18 6 [.ref 83, .ref 84, .ref 85, .ref 86, .ref 87, .ref 88, .ref 89, .ref 90, .int (sI0 82 8), .int (sI0 82 9), .int (sI0 82 10), .int (sI0 82 11), .int (sI0 82 12), .int (sI0 82 13), .int (sI0 82 14), .int (sI0 82 15)]) && (cA h 19 0 8) && (cA h 20 0 8) && (cA h 21 0 8)
def ck2 (h : gH) : Bool := (cA h 22 0 10) && (cA h 23 0 14) && (cA h 24 0 14) && (cA h 25 0 120) && (cA h 26 0 5) && (cW h 27 3 8) && (cA h 28 0 64) && (cA h 29 0 8) && (cA h 30 0 20) && (cO h 31 5 [.ref 96, .ref 105, .int (sI0 95 2), .int (sI0 95 3)]) && (cO h 32 6 [.ref 97, .ref 98, .ref 99, .ref 100, .ref 101, .ref 102, .ref 103, .ref 104, .int (sI0 96 8), .int (sI0 96 9), .int (sI0 96 10), .int (sI0 96 11), .int (sI0 96 12), .int (sI0 96 13), .int (sI0 96 14), .int (sI0 96 15)])
def ck3 (h : gH) : Bool := (cA h 33 0 8) && (cA h 34 0 8) && (cA h 35 0 8) && (cA h 36 0 10) && (cA h 37 0 14) && (cA h 38 0 14) && (cA h 39 0 120) && (cA h 40 0 5) && (cA h 41 0 120) && (cO h 42 4 [.ref 107, .ref 108, .ref 109, .ref 110, .ref 111, .ref 112, .ref 113, .ref 114, .ref 115, .int (sI0 106 9), .int (sI0 106 10), .int (sI0 106 11), .int (sI0 106 12)]) && (cA h 43 0 4880)
def ck4 (h : gH) : Bool := (cA h 44 0 4880) && (cA h 45 0 549) && (cA h 46 0 549) && (cA h 47 0 549) && (cA h 48 0 61) && (cA h 49 0 61) && (cA h 50 0 5) && (cA h 51 0 5) && (cA h 52 0 8) && (cA h 53 0 256) && (cA h 54 0 256)
def ck5 (h : gH) : Bool := (cJ h 55 1 256) && (cO h 56 12 [.int (sI0 120 0), .ref 121, .ref 122, .int (sI0 120 3), .int (sI0 120 4), .int (sI0 120 5), .int (sI0 120 6), .int (sI0 120 7), .int (sI0 120 8), .ref 123, .ref 124, .ref 125, .ref 126, .ref 127, .int (sI0 120 14), .ref 128, .long (jI0 h 120 16), .long (jI0 h 120 17), .ref 129, .int (sI0 120 19), .int (sI0 120 20), .int (sI0 120 21), .int (sI0 120 22)]) && (cA h 57 0 1118) && (cA h 58 0 1118) && (cA h 59 0 5) && (cA h 60 2 64) && (cA h 61 0 549) && (cA h 62 0 549) && (cA h 63 0 549) && (cA h 64 0 8) && (cA h 65 0 20)
def ckV (h : gH) : Bool := (List.range 10).all (fun k => decide (gA0 h 7 k = nI 99)) && (List.range 5).all (fun k => decide (gA0 h 57 k = if k = 4 then -1 else 0)) && (List.range 8).all (fun k => (gW0 h 12 k).isNone && (gW0 h 27 k).isNone)
def ckAll (h : gH) : Bool := h.length == 66 && ck0 h && ck1 h && ck2 h && ck3 h && ck4 h && ck5 h && ckV h
def ckI : Bool := match F_X11_init 5000 64 [.inr (11, fs_11)] with
  | some h1 => h1.length == 56 && (match F_X12_init 5000 120 (h1 ++ [.inr (12, fs_12)]) with
    | some h3 => ckAll h3
    | none => false)
  | none => false
set_option maxRecDepth 100000 in
theorem ckI_t : ckI = true := by decide +kernel
theorem ck0_e {h : gH} (e : ck0 h = true) : h[0]? = (HP (aI0 h) sI0 (jI0 h) (wI0 h) [])[0]? ∧ h[1]? = (HP (aI0 h) sI0 (jI0 h) (wI0 h) [])[1]? ∧ h[2]? = (HP (aI0 h) sI0 (jI0 h) (wI0 h) [])[2]? ∧ h[3]? = (HP (aI0 h) sI0 (jI0 h) (wI0 h) [])[3]? ∧ h[4]? = (HP (aI0 h) sI0 (jI0 h) (wI0 h) [])[4]? ∧ h[5]? = (HP (aI0 h) sI0 (jI0 h) (wI0 h) [])[5]? ∧ h[6]? = (HP (aI0 h) sI0 (jI0 h) (wI0 h) [])[6]? ∧ h[7]? = (HP (aI0 h) sI0 (jI0 h) (wI0 h) [])[7]? ∧ h[8]? = (HP (aI0 h) sI0 (jI0 h) (wI0 h) [])[8]? ∧ h[9]? = (HP (aI0 h) sI0 (jI0 h) (wI0 h) [])[9]? ∧ h[10]? = (HP (aI0 h) sI0 (jI0 h) (wI0 h) [])[10]? := by
  unfold ck0 at e
  simp only [Bool.and_eq_true] at e
  obtain ⟨⟨⟨⟨⟨⟨⟨⟨⟨⟨x0, x1⟩, x2⟩, x3⟩, x4⟩, x5⟩, x6⟩, x7⟩, x8⟩, x9⟩, x10⟩ := e
  exact ⟨cO_e x0, cO_e x1, cA_e x2, cO_e x3, cA_e x4, cA_e x5, cA_e x6, cA_e x7, cA_e x8, cA_e x9, cA_e x10⟩
theorem ck1_e {h : gH} (e : ck1 h = true) : h[11]? = (HP (aI0 h) sI0 (jI0 h) (wI0 h) [])[11]? ∧ h[12]? = (HP (aI0 h) sI0 (jI0 h) (wI0 h) [])[12]? ∧ h[13]? = (HP (aI0 h) sI0 (jI0 h) (wI0 h) [])[13]? ∧ h[14]? = (HP (aI0 h) sI0 (jI0 h) (wI0 h) [])[14]? ∧ h[15]? = (HP (aI0 h) sI0 (jI0 h) (wI0 h) [])[15]? ∧ h[16]? = (HP (aI0 h) sI0 (jI0 h) (wI0 h) [])[16]? ∧ h[17]? = (HP (aI0 h) sI0 (jI0 h) (wI0 h) [])[17]? ∧ h[18]? = (HP (aI0 h) sI0 (jI0 h) (wI0 h) [])[18]? ∧ h[19]? = (HP (aI0 h) sI0 (jI0 h) (wI0 h) [])[19]? ∧ h[20]? = (HP (aI0 h) sI0 (jI0 h) (wI0 h) [])[20]? ∧ h[21]? = (HP (aI0 h) sI0 (jI0 h) (wI0 h) [])[21]? := by
  unfold ck1 at e
  simp only [Bool.and_eq_true] at e
  obtain ⟨⟨⟨⟨⟨⟨⟨⟨⟨⟨x0, x1⟩, x2⟩, x3⟩, x4⟩, x5⟩, x6⟩, x7⟩, x8⟩, x9⟩, x10⟩ := e
  exact ⟨cA_e x0, cW_e x1, cA_e x2, cA_e x3, cA_e x4, cO_e x5, cA_e x6, cO_e x7, cA_e x8, cA_e x9, cA_e x10⟩
theorem ck2_e {h : gH} (e : ck2 h = true) : h[22]? = (HP (aI0 h) sI0 (jI0 h) (wI0 h) [])[22]? ∧ h[23]? = (HP (aI0 h) sI0 (jI0 h) (wI0 h) [])[23]? ∧ h[24]? = (HP (aI0 h) sI0 (jI0 h) (wI0 h) [])[24]? ∧ h[25]? = (HP (aI0 h) sI0 (jI0 h) (wI0 h) [])[25]? ∧ h[26]? = (HP (aI0 h) sI0 (jI0 h) (wI0 h) [])[26]? ∧ h[27]? = (HP (aI0 h) sI0 (jI0 h) (wI0 h) [])[27]? ∧ h[28]? = (HP (aI0 h) sI0 (jI0 h) (wI0 h) [])[28]? ∧ h[29]? = (HP (aI0 h) sI0 (jI0 h) (wI0 h) [])[29]? ∧ h[30]? = (HP (aI0 h) sI0 (jI0 h) (wI0 h) [])[30]? ∧ h[31]? = (HP (aI0 h) sI0 (jI0 h) (wI0 h) [])[31]? ∧ h[32]? = (HP (aI0 h) sI0 (jI0 h) (wI0 h) [])[32]? := by
  unfold ck2 at e
  simp only [Bool.and_eq_true] at e
  obtain ⟨⟨⟨⟨⟨⟨⟨⟨⟨⟨x0, x1⟩, x2⟩, x3⟩, x4⟩, x5⟩, x6⟩, x7⟩, x8⟩, x9⟩, x10⟩ := e
  exact ⟨cA_e x0, cA_e x1, cA_e x2, cA_e x3, cA_e x4, cW_e x5, cA_e x6, cA_e x7, cA_e x8, cO_e x9, cO_e x10⟩
theorem ck3_e {h : gH} (e : ck3 h = true) : h[33]? = (HP (aI0 h) sI0 (jI0 h) (wI0 h) [])[33]? ∧ h[34]? = (HP (aI0 h) sI0 (jI0 h) (wI0 h) [])[34]? ∧ h[35]? = (HP (aI0 h) sI0 (jI0 h) (wI0 h) [])[35]? ∧ h[36]? = (HP (aI0 h) sI0 (jI0 h) (wI0 h) [])[36]? ∧ h[37]? = (HP (aI0 h) sI0 (jI0 h) (wI0 h) [])[37]? ∧ h[38]? = (HP (aI0 h) sI0 (jI0 h) (wI0 h) [])[38]? ∧ h[39]? = (HP (aI0 h) sI0 (jI0 h) (wI0 h) [])[39]? ∧ h[40]? = (HP (aI0 h) sI0 (jI0 h) (wI0 h) [])[40]? ∧ h[41]? = (HP (aI0 h) sI0 (jI0 h) (wI0 h) [])[41]? ∧ h[42]? = (HP (aI0 h) sI0 (jI0 h) (wI0 h) [])[42]? ∧ h[43]? = (HP (aI0 h) sI0 (jI0 h) (wI0 h) [])[43]? := by
  unfold ck3 at e
  simp only [Bool.and_eq_true] at e
  obtain ⟨⟨⟨⟨⟨⟨⟨⟨⟨⟨x0, x1⟩, x2⟩, x3⟩, x4⟩, x5⟩, x6⟩, x7⟩, x8⟩, x9⟩, x10⟩ := e
  exact ⟨cA_e x0, cA_e x1, cA_e x2, cA_e x3, cA_e x4, cA_e x5, cA_e x6, cA_e x7, cA_e x8, cO_e x9, cA_e x10⟩
theorem ck4_e {h : gH} (e : ck4 h = true) : h[44]? = (HP (aI0 h) sI0 (jI0 h) (wI0 h) [])[44]? ∧ h[45]? = (HP (aI0 h) sI0 (jI0 h) (wI0 h) [])[45]? ∧ h[46]? = (HP (aI0 h) sI0 (jI0 h) (wI0 h) [])[46]? ∧ h[47]? = (HP (aI0 h) sI0 (jI0 h) (wI0 h) [])[47]? ∧ h[48]? = (HP (aI0 h) sI0 (jI0 h) (wI0 h) [])[48]? ∧ h[49]? = (HP (aI0 h) sI0 (jI0 h) (wI0 h) [])[49]? ∧ h[50]? = (HP (aI0 h) sI0 (jI0 h) (wI0 h) [])[50]? ∧ h[51]? = (HP (aI0 h) sI0 (jI0 h) (wI0 h) [])[51]? ∧ h[52]? = (HP (aI0 h) sI0 (jI0 h) (wI0 h) [])[52]? ∧ h[53]? = (HP (aI0 h) sI0 (jI0 h) (wI0 h) [])[53]? ∧ h[54]? = (HP (aI0 h) sI0 (jI0 h) (wI0 h) [])[54]? := by
  unfold ck4 at e
  simp only [Bool.and_eq_true] at e
  obtain ⟨⟨⟨⟨⟨⟨⟨⟨⟨⟨x0, x1⟩, x2⟩, x3⟩, x4⟩, x5⟩, x6⟩, x7⟩, x8⟩, x9⟩, x10⟩ := e
  exact ⟨cA_e x0, cA_e x1, cA_e x2, cA_e x3, cA_e x4, cA_e x5, cA_e x6, cA_e x7, cA_e x8, cA_e x9, cA_e x10⟩
theorem ck5_e {h : gH} (e : ck5 h = true) : h[55]? = (HP (aI0 h) sI0 (jI0 h) (wI0 h) [])[55]? ∧ h[56]? = (HP (aI0 h) sI0 (jI0 h) (wI0 h) [])[56]? ∧ h[57]? = (HP (aI0 h) sI0 (jI0 h) (wI0 h) [])[57]? ∧ h[58]? = (HP (aI0 h) sI0 (jI0 h) (wI0 h) [])[58]? ∧ h[59]? = (HP (aI0 h) sI0 (jI0 h) (wI0 h) [])[59]? ∧ h[60]? = (HP (aI0 h) sI0 (jI0 h) (wI0 h) [])[60]? ∧ h[61]? = (HP (aI0 h) sI0 (jI0 h) (wI0 h) [])[61]? ∧ h[62]? = (HP (aI0 h) sI0 (jI0 h) (wI0 h) [])[62]? ∧ h[63]? = (HP (aI0 h) sI0 (jI0 h) (wI0 h) [])[63]? ∧ h[64]? = (HP (aI0 h) sI0 (jI0 h) (wI0 h) [])[64]? ∧ h[65]? = (HP (aI0 h) sI0 (jI0 h) (wI0 h) [])[65]? := by
  unfold ck5 at e
  simp only [Bool.and_eq_true] at e
  obtain ⟨⟨⟨⟨⟨⟨⟨⟨⟨⟨x0, x1⟩, x2⟩, x3⟩, x4⟩, x5⟩, x6⟩, x7⟩, x8⟩, x9⟩, x10⟩ := e
  exact ⟨cJ_e x0, cO_e x1, cA_e x2, cA_e x3, cA_e x4, cA_e x5, cA_e x6, cA_e x7, cA_e x8, cA_e x9, cA_e x10⟩
theorem len_get {h : gH} {l : gH} (h1 : h.length = 66) (h2 : l.length = 66) (h3 : ∀ i : Nat, i < 66 → h[i]? = l[i]?) : h = l := by
  apply List.ext_getElem?
  intro i
  by_cases c : i < 66
  · exact h3 i c
  · rw [List.getElem?_eq_none (by omega), List.getElem?_eq_none (by omega)]
theorem ck_HP {h : gH} (e : ckAll h = true) : h = HP (aI0 h) sI0 (jI0 h) (wI0 h) [] := by
  unfold ckAll at e
  simp only [Bool.and_eq_true] at e
  obtain ⟨⟨⟨⟨⟨⟨⟨e1, e2⟩, e3⟩, e4⟩, e5⟩, e6⟩, e7⟩, -⟩ := e
  rw [beq_iff_eq] at e1
  obtain ⟨y0, y1, y2, y3, y4, y5, y6, y7, y8, y9, y10⟩ := ck0_e e2
  obtain ⟨y11, y12, y13, y14, y15, y16, y17, y18, y19, y20, y21⟩ := ck1_e e3
  obtain ⟨y22, y23, y24, y25, y26, y27, y28, y29, y30, y31, y32⟩ := ck2_e e4
  obtain ⟨y33, y34, y35, y36, y37, y38, y39, y40, y41, y42, y43⟩ := ck3_e e5
  obtain ⟨y44, y45, y46, y47, y48, y49, y50, y51, y52, y53, y54⟩ := ck4_e e6
  obtain ⟨y55, y56, y57, y58, y59, y60, y61, y62, y63, y64, y65⟩ := ck5_e e7
  refine len_get e1 rfl (fun i hi => ?_)
  have hc : i = 0 ∨ i = 1 ∨ i = 2 ∨ i = 3 ∨ i = 4 ∨ i = 5 ∨ i = 6 ∨ i = 7 ∨ i = 8 ∨ i = 9 ∨ i = 10 ∨ i = 11 ∨ i = 12 ∨ i = 13 ∨ i = 14 ∨ i = 15 ∨ i = 16 ∨ i = 17 ∨ i = 18 ∨ i = 19 ∨ i = 20 ∨ i = 21 ∨ i = 22 ∨ i = 23 ∨ i = 24 ∨ i = 25 ∨ i = 26 ∨ i = 27 ∨ i = 28 ∨ i = 29 ∨ i = 30 ∨ i = 31 ∨ i = 32 ∨ i = 33 ∨ i = 34 ∨ i = 35 ∨ i = 36 ∨ i = 37 ∨ i = 38 ∨ i = 39 ∨ i = 40 ∨ i = 41 ∨ i = 42 ∨ i = 43 ∨ i = 44 ∨ i = 45 ∨ i = 46 ∨ i = 47 ∨ i = 48 ∨ i = 49 ∨ i = 50 ∨ i = 51 ∨ i = 52 ∨ i = 53 ∨ i = 54 ∨ i = 55 ∨ i = 56 ∨ i = 57 ∨ i = 58 ∨ i = 59 ∨ i = 60 ∨ i = 61 ∨ i = 62 ∨ i = 63 ∨ i = 64 ∨ i = 65 := by omega
  rcases hc with rfl | rfl | rfl | rfl | rfl | rfl | rfl | rfl | rfl | rfl | rfl | rfl | rfl | rfl | rfl | rfl | rfl | rfl | rfl | rfl | rfl | rfl | rfl | rfl | rfl | rfl | rfl | rfl | rfl | rfl | rfl | rfl | rfl | rfl | rfl | rfl | rfl | rfl | rfl | rfl | rfl | rfl | rfl | rfl | rfl | rfl | rfl | rfl | rfl | rfl | rfl | rfl | rfl | rfl | rfl | rfl | rfl | rfl | rfl | rfl | rfl | rfl | rfl | rfl | rfl | rfl
  · exact y0
  · exact y1
  · exact y2
  · exact y3
  · exact y4
  · exact y5
  · exact y6
  · exact y7
  · exact y8
  · exact y9
  · exact y10
  · exact y11
  · exact y12
  · exact y13
  · exact y14
  · exact y15
  · exact y16
  · exact y17
  · exact y18
  · exact y19
  · exact y20
  · exact y21
  · exact y22
  · exact y23
  · exact y24
  · exact y25
  · exact y26
  · exact y27
  · exact y28
  · exact y29
  · exact y30
  · exact y31
  · exact y32
  · exact y33
  · exact y34
  · exact y35
  · exact y36
  · exact y37
  · exact y38
  · exact y39
  · exact y40
  · exact y41
  · exact y42
  · exact y43
  · exact y44
  · exact y45
  · exact y46
  · exact y47
  · exact y48
  · exact y49
  · exact y50
  · exact y51
  · exact y52
  · exact y53
  · exact y54
  · exact y55
  · exact y56
  · exact y57
  · exact y58
  · exact y59
  · exact y60
  · exact y61
  · exact y62
  · exact y63
  · exact y64
  · exact y65
theorem l_init : LInit Inv := by
  have e := ckI_t
  unfold ckI at e
  cases e1 : F_X11_init 5000 64 [.inr (11, fs_11)] with
  | none => rw [e1] at e; cases e
  | some h1 =>
    rw [e1] at e
    dsimp only at e
    rw [Bool.and_eq_true, beq_iff_eq] at e
    obtain ⟨e2, e⟩ := e
    cases e3 : F_X12_init 5000 120 (h1 ++ [.inr (12, fs_12)]) with
    | none => rw [e3] at e; cases e
    | some h3 =>
      rw [e3] at e
      dsimp only at e
      have hP := ck_HP e
      unfold ckAll at e
      rw [Bool.and_eq_true] at e
      have eV := e.2
      unfold ckV at eV
      simp only [Bool.and_eq_true, List.all_eq_true, List.mem_range, decide_eq_true_eq] at eV
      obtain ⟨⟨v1, v2⟩, v3⟩ := eV
      refine ⟨h1, h3, e1, e2, e3, aI0 h3, sI0, jI0 h3, wI0 h3, [], ([], 0, [], [], 0), none, fun _ => rD0, 0, [], 0, hP, ⟨⟨⟨⟨rfl, fun i b hb => by cases hb⟩, rfl, ⟨rfl, fun i b hb => by cases hb⟩, ⟨rfl, fun i w hw => by cases hw⟩, ⟨⟨rfl, rfl, rfl, rfl, rfl⟩, fun p hp => absurd hp (Nat.not_lt_zero p), fun k hk => v1 k hk, ⟨rfl, rfl⟩, fun i q hq => (by cases hq), fun i c hc => (by cases hc)⟩, rfl⟩, ⟨⟨v2 3 (by decide), fun i b hb => by cases hb⟩, v2 1 (by decide), ⟨v2 2 (by decide), fun i b hb => by cases hb⟩, ⟨v2 0 (by decide), fun i w hw => by cases hw⟩, Or.inl ⟨v2 4 (by decide), rfl, rfl, rfl, rfl, rfl⟩⟩, ⟨⟨Nat.zero_le _, fun b hb => by cases hb⟩, Nat.zero_le _, ⟨Nat.zero_le _, fun b hb => by cases hb⟩, ⟨Nat.zero_le _, fun b hb => by cases hb⟩, Nat.le_refl _⟩⟩, fun g hg => (by cases hg), fun s _ => rD0_ok, ⟨rfl, Nat.le_refl _⟩, ⟨rfl, rfl⟩, ⟨rfl, fun i b hb => by cases hb⟩, ⟨rfl, fun i b hb => by cases hb⟩, Nat.zero_le _, ?_⟩, rfl, Nat.le_refl _, fun h => absurd h (Nat.not_lt_zero 0)⟩
      intro a ha i k hi hk
      obtain ⟨w1, w2⟩ := v3 i hi
      rcases ha with rfl | rfl
      · have w1 : (wI0 h3 76 i).isNone = true := w1
        rw [hk] at w1
        cases w1
      · have w2 : (wI0 h3 91 i).isNone = true := w2
        rw [hk] at w2
        cases w2
