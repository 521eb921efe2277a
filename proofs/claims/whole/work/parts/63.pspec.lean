/-! a road's text read, as data: ok, the place, what came -/
abbrev xR : Type := Bool × Nat × List Nat
def xDig (t : List Nat) (lo p : Nat) : Option Nat := match t[p]? with
  | none => none
  | some b => if 48 + lo ≤ b ∧ b ≤ 57 then some (b - 48) else none
def xNum (t : List Nat) (p : Nat) : Option (Nat × Nat) := match xDig t 0 p with
  | none => none
  | some d => if d = 0 then some (0, p + 1) else match xDig t 0 (p + 1) with
    | none => some (d, p + 1)
    | some e => some (10 * d + e, p + 2)
def xL (b : Nat) : Option Nat := if b = 107 then some 0 else if b = 101 then some 1 else if b = 115 then some 2 else if b = 119 then some 3 else if b = 114 then some 4 else none
def xQ (b : Nat) : Option Nat := if b = 60 then some 0 else if b = 61 then some 1 else if b = 62 then some 2 else none
def xTest (t : List Nat) (p : Nat) : xR := match (t[p]?).bind xL with
  | none => (false, p, [])
  | some w => match (t[p + 1]?).bind xQ with
    | none => (false, p + 1, [])
    | some q => match xNum t (p + 2) with
      | none => (false, p + 2, [])
      | some r => (true, r.2, [4 * w + 32 * q + 128 * r.1])
def xLp (f : Nat → xR) (t : List Nat) (c code : Nat) : Nat → Nat → List Nat → xR
  | 0, p, cs => (true, p, cs)
  | k + 1, p, cs => if t[p]? = some c then (if (f (p + 1)).1 = true then xLp f t c code k (f (p + 1)).2.1 (cs ++ (f (p + 1)).2.2 ++ [code]) else (false, (f (p + 1)).2.1, [])) else (true, p, cs)
def xAll (f : Nat → xR) (t : List Nat) (p : Nat) : xR := if (f p).1 = true then xLp f t 38 2 120 (f p).2.1 (f p).2.2 else (false, (f p).2.1, [])
def xAny (f : Nat → xR) (t : List Nat) (p : Nat) : xR := if (xAll f t p).1 = true then xLp (xAll f t) t 124 3 120 (xAll f t p).2.1 (xAll f t p).2.2 else (false, (xAll f t p).2.1, [])
def xFac (t : List Nat) : Nat → Nat → xR
  | 0, p => if t[p]? = some 33 ∨ t[p]? = some 40 then (false, p, []) else xTest t p
  | d + 1, p => if t[p]? = some 40 then (if (xAny (xFac t d) t (p + 1)).1 = true then (if t[(xAny (xFac t d) t (p + 1)).2.1]? = some 41 then (true, (xAny (xFac t d) t (p + 1)).2.1 + 1, (xAny (xFac t d) t (p + 1)).2.2) else (false, (xAny (xFac t d) t (p + 1)).2.1, [])) else (false, (xAny (xFac t d) t (p + 1)).2.1, []))
    else if t[p]? = some 33 then (if (xFac t d (p + 1)).1 = true then (true, (xFac t d (p + 1)).2.1, (xFac t d (p + 1)).2.2 ++ [1]) else (false, (xFac t d (p + 1)).2.1, [])) else xTest t p
theorem get_lt {t : List Nat} {p b : Nat} (h : t[p]? = some b) : p < t.length := (List.getElem?_eq_some_iff.mp h).1
theorem xDig_b {t : List Nat} {lo p d : Nat} (h : xDig t lo p = some d) : p < t.length ∧ lo ≤ d ∧ d ≤ 9 ∧ t[p]? = some (48 + d) := by
  unfold xDig at h
  cases e : t[p]? with
  | none => rw [e] at h; cases h
  | some b =>
    rw [e] at h
    dsimp only at h
    split at h
    · cases h
      exact ⟨get_lt e, by omega, by omega, by rw [show 48 + (b - 48) = b by omega]⟩
    · cases h
theorem xNum_b {t : List Nat} {p : Nat} {r : Nat × Nat} (h : xNum t p = some r) : p < r.2 ∧ r.2 ≤ t.length ∧ r.1 ≤ 99 := by
  unfold xNum at h
  cases e : xDig t 0 p with
  | none => rw [e] at h; cases h
  | some d =>
    rw [e] at h
    obtain ⟨a1, a2, a3, -⟩ := xDig_b e
    dsimp only at h
    split at h
    · cases h
      exact ⟨by show p < p + 1; omega, by show p + 1 ≤ _; omega, by show 0 ≤ 99; omega⟩
    · cases e2 : xDig t 0 (p + 1) with
      | none =>
        rw [e2] at h
        cases h
        exact ⟨by show p < p + 1; omega, by show p + 1 ≤ _; omega, by show d ≤ 99; omega⟩
      | some e =>
        rw [e2] at h
        obtain ⟨b1, b2, b3, -⟩ := xDig_b e2
        cases h
        exact ⟨by show p < p + 2; omega, by show p + 2 ≤ _; omega, by show 10 * d + e ≤ 99; omega⟩
theorem xL_b {b w : Nat} (h : xL b = some w) : w < 5 := by
  unfold xL at h
  repeat' split at h
  all_goals first | (cases h; decide) | cases h
theorem xQ_b {b w : Nat} (h : xQ b = some w) : w < 3 := by
  unfold xQ at h
  repeat' split at h
  all_goals first | (cases h; decide) | cases h
/-- what an expression's reader keeps: places, codes -/
def GdX (t : List Nat) (n : Nat) (f : Nat → xR) : Prop := ∀ p : Nat, p ≤ t.length → (p ≤ (f p).2.1 ∧ (f p).2.1 ≤ t.length) ∧ ((f p).1 = true → p < (f p).2.1 ∧ (f p).2.2.length + p ≤ (f p).2.1 ∧ (∀ c ∈ (f p).2.2, tkOk c) ∧ ∀ (rest : List Nat) (d : Nat), d + n ≤ 12 → tkD ((f p).2.2 ++ rest) d = tkD rest (d + 1))
theorem xTest_g (t : List Nat) : GdX t 0 (xTest t) := fun p hp => by
  unfold xTest
  cases e1 : (t[p]?).bind xL with
  | none => exact ⟨⟨Nat.le_refl _, hp⟩, fun h => by cases h⟩
  | some w =>
    obtain ⟨b1, g1, l1⟩ := Option.bind_eq_some_iff.mp e1
    have p1 := get_lt g1
    dsimp only
    cases e2 : (t[p + 1]?).bind xQ with
    | none => exact ⟨⟨Nat.le_succ _, p1⟩, fun h => by cases h⟩
    | some q =>
      obtain ⟨b2, g2, l2⟩ := Option.bind_eq_some_iff.mp e2
      have p2 := get_lt g2
      dsimp only
      cases e3 : xNum t (p + 2) with
      | none => exact ⟨⟨by show p ≤ p + 2; omega, by show p + 2 ≤ t.length; omega⟩, fun h => by cases h⟩
      | some r =>
        obtain ⟨b3, b4, b5⟩ := xNum_b e3
        refine ⟨⟨by show p ≤ r.2; omega, b4⟩, fun _ => ⟨by show p < r.2; omega, by show 1 + p ≤ r.2; omega, fun c hc => ?_, fun rest d hd => ?_⟩⟩
        · rw [List.mem_singleton.mp hc]
          exact Or.inr (Or.inr (Or.inr ⟨w, q, r.1, xL_b l1, xQ_b l2, by omega, rfl⟩))
        · show tkD ((4 * w + 32 * q + 128 * r.1) :: rest) d = _
          have hw := xL_b l1
          rw [tkD, if_neg (by omega), if_neg (by omega), if_pos (by omega)]
theorem tk23 {code d : Nat} {rest : List Nat} (hc : code = 2 ∨ code = 3) : tkD (code :: rest) (d + 2) = tkD rest (d + 1) := by
  rw [tkD, if_neg (by omega), if_pos hc, if_neg (by omega)]
  rfl
theorem xLp_g {t : List Nat} {n c code : Nat} {f : Nat → xR} (hf : GdX t n f) (hc : code = 2 ∨ code = 3) : ∀ (k p : Nat) (cs : List Nat), p ≤ t.length → (p ≤ (xLp f t c code k p cs).2.1 ∧ (xLp f t c code k p cs).2.1 ≤ t.length) ∧ ((xLp f t c code k p cs).1 = true → (∀ q : Nat, cs.length + q ≤ p → (xLp f t c code k p cs).2.2.length + q ≤ (xLp f t c code k p cs).2.1) ∧ ((∀ c ∈ cs, tkOk c) → ∀ c' ∈ (xLp f t c code k p cs).2.2, tkOk c') ∧ ∀ d : Nat, d + 1 + n ≤ 12 → (∀ rest : List Nat, tkD (cs ++ rest) d = tkD rest (d + 1)) → ∀ rest : List Nat, tkD ((xLp f t c code k p cs).2.2 ++ rest) d = tkD rest (d + 1))
  | 0, p, cs, hp => ⟨⟨Nat.le_refl _, hp⟩, fun _ => ⟨fun q h => h, fun h => h, fun d _ h => h⟩⟩
  | k + 1, p, cs, hp => by
    unfold xLp
    by_cases c1 : t[p]? = some c
    · rw [if_pos c1]
      have p1 := get_lt c1
      obtain ⟨⟨a1, a2⟩, a3⟩ := hf (p + 1) p1
      by_cases c2 : (f (p + 1)).1 = true
      · rw [if_pos c2]
        obtain ⟨b1, b2, b3, b4⟩ := a3 c2
        obtain ⟨⟨i1, i2⟩, i3⟩ := xLp_g hf hc k (f (p + 1)).2.1 (cs ++ (f (p + 1)).2.2 ++ [code]) a2
        refine ⟨⟨by omega, i2⟩, fun h => ?_⟩
        obtain ⟨j1, j2, j3⟩ := i3 h
        refine ⟨fun q hq => j1 q (by rw [List.length_append, List.length_append]; show cs.length + _ + 1 + q ≤ _; omega), fun h => j2 (fun x hx => ?_), fun d hd h rest => j3 d hd (fun rest => ?_) rest⟩
        · rcases List.mem_append.mp hx with hx | hx
          · rcases List.mem_append.mp hx with hx | hx
            · exact h x hx
            · exact b3 x hx
          · rw [List.mem_singleton.mp hx]
            rcases hc with rfl | rfl
            · exact Or.inr (Or.inl rfl)
            · exact Or.inr (Or.inr (Or.inl rfl))
        · rw [List.append_assoc, List.append_assoc, h, b4 _ _ (by omega)]
          exact tk23 hc
      · rw [if_neg c2]
        exact ⟨⟨by show p ≤ (f (p + 1)).2.1; omega, a2⟩, fun h => by cases h⟩
    · rw [if_neg c1]
      exact ⟨⟨Nat.le_refl _, hp⟩, fun _ => ⟨fun q h => h, fun h => h, fun d _ h => h⟩⟩
theorem xAll_g {t : List Nat} {n : Nat} {f : Nat → xR} (hf : GdX t n f) : GdX t (n + 1) (xAll f t) := fun p hp => by
  unfold xAll
  obtain ⟨⟨a1, a2⟩, a3⟩ := hf p hp
  by_cases c2 : (f p).1 = true
  · rw [if_pos c2]
    obtain ⟨b1, b2, b3, b4⟩ := a3 c2
    obtain ⟨⟨i1, i2⟩, i3⟩ := xLp_g hf (c := 38) (code := 2) (Or.inl rfl) 120 (f p).2.1 (f p).2.2 a2
    refine ⟨⟨by omega, i2⟩, fun h => ?_⟩
    obtain ⟨j1, j2, j3⟩ := i3 h
    exact ⟨by omega, j1 p b2, j2 b3, fun rest d hd => j3 d (by omega) (fun rest => b4 rest d (by omega)) rest⟩
  · rw [if_neg c2]
    exact ⟨⟨a1, a2⟩, fun h => by cases h⟩
theorem xAny_g {t : List Nat} {n : Nat} {f : Nat → xR} (hf : GdX t n f) : GdX t (n + 2) (xAny f t) := fun p hp => by
  unfold xAny
  have hg := xAll_g hf
  obtain ⟨⟨a1, a2⟩, a3⟩ := hg p hp
  by_cases c2 : (xAll f t p).1 = true
  · rw [if_pos c2]
    obtain ⟨b1, b2, b3, b4⟩ := a3 c2
    obtain ⟨⟨i1, i2⟩, i3⟩ := xLp_g hg (c := 124) (code := 3) (Or.inr rfl) 120 (xAll f t p).2.1 (xAll f t p).2.2 a2
    refine ⟨⟨by omega, i2⟩, fun h => ?_⟩
    obtain ⟨j1, j2, j3⟩ := i3 h
    exact ⟨by omega, j1 p b2, j2 b3, fun rest d hd => j3 d (by omega) (fun rest => b4 rest d (by omega)) rest⟩
  · rw [if_neg c2]
    exact ⟨⟨a1, a2⟩, fun h => by cases h⟩
theorem GdX.mo {t : List Nat} {n m : Nat} {f : Nat → xR} (h : GdX t n f) (hm : n ≤ m) : GdX t m f := fun p hp => by
  obtain ⟨a, b⟩ := h p hp
  refine ⟨a, fun q => ?_⟩
  obtain ⟨b1, b2, b3, b4⟩ := b q
  exact ⟨b1, b2, b3, fun rest d hd => b4 rest d (by omega)⟩
theorem xFac_g (t : List Nat) : ∀ d : Nat, GdX t (2 * d) (xFac t d)
  | 0 => fun p hp => by
    unfold xFac
    split
    · exact ⟨⟨Nat.le_refl _, hp⟩, fun h => by cases h⟩
    · exact xTest_g t p hp
  | d + 1 => fun p hp => by
    unfold xFac
    by_cases c1 : t[p]? = some 40
    · rw [if_pos c1]
      have p1 := get_lt c1
      obtain ⟨⟨a1, a2⟩, a3⟩ := xAny_g (xFac_g t d) (p + 1) p1
      generalize xAny (xFac t d) t (p + 1) = r at a1 a2 a3 ⊢
      by_cases c2 : r.1 = true
      · rw [if_pos c2]
        obtain ⟨b1, b2, b3, b4⟩ := a3 c2
        by_cases c3 : t[r.2.1]? = some 41
        · rw [if_pos c3]
          have p2 := get_lt c3
          exact ⟨⟨by show p ≤ r.2.1 + 1; omega, p2⟩, fun _ => ⟨by show p < r.2.1 + 1; omega, by show r.2.2.length + p ≤ r.2.1 + 1; omega, b3, fun rest d' hd => b4 rest d' (by omega)⟩⟩
        · rw [if_neg c3]
          exact ⟨⟨by show p ≤ r.2.1; omega, a2⟩, fun h => by cases h⟩
      · rw [if_neg c2]
        exact ⟨⟨by show p ≤ r.2.1; omega, a2⟩, fun h => by cases h⟩
    · rw [if_neg c1]
      by_cases c4 : t[p]? = some 33
      · rw [if_pos c4]
        have p1 := get_lt c4
        obtain ⟨⟨a1, a2⟩, a3⟩ := xFac_g t d (p + 1) p1
        generalize xFac t d (p + 1) = r at a1 a2 a3 ⊢
        by_cases c2 : r.1 = true
        · rw [if_pos c2]
          obtain ⟨b1, b2, b3, b4⟩ := a3 c2
          refine ⟨⟨by show p ≤ r.2.1; omega, a2⟩, fun _ => ⟨by show p < r.2.1; omega, by show (r.2.2 ++ [1]).length + p ≤ r.2.1; rw [List.length_append]; show r.2.2.length + 1 + p ≤ r.2.1; omega, fun x hx => ?_, fun rest d' hd => ?_⟩⟩
          · rcases List.mem_append.mp hx with hx | hx
            · exact b3 x hx
            · rw [List.mem_singleton.mp hx]
              exact Or.inl rfl
          · show tkD (r.2.2 ++ [1] ++ rest) d' = _
            rw [List.append_assoc, b4 _ d' (by omega)]
            show tkD (1 :: rest) (d' + 1) = _
            rw [tkD, if_pos rfl, if_neg (by omega)]
        · rw [if_neg c2]
          exact ⟨⟨by show p ≤ r.2.1; omega, a2⟩, fun h => by cases h⟩
      · rw [if_neg c4]
        exact (xTest_g t).mo (Nat.zero_le _) p hp
