/-! the words of a clause -/
def wWd : List (List Nat) := [[112, 105, 101, 99, 101], [98, 101, 110, 100], [101, 97, 115, 101], [98, 97, 114], [115, 116, 111, 114, 101], [98, 97, 99, 107], [104, 101, 97, 116]]
def wCh (k i : Nat) : Option Nat := (wWd.getD k [])[i]?
def wSt (M i : Nat) (e : Nat → Bool) : Nat → Nat → Nat → Bool × Nat
  | 0, _, St => (false, St)
  | r + 1, k, St => if M / 2 ^ k % 2 = 1 then (match wCh k i with
      | none => (true, k)
      | some c => wSt M i e r (k + 1) (if e c = true then St ||| 2 ^ k else St)) else wSt M i e r (k + 1) St
def wE (t : List Nat) (p : Nat) : Nat → Bool := fun c => decide (t[p]? = some c)
def wOut (t : List Nat) : Nat → Nat → Nat → Nat → Bool × Nat × Nat
  | 0, _, _, p => (false, 0, p)
  | f + 1, M, i, p => if (wSt M i (wE t p) 7 0 0).1 = true then (true, (wSt M i (wE t p) 7 0 0).2, p) else if (wSt M i (wE t p) 7 0 0).2 = 0 then (false, 0, p) else wOut t f (wSt M i (wE t p) 7 0 0).2 (i + 1) (p + 1)
/-- the blank behind a word -/
def xB (t : List Nat) (r : Bool × Nat × Nat) : Bool × Nat × Nat := if r.1 = true then (if t[r.2.2]? = some 32 then (true, r.2.1, r.2.2 + 1) else (false, 0, r.2.2)) else (false, 0, r.2.2)
def mkW (w : Nat) (r : Bool × Nat) : Bool × Nat × Nat := (r.1, if r.1 = true then w else 0, r.2)
theorem k7 {k : Nat} (h : k < 7) : k = 0 ∨ k = 1 ∨ k = 2 ∨ k = 3 ∨ k = 4 ∨ k = 5 ∨ k = 6 := by omega
theorem i6 {i : Nat} (h : i < 6) : i = 0 ∨ i = 1 ∨ i = 2 ∨ i = 3 ∨ i = 4 ∨ i = 5 := by omega
theorem w_some {w i c : Nat} (hw : w < 7) (hi : i < 6) (hc : wCh w i = some c) (e : Nat → Bool) : wSt (2 ^ w) i e 7 0 0 = (false, if e c = true then 2 ^ w else 0) := by
  rcases k7 hw with rfl | rfl | rfl | rfl | rfl | rfl | rfl <;> rcases i6 hi with rfl | rfl | rfl | rfl | rfl | rfl <;> first | (cases hc; rfl) | (exfalso; cases hc; done)
theorem w_none {w i : Nat} (hw : w < 7) (hi : i < 6) (hc : wCh w i = none) (e : Nat → Bool) : wSt (2 ^ w) i e 7 0 0 = (true, w) := by
  rcases k7 hw with rfl | rfl | rfl | rfl | rfl | rfl | rfl <;> rcases i6 hi with rfl | rfl | rfl | rfl | rfl | rfl <;> first | (exfalso; cases hc; done) | rfl
theorem wOut_lit {t : List Nat} {w : Nat} (hw : w < 7) : ∀ (n i p : Nat), i + n = (wWd.getD w []).length → xB t (wOut t (6 - i) (2 ^ w) i p) = mkW w (xLit t ((wWd.getD w []).drop i ++ [32]) p) := fun n => by
  have hl : (wWd.getD w []).length ≤ 5 := by rcases k7 hw with rfl | rfl | rfl | rfl | rfl | rfl | rfl <;> decide
  induction n with
  | zero =>
    intro i p hi
    have hi5 : i < 6 := by omega
    have hn : wCh w i = none := List.getElem?_eq_none_iff.mpr (by omega)
    rw [List.drop_eq_nil_of_le (by omega), show 6 - i = (5 - i) + 1 by omega]
    unfold wOut
    rw [w_none hw hi5 hn, if_pos rfl]
    have e1 : xLit t ([] ++ [32]) p = if t[p]? = some 32 then (true, p + 1) else (false, p) := rfl
    have e2 : xB t (true, w, p) = if t[p]? = some 32 then (true, w, p + 1) else (false, 0, p) := rfl
    show xB t (true, w, p) = _
    rw [e1, e2]
    by_cases c : t[p]? = some 32
    · rw [if_pos c, if_pos c]; rfl
    · rw [if_neg c, if_neg c]; rfl
  | succ n ih =>
    intro i p hi
    have hi5 : i < 6 := by omega
    have hlt : i < (wWd.getD w []).length := by omega
    have hc : wCh w i = some ((wWd.getD w [])[i]) := List.getElem?_eq_getElem hlt
    rw [List.drop_eq_getElem_cons hlt, show 6 - i = (5 - i) + 1 by omega, List.cons_append]
    generalize (wWd.getD w [])[i] = ch at hc ⊢
    unfold wOut xLit
    rw [w_some hw hi5 hc]
    dsimp only
    rw [if_neg (by decide)]
    have hpw : 2 ^ w ≠ 0 := Nat.ne_of_gt (Nat.two_pow_pos w)
    by_cases c : t[p]? = some ch
    · have we : wE t p ch = true := decide_eq_true c
      rw [if_pos c, if_pos we, if_neg hpw, show 5 - i = 6 - (i + 1) by omega]
      exact ih (i + 1) (p + 1) (by omega)
    · have we : ¬ wE t p ch = true := fun q => c (of_decide_eq_true q)
      rw [if_neg c, if_neg we, if_pos rfl]
      rfl
/-- word and blank: ok, the word's number, the place -/
def xW (t : List Nat) (nine : Bool) (p : Nat) : Bool × Nat × Nat :=
  if t[p]? = some 112 then (if nine = true then (false, 0, p) else mkW 0 (xLit t [105, 101, 99, 101, 32] (p + 1)))
  else if t[p]? = some 98 then (if t[p + 1]? = some 101 then mkW 1 (xLit t [110, 100, 32] (p + 2)) else if t[p + 1]? = some 97 then (if t[p + 2]? = some 114 then mkW 3 (xLit t [32] (p + 3)) else if t[p + 2]? = some 99 then mkW 5 (xLit t [107, 32] (p + 3)) else (false, 0, p + 2)) else (false, 0, p + 1))
  else if t[p]? = some 101 then mkW 2 (xLit t [97, 115, 101, 32] (p + 1))
  else if t[p]? = some 115 then mkW 4 (xLit t [116, 111, 114, 101, 32] (p + 1))
  else if t[p]? = some 104 then mkW 6 (xLit t [101, 97, 116, 32] (p + 1))
  else (false, 0, p)
theorem wE_of {t : List Nat} {p b : Nat} (h : t[p]? = some b) : wE t p = fun c => decide (b = c) := by
  funext c
  unfold wE
  rw [h]
  by_cases q : b = c
  · rw [decide_eq_true (by rw [q]), decide_eq_true q]
  · rw [decide_eq_false (fun e => q (Option.some.inj e)), decide_eq_false q]
theorem wS0 {e : Nat → Bool} (nine : Bool) (h1 : nine = true ∨ e 112 = false) (h2 : e 98 = false) (h3 : e 101 = false) (h4 : e 115 = false) (h5 : e 104 = false) : wSt (if nine = true then 126 else 127) 0 e 7 0 0 = (false, 0) := by
  cases nine with
  | true => simp [wSt, wCh, wWd, h2, h3, h4, h5]
  | false =>
    have h1 : e 112 = false := h1.resolve_left (by decide)
    simp [wSt, wCh, wWd, h1, h2, h3, h4, h5]
theorem wS42 {e : Nat → Bool} (h2 : e 101 = false) (h3 : e 97 = false) : wSt 42 1 e 7 0 0 = (false, 0) := by
  simp [wSt, wCh, wWd, h2, h3]
theorem wS40 {e : Nat → Bool} (h2 : e 114 = false) (h3 : e 99 = false) : wSt 40 2 e 7 0 0 = (false, 0) := by
  simp [wSt, wCh, wWd, h2, h3]
theorem wOut_0 {t : List Nat} {f M i p : Nat} (h : wSt M i (wE t p) 7 0 0 = (false, 0)) : wOut t (f + 1) M i p = (false, 0, p) := by
  unfold wOut
  rw [h, if_neg (by decide), if_pos rfl]
theorem wOut_s {t : List Nat} {f M i p K : Nat} (h : wSt M i (wE t p) 7 0 0 = (false, K)) (hK : K ≠ 0) : wOut t (f + 1) M i p = wOut t f K (i + 1) (p + 1) := by
  rw [wOut, h]
  dsimp only
  rw [if_neg (by decide), if_neg hK]
theorem wE_f {t : List Nat} {p c : Nat} (h : t[p]? ≠ some c) : wE t p c = false := decide_eq_false h
theorem xW_eq (t : List Nat) (nine : Bool) (p : Nat) : xB t (wOut t 6 (if nine = true then 126 else 127) 0 p) = xW t nine p := by
  unfold xW
  by_cases c1 : t[p]? = some 112
  · rw [if_pos c1]
    cases nine with
    | true =>
      rw [if_pos rfl, if_pos rfl, wOut_0 (by rw [wE_of c1]; rfl)]
      rfl
    | false =>
      rw [if_neg (by decide), if_neg (by decide), wOut_s (K := 1) (by rw [wE_of c1]; rfl) (by decide)]
      exact wOut_lit (w := 0) (by decide) 4 1 (p + 1) rfl
  · rw [if_neg c1]
    by_cases c2 : t[p]? = some 98
    · rw [if_pos c2, wOut_s (K := 42) (by rw [wE_of c2]; cases nine <;> rfl) (by decide)]
      by_cases c3 : t[p + 1]? = some 101
      · rw [if_pos c3, wOut_s (K := 2) (by rw [wE_of c3]; rfl) (by decide)]
        exact wOut_lit (w := 1) (by decide) 2 2 (p + 2) rfl
      · rw [if_neg c3]
        by_cases c4 : t[p + 1]? = some 97
        · rw [if_pos c4, wOut_s (K := 40) (by rw [wE_of c4]; rfl) (by decide)]
          by_cases c5 : t[p + 2]? = some 114
          · rw [if_pos c5, wOut_s (K := 8) (by rw [wE_of c5]; rfl) (by decide)]
            exact wOut_lit (w := 3) (by decide) 0 3 (p + 3) rfl
          · rw [if_neg c5]
            by_cases c6 : t[p + 2]? = some 99
            · rw [if_pos c6, wOut_s (K := 32) (by rw [wE_of c6]; rfl) (by decide)]
              exact wOut_lit (w := 5) (by decide) 1 3 (p + 3) rfl
            · rw [if_neg c6, wOut_0 (wS40 (wE_f c5) (wE_f c6))]
              rfl
        · rw [if_neg c4, wOut_0 (wS42 (wE_f c3) (wE_f c4))]
          rfl
    · rw [if_neg c2]
      by_cases c3 : t[p]? = some 101
      · rw [if_pos c3, wOut_s (K := 4) (by rw [wE_of c3]; cases nine <;> rfl) (by decide)]
        exact wOut_lit (w := 2) (by decide) 3 1 (p + 1) rfl
      · rw [if_neg c3]
        by_cases c4 : t[p]? = some 115
        · rw [if_pos c4, wOut_s (K := 16) (by rw [wE_of c4]; cases nine <;> rfl) (by decide)]
          exact wOut_lit (w := 4) (by decide) 4 1 (p + 1) rfl
        · rw [if_neg c4]
          by_cases c5 : t[p]? = some 104
          · rw [if_pos c5, wOut_s (K := 64) (by rw [wE_of c5]; cases nine <;> rfl) (by decide)]
            exact wOut_lit (w := 6) (by decide) 3 1 (p + 1) rfl
          · rw [if_neg c5, wOut_0 (wS0 nine (Or.inr (wE_f c1)) (wE_f c2) (wE_f c3) (wE_f c4) (wE_f c5))]
            rfl
theorem wSt_b {M i : Nat} {e : Nat → Bool} : ∀ (r k St : Nat), k + r = 7 → St < 128 → (wSt M i e r k St).2 < 128
  | 0, _, _, _, h => h
  | r + 1, k, St, hk, h => by
    unfold wSt
    by_cases c : M / 2 ^ k % 2 = 1
    · rw [if_pos c]
      cases e1 : wCh k i with
      | none => show k < 128; omega
      | some ch =>
        dsimp only
        refine wSt_b r (k + 1) _ (by omega) ?_
        split
        · exact Nat.or_lt_two_pow (n := 7) h (Nat.pow_lt_pow_right (by decide) (by omega))
        · exact h
    · rw [if_neg c]
      exact wSt_b r (k + 1) St (by omega) h
theorem bt_on : ∀ M : Nat, M < 128 → ∀ k : Nat, k < 7 → (((nI M >>> (nI k &&& 31)) &&& (1 : Int32)) = (1 : Int32) ↔ M / 2 ^ k % 2 = 1) := by decide +kernel
theorem bt_or7 : ∀ M : Nat, M < 128 → ∀ k : Nat, k < 7 → (nI M ||| ((1 : Int32) <<< (nI k &&& 31))) = nI (M ||| 2 ^ k) := by decide +kernel
section Z1
variable {A S : Nat → Nat → Int32} {J : Nat → Nat → Int64} {W : Nat → Nat → Option Nat} {ws : List gC} {t cc : List Nat} {p : Nat}
theorem w_of {k : Nat} {h : gH} (hk : k < 7) : F_X5_wordOf 5000 (nI k) h = some (3 + k, h) := by
  rcases k7 hk with rfl | rfl | rfl | rfl | rfl | rfl | rfl <;> rfl
theorem w_len {k : Nat} {h : gH} (hk : k < 7) : F_J0_length_8abf5 5000 (3 + k) h = some (nI (wWd.getD k []).length, h) := by
  rcases k7 hk with rfl | rfl | rfl | rfl | rfl | rfl | rfl <;> rfl
theorem w_chr {k i c : Nat} {h : gH} (hk : k < 7) (hi : i < 6) (hc : wCh k i = some c) : F_J0_charAt_5068e 5000 (3 + k) (nI i) h = some (nI c, h) := by
  unfold F_J0_charAt_5068e
  rcases k7 hk with rfl | rfl | rfl | rfl | rfl | rfl | rfl <;> rcases i6 hi with rfl | rfl | rfl | rfl | rfl | rfl <;> first | (exfalso; cases hc; done) | (cases hc; rw [if_pos (by decide)]; rfl)
theorem w_chb {k i c : Nat} (hk : k < 7) (hi : i < 6) (hc : wCh k i = some c) : c ≤ 255 := by
  rcases k7 hk with rfl | rfl | rfl | rfl | rfl | rfl | rfl <;> rcases i6 hi with rfl | rfl | rfl | rfl | rfl | rfl <;> first | (exfalso; cases hc; done) | (cases hc; decide)
theorem w_l5 {k : Nat} (hk : k < 7) : (wWd.getD k []).length ≤ 5 := by
  rcases k7 hk with rfl | rfl | rfl | rfl | rfl | rfl | rfl <;> decide
theorem c_wI (h : ExC A S t p cc) (ht : tpOk t) (hp : p ≤ t.length) {M i : Nat} (hM : M < 128) (hi : i < 6) {k21 : Nat → Int32 → Int32 → gH → Option (Int32 × gH)} : ∀ (r k m St : Nat), k + r = 7 → St < 128 → F_X5_word_31 5000 k21 (m + 1 + r) 95 (nI M) (nI i) (nI St) (nI k) (HP A S J W ws) = if (wSt M i (wE t p) r k St).1 = true then some (nI (wSt M i (wE t p) r k St).2, HP A S J W ws) else if (wSt M i (wE t p) r k St).2 = 0 then some (-1, HP A S J W ws) else k21 95 (nI (wSt M i (wE t p) r k St).2) (nI (i + 1)) (HP A (up2 S 95 3 (nI (p + 1))) J W ws)
  | 0, k, m, St, hk, hS => by
    have h3 := h.2.1
    have h120 := ht.1
    have hk : k = 7 := hk
    subst hk
    show F_X5_word_31 5000 k21 (m + 1) 95 (nI M) (nI i) (nI St) (nI 7) (HP A S J W ws) = if false = true then _ else if St = 0 then _ else _
    rw [if_neg (by decide)]
    unfold F_X5_word_31
    by_cases c : St = 0
    · rw [if_pos c]
      (repeat (first | ((with_reducible apply st_gR); (focus rfl)) | ((with_reducible apply st_gO); (focus rfl)) | ((with_reducible apply st_gI); (focus rfl); (focus (first | (simp (disch := omega) only [up2_s, up2_n, up2_k] <;> first | fail | with_reducible rfl) | with_reducible rfl))) | ((with_reducible apply st_aI); (focus (first | rfl | with_reducible assumption)); (focus (first | with_reducible rfl | (simp -failIfUnchanged (disch := omega) only [lit, nI_add, nI_mul, nI_sub, nI_m1'] <;> with_reducible rfl))); (focus omega); (focus (first | (simp (disch := omega) only [up2_s, up2_n, up2_k] <;> first | fail | with_reducible rfl) | with_reducible rfl))) | ((with_reducible apply st_sI); (focus (first | rfl | with_reducible assumption)); (focus (first | with_reducible rfl | (simp -failIfUnchanged (disch := omega) only [lit, nI_add, nI_mul, nI_sub, nI_m1'] <;> with_reducible rfl))); (focus omega); (focus (first | (simp (disch := omega) only [lit, nI_add, nI_mul, nI_sub, nI_m1'] <;> with_reducible rfl) | with_reducible rfl))) | ((with_reducible apply st_pF); (focus rfl); (focus (first | (simp (disch := omega) only [lit, nI_add, nI_mul, nI_sub, nI_m1'] <;> with_reducible rfl) | with_reducible rfl))) | ((with_reducible apply st_pZ); (focus rfl); (focus decide)) | ((with_reducible apply st_len); (focus (first | rfl | with_reducible assumption))) | ((with_reducible apply st_aZ); (focus (first | with_reducible rfl | (simp -failIfUnchanged (disch := omega) only [lit, nI_add, nI_mul, nI_sub, nI_m1'] <;> with_reducible rfl))); (focus omega); (focus (first | (simp (disch := omega) only [up2_s, up2_n, up2_k] <;> first | fail | with_reducible rfl) | with_reducible rfl))) | ((with_reducible apply st_sZ); (focus (first | with_reducible rfl | (simp -failIfUnchanged (disch := omega) only [lit, nI_add, nI_mul, nI_sub, nI_m1'] <;> with_reducible rfl))); (focus omega); (focus rfl)) | ((with_reducible apply st_gL); (focus decide); (focus (first | (simp (disch := omega) only [up2_s, up2_n, up2_k] <;> first | fail | with_reducible rfl) | with_reducible rfl))) | ((with_reducible apply st_pFL); (focus decide); (focus (first | (simp (disch := omega) only [lit, nI_add, nI_mul, nI_sub, nI_m1'] <;> with_reducible rfl) | with_reducible rfl))) | ((with_reducible apply st_aL); (focus (first | with_reducible rfl | (simp -failIfUnchanged (disch := omega) only [lit, nI_add, nI_mul, nI_sub, nI_m1'] <;> with_reducible rfl))); (focus omega); (focus (first | (simp (disch := omega) only [up2_s, up2_n, up2_k] <;> first | fail | with_reducible rfl) | with_reducible rfl))) | ((with_reducible apply st_sL); (focus (first | with_reducible rfl | (simp -failIfUnchanged (disch := omega) only [lit, nI_add, nI_mul, nI_sub, nI_m1'] <;> with_reducible rfl))); (focus omega); (focus (first | (simp (disch := omega) only [lit, nI_add, nI_mul, nI_sub, nI_m1'] <;> with_reducible rfl) | with_reducible rfl))) | ((with_reducible apply st_aQ); (focus decide); (focus (first | with_reducible rfl | (simp -failIfUnchanged (disch := omega) only [lit, nI_add, nI_mul, nI_sub, nI_m1'] <;> with_reducible rfl))); (focus omega); (focus (first | (simp (disch := omega) only [up2_s, up2_n, up2_k] <;> first | fail | with_reducible rfl) | with_reducible rfl))) | ((with_reducible apply ex_gB); (focus (first | fail))) | ((with_reducible apply ey_pos); (focus (with_reducible assumption))) | ((with_reducible apply ey_neg); (focus (with_reducible assumption))) | ((with_reducible apply ey_pos); (focus (with_reducible rfl))) | ((with_reducible apply ey_pos); (focus ((simp -failIfUnchanged (disch := omega) only [lit, nI_add, nI_mul, nI_sub, nI_m1', nI_leI, nI_ltI, nI_eq, m_eq, m_eq', m_lt, m_le, m_lt', m_le', mm_eq, mm_lt, mm_le, or_true, true_or, or_false, false_or, not_true_eq_false, not_false_eq_true, Bool.false_eq_true, reduceCtorEq, eq_self] <;> omega)))) | ((with_reducible apply ey_neg); (focus ((simp -failIfUnchanged (disch := omega) only [lit, nI_add, nI_mul, nI_sub, nI_m1', nI_leI, nI_ltI, nI_eq, m_eq, m_eq', m_lt, m_le, m_lt', m_le', mm_eq, mm_lt, mm_le, or_true, true_or, or_false, false_or, not_true_eq_false, not_false_eq_true, Bool.false_eq_true, reduceCtorEq, eq_self] <;> omega)))) | (with_reducible apply ex_sm) | ((with_reducible apply ex_bind); (focus (first | fail))))); (try with_reducible rfl)
    · rw [if_neg c]
      (repeat (first | ((with_reducible apply st_gR); (focus rfl)) | ((with_reducible apply st_gO); (focus rfl)) | ((with_reducible apply st_gI); (focus rfl); (focus (first | with_reducible exact (h3) | with_reducible exact vx (h3) (by omega) | (simp (disch := omega) only [up2_s, up2_n, up2_k] <;> first | with_reducible exact (h3) | with_reducible exact vx (h3) (by omega) | with_reducible rfl) | with_reducible rfl))) | ((with_reducible apply st_aI); (focus (first | rfl | with_reducible assumption)); (focus (first | with_reducible rfl | (simp -failIfUnchanged (disch := omega) only [lit, nI_add, nI_mul, nI_sub, nI_m1'] <;> with_reducible rfl))); (focus omega); (focus (first | with_reducible exact (h3) | with_reducible exact vx (h3) (by omega) | (simp (disch := omega) only [up2_s, up2_n, up2_k] <;> first | with_reducible exact (h3) | with_reducible exact vx (h3) (by omega) | with_reducible rfl) | with_reducible rfl))) | ((with_reducible apply st_sI); (focus (first | rfl | with_reducible assumption)); (focus (first | with_reducible rfl | (simp -failIfUnchanged (disch := omega) only [lit, nI_add, nI_mul, nI_sub, nI_m1'] <;> with_reducible rfl))); (focus omega); (focus (first | with_reducible exact (h3) | (simp (disch := omega) only [lit, nI_add, nI_mul, nI_sub, nI_m1'] <;> with_reducible rfl) | with_reducible rfl))) | ((with_reducible apply st_pF); (focus rfl); (focus (first | with_reducible exact (h3) | (simp (disch := omega) only [lit, nI_add, nI_mul, nI_sub, nI_m1'] <;> with_reducible rfl) | with_reducible rfl))) | ((with_reducible apply st_pZ); (focus rfl); (focus decide)) | ((with_reducible apply st_len); (focus (first | rfl | with_reducible assumption))) | ((with_reducible apply st_aZ); (focus (first | with_reducible rfl | (simp -failIfUnchanged (disch := omega) only [lit, nI_add, nI_mul, nI_sub, nI_m1'] <;> with_reducible rfl))); (focus omega); (focus (first | with_reducible exact (h3) | with_reducible exact vx (h3) (by omega) | (simp (disch := omega) only [up2_s, up2_n, up2_k] <;> first | with_reducible exact (h3) | with_reducible exact vx (h3) (by omega) | with_reducible rfl) | with_reducible rfl))) | ((with_reducible apply st_sZ); (focus (first | with_reducible rfl | (simp -failIfUnchanged (disch := omega) only [lit, nI_add, nI_mul, nI_sub, nI_m1'] <;> with_reducible rfl))); (focus omega); (focus rfl)) | ((with_reducible apply st_gL); (focus decide); (focus (first | with_reducible exact (h3) | with_reducible exact vx (h3) (by omega) | (simp (disch := omega) only [up2_s, up2_n, up2_k] <;> first | with_reducible exact (h3) | with_reducible exact vx (h3) (by omega) | with_reducible rfl) | with_reducible rfl))) | ((with_reducible apply st_pFL); (focus decide); (focus (first | with_reducible exact (h3) | (simp (disch := omega) only [lit, nI_add, nI_mul, nI_sub, nI_m1'] <;> with_reducible rfl) | with_reducible rfl))) | ((with_reducible apply st_aL); (focus (first | with_reducible rfl | (simp -failIfUnchanged (disch := omega) only [lit, nI_add, nI_mul, nI_sub, nI_m1'] <;> with_reducible rfl))); (focus omega); (focus (first | with_reducible exact (h3) | with_reducible exact vx (h3) (by omega) | (simp (disch := omega) only [up2_s, up2_n, up2_k] <;> first | with_reducible exact (h3) | with_reducible exact vx (h3) (by omega) | with_reducible rfl) | with_reducible rfl))) | ((with_reducible apply st_sL); (focus (first | with_reducible rfl | (simp -failIfUnchanged (disch := omega) only [lit, nI_add, nI_mul, nI_sub, nI_m1'] <;> with_reducible rfl))); (focus omega); (focus (first | with_reducible exact (h3) | (simp (disch := omega) only [lit, nI_add, nI_mul, nI_sub, nI_m1'] <;> with_reducible rfl) | with_reducible rfl))) | ((with_reducible apply st_aQ); (focus decide); (focus (first | with_reducible rfl | (simp -failIfUnchanged (disch := omega) only [lit, nI_add, nI_mul, nI_sub, nI_m1'] <;> with_reducible rfl))); (focus omega); (focus (first | with_reducible exact (h3) | with_reducible exact vx (h3) (by omega) | (simp (disch := omega) only [up2_s, up2_n, up2_k] <;> first | with_reducible exact (h3) | with_reducible exact vx (h3) (by omega) | with_reducible rfl) | with_reducible rfl))) | ((with_reducible apply ex_gB); (focus (first | with_reducible exact (h3) | (simp (disch := omega) only [lit, nI_add, nI_mul, nI_sub, nI_m1'] <;> first | with_reducible exact (h3))))) | ((with_reducible apply ey_pos); (focus (with_reducible assumption))) | ((with_reducible apply ey_neg); (focus (with_reducible assumption))) | ((with_reducible apply ey_pos); (focus (with_reducible rfl))) | ((with_reducible apply ey_pos); (focus ((simp -failIfUnchanged (disch := omega) only [lit, nI_add, nI_mul, nI_sub, nI_m1', nI_leI, nI_ltI, nI_eq, m_eq, m_eq', m_lt, m_le, m_lt', m_le', mm_eq, mm_lt, mm_le, or_true, true_or, or_false, false_or, not_true_eq_false, not_false_eq_true, Bool.false_eq_true, reduceCtorEq, eq_self] <;> omega)))) | ((with_reducible apply ey_neg); (focus ((simp -failIfUnchanged (disch := omega) only [lit, nI_add, nI_mul, nI_sub, nI_m1', nI_leI, nI_ltI, nI_eq, m_eq, m_eq', m_lt, m_le, m_lt', m_le', mm_eq, mm_lt, mm_le, or_true, true_or, or_false, false_or, not_true_eq_false, not_false_eq_true, Bool.false_eq_true, reduceCtorEq, eq_self] <;> omega)))) | (with_reducible apply ex_sm) | ((with_reducible apply ex_bind); (focus (first | with_reducible exact (h3) | (simp (disch := omega) only [lit, nI_add, nI_mul, nI_sub, nI_m1'] <;> first | with_reducible exact (h3))))))); (try with_reducible rfl)
      rw [show nI i + 1 = nI (i + 1) from nI_add i 1]
      rfl
  | r + 1, k, m, St, hk, hS => by
    have h120 := ht.1
    have hk7 : k < 7 := by omega
    have e1 := w_of (h := HP A S J W ws) hk7
    have e2 := w_len (h := HP A S J W ws) hk7
    have l5 := w_l5 hk7
    have en := c_next (n := 5000) (J := J) (W := W) (ws := ws) h ht hp
    have bo := bt_on M hM k hk7
    have ek : nI k + 1 = nI (k + 1) := nI_add k 1
    have c7 : ¬ ((7 : Int32) ≤ nI k) := by
      rw [show (7 : Int32) = nI 7 from rfl, nI_leI (by omega) (by omega)]
      omega
    rw [show m + 1 + (r + 1) = (m + 1 + r) + 1 from rfl, F_X5_word_31, if_neg c7, e1, gB_some, wSt]
    by_cases c : M / 2 ^ k % 2 = 1
    · rw [if_pos (bo.mpr c), if_pos c]
      cases e4 : wCh k i with
      | none =>
        have hl : (wWd.getD k []).length ≤ i := List.getElem?_eq_none_iff.mp e4
        dsimp only
        rw [if_pos rfl]
        unfold F_X5_word_60
        (repeat (first | ((with_reducible apply st_gR); (focus rfl)) | ((with_reducible apply st_gO); (focus rfl)) | ((with_reducible apply st_gI); (focus rfl); (focus (first | with_reducible exact (e2) | with_reducible exact vx (e2) (by omega) | (simp (disch := omega) only [up2_s, up2_n, up2_k] <;> first | with_reducible exact (e2) | with_reducible exact vx (e2) (by omega) | with_reducible rfl) | with_reducible rfl))) | ((with_reducible apply st_aI); (focus (first | rfl | with_reducible assumption)); (focus (first | with_reducible rfl | (simp -failIfUnchanged (disch := omega) only [lit, nI_add, nI_mul, nI_sub, nI_m1'] <;> with_reducible rfl))); (focus omega); (focus (first | with_reducible exact (e2) | with_reducible exact vx (e2) (by omega) | (simp (disch := omega) only [up2_s, up2_n, up2_k] <;> first | with_reducible exact (e2) | with_reducible exact vx (e2) (by omega) | with_reducible rfl) | with_reducible rfl))) | ((with_reducible apply st_sI); (focus (first | rfl | with_reducible assumption)); (focus (first | with_reducible rfl | (simp -failIfUnchanged (disch := omega) only [lit, nI_add, nI_mul, nI_sub, nI_m1'] <;> with_reducible rfl))); (focus omega); (focus (first | with_reducible exact (e2) | (simp (disch := omega) only [lit, nI_add, nI_mul, nI_sub, nI_m1'] <;> with_reducible rfl) | with_reducible rfl))) | ((with_reducible apply st_pF); (focus rfl); (focus (first | with_reducible exact (e2) | (simp (disch := omega) only [lit, nI_add, nI_mul, nI_sub, nI_m1'] <;> with_reducible rfl) | with_reducible rfl))) | ((with_reducible apply st_pZ); (focus rfl); (focus decide)) | ((with_reducible apply st_len); (focus (first | rfl | with_reducible assumption))) | ((with_reducible apply st_aZ); (focus (first | with_reducible rfl | (simp -failIfUnchanged (disch := omega) only [lit, nI_add, nI_mul, nI_sub, nI_m1'] <;> with_reducible rfl))); (focus omega); (focus (first | with_reducible exact (e2) | with_reducible exact vx (e2) (by omega) | (simp (disch := omega) only [up2_s, up2_n, up2_k] <;> first | with_reducible exact (e2) | with_reducible exact vx (e2) (by omega) | with_reducible rfl) | with_reducible rfl))) | ((with_reducible apply st_sZ); (focus (first | with_reducible rfl | (simp -failIfUnchanged (disch := omega) only [lit, nI_add, nI_mul, nI_sub, nI_m1'] <;> with_reducible rfl))); (focus omega); (focus rfl)) | ((with_reducible apply st_gL); (focus decide); (focus (first | with_reducible exact (e2) | with_reducible exact vx (e2) (by omega) | (simp (disch := omega) only [up2_s, up2_n, up2_k] <;> first | with_reducible exact (e2) | with_reducible exact vx (e2) (by omega) | with_reducible rfl) | with_reducible rfl))) | ((with_reducible apply st_pFL); (focus decide); (focus (first | with_reducible exact (e2) | (simp (disch := omega) only [lit, nI_add, nI_mul, nI_sub, nI_m1'] <;> with_reducible rfl) | with_reducible rfl))) | ((with_reducible apply st_aL); (focus (first | with_reducible rfl | (simp -failIfUnchanged (disch := omega) only [lit, nI_add, nI_mul, nI_sub, nI_m1'] <;> with_reducible rfl))); (focus omega); (focus (first | with_reducible exact (e2) | with_reducible exact vx (e2) (by omega) | (simp (disch := omega) only [up2_s, up2_n, up2_k] <;> first | with_reducible exact (e2) | with_reducible exact vx (e2) (by omega) | with_reducible rfl) | with_reducible rfl))) | ((with_reducible apply st_sL); (focus (first | with_reducible rfl | (simp -failIfUnchanged (disch := omega) only [lit, nI_add, nI_mul, nI_sub, nI_m1'] <;> with_reducible rfl))); (focus omega); (focus (first | with_reducible exact (e2) | (simp (disch := omega) only [lit, nI_add, nI_mul, nI_sub, nI_m1'] <;> with_reducible rfl) | with_reducible rfl))) | ((with_reducible apply st_aQ); (focus decide); (focus (first | with_reducible rfl | (simp -failIfUnchanged (disch := omega) only [lit, nI_add, nI_mul, nI_sub, nI_m1'] <;> with_reducible rfl))); (focus omega); (focus (first | with_reducible exact (e2) | with_reducible exact vx (e2) (by omega) | (simp (disch := omega) only [up2_s, up2_n, up2_k] <;> first | with_reducible exact (e2) | with_reducible exact vx (e2) (by omega) | with_reducible rfl) | with_reducible rfl))) | ((with_reducible apply ex_gB); (focus (first | with_reducible exact (e2) | (simp (disch := omega) only [lit, nI_add, nI_mul, nI_sub, nI_m1'] <;> first | with_reducible exact (e2))))) | ((with_reducible apply ey_pos); (focus (with_reducible assumption))) | ((with_reducible apply ey_neg); (focus (with_reducible assumption))) | ((with_reducible apply ey_pos); (focus (with_reducible rfl))) | ((with_reducible apply ey_pos); (focus ((simp -failIfUnchanged (disch := omega) only [lit, nI_add, nI_mul, nI_sub, nI_m1', nI_leI, nI_ltI, nI_eq, m_eq, m_eq', m_lt, m_le, m_lt', m_le', mm_eq, mm_lt, mm_le, or_true, true_or, or_false, false_or, not_true_eq_false, not_false_eq_true, Bool.false_eq_true, reduceCtorEq, eq_self] <;> omega)))) | ((with_reducible apply ey_neg); (focus ((simp -failIfUnchanged (disch := omega) only [lit, nI_add, nI_mul, nI_sub, nI_m1', nI_leI, nI_ltI, nI_eq, m_eq, m_eq', m_lt, m_le, m_lt', m_le', mm_eq, mm_lt, mm_le, or_true, true_or, or_false, false_or, not_true_eq_false, not_false_eq_true, Bool.false_eq_true, reduceCtorEq, eq_self] <;> omega)))) | (with_reducible apply ex_sm) | ((with_reducible apply ex_bind); (focus (first | with_reducible exact (e2) | (simp (disch := omega) only [lit, nI_add, nI_mul, nI_sub, nI_m1'] <;> first | with_reducible exact (e2))))))); (try with_reducible rfl)
      | some ch =>
        have hl : i < (wWd.getD k []).length := get_lt e4
        have e5 := w_chr (h := HP A S J W ws) hk7 hi e4
        have hb := w_chb hk7 hi e4
        dsimp only
        unfold F_X5_word_60
        by_cases cq : t[p]? = some ch
        · have we : wE t p ch = true := decide_eq_true cq
          simp only [we, if_true]
          rw [cq] at en
          have en : F_X5_next 5000 95 (HP A S J W ws) = some (nI ch, HP A S J W ws) := en
          have ih := c_wI h ht hp hM hi (k21 := k21) r (k + 1) m (St ||| 2 ^ k) (by omega) (Nat.or_lt_two_pow (n := 7) hS (Nat.pow_lt_pow_right (by decide) (by omega)))
          (repeat (first | ((with_reducible apply st_gR); (focus rfl)) | ((with_reducible apply st_gO); (focus rfl)) | ((with_reducible apply st_gI); (focus rfl); (focus (first | with_reducible exact (e2) | with_reducible exact (e5) | with_reducible exact (en) | with_reducible exact vx (e2) (by omega) | with_reducible exact vx (e5) (by omega) | with_reducible exact vx (en) (by omega) | (simp (disch := omega) only [up2_s, up2_n, up2_k] <;> first | with_reducible exact (e2) | with_reducible exact (e5) | with_reducible exact (en) | with_reducible exact vx (e2) (by omega) | with_reducible exact vx (e5) (by omega) | with_reducible exact vx (en) (by omega) | with_reducible rfl) | with_reducible rfl))) | ((with_reducible apply st_aI); (focus (first | rfl | with_reducible assumption)); (focus (first | with_reducible rfl | (simp -failIfUnchanged (disch := omega) only [lit, nI_add, nI_mul, nI_sub, nI_m1'] <;> with_reducible rfl))); (focus omega); (focus (first | with_reducible exact (e2) | with_reducible exact (e5) | with_reducible exact (en) | with_reducible exact vx (e2) (by omega) | with_reducible exact vx (e5) (by omega) | with_reducible exact vx (en) (by omega) | (simp (disch := omega) only [up2_s, up2_n, up2_k] <;> first | with_reducible exact (e2) | with_reducible exact (e5) | with_reducible exact (en) | with_reducible exact vx (e2) (by omega) | with_reducible exact vx (e5) (by omega) | with_reducible exact vx (en) (by omega) | with_reducible rfl) | with_reducible rfl))) | ((with_reducible apply st_sI); (focus (first | rfl | with_reducible assumption)); (focus (first | with_reducible rfl | (simp -failIfUnchanged (disch := omega) only [lit, nI_add, nI_mul, nI_sub, nI_m1'] <;> with_reducible rfl))); (focus omega); (focus (first | with_reducible exact (e2) | with_reducible exact (e5) | with_reducible exact (en) | (simp (disch := omega) only [lit, nI_add, nI_mul, nI_sub, nI_m1'] <;> with_reducible rfl) | with_reducible rfl))) | ((with_reducible apply st_pF); (focus rfl); (focus (first | with_reducible exact (e2) | with_reducible exact (e5) | with_reducible exact (en) | (simp (disch := omega) only [lit, nI_add, nI_mul, nI_sub, nI_m1'] <;> with_reducible rfl) | with_reducible rfl))) | ((with_reducible apply st_pZ); (focus rfl); (focus decide)) | ((with_reducible apply st_len); (focus (first | rfl | with_reducible assumption))) | ((with_reducible apply st_aZ); (focus (first | with_reducible rfl | (simp -failIfUnchanged (disch := omega) only [lit, nI_add, nI_mul, nI_sub, nI_m1'] <;> with_reducible rfl))); (focus omega); (focus (first | with_reducible exact (e2) | with_reducible exact (e5) | with_reducible exact (en) | with_reducible exact vx (e2) (by omega) | with_reducible exact vx (e5) (by omega) | with_reducible exact vx (en) (by omega) | (simp (disch := omega) only [up2_s, up2_n, up2_k] <;> first | with_reducible exact (e2) | with_reducible exact (e5) | with_reducible exact (en) | with_reducible exact vx (e2) (by omega) | with_reducible exact vx (e5) (by omega) | with_reducible exact vx (en) (by omega) | with_reducible rfl) | with_reducible rfl))) | ((with_reducible apply st_sZ); (focus (first | with_reducible rfl | (simp -failIfUnchanged (disch := omega) only [lit, nI_add, nI_mul, nI_sub, nI_m1'] <;> with_reducible rfl))); (focus omega); (focus rfl)) | ((with_reducible apply st_gL); (focus decide); (focus (first | with_reducible exact (e2) | with_reducible exact (e5) | with_reducible exact (en) | with_reducible exact vx (e2) (by omega) | with_reducible exact vx (e5) (by omega) | with_reducible exact vx (en) (by omega) | (simp (disch := omega) only [up2_s, up2_n, up2_k] <;> first | with_reducible exact (e2) | with_reducible exact (e5) | with_reducible exact (en) | with_reducible exact vx (e2) (by omega) | with_reducible exact vx (e5) (by omega) | with_reducible exact vx (en) (by omega) | with_reducible rfl) | with_reducible rfl))) | ((with_reducible apply st_pFL); (focus decide); (focus (first | with_reducible exact (e2) | with_reducible exact (e5) | with_reducible exact (en) | (simp (disch := omega) only [lit, nI_add, nI_mul, nI_sub, nI_m1'] <;> with_reducible rfl) | with_reducible rfl))) | ((with_reducible apply st_aL); (focus (first | with_reducible rfl | (simp -failIfUnchanged (disch := omega) only [lit, nI_add, nI_mul, nI_sub, nI_m1'] <;> with_reducible rfl))); (focus omega); (focus (first | with_reducible exact (e2) | with_reducible exact (e5) | with_reducible exact (en) | with_reducible exact vx (e2) (by omega) | with_reducible exact vx (e5) (by omega) | with_reducible exact vx (en) (by omega) | (simp (disch := omega) only [up2_s, up2_n, up2_k] <;> first | with_reducible exact (e2) | with_reducible exact (e5) | with_reducible exact (en) | with_reducible exact vx (e2) (by omega) | with_reducible exact vx (e5) (by omega) | with_reducible exact vx (en) (by omega) | with_reducible rfl) | with_reducible rfl))) | ((with_reducible apply st_sL); (focus (first | with_reducible rfl | (simp -failIfUnchanged (disch := omega) only [lit, nI_add, nI_mul, nI_sub, nI_m1'] <;> with_reducible rfl))); (focus omega); (focus (first | with_reducible exact (e2) | with_reducible exact (e5) | with_reducible exact (en) | (simp (disch := omega) only [lit, nI_add, nI_mul, nI_sub, nI_m1'] <;> with_reducible rfl) | with_reducible rfl))) | ((with_reducible apply st_aQ); (focus decide); (focus (first | with_reducible rfl | (simp -failIfUnchanged (disch := omega) only [lit, nI_add, nI_mul, nI_sub, nI_m1'] <;> with_reducible rfl))); (focus omega); (focus (first | with_reducible exact (e2) | with_reducible exact (e5) | with_reducible exact (en) | with_reducible exact vx (e2) (by omega) | with_reducible exact vx (e5) (by omega) | with_reducible exact vx (en) (by omega) | (simp (disch := omega) only [up2_s, up2_n, up2_k] <;> first | with_reducible exact (e2) | with_reducible exact (e5) | with_reducible exact (en) | with_reducible exact vx (e2) (by omega) | with_reducible exact vx (e5) (by omega) | with_reducible exact vx (en) (by omega) | with_reducible rfl) | with_reducible rfl))) | ((with_reducible apply ex_gB); (focus (first | with_reducible exact (e2) | with_reducible exact (e5) | with_reducible exact (en) | (simp (disch := omega) only [lit, nI_add, nI_mul, nI_sub, nI_m1'] <;> first | with_reducible exact (e2) | with_reducible exact (e5) | with_reducible exact (en))))) | ((with_reducible apply ey_pos); (focus (with_reducible assumption))) | ((with_reducible apply ey_neg); (focus (with_reducible assumption))) | ((with_reducible apply ey_pos); (focus (with_reducible rfl))) | ((with_reducible apply ey_pos); (focus ((simp -failIfUnchanged (disch := omega) only [lit, nI_add, nI_mul, nI_sub, nI_m1', nI_leI, nI_ltI, nI_eq, m_eq, m_eq', m_lt, m_le, m_lt', m_le', mm_eq, mm_lt, mm_le, or_true, true_or, or_false, false_or, not_true_eq_false, not_false_eq_true, Bool.false_eq_true, reduceCtorEq, eq_self] <;> omega)))) | ((with_reducible apply ey_neg); (focus ((simp -failIfUnchanged (disch := omega) only [lit, nI_add, nI_mul, nI_sub, nI_m1', nI_leI, nI_ltI, nI_eq, m_eq, m_eq', m_lt, m_le, m_lt', m_le', mm_eq, mm_lt, mm_le, or_true, true_or, or_false, false_or, not_true_eq_false, not_false_eq_true, Bool.false_eq_true, reduceCtorEq, eq_self] <;> omega)))) | (with_reducible apply ex_sm) | ((with_reducible apply ex_bind); (focus (first | with_reducible exact (e2) | with_reducible exact (e5) | with_reducible exact (en) | (simp (disch := omega) only [lit, nI_add, nI_mul, nI_sub, nI_m1'] <;> first | with_reducible exact (e2) | with_reducible exact (e5) | with_reducible exact (en))))) | unfold F_X5_word_79 | unfold F_X5_word_104)); (try with_reducible rfl)
          rw [bt_or7 St hS k hk7, ek]
          exact ih
        · have we : ¬ wE t p ch = true := fun q => cq (of_decide_eq_true q)
          simp only [we, if_false, Bool.false_eq_true]
          have cn := lI_ne ht hb cq
          have cn2 : ¬ nI ch = lI t[p]? := fun q => cn q.symm
          have ih := c_wI h ht hp hM hi (k21 := k21) r (k + 1) m St (by omega) hS
          (repeat (first | ((with_reducible apply st_gR); (focus rfl)) | ((with_reducible apply st_gO); (focus rfl)) | ((with_reducible apply st_gI); (focus rfl); (focus (first | with_reducible exact (e2) | with_reducible exact (e5) | with_reducible exact (en) | with_reducible exact vx (e2) (by omega) | with_reducible exact vx (e5) (by omega) | with_reducible exact vx (en) (by omega) | (simp (disch := omega) only [up2_s, up2_n, up2_k] <;> first | with_reducible exact (e2) | with_reducible exact (e5) | with_reducible exact (en) | with_reducible exact vx (e2) (by omega) | with_reducible exact vx (e5) (by omega) | with_reducible exact vx (en) (by omega) | with_reducible rfl) | with_reducible rfl))) | ((with_reducible apply st_aI); (focus (first | rfl | with_reducible assumption)); (focus (first | with_reducible rfl | (simp -failIfUnchanged (disch := omega) only [lit, nI_add, nI_mul, nI_sub, nI_m1'] <;> with_reducible rfl))); (focus omega); (focus (first | with_reducible exact (e2) | with_reducible exact (e5) | with_reducible exact (en) | with_reducible exact vx (e2) (by omega) | with_reducible exact vx (e5) (by omega) | with_reducible exact vx (en) (by omega) | (simp (disch := omega) only [up2_s, up2_n, up2_k] <;> first | with_reducible exact (e2) | with_reducible exact (e5) | with_reducible exact (en) | with_reducible exact vx (e2) (by omega) | with_reducible exact vx (e5) (by omega) | with_reducible exact vx (en) (by omega) | with_reducible rfl) | with_reducible rfl))) | ((with_reducible apply st_sI); (focus (first | rfl | with_reducible assumption)); (focus (first | with_reducible rfl | (simp -failIfUnchanged (disch := omega) only [lit, nI_add, nI_mul, nI_sub, nI_m1'] <;> with_reducible rfl))); (focus omega); (focus (first | with_reducible exact (e2) | with_reducible exact (e5) | with_reducible exact (en) | (simp (disch := omega) only [lit, nI_add, nI_mul, nI_sub, nI_m1'] <;> with_reducible rfl) | with_reducible rfl))) | ((with_reducible apply st_pF); (focus rfl); (focus (first | with_reducible exact (e2) | with_reducible exact (e5) | with_reducible exact (en) | (simp (disch := omega) only [lit, nI_add, nI_mul, nI_sub, nI_m1'] <;> with_reducible rfl) | with_reducible rfl))) | ((with_reducible apply st_pZ); (focus rfl); (focus decide)) | ((with_reducible apply st_len); (focus (first | rfl | with_reducible assumption))) | ((with_reducible apply st_aZ); (focus (first | with_reducible rfl | (simp -failIfUnchanged (disch := omega) only [lit, nI_add, nI_mul, nI_sub, nI_m1'] <;> with_reducible rfl))); (focus omega); (focus (first | with_reducible exact (e2) | with_reducible exact (e5) | with_reducible exact (en) | with_reducible exact vx (e2) (by omega) | with_reducible exact vx (e5) (by omega) | with_reducible exact vx (en) (by omega) | (simp (disch := omega) only [up2_s, up2_n, up2_k] <;> first | with_reducible exact (e2) | with_reducible exact (e5) | with_reducible exact (en) | with_reducible exact vx (e2) (by omega) | with_reducible exact vx (e5) (by omega) | with_reducible exact vx (en) (by omega) | with_reducible rfl) | with_reducible rfl))) | ((with_reducible apply st_sZ); (focus (first | with_reducible rfl | (simp -failIfUnchanged (disch := omega) only [lit, nI_add, nI_mul, nI_sub, nI_m1'] <;> with_reducible rfl))); (focus omega); (focus rfl)) | ((with_reducible apply st_gL); (focus decide); (focus (first | with_reducible exact (e2) | with_reducible exact (e5) | with_reducible exact (en) | with_reducible exact vx (e2) (by omega) | with_reducible exact vx (e5) (by omega) | with_reducible exact vx (en) (by omega) | (simp (disch := omega) only [up2_s, up2_n, up2_k] <;> first | with_reducible exact (e2) | with_reducible exact (e5) | with_reducible exact (en) | with_reducible exact vx (e2) (by omega) | with_reducible exact vx (e5) (by omega) | with_reducible exact vx (en) (by omega) | with_reducible rfl) | with_reducible rfl))) | ((with_reducible apply st_pFL); (focus decide); (focus (first | with_reducible exact (e2) | with_reducible exact (e5) | with_reducible exact (en) | (simp (disch := omega) only [lit, nI_add, nI_mul, nI_sub, nI_m1'] <;> with_reducible rfl) | with_reducible rfl))) | ((with_reducible apply st_aL); (focus (first | with_reducible rfl | (simp -failIfUnchanged (disch := omega) only [lit, nI_add, nI_mul, nI_sub, nI_m1'] <;> with_reducible rfl))); (focus omega); (focus (first | with_reducible exact (e2) | with_reducible exact (e5) | with_reducible exact (en) | with_reducible exact vx (e2) (by omega) | with_reducible exact vx (e5) (by omega) | with_reducible exact vx (en) (by omega) | (simp (disch := omega) only [up2_s, up2_n, up2_k] <;> first | with_reducible exact (e2) | with_reducible exact (e5) | with_reducible exact (en) | with_reducible exact vx (e2) (by omega) | with_reducible exact vx (e5) (by omega) | with_reducible exact vx (en) (by omega) | with_reducible rfl) | with_reducible rfl))) | ((with_reducible apply st_sL); (focus (first | with_reducible rfl | (simp -failIfUnchanged (disch := omega) only [lit, nI_add, nI_mul, nI_sub, nI_m1'] <;> with_reducible rfl))); (focus omega); (focus (first | with_reducible exact (e2) | with_reducible exact (e5) | with_reducible exact (en) | (simp (disch := omega) only [lit, nI_add, nI_mul, nI_sub, nI_m1'] <;> with_reducible rfl) | with_reducible rfl))) | ((with_reducible apply st_aQ); (focus decide); (focus (first | with_reducible rfl | (simp -failIfUnchanged (disch := omega) only [lit, nI_add, nI_mul, nI_sub, nI_m1'] <;> with_reducible rfl))); (focus omega); (focus (first | with_reducible exact (e2) | with_reducible exact (e5) | with_reducible exact (en) | with_reducible exact vx (e2) (by omega) | with_reducible exact vx (e5) (by omega) | with_reducible exact vx (en) (by omega) | (simp (disch := omega) only [up2_s, up2_n, up2_k] <;> first | with_reducible exact (e2) | with_reducible exact (e5) | with_reducible exact (en) | with_reducible exact vx (e2) (by omega) | with_reducible exact vx (e5) (by omega) | with_reducible exact vx (en) (by omega) | with_reducible rfl) | with_reducible rfl))) | ((with_reducible apply ex_gB); (focus (first | with_reducible exact (e2) | with_reducible exact (e5) | with_reducible exact (en) | (simp (disch := omega) only [lit, nI_add, nI_mul, nI_sub, nI_m1'] <;> first | with_reducible exact (e2) | with_reducible exact (e5) | with_reducible exact (en))))) | ((with_reducible apply ey_pos); (focus (with_reducible assumption))) | ((with_reducible apply ey_neg); (focus (with_reducible assumption))) | ((with_reducible apply ey_pos); (focus (with_reducible rfl))) | ((with_reducible apply ey_pos); (focus ((simp -failIfUnchanged (disch := omega) only [lit, nI_add, nI_mul, nI_sub, nI_m1', nI_leI, nI_ltI, nI_eq, m_eq, m_eq', m_lt, m_le, m_lt', m_le', mm_eq, mm_lt, mm_le, or_true, true_or, or_false, false_or, not_true_eq_false, not_false_eq_true, Bool.false_eq_true, reduceCtorEq, eq_self] <;> omega)))) | ((with_reducible apply ey_neg); (focus ((simp -failIfUnchanged (disch := omega) only [lit, nI_add, nI_mul, nI_sub, nI_m1', nI_leI, nI_ltI, nI_eq, m_eq, m_eq', m_lt, m_le, m_lt', m_le', mm_eq, mm_lt, mm_le, or_true, true_or, or_false, false_or, not_true_eq_false, not_false_eq_true, Bool.false_eq_true, reduceCtorEq, eq_self] <;> omega)))) | (with_reducible apply ex_sm) | ((with_reducible apply ex_bind); (focus (first | with_reducible exact (e2) | with_reducible exact (e5) | with_reducible exact (en) | (simp (disch := omega) only [lit, nI_add, nI_mul, nI_sub, nI_m1'] <;> first | with_reducible exact (e2) | with_reducible exact (e5) | with_reducible exact (en))))) | unfold F_X5_word_79 | unfold F_X5_word_104)); (try with_reducible rfl)
          rw [ek]
          exact ih
    · rw [if_neg (fun q => c (bo.mp q)), if_neg c]
      have ih := c_wI h ht hp hM hi (k21 := k21) r (k + 1) m St (by omega) hS
      unfold F_X5_word_60 F_X5_word_79 F_X5_word_104
      rw [if_pos rfl, if_pos rfl, ek]
      exact ih
theorem wSt_n {M i : Nat} {e : Nat → Bool} (he : ∀ c, e c = false) : ∀ (r k St : Nat), (wSt M i e r k St).1 = true ∨ (wSt M i e r k St).2 = St
  | 0, _, _ => Or.inr rfl
  | r + 1, k, St => by
    rw [wSt]
    by_cases c : M / 2 ^ k % 2 = 1
    · rw [if_pos c]
      cases e1 : wCh k i with
      | none => exact Or.inl rfl
      | some ch =>
        simp only [he, if_false, Bool.false_eq_true]
        exact wSt_n he r (k + 1) St
    · rw [if_neg c]
      exact wSt_n he r (k + 1) St
theorem wOut_b : ∀ (f M i p : Nat), p ≤ t.length → p ≤ (wOut t f M i p).2.2 ∧ (wOut t f M i p).2.2 ≤ t.length := fun f => by
  induction f with
  | zero => intro M i p hp; exact ⟨Nat.le_refl _, hp⟩
  | succ f ih =>
    intro M i p hp
    rw [wOut]
    by_cases c1 : (wSt M i (wE t p) 7 0 0).1 = true
    · rw [if_pos c1]
      exact ⟨Nat.le_refl _, hp⟩
    · rw [if_neg c1]
      by_cases c2 : (wSt M i (wE t p) 7 0 0).2 = 0
      · rw [if_pos c2]
        exact ⟨Nat.le_refl _, hp⟩
      · rw [if_neg c2]
        have hl : p < t.length := by
          by_cases c3 : p < t.length
          · exact c3
          · exfalso
            have e1 : t[p]? = none := List.getElem?_eq_none_iff.mpr (by omega)
            have he : ∀ c, wE t p c = false := fun c => wE_f (by rw [e1]; exact fun q => by cases q)
            rcases wSt_n (M := M) (i := i) he 7 0 0 with q | q
            · exact c1 q
            · exact c2 q
        obtain ⟨b1, b2⟩ := ih (wSt M i (wE t p) 7 0 0).2 (i + 1) (p + 1) hl
        exact ⟨Nat.le_of_succ_le b1, b2⟩
theorem wSt_w {M i : Nat} {e : Nat → Bool} : ∀ (r k St : Nat), k + r = 7 → (wSt M i e r k St).1 = true → (wSt M i e r k St).2 < 7
  | 0, _, _, _, h => by cases h
  | r + 1, k, St, hk, h => by
    rw [wSt] at h ⊢
    by_cases c : M / 2 ^ k % 2 = 1
    · rw [if_pos c] at h ⊢
      cases e1 : wCh k i with
      | none => show k < 7; omega
      | some ch =>
        rw [e1] at h
        exact wSt_w r (k + 1) _ (by omega) h
    · rw [if_neg c] at h ⊢
      exact wSt_w r (k + 1) St (by omega) h
theorem c_wO (ht : tpOk t) : ∀ (f i : Nat), i + f = 6 → ∀ (M m p : Nat) (S : Nat → Nat → Int32), M < 128 → ExC A S t p cc → p ≤ t.length → ∃ S', FrC S S' ∧ ExC A S' t (wOut t f M i p).2.2 cc ∧ ((wOut t f M i p).1 = true → (wOut t f M i p).2.1 < 7) ∧ F_X5_word_21 5000 (m + 1 + f) 95 (nI M) (nI i) (HP A S J W ws) = some (if (wOut t f M i p).1 = true then nI (wOut t f M i p).2.1 else -1, HP A S' J W ws) := fun f => by
  induction f with
  | zero =>
    intro i hi M m p S hM h hp
    have hi : i = 6 := hi
    subst hi
    refine ⟨S, FrC.rf, h, fun q => (by cases q), ?_⟩
    rw [show m + 1 + 0 = m + 1 from rfl]
    unfold F_X5_word_21
    (repeat (first | ((with_reducible apply st_gR); (focus rfl)) | ((with_reducible apply st_gO); (focus rfl)) | ((with_reducible apply st_gI); (focus rfl); (focus (first | (simp (disch := omega) only [up2_s, up2_n, up2_k] <;> first | fail | with_reducible rfl) | with_reducible rfl))) | ((with_reducible apply st_aI); (focus (first | rfl | with_reducible assumption)); (focus (first | with_reducible rfl | (simp -failIfUnchanged (disch := omega) only [lit, nI_add, nI_mul, nI_sub, nI_m1'] <;> with_reducible rfl))); (focus omega); (focus (first | (simp (disch := omega) only [up2_s, up2_n, up2_k] <;> first | fail | with_reducible rfl) | with_reducible rfl))) | ((with_reducible apply st_sI); (focus (first | rfl | with_reducible assumption)); (focus (first | with_reducible rfl | (simp -failIfUnchanged (disch := omega) only [lit, nI_add, nI_mul, nI_sub, nI_m1'] <;> with_reducible rfl))); (focus omega); (focus (first | (simp (disch := omega) only [lit, nI_add, nI_mul, nI_sub, nI_m1'] <;> with_reducible rfl) | with_reducible rfl))) | ((with_reducible apply st_pF); (focus rfl); (focus (first | (simp (disch := omega) only [lit, nI_add, nI_mul, nI_sub, nI_m1'] <;> with_reducible rfl) | with_reducible rfl))) | ((with_reducible apply st_pZ); (focus rfl); (focus decide)) | ((with_reducible apply st_len); (focus (first | rfl | with_reducible assumption))) | ((with_reducible apply st_aZ); (focus (first | with_reducible rfl | (simp -failIfUnchanged (disch := omega) only [lit, nI_add, nI_mul, nI_sub, nI_m1'] <;> with_reducible rfl))); (focus omega); (focus (first | (simp (disch := omega) only [up2_s, up2_n, up2_k] <;> first | fail | with_reducible rfl) | with_reducible rfl))) | ((with_reducible apply st_sZ); (focus (first | with_reducible rfl | (simp -failIfUnchanged (disch := omega) only [lit, nI_add, nI_mul, nI_sub, nI_m1'] <;> with_reducible rfl))); (focus omega); (focus rfl)) | ((with_reducible apply st_gL); (focus decide); (focus (first | (simp (disch := omega) only [up2_s, up2_n, up2_k] <;> first | fail | with_reducible rfl) | with_reducible rfl))) | ((with_reducible apply st_pFL); (focus decide); (focus (first | (simp (disch := omega) only [lit, nI_add, nI_mul, nI_sub, nI_m1'] <;> with_reducible rfl) | with_reducible rfl))) | ((with_reducible apply st_aL); (focus (first | with_reducible rfl | (simp -failIfUnchanged (disch := omega) only [lit, nI_add, nI_mul, nI_sub, nI_m1'] <;> with_reducible rfl))); (focus omega); (focus (first | (simp (disch := omega) only [up2_s, up2_n, up2_k] <;> first | fail | with_reducible rfl) | with_reducible rfl))) | ((with_reducible apply st_sL); (focus (first | with_reducible rfl | (simp -failIfUnchanged (disch := omega) only [lit, nI_add, nI_mul, nI_sub, nI_m1'] <;> with_reducible rfl))); (focus omega); (focus (first | (simp (disch := omega) only [lit, nI_add, nI_mul, nI_sub, nI_m1'] <;> with_reducible rfl) | with_reducible rfl))) | ((with_reducible apply st_aQ); (focus decide); (focus (first | with_reducible rfl | (simp -failIfUnchanged (disch := omega) only [lit, nI_add, nI_mul, nI_sub, nI_m1'] <;> with_reducible rfl))); (focus omega); (focus (first | (simp (disch := omega) only [up2_s, up2_n, up2_k] <;> first | fail | with_reducible rfl) | with_reducible rfl))) | ((with_reducible apply ex_gB); (focus (first | fail))) | ((with_reducible apply ey_pos); (focus (with_reducible assumption))) | ((with_reducible apply ey_neg); (focus (with_reducible assumption))) | ((with_reducible apply ey_pos); (focus (with_reducible rfl))) | ((with_reducible apply ey_pos); (focus ((simp -failIfUnchanged (disch := omega) only [lit, nI_add, nI_mul, nI_sub, nI_m1', nI_leI, nI_ltI, nI_eq, m_eq, m_eq', m_lt, m_le, m_lt', m_le', mm_eq, mm_lt, mm_le, or_true, true_or, or_false, false_or, not_true_eq_false, not_false_eq_true, Bool.false_eq_true, reduceCtorEq, eq_self] <;> omega)))) | ((with_reducible apply ey_neg); (focus ((simp -failIfUnchanged (disch := omega) only [lit, nI_add, nI_mul, nI_sub, nI_m1', nI_leI, nI_ltI, nI_eq, m_eq, m_eq', m_lt, m_le, m_lt', m_le', mm_eq, mm_lt, mm_le, or_true, true_or, or_false, false_or, not_true_eq_false, not_false_eq_true, Bool.false_eq_true, reduceCtorEq, eq_self] <;> omega)))) | (with_reducible apply ex_sm) | ((with_reducible apply ex_bind); (focus (first | fail))))); (try with_reducible rfl)
    rfl
  | succ f ih =>
    intro i hi M m p S hM h hp
    have h120 := ht.1
    have hi6 : i < 6 := by omega
    have c5 : ¬ ((5 : Int32) < nI i) := nI_nlt (a := 5) (b := i) (by omega) (by decide)
    have e1 := c_wI (J := J) (W := W) (ws := ws) h ht hp hM hi6 (k21 := F_X5_word_21 5000 (m + 1 + f)) 7 0 4992 0 rfl (by decide)
    have hb := wSt_b (M := M) (i := i) (e := wE t p) 7 0 0 rfl (by decide)
    have hw := wSt_w (M := M) (i := i) (e := wE t p) 7 0 0 rfl
    have hl : (wSt M i (wE t p) 7 0 0).1 = true ∨ (wSt M i (wE t p) 7 0 0).2 = 0 ∨ p < t.length := by
      by_cases c3 : p < t.length
      · exact Or.inr (Or.inr c3)
      · have e1 : t[p]? = none := List.getElem?_eq_none_iff.mpr (by omega)
        have he : ∀ c, wE t p c = false := fun c => wE_f (by rw [e1]; exact fun q => by cases q)
        rcases wSt_n (M := M) (i := i) he 7 0 0 with q | q
        · exact Or.inl q
        · exact Or.inr (Or.inl q)
    rw [show m + 1 + (f + 1) = (m + 1 + f) + 1 from rfl, F_X5_word_21, if_neg c5, wOut]
    generalize wSt M i (wE t p) 7 0 0 = r at e1 hb hw hl ⊢
    by_cases c1 : r.1 = true
    · rw [if_pos c1] at e1 ⊢
      exact ⟨S, FrC.rf, h, fun _ => hw c1, e1⟩
    · rw [if_neg c1] at e1 ⊢
      by_cases c2 : r.2 = 0
      · rw [if_pos c2] at e1 ⊢
        exact ⟨S, FrC.rf, h, fun q => (by cases q), e1⟩
      · rw [if_neg c2] at e1 ⊢
        by_cases c3 : p + 1 ≤ t.length
        · obtain ⟨S', f1, f2, f3, f4⟩ := ih (i + 1) (by omega) r.2 m (p + 1) _ hb (h.pl (p + 1)) c3
          exact ⟨S', FrC.rf.pl.tr f1, f2, f3, e1.trans f4⟩
        · exact absurd (hl.resolve_left c1 |>.resolve_left c2) (by omega)
end Z1
