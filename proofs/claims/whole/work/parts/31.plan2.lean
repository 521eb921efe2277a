/-! the class's plan, filled -/
/-- the tables of the plan of D stand for the spots of P -/
def TbC (A : Nat → Nat → Int32) (D : rD) (P : Nat → Nat → Prop) : Prop := ∀ p r : Nat, p ≤ dN D → r ≤ dSto D → P p r → A 109 (p * 61 + r) = nI (dpV D 1023 p r).1 ∧ A 110 (p * 61 + r) = nI (dpV D 1023 p r).2.1 ∧ (p < dN D → A 111 (p * 61 + r) = nI (dpV D 1023 p r).2.2 ∧ ∀ e : Nat, e < 10 → A 108 ((p * 10 + e) * 61 + r) = dBeI D p e r ∧ ∀ q : Nat, dBe D p e r = some q → A 107 ((p * 10 + e) * 61 + r) = nI (dSec D p e r))
section C4
variable {n : Nat} {S : Nat → Nat → Int32} {J : Nat → Nat → Int64} {W : Nat → Nat → Option Nat} {ws : List gC} {D : rD}
theorem TbC.mo {A : Nat → Nat → Int32} {P Q : Nat → Nat → Prop} (h : TbC A D P) (hPQ : ∀ p r : Nat, p ≤ dN D → r ≤ dSto D → Q p r → P p r) : TbC A D Q := fun p r hp hr hq => h p r hp hr (hPQ p r hp hr hq)
theorem c_fill_loop {p r : Nat} (hn : 200 ≤ n) (hD : dOk D) (hp : p < dN D) (hr : r ≤ dSto D) : ∀ (k e m : Nat) (A : Nat → Nat → Int32), e + k = 10 → k < m → RdC A S 67 D → (∀ q : Nat, q ≤ dSto D → A 109 ((p + 1) * 61 + q) = nI (dpV D 1023 (p + 1) q).1 ∧ A 110 ((p + 1) * 61 + q) = nI (dpV D 1023 (p + 1) q).2.1) →
    (e ≠ 0 → A 109 (p * 61 + r) = nI (dpF D 1023 (dpV D 1023 (p + 1)) p r e).1 ∧ A 110 (p * 61 + r) = nI (dpF D 1023 (dpV D 1023 (p + 1)) p r e).2.1 ∧ A 111 (p * 61 + r) = nI (dpF D 1023 (dpV D 1023 (p + 1)) p r e).2.2) →
    (∀ e' : Nat, e' < e → A 108 ((p * 10 + e') * 61 + r) = dBeI D p e' r ∧ ∀ q : Nat, dBe D p e' r = some q → A 107 ((p * 10 + e') * 61 + r) = nI (dSec D p e' r)) →
    ∃ A', Off [75, 107, 108, 109, 110, 111] A A' ∧ (∀ j : Nat, j ≠ p * 61 + r → A' 109 j = A 109 j ∧ A' 110 j = A 110 j ∧ A' 111 j = A 111 j) ∧ (∀ j : Nat, (∀ e' : Nat, e' < 10 → j ≠ (p * 10 + e') * 61 + r) → A' 107 j = A 107 j ∧ A' 108 j = A 108 j) ∧
      (A' 109 (p * 61 + r) = nI (dpF D 1023 (dpV D 1023 (p + 1)) p r 10).1 ∧ A' 110 (p * 61 + r) = nI (dpF D 1023 (dpV D 1023 (p + 1)) p r 10).2.1 ∧ A' 111 (p * 61 + r) = nI (dpF D 1023 (dpV D 1023 (p + 1)) p r 10).2.2) ∧
      (∀ e' : Nat, e' < 10 → A' 108 ((p * 10 + e') * 61 + r) = dBeI D p e' r ∧ ∀ q : Nat, dBe D p e' r = some q → A' 107 ((p * 10 + e') * 61 + r) = nI (dSec D p e' r)) ∧
      F_X4_fill_10 n m 106 67 (nI p) (nI r) (nI (p * 61 + r)) (nI e) (HP A S J W ws) = some (HP A' S J W ws) := by
  have h60 := hD.1.2.2.1
  intro k
  induction k with
  | zero =>
    intro e m A he hm h hV hB hS
    obtain ⟨m, rfl⟩ : ∃ k, m = k + 1 := ⟨m - 1, by omega⟩
    obtain rfl : e = 10 := by omega
    refine ⟨A, Off.rf, fun _ _ => ⟨rfl, rfl, rfl⟩, fun _ _ => ⟨rfl, rfl⟩, hB (by decide), hS, ?_⟩
    rw [F_X4_fill_10.eq_2]
    (repeat (first | ((with_reducible apply st_gR); (focus rfl)) | ((with_reducible apply st_gO); (focus rfl)) | ((with_reducible apply st_gI); (focus rfl); (focus (first | (simp (disch := omega) only [up2_s, up2_n, up2_k] <;> first | fail | with_reducible rfl) | with_reducible rfl))) | ((with_reducible apply st_aI); (focus rfl); (focus (first | with_reducible rfl | (simp -failIfUnchanged (disch := omega) only [lit, nI_add, nI_mul, nI_sub, nI_m1'] <;> with_reducible rfl))); (focus omega); (focus (first | (simp (disch := omega) only [up2_s, up2_n, up2_k] <;> first | fail | with_reducible rfl) | with_reducible rfl))) | ((with_reducible apply st_sI); (focus rfl); (focus (first | with_reducible rfl | (simp -failIfUnchanged (disch := omega) only [lit, nI_add, nI_mul, nI_sub, nI_m1'] <;> with_reducible rfl))); (focus omega); (focus (first | (simp (disch := omega) only [lit, nI_add, nI_mul, nI_sub, nI_m1'] <;> with_reducible rfl) | with_reducible rfl))) | ((with_reducible apply st_pF); (focus rfl); (focus (first | (simp (disch := omega) only [lit, nI_add, nI_mul, nI_sub, nI_m1'] <;> with_reducible rfl) | with_reducible rfl))) | ((with_reducible apply st_pZ); (focus rfl); (focus decide)) | ((with_reducible apply st_len); (focus rfl)) | ((with_reducible apply st_aZ); (focus (first | with_reducible rfl | (simp -failIfUnchanged (disch := omega) only [lit, nI_add, nI_mul, nI_sub, nI_m1'] <;> with_reducible rfl))); (focus omega); (focus (first | (simp (disch := omega) only [up2_s, up2_n, up2_k] <;> first | fail | with_reducible rfl) | with_reducible rfl))) | ((with_reducible apply st_sZ); (focus (first | with_reducible rfl | (simp -failIfUnchanged (disch := omega) only [lit, nI_add, nI_mul, nI_sub, nI_m1'] <;> with_reducible rfl))); (focus omega); (focus rfl)) | ((with_reducible apply st_gL); (focus decide); (focus (first | (simp (disch := omega) only [up2_s, up2_n, up2_k] <;> first | fail | with_reducible rfl) | with_reducible rfl))) | ((with_reducible apply st_pFL); (focus decide); (focus (first | (simp (disch := omega) only [lit, nI_add, nI_mul, nI_sub, nI_m1'] <;> with_reducible rfl) | with_reducible rfl))) | ((with_reducible apply st_aL); (focus (first | with_reducible rfl | (simp -failIfUnchanged (disch := omega) only [lit, nI_add, nI_mul, nI_sub, nI_m1'] <;> with_reducible rfl))); (focus omega); (focus (first | (simp (disch := omega) only [up2_s, up2_n, up2_k] <;> first | fail | with_reducible rfl) | with_reducible rfl))) | ((with_reducible apply st_sL); (focus (first | with_reducible rfl | (simp -failIfUnchanged (disch := omega) only [lit, nI_add, nI_mul, nI_sub, nI_m1'] <;> with_reducible rfl))); (focus omega); (focus (first | (simp (disch := omega) only [lit, nI_add, nI_mul, nI_sub, nI_m1'] <;> with_reducible rfl) | with_reducible rfl))) | ((with_reducible apply st_aQ); (focus decide); (focus (first | with_reducible rfl | (simp -failIfUnchanged (disch := omega) only [lit, nI_add, nI_mul, nI_sub, nI_m1'] <;> with_reducible rfl))); (focus omega); (focus (first | (simp (disch := omega) only [up2_s, up2_n, up2_k] <;> first | fail | with_reducible rfl) | with_reducible rfl))) | ((with_reducible apply ex_gB); (focus (first | fail))) | ((with_reducible apply ex_pos); (focus (with_reducible assumption))) | ((with_reducible apply ex_neg); (focus (with_reducible assumption))) | ((with_reducible apply ex_pos); (focus ((simp -failIfUnchanged (disch := omega) only [lit, nI_add, nI_mul, nI_sub, nI_m1', nI_leI, nI_ltI, nI_eq, m_eq, m_eq', m_lt, m_le, m_lt', m_le', mm_eq, mm_lt, mm_le, or_true, true_or, or_false, false_or, not_true_eq_false, not_false_eq_true, Bool.false_eq_true] <;> omega)))) | ((with_reducible apply ex_neg); (focus ((simp -failIfUnchanged (disch := omega) only [lit, nI_add, nI_mul, nI_sub, nI_m1', nI_leI, nI_ltI, nI_eq, m_eq, m_eq', m_lt, m_le, m_lt', m_le', mm_eq, mm_lt, mm_le, or_true, true_or, or_false, false_or, not_true_eq_false, not_false_eq_true, Bool.false_eq_true] <;> omega)))) | (with_reducible apply ex_sm) | ((with_reducible apply ex_bind); (focus (first | fail))))); (try with_reducible rfl)
  | succ k ih =>
    intro e m A he hm h hV hB hS
    obtain ⟨m, rfl⟩ : ∃ k, m = k + 1 := ⟨m - 1, by omega⟩
    have he10 : e < 10 := by omega
    cases hq : dBe D p e r with
    | none =>
      have he0 : e ≠ 0 := by
        intro c
        rw [c, dBe_0] at hq
        cases hq
      have hF : dpF D 1023 (dpV D 1023 (p + 1)) p r (e + 1) = dpF D 1023 (dpV D 1023 (p + 1)) p r e := by
        conv => lhs; unfold dpF
        rw [if_pos (sM_all e he10), hq]
      obtain ⟨b1, b2, b3⟩ := hB he0
      obtain ⟨A', o, f1, f2, f3, f4, f5⟩ := ih (e + 1) m (up2 A 108 ((p * 10 + e) * 61 + r) (dBeI D p e r)) (by omega) (by omega) (h.off (l := [108]) (Off.rf.up (by decide)) (by decide)) (fun q hq => by rw [up2_n (by decide), up2_n (by decide)]; exact hV q hq) (fun _ => by rw [up2_n (by decide), up2_n (by decide), up2_n (by decide), hF]; exact ⟨b1, b2, b3⟩) (fun e' h' => by
        rw [up2_n (a := 108) (b := 107) (by decide)]
        by_cases c : e' = e
        · subst c
          rw [up2_s]
          exact ⟨rfl, fun q h2 => by rw [hq] at h2; cases h2⟩
        · rw [up2_k (by omega)]
          exact hS e' (by omega))
      refine ⟨A', (Off.rf.up (by decide)).tr o, fun j hj => ?_, fun j hj => ?_, f3, f4, ?_⟩
      · have := f1 j hj
        rwa [up2_n (by decide), up2_n (by decide), up2_n (by decide)] at this
      · have := f2 j hj
        rwa [up2_n (by decide), up2_k (hj e he10)] at this
      · rw [c_fill_no h hD hp he10 hr hq]
        exact f5
    | some q =>
      have hqs := dBe_le hq hr
      obtain ⟨w1, w2, w3⟩ := dpV_bb (M := 1023) (p := p + 1) (r := q) hD (sM_all 0 (by decide)) hp hqs
      have hBb : e ≠ 0 → A 109 (p * 61 + r) = nI (dpF D 1023 (dpV D 1023 (p + 1)) p r e).1 ∧ A 110 (p * 61 + r) = nI (dpF D 1023 (dpV D 1023 (p + 1)) p r e).2.1 ∧ (dpF D 1023 (dpV D 1023 (p + 1)) p r e).1 < 100000 ∧ (dpF D 1023 (dpV D 1023 (p + 1)) p r e).2.1 < 100000 := by
        intro he0
        obtain ⟨b1, b2, b3⟩ := hB he0
        obtain ⟨q2, g1, g2, g3, g4, g5⟩ := dpF_ok (D := D) (M := 1023) (nx := dpV D 1023 (p + 1)) (p := p) (r := r) (sM_all 0 (by decide)) e (by omega)
        have hb := dSec_b hD (e := (dpF D 1023 (dpV D 1023 (p + 1)) p r e).2.2) (r := r) hp
        obtain ⟨x1, x2, x3⟩ := dpV_bb (M := 1023) (p := p + 1) (r := q2) hD (sM_all 0 (by decide)) hp (dBe_le g3 hr)
        exact ⟨b1, b2, by omega, by omega⟩
      obtain ⟨A1, o1, f1, f2, f3, f4⟩ := c_fill_yes (J := J) (W := W) (ws := ws) (V := dpV D 1023 (p + 1)) hn h hD hp he10 hr hq (hV q hqs) ⟨w1, by omega⟩ hBb
      have hF : dpF D 1023 (dpV D 1023 (p + 1)) p r (e + 1) = if e = 0 ∨ dSec D p e r + (dpV D 1023 (p + 1) q).1 < (dpF D 1023 (dpV D 1023 (p + 1)) p r e).1 ∨ (dSec D p e r + (dpV D 1023 (p + 1) q).1 = (dpF D 1023 (dpV D 1023 (p + 1)) p r e).1 ∧ (dpF D 1023 (dpV D 1023 (p + 1)) p r e).2.1 < (dpV D 1023 (p + 1) q).2.1) then (dSec D p e r + (dpV D 1023 (p + 1) q).1, (dpV D 1023 (p + 1) q).2.1, e) else dpF D 1023 (dpV D 1023 (p + 1)) p r e := by
        conv => lhs; unfold dpF
        rw [if_pos (sM_all e he10), hq]
      have o109 : A1 109 = A 109 := o1 109 (by decide)
      have o110 : A1 110 = A 110 := o1 110 (by decide)
      have o111 : A1 111 = A 111 := o1 111 (by decide)
      have hS1 : ∀ e' : Nat, e' < e + 1 → A1 108 ((p * 10 + e') * 61 + r) = dBeI D p e' r ∧ ∀ q : Nat, dBe D p e' r = some q → A1 107 ((p * 10 + e') * 61 + r) = nI (dSec D p e' r) := by
        intro e' h'
        by_cases c : e' = e
        · subst c
          exact ⟨f3, fun _ _ => f2⟩
        · have := f1 ((p * 10 + e') * 61 + r) (by omega)
          rw [this.1, this.2]
          exact hS e' (by omega)
      by_cases c : e = 0 ∨ dSec D p e r + (dpV D 1023 (p + 1) q).1 < (dpF D 1023 (dpV D 1023 (p + 1)) p r e).1 ∨ (dSec D p e r + (dpV D 1023 (p + 1) q).1 = (dpF D 1023 (dpV D 1023 (p + 1)) p r e).1 ∧ (dpF D 1023 (dpV D 1023 (p + 1)) p r e).2.1 < (dpV D 1023 (p + 1) q).2.1)
      · rw [if_pos c] at hF
        simp only [if_pos c] at f4
        obtain ⟨A', o, g1, g2, g3, g4, g5⟩ := ih (e + 1) m (up2 (up2 (up2 A1 109 (p * 61 + r) (nI (dSec D p e r + (dpV D 1023 (p + 1) q).1))) 110 (p * 61 + r) (nI (dpV D 1023 (p + 1) q).2.1)) 111 (p * 61 + r) (nI e)) (by omega) (by omega) (h.off (l := [75, 107, 108, 109, 110, 111]) ((((o1.mo (by decide)).up (by decide)).up (by decide)).up (by decide)) (by decide)) (fun q hq => by
            rw [up2_n (by decide), up2_n (by decide), up2_k (by omega), up2_n (a := 111) (b := 110) (by decide), up2_k (by omega), up2_n (a := 109) (b := 110) (by decide), o109, o110]; exact hV q hq) (fun _ => by
            rw [hF, up2_n (by decide), up2_n (by decide), up2_s, up2_n (a := 111) (b := 110) (by decide), up2_s, up2_s]
            exact ⟨rfl, rfl, rfl⟩) (fun e' h' => by
            rw [up2_n (by decide), up2_n (by decide), up2_n (by decide), up2_n (a := 111) (b := 107) (by decide), up2_n (a := 110) (b := 107) (by decide), up2_n (a := 109) (b := 107) (by decide)]
            exact hS1 e' h')
        refine ⟨A', ((((o1.mo (by decide)).up (by decide)).up (by decide)).up (by decide)).tr o, fun j hj => ?_, fun j hj => ?_, g3, g4, ?_⟩
        · have := g1 j hj
          rwa [up2_n (by decide), up2_n (by decide), up2_k hj, up2_n (a := 111) (b := 110) (by decide), up2_k hj, up2_n (a := 109) (b := 110) (by decide), up2_k hj, up2_n (by decide), up2_n (by decide), o109, o110, o111] at this
        · have := g2 j hj
          rw [up2_n (by decide), up2_n (by decide), up2_n (by decide), up2_n (a := 111) (b := 108) (by decide), up2_n (a := 110) (b := 108) (by decide), up2_n (a := 109) (b := 108) (by decide)] at this
          have h3 := f1 j (hj e he10)
          rwa [h3.1, h3.2] at this
        · rw [f4]
          exact g5
      · rw [if_neg c] at hF
        simp only [if_neg c] at f4
        have he0 : e ≠ 0 := fun c2 => c (Or.inl c2)
        obtain ⟨A', o, g1, g2, g3, g4, g5⟩ := ih (e + 1) m A1 (by omega) (by omega) (h.off o1 (by decide)) (fun q hq => by rw [o109, o110]; exact hV q hq) (fun _ => by rw [hF, o109, o110, o111]; exact hB he0) hS1
        refine ⟨A', (o1.mo (by decide)).tr o, fun j hj => ?_, fun j hj => ?_, g3, g4, ?_⟩
        · have := g1 j hj
          rwa [o109, o110, o111] at this
        · have := g2 j hj
          have h3 := f1 j (hj e he10)
          rwa [h3.1, h3.2] at this
        · rw [f4]
          exact g5
theorem c_fill {A : Nat → Nat → Int32} {p r : Nat} {P : Nat → Nat → Prop} (hn : 200 ≤ n) (h : RdC A S 67 D) (hD : dOk D) (hp : p < dN D) (hr : r ≤ dSto D) (hT : TbC A D P) (hP : ∀ q : Nat, q ≤ dSto D → P (p + 1) q) :
    ∃ A', Off [75, 107, 108, 109, 110, 111] A A' ∧ TbC A' D (fun p' r' => P p' r' ∨ (p' = p ∧ r' = r)) ∧ F_X4_fill n 106 67 (nI p) (nI r) (HP A S J W ws) = some (HP A' S J W ws) := by
  have h60 := hD.1.2.2.1
  have hn8 := hD.1.1
  obtain ⟨A', o, f1, f2, f3, f4, f5⟩ := c_fill_loop (J := J) (W := W) (ws := ws) hn hD hp hr 10 0 n A (by omega) (by omega) h (fun q hq => by
    obtain ⟨t1, t2, -⟩ := hT (p + 1) q hp hq (hP q hq)
    exact ⟨t1, t2⟩) (fun c => absurd rfl c) (fun e' c => absurd c (Nat.not_lt_zero _))
  refine ⟨A', o, ?_, ?_⟩
  · intro p' r' hp' hr' hPP
    by_cases c : p' = p ∧ r' = r
    · obtain ⟨rfl, rfl⟩ := c
      rw [dpV_at hp]
      exact ⟨f3.1, f3.2.1, fun _ => ⟨f3.2.2, f4⟩⟩
    · have hPo : P p' r' := by
        rcases hPP with h | h
        · exact h
        · exact absurd h c
      obtain ⟨t1, t2, t3⟩ := hT p' r' hp' hr' hPo
      have hne : p' * 61 + r' ≠ p * 61 + r := by
        intro e
        exact c (by omega)
      have g1 := f1 _ hne
      rw [g1.1, g1.2.1, g1.2.2]
      refine ⟨t1, t2, fun hlt => ⟨(t3 hlt).1, fun e he => ?_⟩⟩
      have g2 := f2 ((p' * 10 + e) * 61 + r') (fun e' he' c2 => c (by omega))
      rw [g2.1, g2.2]
      exact (t3 hlt).2 e he
  · (repeat (first | ((with_reducible apply st_gR); (focus rfl)) | ((with_reducible apply st_gO); (focus rfl)) | ((with_reducible apply st_gI); (focus rfl); (focus (first | with_reducible exact (c_spot (by omega) (by omega)) | with_reducible exact (f5) | with_reducible exact vx (c_spot (by omega) (by omega)) (by omega) | with_reducible exact vx (f5) (by omega) | (simp (disch := omega) only [up2_s, up2_n, up2_k] <;> first | with_reducible exact (c_spot (by omega) (by omega)) | with_reducible exact (f5) | with_reducible exact vx (c_spot (by omega) (by omega)) (by omega) | with_reducible exact vx (f5) (by omega) | with_reducible rfl) | with_reducible rfl))) | ((with_reducible apply st_aI); (focus rfl); (focus (first | with_reducible rfl | (simp -failIfUnchanged (disch := omega) only [lit, nI_add, nI_mul, nI_sub, nI_m1'] <;> with_reducible rfl))); (focus omega); (focus (first | with_reducible exact (c_spot (by omega) (by omega)) | with_reducible exact (f5) | with_reducible exact vx (c_spot (by omega) (by omega)) (by omega) | with_reducible exact vx (f5) (by omega) | (simp (disch := omega) only [up2_s, up2_n, up2_k] <;> first | with_reducible exact (c_spot (by omega) (by omega)) | with_reducible exact (f5) | with_reducible exact vx (c_spot (by omega) (by omega)) (by omega) | with_reducible exact vx (f5) (by omega) | with_reducible rfl) | with_reducible rfl))) | ((with_reducible apply st_sI); (focus rfl); (focus (first | with_reducible rfl | (simp -failIfUnchanged (disch := omega) only [lit, nI_add, nI_mul, nI_sub, nI_m1'] <;> with_reducible rfl))); (focus omega); (focus (first | with_reducible exact (c_spot (by omega) (by omega)) | with_reducible exact (f5) | (simp (disch := omega) only [lit, nI_add, nI_mul, nI_sub, nI_m1'] <;> with_reducible rfl) | with_reducible rfl))) | ((with_reducible apply st_pF); (focus rfl); (focus (first | with_reducible exact (c_spot (by omega) (by omega)) | with_reducible exact (f5) | (simp (disch := omega) only [lit, nI_add, nI_mul, nI_sub, nI_m1'] <;> with_reducible rfl) | with_reducible rfl))) | ((with_reducible apply st_pZ); (focus rfl); (focus decide)) | ((with_reducible apply st_len); (focus rfl)) | ((with_reducible apply st_aZ); (focus (first | with_reducible rfl | (simp -failIfUnchanged (disch := omega) only [lit, nI_add, nI_mul, nI_sub, nI_m1'] <;> with_reducible rfl))); (focus omega); (focus (first | with_reducible exact (c_spot (by omega) (by omega)) | with_reducible exact (f5) | with_reducible exact vx (c_spot (by omega) (by omega)) (by omega) | with_reducible exact vx (f5) (by omega) | (simp (disch := omega) only [up2_s, up2_n, up2_k] <;> first | with_reducible exact (c_spot (by omega) (by omega)) | with_reducible exact (f5) | with_reducible exact vx (c_spot (by omega) (by omega)) (by omega) | with_reducible exact vx (f5) (by omega) | with_reducible rfl) | with_reducible rfl))) | ((with_reducible apply st_sZ); (focus (first | with_reducible rfl | (simp -failIfUnchanged (disch := omega) only [lit, nI_add, nI_mul, nI_sub, nI_m1'] <;> with_reducible rfl))); (focus omega); (focus rfl)) | ((with_reducible apply st_gL); (focus decide); (focus (first | with_reducible exact (c_spot (by omega) (by omega)) | with_reducible exact (f5) | with_reducible exact vx (c_spot (by omega) (by omega)) (by omega) | with_reducible exact vx (f5) (by omega) | (simp (disch := omega) only [up2_s, up2_n, up2_k] <;> first | with_reducible exact (c_spot (by omega) (by omega)) | with_reducible exact (f5) | with_reducible exact vx (c_spot (by omega) (by omega)) (by omega) | with_reducible exact vx (f5) (by omega) | with_reducible rfl) | with_reducible rfl))) | ((with_reducible apply st_pFL); (focus decide); (focus (first | with_reducible exact (c_spot (by omega) (by omega)) | with_reducible exact (f5) | (simp (disch := omega) only [lit, nI_add, nI_mul, nI_sub, nI_m1'] <;> with_reducible rfl) | with_reducible rfl))) | ((with_reducible apply st_aL); (focus (first | with_reducible rfl | (simp -failIfUnchanged (disch := omega) only [lit, nI_add, nI_mul, nI_sub, nI_m1'] <;> with_reducible rfl))); (focus omega); (focus (first | with_reducible exact (c_spot (by omega) (by omega)) | with_reducible exact (f5) | with_reducible exact vx (c_spot (by omega) (by omega)) (by omega) | with_reducible exact vx (f5) (by omega) | (simp (disch := omega) only [up2_s, up2_n, up2_k] <;> first | with_reducible exact (c_spot (by omega) (by omega)) | with_reducible exact (f5) | with_reducible exact vx (c_spot (by omega) (by omega)) (by omega) | with_reducible exact vx (f5) (by omega) | with_reducible rfl) | with_reducible rfl))) | ((with_reducible apply st_sL); (focus (first | with_reducible rfl | (simp -failIfUnchanged (disch := omega) only [lit, nI_add, nI_mul, nI_sub, nI_m1'] <;> with_reducible rfl))); (focus omega); (focus (first | with_reducible exact (c_spot (by omega) (by omega)) | with_reducible exact (f5) | (simp (disch := omega) only [lit, nI_add, nI_mul, nI_sub, nI_m1'] <;> with_reducible rfl) | with_reducible rfl))) | ((with_reducible apply st_aQ); (focus decide); (focus (first | with_reducible rfl | (simp -failIfUnchanged (disch := omega) only [lit, nI_add, nI_mul, nI_sub, nI_m1'] <;> with_reducible rfl))); (focus omega); (focus (first | with_reducible exact (c_spot (by omega) (by omega)) | with_reducible exact (f5) | with_reducible exact vx (c_spot (by omega) (by omega)) (by omega) | with_reducible exact vx (f5) (by omega) | (simp (disch := omega) only [up2_s, up2_n, up2_k] <;> first | with_reducible exact (c_spot (by omega) (by omega)) | with_reducible exact (f5) | with_reducible exact vx (c_spot (by omega) (by omega)) (by omega) | with_reducible exact vx (f5) (by omega) | with_reducible rfl) | with_reducible rfl))) | ((with_reducible apply ex_gB); (focus (first | with_reducible exact (c_spot (by omega) (by omega)) | with_reducible exact (f5) | (simp (disch := omega) only [lit, nI_add, nI_mul, nI_sub, nI_m1'] <;> first | with_reducible exact (c_spot (by omega) (by omega)) | with_reducible exact (f5))))) | ((with_reducible apply ex_pos); (focus (with_reducible assumption))) | ((with_reducible apply ex_neg); (focus (with_reducible assumption))) | ((with_reducible apply ex_pos); (focus ((simp -failIfUnchanged (disch := omega) only [lit, nI_add, nI_mul, nI_sub, nI_m1', nI_leI, nI_ltI, nI_eq, m_eq, m_eq', m_lt, m_le, m_lt', m_le', mm_eq, mm_lt, mm_le, or_true, true_or, or_false, false_or, not_true_eq_false, not_false_eq_true, Bool.false_eq_true] <;> omega)))) | ((with_reducible apply ex_neg); (focus ((simp -failIfUnchanged (disch := omega) only [lit, nI_add, nI_mul, nI_sub, nI_m1', nI_leI, nI_ltI, nI_eq, m_eq, m_eq', m_lt, m_le, m_lt', m_le', mm_eq, mm_lt, mm_le, or_true, true_or, or_false, false_or, not_true_eq_false, not_false_eq_true, Bool.false_eq_true] <;> omega)))) | (with_reducible apply ex_sm) | ((with_reducible apply ex_bind); (focus (first | with_reducible exact (c_spot (by omega) (by omega)) | with_reducible exact (f5) | (simp (disch := omega) only [lit, nI_add, nI_mul, nI_sub, nI_m1'] <;> first | with_reducible exact (c_spot (by omega) (by omega)) | with_reducible exact (f5))))) | unfold F_X4_fill | unfold F_X4_fill_0)); (try with_reducible rfl)
    exact f5
theorem c_prep_108 {K : Nat → Nat → Int32 → gH → Option gH} {p : Nat} (hn : 200 ≤ n) (hD : dOk D) (hp : p < dN D) (hs : S 106 10 = nI (dSto D)) : ∀ (k r m : Nat) (A : Nat → Nat → Int32), r + k = dSto D + 1 → k < m → RdC A S 67 D → TbC A D (fun p' r' => p + 1 ≤ p' ∨ (p' = p ∧ r' < r)) →
    ∃ A', Off [75, 107, 108, 109, 110, 111] A A' ∧ TbC A' D (fun p' _ => p ≤ p') ∧ F_X4_prepare_108 n K m 106 67 (nI p) (nI r) (HP A S J W ws) = K 106 67 (nI p + -1) (HP A' S J W ws) := by
  have h60 := hD.1.2.2.1
  intro k
  induction k with
  | zero =>
    intro r m A he hm h hT
    obtain ⟨m, rfl⟩ : ∃ k, m = k + 1 := ⟨m - 1, by omega⟩
    refine ⟨A, Off.rf, hT.mo (fun p' r' h1 h2 h3 => by omega), ?_⟩
    rw [F_X4_prepare_108.eq_2]
    (repeat (first | ((with_reducible apply st_gR); (focus rfl)) | ((with_reducible apply st_gO); (focus rfl)) | ((with_reducible apply st_gI); (focus rfl); (focus (first | with_reducible exact (hs) | with_reducible exact vx (hs) (by omega) | (simp (disch := omega) only [up2_s, up2_n, up2_k] <;> first | with_reducible exact (hs) | with_reducible exact vx (hs) (by omega) | with_reducible rfl) | with_reducible rfl))) | ((with_reducible apply st_aI); (focus rfl); (focus (first | with_reducible rfl | (simp -failIfUnchanged (disch := omega) only [lit, nI_add, nI_mul, nI_sub, nI_m1'] <;> with_reducible rfl))); (focus omega); (focus (first | with_reducible exact (hs) | with_reducible exact vx (hs) (by omega) | (simp (disch := omega) only [up2_s, up2_n, up2_k] <;> first | with_reducible exact (hs) | with_reducible exact vx (hs) (by omega) | with_reducible rfl) | with_reducible rfl))) | ((with_reducible apply st_sI); (focus rfl); (focus (first | with_reducible rfl | (simp -failIfUnchanged (disch := omega) only [lit, nI_add, nI_mul, nI_sub, nI_m1'] <;> with_reducible rfl))); (focus omega); (focus (first | with_reducible exact (hs) | (simp (disch := omega) only [lit, nI_add, nI_mul, nI_sub, nI_m1'] <;> with_reducible rfl) | with_reducible rfl))) | ((with_reducible apply st_pF); (focus rfl); (focus (first | with_reducible exact (hs) | (simp (disch := omega) only [lit, nI_add, nI_mul, nI_sub, nI_m1'] <;> with_reducible rfl) | with_reducible rfl))) | ((with_reducible apply st_pZ); (focus rfl); (focus decide)) | ((with_reducible apply st_len); (focus rfl)) | ((with_reducible apply st_aZ); (focus (first | with_reducible rfl | (simp -failIfUnchanged (disch := omega) only [lit, nI_add, nI_mul, nI_sub, nI_m1'] <;> with_reducible rfl))); (focus omega); (focus (first | with_reducible exact (hs) | with_reducible exact vx (hs) (by omega) | (simp (disch := omega) only [up2_s, up2_n, up2_k] <;> first | with_reducible exact (hs) | with_reducible exact vx (hs) (by omega) | with_reducible rfl) | with_reducible rfl))) | ((with_reducible apply st_sZ); (focus (first | with_reducible rfl | (simp -failIfUnchanged (disch := omega) only [lit, nI_add, nI_mul, nI_sub, nI_m1'] <;> with_reducible rfl))); (focus omega); (focus rfl)) | ((with_reducible apply st_gL); (focus decide); (focus (first | with_reducible exact (hs) | with_reducible exact vx (hs) (by omega) | (simp (disch := omega) only [up2_s, up2_n, up2_k] <;> first | with_reducible exact (hs) | with_reducible exact vx (hs) (by omega) | with_reducible rfl) | with_reducible rfl))) | ((with_reducible apply st_pFL); (focus decide); (focus (first | with_reducible exact (hs) | (simp (disch := omega) only [lit, nI_add, nI_mul, nI_sub, nI_m1'] <;> with_reducible rfl) | with_reducible rfl))) | ((with_reducible apply st_aL); (focus (first | with_reducible rfl | (simp -failIfUnchanged (disch := omega) only [lit, nI_add, nI_mul, nI_sub, nI_m1'] <;> with_reducible rfl))); (focus omega); (focus (first | with_reducible exact (hs) | with_reducible exact vx (hs) (by omega) | (simp (disch := omega) only [up2_s, up2_n, up2_k] <;> first | with_reducible exact (hs) | with_reducible exact vx (hs) (by omega) | with_reducible rfl) | with_reducible rfl))) | ((with_reducible apply st_sL); (focus (first | with_reducible rfl | (simp -failIfUnchanged (disch := omega) only [lit, nI_add, nI_mul, nI_sub, nI_m1'] <;> with_reducible rfl))); (focus omega); (focus (first | with_reducible exact (hs) | (simp (disch := omega) only [lit, nI_add, nI_mul, nI_sub, nI_m1'] <;> with_reducible rfl) | with_reducible rfl))) | ((with_reducible apply st_aQ); (focus decide); (focus (first | with_reducible rfl | (simp -failIfUnchanged (disch := omega) only [lit, nI_add, nI_mul, nI_sub, nI_m1'] <;> with_reducible rfl))); (focus omega); (focus (first | with_reducible exact (hs) | with_reducible exact vx (hs) (by omega) | (simp (disch := omega) only [up2_s, up2_n, up2_k] <;> first | with_reducible exact (hs) | with_reducible exact vx (hs) (by omega) | with_reducible rfl) | with_reducible rfl))) | ((with_reducible apply ex_gB); (focus (first | with_reducible exact (hs) | (simp (disch := omega) only [lit, nI_add, nI_mul, nI_sub, nI_m1'] <;> first | with_reducible exact (hs))))) | ((with_reducible apply ex_pos); (focus (with_reducible assumption))) | ((with_reducible apply ex_neg); (focus (with_reducible assumption))) | ((with_reducible apply ex_pos); (focus ((simp -failIfUnchanged (disch := omega) only [lit, nI_add, nI_mul, nI_sub, nI_m1', nI_leI, nI_ltI, nI_eq, m_eq, m_eq', m_lt, m_le, m_lt', m_le', mm_eq, mm_lt, mm_le, or_true, true_or, or_false, false_or, not_true_eq_false, not_false_eq_true, Bool.false_eq_true] <;> omega)))) | ((with_reducible apply ex_neg); (focus ((simp -failIfUnchanged (disch := omega) only [lit, nI_add, nI_mul, nI_sub, nI_m1', nI_leI, nI_ltI, nI_eq, m_eq, m_eq', m_lt, m_le, m_lt', m_le', mm_eq, mm_lt, mm_le, or_true, true_or, or_false, false_or, not_true_eq_false, not_false_eq_true, Bool.false_eq_true] <;> omega)))) | (with_reducible apply ex_sm) | ((with_reducible apply ex_bind); (focus (first | with_reducible exact (hs) | (simp (disch := omega) only [lit, nI_add, nI_mul, nI_sub, nI_m1'] <;> first | with_reducible exact (hs))))))); (try with_reducible rfl)
  | succ k ih =>
    intro r m A he hm h hT
    obtain ⟨m, rfl⟩ : ∃ k, m = k + 1 := ⟨m - 1, by omega⟩
    obtain ⟨A1, o1, T1, e1⟩ := c_fill (J := J) (W := W) (ws := ws) hn h hD hp (r := r) (by omega) hT (fun q _ => Or.inl (Nat.le_refl _))
    obtain ⟨A', o, T2, e2⟩ := ih (r + 1) m A1 (by omega) (by omega) (h.off o1 (by decide)) (T1.mo (fun p' r' h1 h2 h3 => by omega))
    refine ⟨A', o1.tr o, T2, ?_⟩
    rw [F_X4_prepare_108.eq_2, ← e2]
    (repeat (first | ((with_reducible apply st_gR); (focus rfl)) | ((with_reducible apply st_gO); (focus rfl)) | ((with_reducible apply st_gI); (focus rfl); (focus (first | with_reducible exact (hs) | with_reducible exact (e1) | with_reducible exact vx (hs) (by omega) | with_reducible exact vx (e1) (by omega) | (simp (disch := omega) only [up2_s, up2_n, up2_k] <;> first | with_reducible exact (hs) | with_reducible exact (e1) | with_reducible exact vx (hs) (by omega) | with_reducible exact vx (e1) (by omega) | with_reducible rfl) | with_reducible rfl))) | ((with_reducible apply st_aI); (focus rfl); (focus (first | with_reducible rfl | (simp -failIfUnchanged (disch := omega) only [lit, nI_add, nI_mul, nI_sub, nI_m1'] <;> with_reducible rfl))); (focus omega); (focus (first | with_reducible exact (hs) | with_reducible exact (e1) | with_reducible exact vx (hs) (by omega) | with_reducible exact vx (e1) (by omega) | (simp (disch := omega) only [up2_s, up2_n, up2_k] <;> first | with_reducible exact (hs) | with_reducible exact (e1) | with_reducible exact vx (hs) (by omega) | with_reducible exact vx (e1) (by omega) | with_reducible rfl) | with_reducible rfl))) | ((with_reducible apply st_sI); (focus rfl); (focus (first | with_reducible rfl | (simp -failIfUnchanged (disch := omega) only [lit, nI_add, nI_mul, nI_sub, nI_m1'] <;> with_reducible rfl))); (focus omega); (focus (first | with_reducible exact (hs) | with_reducible exact (e1) | (simp (disch := omega) only [lit, nI_add, nI_mul, nI_sub, nI_m1'] <;> with_reducible rfl) | with_reducible rfl))) | ((with_reducible apply st_pF); (focus rfl); (focus (first | with_reducible exact (hs) | with_reducible exact (e1) | (simp (disch := omega) only [lit, nI_add, nI_mul, nI_sub, nI_m1'] <;> with_reducible rfl) | with_reducible rfl))) | ((with_reducible apply st_pZ); (focus rfl); (focus decide)) | ((with_reducible apply st_len); (focus rfl)) | ((with_reducible apply st_aZ); (focus (first | with_reducible rfl | (simp -failIfUnchanged (disch := omega) only [lit, nI_add, nI_mul, nI_sub, nI_m1'] <;> with_reducible rfl))); (focus omega); (focus (first | with_reducible exact (hs) | with_reducible exact (e1) | with_reducible exact vx (hs) (by omega) | with_reducible exact vx (e1) (by omega) | (simp (disch := omega) only [up2_s, up2_n, up2_k] <;> first | with_reducible exact (hs) | with_reducible exact (e1) | with_reducible exact vx (hs) (by omega) | with_reducible exact vx (e1) (by omega) | with_reducible rfl) | with_reducible rfl))) | ((with_reducible apply st_sZ); (focus (first | with_reducible rfl | (simp -failIfUnchanged (disch := omega) only [lit, nI_add, nI_mul, nI_sub, nI_m1'] <;> with_reducible rfl))); (focus omega); (focus rfl)) | ((with_reducible apply st_gL); (focus decide); (focus (first | with_reducible exact (hs) | with_reducible exact (e1) | with_reducible exact vx (hs) (by omega) | with_reducible exact vx (e1) (by omega) | (simp (disch := omega) only [up2_s, up2_n, up2_k] <;> first | with_reducible exact (hs) | with_reducible exact (e1) | with_reducible exact vx (hs) (by omega) | with_reducible exact vx (e1) (by omega) | with_reducible rfl) | with_reducible rfl))) | ((with_reducible apply st_pFL); (focus decide); (focus (first | with_reducible exact (hs) | with_reducible exact (e1) | (simp (disch := omega) only [lit, nI_add, nI_mul, nI_sub, nI_m1'] <;> with_reducible rfl) | with_reducible rfl))) | ((with_reducible apply st_aL); (focus (first | with_reducible rfl | (simp -failIfUnchanged (disch := omega) only [lit, nI_add, nI_mul, nI_sub, nI_m1'] <;> with_reducible rfl))); (focus omega); (focus (first | with_reducible exact (hs) | with_reducible exact (e1) | with_reducible exact vx (hs) (by omega) | with_reducible exact vx (e1) (by omega) | (simp (disch := omega) only [up2_s, up2_n, up2_k] <;> first | with_reducible exact (hs) | with_reducible exact (e1) | with_reducible exact vx (hs) (by omega) | with_reducible exact vx (e1) (by omega) | with_reducible rfl) | with_reducible rfl))) | ((with_reducible apply st_sL); (focus (first | with_reducible rfl | (simp -failIfUnchanged (disch := omega) only [lit, nI_add, nI_mul, nI_sub, nI_m1'] <;> with_reducible rfl))); (focus omega); (focus (first | with_reducible exact (hs) | with_reducible exact (e1) | (simp (disch := omega) only [lit, nI_add, nI_mul, nI_sub, nI_m1'] <;> with_reducible rfl) | with_reducible rfl))) | ((with_reducible apply st_aQ); (focus decide); (focus (first | with_reducible rfl | (simp -failIfUnchanged (disch := omega) only [lit, nI_add, nI_mul, nI_sub, nI_m1'] <;> with_reducible rfl))); (focus omega); (focus (first | with_reducible exact (hs) | with_reducible exact (e1) | with_reducible exact vx (hs) (by omega) | with_reducible exact vx (e1) (by omega) | (simp (disch := omega) only [up2_s, up2_n, up2_k] <;> first | with_reducible exact (hs) | with_reducible exact (e1) | with_reducible exact vx (hs) (by omega) | with_reducible exact vx (e1) (by omega) | with_reducible rfl) | with_reducible rfl))) | ((with_reducible apply ex_gB); (focus (first | with_reducible exact (hs) | with_reducible exact (e1) | (simp (disch := omega) only [lit, nI_add, nI_mul, nI_sub, nI_m1'] <;> first | with_reducible exact (hs) | with_reducible exact (e1))))) | ((with_reducible apply ex_pos); (focus (with_reducible assumption))) | ((with_reducible apply ex_neg); (focus (with_reducible assumption))) | ((with_reducible apply ex_pos); (focus ((simp -failIfUnchanged (disch := omega) only [lit, nI_add, nI_mul, nI_sub, nI_m1', nI_leI, nI_ltI, nI_eq, m_eq, m_eq', m_lt, m_le, m_lt', m_le', mm_eq, mm_lt, mm_le, or_true, true_or, or_false, false_or, not_true_eq_false, not_false_eq_true, Bool.false_eq_true] <;> omega)))) | ((with_reducible apply ex_neg); (focus ((simp -failIfUnchanged (disch := omega) only [lit, nI_add, nI_mul, nI_sub, nI_m1', nI_leI, nI_ltI, nI_eq, m_eq, m_eq', m_lt, m_le, m_lt', m_le', mm_eq, mm_lt, mm_le, or_true, true_or, or_false, false_or, not_true_eq_false, not_false_eq_true, Bool.false_eq_true] <;> omega)))) | (with_reducible apply ex_sm) | ((with_reducible apply ex_bind); (focus (first | with_reducible exact (hs) | with_reducible exact (e1) | (simp (disch := omega) only [lit, nI_add, nI_mul, nI_sub, nI_m1'] <;> first | with_reducible exact (hs) | with_reducible exact (e1))))))); (try with_reducible rfl)
    rw [show nI r + 1 = nI (r + 1) from nI_1 r]
theorem c_prep_102 (hn : 200 ≤ n) (hD : dOk D) (hs : S 106 10 = nI (dSto D)) : ∀ (k m : Nat) (A : Nat → Nat → Int32), k ≤ dN D → k < m → RdC A S 67 D → TbC A D (fun p' _ => k ≤ p') →
    ∃ A', Off [75, 107, 108, 109, 110, 111] A A' ∧ TbC A' D (fun _ _ => True) ∧ F_X4_prepare_102 n m 106 67 (nI k - 1) (HP A S J W ws) = some (HP A' S J W ws) := by
  have h60 := hD.1.2.2.1
  have hn8 := hD.1.1
  intro k
  induction k with
  | zero =>
    intro m A he hm h hT
    obtain ⟨m, rfl⟩ : ∃ k, m = k + 1 := ⟨m - 1, by omega⟩
    refine ⟨A, Off.rf, hT.mo (fun p' r' h1 h2 h3 => by omega), ?_⟩
    rw [F_X4_prepare_102.eq_2, if_pos (by decide)]
  | succ k ih =>
    intro m A he hm h hT
    obtain ⟨m, rfl⟩ : ∃ k, m = k + 1 := ⟨m - 1, by omega⟩
    obtain ⟨A1, o1, T1, e1⟩ := c_prep_108 (J := J) (W := W) (ws := ws) (K := F_X4_prepare_102 n m) hn hD (p := k) (by omega) hs (dSto D + 1) 0 n A (by omega) (by omega) h (hT.mo (fun p' r' h1 h2 h3 => by omega))
    obtain ⟨A', o, T2, e2⟩ := ih m A1 (by omega) (by omega) (h.off o1 (by decide)) T1
    refine ⟨A', o1.tr o, T2, ?_⟩
    have e3 : nI (k + 1) - 1 = nI k := nI_pred k
    have e4 : nI k + -1 = nI k - 1 := by
      generalize nI k = z
      grind
    rw [F_X4_prepare_102.eq_2, e3, if_neg (nI_pos (by omega))]
    rw [show (0 : Int32) = nI 0 from rfl, e1, e4]
    exact e2
end C4
