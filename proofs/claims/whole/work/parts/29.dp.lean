/-! the soonest, as plain numbers -/
def sM (M e : Nat) : Bool := decide (M / 2 ^ e % 2 = 1)
def dpF (D : rD) (M : Nat) (nx : Nat → Nat × Nat × Nat) (p r : Nat) : Nat → Nat × Nat × Nat
  | 0 => (0, 0, 0)
  | e + 1 => match (if sM M e then dBe D p e r else none) with
    | none => dpF D M nx p r e
    | some q => if e = 0 ∨ dSec D p e r + (nx q).1 < (dpF D M nx p r e).1 ∨ (dSec D p e r + (nx q).1 = (dpF D M nx p r e).1 ∧ (dpF D M nx p r e).2.1 < (nx q).2.1) then (dSec D p e r + (nx q).1, (nx q).2.1, e) else dpF D M nx p r e
def dpS (D : rD) (M : Nat) : Nat → Nat → Nat × Nat × Nat
  | 0, r => (0, r, 0)
  | k + 1, r => dpF D M (dpS D M k) (dN D - (k + 1)) r 10
def dpV (D : rD) (M p r : Nat) : Nat × Nat × Nat := dpS D M (dN D - p) r
theorem dpV_end {D : rD} {M r : Nat} : dpV D M (dN D) r = (0, r, 0) := by
  unfold dpV
  rw [Nat.sub_self]; rfl
theorem dpV_at {D : rD} {M p r : Nat} (hp : p < dN D) : dpV D M p r = dpF D M (dpV D M (p + 1)) p r 10 := by
  unfold dpV
  obtain ⟨k, hk⟩ : ∃ k, dN D - p = k + 1 := ⟨dN D - p - 1, by omega⟩
  rw [hk]
  show dpF D M (dpS D M k) (dN D - (k + 1)) r 10 = _
  rw [show dN D - (k + 1) = p by omega]
  have : dN D - (p + 1) = k := by omega
  rw [this]
/-- what the best of the first efforts is -/
theorem dpF_ok {D : rD} {M : Nat} {nx : Nat → Nat × Nat × Nat} {p r : Nat} (h0 : sM M 0 = true) : ∀ e : Nat, 0 < e → ∃ q, (dpF D M nx p r e).2.2 < e ∧ sM M (dpF D M nx p r e).2.2 = true ∧ dBe D p (dpF D M nx p r e).2.2 r = some q ∧ (dpF D M nx p r e).1 = dSec D p (dpF D M nx p r e).2.2 r + (nx q).1 ∧ (dpF D M nx p r e).2.1 = (nx q).2.1
  | 0, h => absurd h (by decide)
  | 1, _ => by
    unfold dpF
    rw [if_pos h0, dBe_0]
    dsimp only
    rw [if_pos (Or.inl rfl)]
    exact ⟨_, Nat.zero_lt_one, h0, dBe_0, rfl, rfl⟩
  | e + 2, _ => by
    obtain ⟨q, h1, h2, h3, h4, h5⟩ := dpF_ok (D := D) (nx := nx) (p := p) (r := r) h0 (e + 1) (Nat.succ_pos _)
    unfold dpF
    split
    · exact ⟨q, by omega, h2, h3, h4, h5⟩
    · rename_i q2 hq2
      split
      · split at hq2
        · rename_i hs
          exact ⟨q2, by dsimp only; omega, hs, hq2, rfl, rfl⟩
        · cases hq2
      · exact ⟨q, by omega, h2, h3, h4, h5⟩
theorem dpF_min {D : rD} {M : Nat} {nx : Nat → Nat × Nat × Nat} {p r : Nat} (h0 : sM M 0 = true) : ∀ e : Nat, ∀ e' q : Nat, e' < e → sM M e' = true → dBe D p e' r = some q → (dpF D M nx p r e).1 ≤ dSec D p e' r + (nx q).1
  | 0, e', q, h, _, _ => absurd h (by omega)
  | e + 1, e', q, h, hs, hq => by
    unfold dpF
    by_cases c : e' = e
    · subst c
      rw [if_pos hs, hq]
      dsimp only
      split
      · exact Nat.le_refl _
      · rename_i hn
        simp only [not_or, Nat.not_lt] at hn
        exact hn.2.1
    · have ih := dpF_min (D := D) (nx := nx) (p := p) (r := r) h0 e e' q (by omega) hs hq
      split
      · exact ih
      · split
        · rename_i q2 _ hc
          dsimp only
          rcases hc with hc | hc | hc
          · omega
          · omega
          · omega
        · exact ih
theorem dpV_b {D : rD} {M : Nat} (hD : dOk D) (h0 : sM M 0 = true) : ∀ k p r : Nat, p + k = dN D → r ≤ dSto D → (dpV D M p r).1 ≤ 1000 * k ∧ (dpV D M p r).2.1 ≤ dSto D ∧ (dpV D M p r).2.2 ≤ 9
  | 0, p, r, hp, hr => by
    rw [show p = dN D by omega, dpV_end]
    exact ⟨Nat.zero_le _, hr, Nat.zero_le _⟩
  | k + 1, p, r, hp, hr => by
    have hp' : p < dN D := by omega
    rw [dpV_at hp']
    obtain ⟨q, h1, h2, h3, h4, h5⟩ := dpF_ok (D := D) (nx := dpV D M (p + 1)) (p := p) (r := r) h0 10 (by decide)
    have hb := dSec_b hD (e := (dpF D M (dpV D M (p + 1)) p r 10).2.2) (r := r) hp'
    have hq := dBe_le h3 hr
    obtain ⟨i1, i2, i3⟩ := dpV_b hD h0 k (p + 1) q (by omega) hq
    omega
theorem dpV_bb {D : rD} {M p r : Nat} (hD : dOk D) (h0 : sM M 0 = true) (hp : p ≤ dN D) (hr : r ≤ dSto D) : (dpV D M p r).1 ≤ 8000 ∧ (dpV D M p r).2.1 ≤ dSto D ∧ (dpV D M p r).2.2 ≤ 9 := by
  have h := dpV_b hD h0 (dN D - p) p r (by omega) hr
  have := hD.1.1
  omega
theorem dpV_e {D : rD} {M p r : Nat} (h0 : sM M 0 = true) (hp : p < dN D) : ∃ q, (dpV D M p r).2.2 < 10 ∧ dBe D p (dpV D M p r).2.2 r = some q := by
  rw [dpV_at hp]
  obtain ⟨q, h1, h2, h3, h4, h5⟩ := dpF_ok (D := D) (nx := dpV D M (p + 1)) (p := p) (r := r) h0 10 (by decide)
  exact ⟨q, h1, h3⟩
theorem sM_all : ∀ e : Nat, e < 10 → sM 1023 e = true := by decide
theorem sM_odd {M : Nat} (h : M % 2 = 1) : sM M 0 = true := by unfold sM; simp [h]
theorem bitI : ∀ M : Nat, M < 1024 → ∀ e : Nat, e < 10 → ((nI M >>> (nI e &&& 31)) &&& (1 : Int32)) = nI (M / 2 ^ e % 2) := by decide +kernel
theorem bit_y {M e : Nat} (hM : M < 1024) (he : e < 10) (h : sM M e = true) : ((nI M >>> (nI e &&& 31)) &&& (1 : Int32)) = (1 : Int32) := by
  rw [bitI M hM e he]
  unfold sM at h
  rw [of_decide_eq_true h]
  rfl
theorem bit_n {M e : Nat} (hM : M < 1024) (he : e < 10) (h : sM M e = false) : ¬ ((nI M >>> (nI e &&& 31)) &&& (1 : Int32)) = (1 : Int32) := by
  rw [bitI M hM e he]
  unfold sM at h
  have h2 := of_decide_eq_false h
  have h3 : M / 2 ^ e % 2 = 0 := by omega
  rw [h3]
  decide
