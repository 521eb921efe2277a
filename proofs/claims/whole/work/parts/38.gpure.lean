/-! few gears: the plain side -/
section G0
variable {D : rD} {M p : Nat} {R R' : Nat → Option Nat}
def gOkS (D : rD) (M p : Nat) (R : Nat → Option Nat) (e s c t : Nat) : Prop := e < 10 ∧ sM M e = true ∧ s ≤ dSto D ∧ R s = some c ∧ dBe D p e s = some t
/-- what stands behind a piece when the pairs of Q are done -/
def Sd (D : rD) (M p : Nat) (R : Nat → Option Nat) (Q : Nat → Nat → Prop) (R' : Nat → Option Nat) : Prop := (∀ t c' : Nat, R' t = some c' → ∃ e s c : Nat, Q e s ∧ gOkS D M p R e s c t ∧ c' = c + dSec D p e s) ∧ ∀ e s c t : Nat, Q e s → gOkS D M p R e s c t → ∃ c', R' t = some c' ∧ c' ≤ c + dSec D p e s
def uO (R : Nat → Option Nat) (t c : Nat) : Nat → Option Nat := fun j => if j = t then some c else R j
theorem Sd.mo {Q Q' : Nat → Nat → Prop} (h : Sd D M p R Q R') (hQ : ∀ e s c t : Nat, gOkS D M p R e s c t → (Q e s ↔ Q' e s)) : Sd D M p R Q' R' := by
  constructor
  · intro t c' hc
    obtain ⟨e, s, c, h1, h2, h3⟩ := h.1 t c' hc
    exact ⟨e, s, c, (hQ e s c t h2).mp h1, h2, h3⟩
  · intro e s c t h1 h2
    exact h.2 e s c t ((hQ e s c t h2).mpr h1) h2
theorem Sd.set {Q : Nat → Nat → Prop} {e s c t : Nat} (h : Sd D M p R Q R') (hg : gOkS D M p R e s c t) (hc : ∀ c', R' t = some c' → c + dSec D p e s < c') : Sd D M p R (fun e' s' => Q e' s' ∨ (e' = e ∧ s' = s)) (uO R' t (c + dSec D p e s)) := by
  constructor
  · intro t2 c2 h2
    unfold uO at h2
    split at h2
    · rename_i ht
      cases h2
      subst ht
      exact ⟨e, s, c, Or.inr ⟨rfl, rfl⟩, hg, rfl⟩
    · obtain ⟨e', s', c', g1, g2, g3⟩ := h.1 t2 c2 h2
      exact ⟨e', s', c', Or.inl g1, g2, g3⟩
  · intro e2 s2 c2 t2 hQ h2
    unfold uO
    by_cases ht : t2 = t
    · rw [if_pos ht]
      refine ⟨_, rfl, ?_⟩
      rcases hQ with hQ | ⟨rfl, rfl⟩
      · obtain ⟨c3, g1, g2⟩ := h.2 e2 s2 c2 t2 hQ h2
        have := hc c3 (ht ▸ g1)
        omega
      · have : c2 = c := by have := h2.2.2.2.1.symm.trans hg.2.2.2.1; cases this; rfl
        omega
    · rw [if_neg ht]
      rcases hQ with hQ | ⟨rfl, rfl⟩
      · exact h.2 e2 s2 c2 t2 hQ h2
      · have : t2 = t := by have := h2.2.2.2.2.symm.trans hg.2.2.2.2; cases this; rfl
        exact absurd this ht
theorem Sd.keep {Q : Nat → Nat → Prop} {e s c t c' : Nat} (h : Sd D M p R Q R') (hg : gOkS D M p R e s c t) (h1 : R' t = some c') (h2 : c' ≤ c + dSec D p e s) : Sd D M p R (fun e' s' => Q e' s' ∨ (e' = e ∧ s' = s)) R' := by
  constructor
  · intro t2 c2 h3
    obtain ⟨e', s', c', g1, g2, g3⟩ := h.1 t2 c2 h3
    exact ⟨e', s', c', Or.inl g1, g2, g3⟩
  · intro e2 s2 c2 t2 hQ h3
    rcases hQ with hQ | ⟨rfl, rfl⟩
    · exact h.2 e2 s2 c2 t2 hQ h3
    · have e1 : t2 = t := by have := h3.2.2.2.2.symm.trans hg.2.2.2.2; cases this; rfl
      have e2 : c2 = c := by have := h3.2.2.2.1.symm.trans hg.2.2.2.1; cases this; rfl
      subst e1 e2
      exact ⟨c', h1, h2⟩
theorem Sd.no {Q : Nat → Nat → Prop} {e s : Nat} (h : Sd D M p R Q R') (hn : ∀ c t : Nat, ¬ gOkS D M p R e s c t) : Sd D M p R (fun e' s' => Q e' s' ∨ (e' = e ∧ s' = s)) R' := h.mo (fun e' s' c t hg => by
  constructor
  · exact Or.inl
  · rintro (h | ⟨rfl, rfl⟩)
    · exact h
    · exact absurd hg (hn c t))
/-- the fewest seconds, seen from the stores behind the pieces ahead of p -/
def gMin (D : rD) (M p : Nat) (R : Nat → Option Nat) : Prop := (∃ s c : Nat, s ≤ dSto D ∧ R s = some c ∧ c + (dpV D M p s).1 = (dpV D M 0 (dSto D)).1) ∧ (∀ s c : Nat, R s = some c → s ≤ dSto D ∧ c ≤ 1000 * p ∧ (dpV D M 0 (dSto D)).1 ≤ c + (dpV D M p s).1)
theorem gMin_0 : gMin D M 0 (fun j => if j = dSto D then some 0 else none) := by
  refine ⟨⟨dSto D, 0, Nat.le_refl _, if_pos rfl, Nat.zero_add _⟩, ?_⟩
  intro s c h
  dsimp only at h
  split at h
  · rename_i hs
    cases h
    subst hs
    exact ⟨Nat.le_refl _, Nat.zero_le _, by omega⟩
  · cases h
theorem gMin_step (hD : dOk D) (h0 : sM M 0 = true) (hp : p < dN D) (hR : gMin D M p R) (h : Sd D M p R (fun e s => e < 10 ∧ s ≤ dSto D) R') : gMin D M (p + 1) R' := by
  obtain ⟨⟨s, c, h1, h2, h3⟩, h4⟩ := hR
  have lo : ∀ t c' : Nat, R' t = some c' → t ≤ dSto D ∧ c' ≤ 1000 * (p + 1) ∧ (dpV D M 0 (dSto D)).1 ≤ c' + (dpV D M (p + 1) t).1 := by
    intro t c' hc
    obtain ⟨e, s', c2, ⟨g1, g2⟩, ⟨k1, k2, k3, k4, k5⟩, g3⟩ := h.1 t c' hc
    obtain ⟨l1, l2, l3⟩ := h4 s' c2 k4
    have hm := dpF_min (D := D) (M := M) (nx := dpV D M (p + 1)) (p := p) (r := s') h0 10 e t k1 k2 k5
    rw [← dpV_at hp] at hm
    have hs := dSec_b hD (e := e) (r := s') hp
    exact ⟨dBe_le k5 l1, by omega, by omega⟩
  refine ⟨?_, lo⟩
  obtain ⟨q, g1, g2, g3, g4, g5⟩ := dpF_ok (D := D) (nx := dpV D M (p + 1)) (p := p) (r := s) h0 10 (by decide)
  rw [← dpV_at hp] at g1 g2 g3 g4 g5
  obtain ⟨c', k1, k2⟩ := h.2 (dpV D M p s).2.2 s c q ⟨g1, h1⟩ ⟨g1, g2, h1, h2, g3⟩
  obtain ⟨l1, l2, l3⟩ := lo q c' k1
  exact ⟨q, c', l1, k1, by omega⟩
theorem gMin_end (hR : gMin D M (dN D) R) : (∃ s : Nat, s ≤ dSto D ∧ R s = some (dpV D M 0 (dSto D)).1) ∧ ∀ s c : Nat, R s = some c → s ≤ dSto D ∧ c ≤ 1000 * dN D ∧ (dpV D M 0 (dSto D)).1 ≤ c := by
  obtain ⟨⟨s, c, h1, h2, h3⟩, h4⟩ := hR
  rw [dpV_end] at h3
  refine ⟨⟨s, h1, by rw [h2, ← h3]; simp⟩, ?_⟩
  intro s c h
  have := h4 s c h
  rw [dpV_end] at this
  simpa using this
end G0
/-- how many efforts a set has -/
def pc (M : Nat) : Nat := M % 2 + M / 2 % 2 + M / 4 % 2 + M / 8 % 2 + M / 16 % 2 + M / 32 % 2 + M / 64 % 2 + M / 128 % 2 + M / 256 % 2 + M / 512 % 2
/-- the set is the best of the odd ones of which P speaks -/
def gBest (D : rD) (P : Nat → Prop) (M : Nat) : Prop := (M % 2 = 1 ∧ M < 1024 ∧ P M) ∧ ∀ N : Nat, N % 2 = 1 → N < 1024 → P N → (dpV D M 0 (dSto D)).1 < (dpV D N 0 (dSto D)).1 ∨ ((dpV D M 0 (dSto D)).1 = (dpV D N 0 (dSto D)).1 ∧ (pc M < pc N ∨ (pc M = pc N ∧ M ≤ N)))
theorem gBest_u {D : rD} {P : Nat → Prop} {M N : Nat} (h1 : gBest D P M) (h2 : gBest D P N) : M = N := by
  have a := h1.2 N h2.1.1 h2.1.2.1 h2.1.2.2
  have b := h2.2 M h1.1.1 h1.1.2.1 h1.1.2.2
  omega
theorem gBest_mo {D : rD} {P Q : Nat → Prop} {M : Nat} (h : gBest D P M) (hPQ : ∀ N : Nat, N % 2 = 1 → N < 1024 → (P N ↔ Q N)) : gBest D Q M := ⟨⟨h.1.1, h.1.2.1, (hPQ M h.1.1 h.1.2.1).mp h.1.2.2⟩, fun N h1 h2 h3 => h.2 N h1 h2 ((hPQ N h1 h2).mpr h3)⟩
theorem gBest_new {D : rD} {P Q : Nat → Prop} {M N : Nat} (h : gBest D P M) (hN : N % 2 = 1 ∧ N < 1024 ∧ Q N) (hQ : ∀ L : Nat, L % 2 = 1 → L < 1024 → Q L → P L ∨ L = N) (hb : (dpV D N 0 (dSto D)).1 < (dpV D M 0 (dSto D)).1 ∨ ((dpV D N 0 (dSto D)).1 = (dpV D M 0 (dSto D)).1 ∧ (pc N < pc M ∨ (pc N = pc M ∧ N ≤ M)))) : gBest D Q N := by
  refine ⟨hN, fun L h1 h2 h3 => ?_⟩
  rcases hQ L h1 h2 h3 with h4 | rfl
  · have := h.2 L h1 h2 h4
    omega
  · omega
theorem gBest_old {D : rD} {P Q : Nat → Prop} {M N : Nat} (h : gBest D P M) (hM : Q M) (hQ : ∀ L : Nat, L % 2 = 1 → L < 1024 → Q L → P L ∨ L = N) (hb : (dpV D M 0 (dSto D)).1 < (dpV D N 0 (dSto D)).1 ∨ ((dpV D M 0 (dSto D)).1 = (dpV D N 0 (dSto D)).1 ∧ (pc M < pc N ∨ (pc M = pc N ∧ M ≤ N)))) : gBest D Q M := by
  refine ⟨⟨h.1.1, h.1.2.1, hM⟩, fun L h1 h2 h3 => ?_⟩
  rcases hQ L h1 h2 h3 with h4 | rfl
  · exact h.2 L h1 h2 h4
  · exact hb
theorem c_bits : ∀ M : Nat, M < 1024 → (F_J6_bitCount_0f7a4 0 (nI M) []).map (fun q => q.1) = some (nI (pc M)) := by decide +kernel
theorem odd_or : ∀ M : Nat, M < 1024 → (nI M ||| (1 : Int32)) = nI (2 * (M / 2) + 1) := by decide +kernel
