/-! the model's speed and seconds -/
theorem gmm {X w v : Int32} (h : gmax (nI 1) (gmin w X) = v) : (X ≤ w → (if (1 : Int32) ≤ X then X else 1) = v) ∧ (¬ X ≤ w → (if (1 : Int32) ≤ w then w else 1) = v) := by
  have e1 : nI 1 = 1 := rfl
  rw [e1] at h
  subst h
  constructor
  · intro c
    by_cases c1 : X < w
    · have e2 : gmin w X = X := if_pos c1
      rw [e2]
      by_cases c2 : (1 : Int32) < X
      · rw [gmax, if_pos c2, if_pos (by lia)]
      · rw [gmax, if_neg c2]
        split <;> lia
    · have e2 : gmin w X = w := if_neg c1
      have e3 : X = w := by lia
      rw [e2, e3]
      by_cases c2 : (1 : Int32) < w
      · rw [gmax, if_pos c2, if_pos (by lia)]
      · rw [gmax, if_neg c2]
        split <;> lia
  · intro c
    have e2 : gmin w X = w := if_neg (by lia)
    rw [e2]
    by_cases c2 : (1 : Int32) < w
    · rw [gmax, if_pos c2, if_pos (by lia)]
    · rw [gmax, if_neg c2]
      split <;> lia
section M3
variable {n K : Nat} {A S : Nat → Nat → Int32} {J : Nat → Nat → Int64} {W : Nat → Nat → Option Nat} {ws : List gC} {D : rD}
theorem tkS_len {b : Nat → Nat} {c : Nat} {st : List Bool} {r : List Nat} {d : Nat} (hd : tkD (c :: r) st.length = some d) : tkD r (tkS b c st).length = some d ∧ (tkS b c st).length ≤ st.length + 1 ∧ (st.length < (tkS b c st).length → st.length < 13) := by
  unfold tkD at hd
  unfold tkS
  split at hd
  · rename_i h1
    rw [if_pos h1]
    cases st with
    | nil => simp at hd
    | cons t s => rw [if_neg (by simp)] at hd; simp; exact hd
  · rename_i h1
    rw [if_neg h1]
    split at hd
    · rename_i h2
      match st, hd with
      | [], hd => simp at hd
      | [t], hd => simp at hd
      | t :: u :: s, hd =>
        rw [if_neg (by simp)] at hd
        rcases h2 with h2 | h2
        · rw [if_pos h2]; simp; exact ⟨by simpa using hd, by omega⟩
        · rw [if_neg (by omega), if_pos h2]; simp; exact ⟨by simpa using hd, by omega⟩
    · rename_i h2
      rw [if_neg (by omega), if_neg (by omega)]
      split at hd
      · rename_i h3
        simp
        exact ⟨hd, h3⟩
      · cases hd
/-- the codes of one ease -/
theorem me_codes {b : Nat → Nat} {a T F : Nat} {sum : Int32} {d : Nat} (ha : a < 5) (hF : F + T ≤ 1118) : ∀ (cs : List Nat) (A : Nat → Nat → Int32) (st : List Bool) (m pos : Nat), A 121 4 = nI a → A 121 (413 + a) = nI T → (∀ w : Nat, w < 5 → A 123 w = nI (b w) ∧ b w < 100) → (∀ c ∈ cs, tkOk c) → tkD cs st.length = some d → st.length ≤ 13 → StM A st → (∀ j c, cs[j]? = some c → A 121 (pos + j) = mS c) → pos + cs.length ≤ F + T →
    ∃ A', Off [124] A A' ∧ StM A' (tkR b cs st) ∧ F_X12_easeOf_22 n (m + cs.length) 120 sum (nI st.length) (nI F) (nI pos) (HP A S J W ws) = F_X12_easeOf_22 n m 120 sum (nI (tkR b cs st).length) (nI F) (nI (pos + cs.length)) (HP A' S J W ws)
  | [], A, st, m, pos, h4, hT, hb, hc, hd, hl, hst, hA, hp => ⟨A, Off.rf, hst, rfl⟩
  | c :: r, A, st, m, pos, h4, hT, hb, hc, hd, hl, hst, hA, hp => by
    obtain ⟨d1, d2, d3⟩ := tkS_len (b := b) hd
    rw [List.length_cons] at hp
    have hE : EsC A a T F pos := ⟨ha, h4, hT, by omega, hF⟩
    have hA0 : A 121 pos = mS c := by have := hA 0 c rfl; rwa [Nat.add_zero] at this
    have key : ∃ A1, Off [124] A A1 ∧ StM A1 (tkS b c st) ∧ F_X12_easeOf_22 n (m + r.length + 1) 120 sum (nI st.length) (nI F) (nI pos) (HP A S J W ws) = F_X12_easeOf_22 n (m + r.length) 120 sum (nI (tkS b c st).length) (nI F) (nI (pos + 1)) (HP A1 S J W ws) := by
      unfold tkD at hd
      rcases hc c (List.mem_cons_self ..) with rfl | rfl | rfl | ⟨w, q, v, hw, hq, hv, hcv⟩
      · rw [if_pos rfl] at hd
        cases st with
        | nil => simp at hd
        | cons t s =>
          simp only [List.length_cons] at hl
          exact ⟨_, Off.rf.up (by decide), StM.cons hst.tl rfl, me_not hE (by omega) hst hA0⟩
      · rw [if_neg (by decide), if_pos (Or.inl rfl)] at hd
        match st, hd, hl, hst with
        | [], hd, hl, hst => simp at hd
        | [t], hd, hl, hst => simp at hd
        | t :: u :: s, hd, hl, hst =>
          simp only [List.length_cons] at hl
          exact ⟨_, Off.rf.up (by decide), StM.cons hst.tl2 rfl, me_and hE (by omega) hst hA0⟩
      · rw [if_neg (by decide), if_pos (Or.inr rfl)] at hd
        match st, hd, hl, hst with
        | [], hd, hl, hst => simp at hd
        | [t], hd, hl, hst => simp at hd
        | t :: u :: s, hd, hl, hst =>
          simp only [List.length_cons] at hl
          exact ⟨_, Off.rf.up (by decide), StM.cons hst.tl2 rfl, me_or hE (by omega) hst hA0⟩
      · have hc1 : ¬ c = 1 := by omega
        have e5 : tkS b c st = tkT b c :: st := by unfold tkS; rw [if_neg hc1, if_neg (by omega), if_neg (by omega)]
        rw [e5]
        rw [hcv] at hA0 ⊢
        exact ⟨_, Off.rf.up (by decide), StM.cons hst rfl, me_test hE hb (by omega) hw hq hv hA0⟩
    obtain ⟨A1, o1, s1, e1⟩ := key
    have o121 : A1 121 = A 121 := o1 121 (by decide)
    have o123 : A1 123 = A 123 := o1 123 (by decide)
    obtain ⟨A2, o2, s2, e2⟩ := me_codes (b := b) (d := d) (sum := sum) ha hF r A1 (tkS b c st) m (pos + 1) (by rw [o121]; exact h4) (by rw [o121]; exact hT) (fun w hw => by rw [o123]; exact hb w hw) (fun c h => hc c (List.mem_cons_of_mem _ h)) d1 (by omega) s1 (fun j c2 h2 => by
      rw [o121]
      have := hA (j + 1) c2 (by simpa using h2)
      rwa [show pos + (j + 1) = pos + 1 + j by omega] at this) (by omega)
    refine ⟨A2, o1.tr o2, s2, ?_⟩
    rw [List.length_cons, show m + (r.length + 1) = m + r.length + 1 by omega, e1, e2, show pos + 1 + r.length = pos + (r.length + 1) by omega]
    rfl
theorem me_eases {b : Nat → Nat} {a T F : Nat} (ha : a < 5) (hF : F + T ≤ 1118) : ∀ (es : List (Nat × List Nat)) (A : Nat → Nat → Int32) (x m pos : Nat), A 121 4 = nI a → A 121 (413 + a) = nI T → (∀ w : Nat, w < 5 → A 123 w = nI (b w) ∧ b w < 100) → (∀ q ∈ es, eOk q) → (∀ j t, (es.flatMap fun q => q.2.map mS ++ [-10 - nI q.1])[j]? = some t → A 121 (pos + j) = t) → pos + (es.flatMap fun q => q.2.map mS ++ [-10 - nI q.1]).length = F + T → (es.flatMap fun q => q.2.map mS ++ [-10 - nI q.1]).length < m →
    ∃ A', Off [124] A A' ∧ F_X12_easeOf_22 n m 120 (nI x) (nI 0) (nI F) (nI pos) (HP A S J W ws) = some (nI (x + dEsum b es), HP A' S J W ws)
  | [], A, x, m, pos, h4, hT, hb, he, hA, hp, hm => by
    obtain ⟨k, rfl⟩ : ∃ k, m = k + 1 := ⟨m - 1, by omega⟩
    simp only [List.flatMap_nil, List.length_nil, Nat.add_zero] at hp
    subst hp
    refine ⟨A, Off.rf, ?_⟩
    rw [F_X12_easeOf_22.eq_2]
    (repeat (first | ((with_reducible apply st_gR); (focus rfl)) | ((with_reducible apply st_gO); (focus rfl)) | ((with_reducible apply st_gI); (focus rfl); (focus (first | with_reducible exact (h4) | with_reducible exact (hT) | with_reducible exact vx (h4) (by omega) | with_reducible exact vx (hT) (by omega) | (simp (disch := omega) only [up2_s, up2_n, up2_k] <;> first | with_reducible exact (h4) | with_reducible exact (hT) | with_reducible exact vx (h4) (by omega) | with_reducible exact vx (hT) (by omega) | with_reducible rfl) | with_reducible rfl))) | ((with_reducible apply st_aI); (focus rfl); (focus (first | with_reducible rfl | (simp -failIfUnchanged (disch := omega) only [lit, nI_add, nI_mul, nI_sub, nI_m1'] <;> with_reducible rfl))); (focus omega); (focus (first | with_reducible exact (h4) | with_reducible exact (hT) | with_reducible exact vx (h4) (by omega) | with_reducible exact vx (hT) (by omega) | (simp (disch := omega) only [up2_s, up2_n, up2_k] <;> first | with_reducible exact (h4) | with_reducible exact (hT) | with_reducible exact vx (h4) (by omega) | with_reducible exact vx (hT) (by omega) | with_reducible rfl) | with_reducible rfl))) | ((with_reducible apply st_sI); (focus rfl); (focus (first | with_reducible rfl | (simp -failIfUnchanged (disch := omega) only [lit, nI_add, nI_mul, nI_sub, nI_m1'] <;> with_reducible rfl))); (focus omega); (focus (first | with_reducible exact (h4) | with_reducible exact (hT) | (simp (disch := omega) only [lit, nI_add, nI_mul, nI_sub, nI_m1'] <;> with_reducible rfl) | with_reducible rfl))) | ((with_reducible apply st_pF); (focus rfl); (focus (first | with_reducible exact (h4) | with_reducible exact (hT) | (simp (disch := omega) only [lit, nI_add, nI_mul, nI_sub, nI_m1'] <;> with_reducible rfl) | with_reducible rfl))) | ((with_reducible apply st_pZ); (focus rfl); (focus decide)) | ((with_reducible apply st_len); (focus rfl)) | ((with_reducible apply st_aZ); (focus (first | with_reducible rfl | (simp -failIfUnchanged (disch := omega) only [lit, nI_add, nI_mul, nI_sub, nI_m1'] <;> with_reducible rfl))); (focus omega); (focus (first | with_reducible exact (h4) | with_reducible exact (hT) | with_reducible exact vx (h4) (by omega) | with_reducible exact vx (hT) (by omega) | (simp (disch := omega) only [up2_s, up2_n, up2_k] <;> first | with_reducible exact (h4) | with_reducible exact (hT) | with_reducible exact vx (h4) (by omega) | with_reducible exact vx (hT) (by omega) | with_reducible rfl) | with_reducible rfl))) | ((with_reducible apply st_sZ); (focus (first | with_reducible rfl | (simp -failIfUnchanged (disch := omega) only [lit, nI_add, nI_mul, nI_sub, nI_m1'] <;> with_reducible rfl))); (focus omega); (focus rfl)) | ((with_reducible apply st_gL); (focus decide); (focus (first | with_reducible exact (h4) | with_reducible exact (hT) | with_reducible exact vx (h4) (by omega) | with_reducible exact vx (hT) (by omega) | (simp (disch := omega) only [up2_s, up2_n, up2_k] <;> first | with_reducible exact (h4) | with_reducible exact (hT) | with_reducible exact vx (h4) (by omega) | with_reducible exact vx (hT) (by omega) | with_reducible rfl) | with_reducible rfl))) | ((with_reducible apply st_pFL); (focus decide); (focus (first | with_reducible exact (h4) | with_reducible exact (hT) | (simp (disch := omega) only [lit, nI_add, nI_mul, nI_sub, nI_m1'] <;> with_reducible rfl) | with_reducible rfl))) | ((with_reducible apply st_aL); (focus (first | with_reducible rfl | (simp -failIfUnchanged (disch := omega) only [lit, nI_add, nI_mul, nI_sub, nI_m1'] <;> with_reducible rfl))); (focus omega); (focus (first | with_reducible exact (h4) | with_reducible exact (hT) | with_reducible exact vx (h4) (by omega) | with_reducible exact vx (hT) (by omega) | (simp (disch := omega) only [up2_s, up2_n, up2_k] <;> first | with_reducible exact (h4) | with_reducible exact (hT) | with_reducible exact vx (h4) (by omega) | with_reducible exact vx (hT) (by omega) | with_reducible rfl) | with_reducible rfl))) | ((with_reducible apply st_sL); (focus (first | with_reducible rfl | (simp -failIfUnchanged (disch := omega) only [lit, nI_add, nI_mul, nI_sub, nI_m1'] <;> with_reducible rfl))); (focus omega); (focus (first | with_reducible exact (h4) | with_reducible exact (hT) | (simp (disch := omega) only [lit, nI_add, nI_mul, nI_sub, nI_m1'] <;> with_reducible rfl) | with_reducible rfl))) | ((with_reducible apply st_aQ); (focus decide); (focus (first | with_reducible rfl | (simp -failIfUnchanged (disch := omega) only [lit, nI_add, nI_mul, nI_sub, nI_m1'] <;> with_reducible rfl))); (focus omega); (focus (first | with_reducible exact (h4) | with_reducible exact (hT) | with_reducible exact vx (h4) (by omega) | with_reducible exact vx (hT) (by omega) | (simp (disch := omega) only [up2_s, up2_n, up2_k] <;> first | with_reducible exact (h4) | with_reducible exact (hT) | with_reducible exact vx (h4) (by omega) | with_reducible exact vx (hT) (by omega) | with_reducible rfl) | with_reducible rfl))) | ((with_reducible apply ex_gB); (focus (first | with_reducible exact (h4) | with_reducible exact (hT) | (simp (disch := omega) only [lit, nI_add, nI_mul, nI_sub, nI_m1'] <;> first | with_reducible exact (h4) | with_reducible exact (hT))))) | ((with_reducible apply ex_pos); (focus (with_reducible assumption))) | ((with_reducible apply ex_neg); (focus (with_reducible assumption))) | ((with_reducible apply ex_pos); (focus ((simp -failIfUnchanged (disch := omega) only [lit, nI_add, nI_mul, nI_sub, nI_m1', nI_leI, nI_ltI, nI_eq, m_eq, m_eq', m_lt, m_le, m_lt', m_le', mm_eq, mm_lt, mm_le, or_true, true_or, or_false, false_or, not_true_eq_false, not_false_eq_true, Bool.false_eq_true] <;> omega)))) | ((with_reducible apply ex_neg); (focus ((simp -failIfUnchanged (disch := omega) only [lit, nI_add, nI_mul, nI_sub, nI_m1', nI_leI, nI_ltI, nI_eq, m_eq, m_eq', m_lt, m_le, m_lt', m_le', mm_eq, mm_lt, mm_le, or_true, true_or, or_false, false_or, not_true_eq_false, not_false_eq_true, Bool.false_eq_true] <;> omega)))) | (with_reducible apply ex_sm) | ((with_reducible apply ex_bind); (focus (first | with_reducible exact (h4) | with_reducible exact (hT) | (simp (disch := omega) only [lit, nI_add, nI_mul, nI_sub, nI_m1'] <;> first | with_reducible exact (h4) | with_reducible exact (hT))))))); (try with_reducible rfl)
    rfl
  | q :: es, A, x, m, pos, h4, hT, hb, he, hA, hp, hm => by
    obtain ⟨o1, o2, o3⟩ := he q (List.mem_cons_self ..)
    simp only [List.flatMap_cons, List.length_append, List.length_map, List.length_singleton] at hp hm
    generalize hL : (es.flatMap fun q => q.2.map mS ++ [-10 - nI q.1]).length = L at hp hm
    obtain ⟨k, rfl⟩ : ∃ k, m = (k + 1) + q.2.length := ⟨m - 1 - q.2.length, by omega⟩
    obtain ⟨A1, f1, s1, e1⟩ := me_codes (n := n) (S := S) (J := J) (W := W) (ws := ws) (b := b) (sum := nI x) ha hF q.2 A [] (k + 1) pos h4 hT hb o2 o3 (by decide) (fun j t h => by simp at h) (fun j c hc => by
      refine hA j _ ?_
      have hj := (List.getElem?_eq_some_iff.mp hc).1
      rw [List.flatMap_cons, List.append_assoc, List.getElem?_append_left (by simpa using hj), List.getElem?_map, hc]
      rfl) (by omega)
    have hR : ∃ t, tkR b q.2 [] = [t] := by
      have hlen : ∀ (cs : List Nat) (st : List Bool) (d : Nat), tkD cs st.length = some d → (tkR b cs st).length = d := by
        intro cs
        induction cs with
        | nil => intro st d h; simpa [tkD, tkR] using h
        | cons c r ih => intro st d h; exact ih _ d (tkS_len h).1
      have h1 := hlen q.2 [] 1 o3
      match hq : tkR b q.2 [], h1 with
      | [t], _ => exact ⟨t, rfl⟩
    obtain ⟨t, ht⟩ := hR
    rw [ht] at s1 e1
    have h0 : A1 124 0 = if t then nI 1 else nI 0 := s1.hd
    have o121 : A1 121 = A 121 := f1 121 (by decide)
    have o123 : A1 123 = A 123 := f1 123 (by decide)
    have hc : A1 121 (pos + q.2.length) = -10 - nI q.1 := by
      rw [o121]
      refine hA _ _ ?_
      rw [List.flatMap_cons, List.append_assoc, List.getElem?_append_right (by simp)]
      simp
    have e3 := me_ease (n := n) (S := S) (J := J) (W := W) (ws := ws) (m := k) (sum := nI x) (k := 1) (t := t) (q := q.1) (A := A1) (a := a) (T := T) (F := F) (pos := pos + q.2.length) ⟨ha, by rw [o121]; exact h4, by rw [o121]; exact hT, by omega, hF⟩ o1 h0 hc
    obtain ⟨A2, f2, e4⟩ := me_eases (b := b) ha hF es A1 (x + if t then q.1 else 0) k (pos + q.2.length + 1) (by rw [o121]; exact h4) (by rw [o121]; exact hT) (fun w hw => by rw [o123]; exact hb w hw) (fun q h => he q (List.mem_cons_of_mem _ h)) (fun j t h => by
      rw [o121]
      have := hA (q.2.length + 1 + j) t (by
        rw [List.flatMap_cons, List.getElem?_append_right (by simp)]
        simpa using h)
      rwa [show pos + (q.2.length + 1 + j) = pos + q.2.length + 1 + j by omega] at this) (by omega) (by omega)
    refine ⟨A2, f1.tr f2, ?_⟩
    rw [show [t].length = 1 from rfl] at e1
    have e5 : dEsum b (q :: es) = (if t then q.1 else 0) + dEsum b es := by
      show (if (tkR b q.2 []).headD false then q.1 else 0) + dEsum b es = _
      rw [ht]; rfl
    rw [show ([] : List Bool).length = 0 from rfl] at e1
    rw [e1, e3, e5, ← Nat.add_assoc, ← e4]
    congr 1
    cases t
    · exact nI_add x 0
    · exact nI_add x q.1
theorem dMs_len {D : rD} (hD : dOk D) : (dMs D).length ≤ 134 := by
  have h : ∀ es : List (Nat × List Nat), (es.flatMap fun q => q.2.map mS ++ [-10 - nI q.1]).length = (es.flatMap fun q => q.2).length + es.length := by
    intro es
    induction es with
    | nil => rfl
    | cons q es ih => simp only [List.flatMap_cons, List.length_append, List.length_map, List.length_cons, List.length_nil, ih]; omega
  have h1 := hD.2.2.2.1
  have h2 : ((dEas D).flatMap fun q => q.2).length ≤ 120 := hD.2.2.2.2.1
  have := h (dEas D)
  unfold dMs
  omega
theorem m_easeOf {b : Nat → Nat} (hn : 200 ≤ n) (h : RdM A 121 D K) (hD : dOk D) (h0 : 0 < dN D) (hb : ∀ w : Nat, w < 5 → A 123 w = nI (b w) ∧ b w < 100) : ∃ A', Off [124] A A' ∧ F_X12_easeOf n 120 (HP A S J W ws) = some (nI (dEsum b (dEas D)), HP A' S J W ws) := by
  obtain ⟨a, ha, h4, h5⟩ := h.at h0
  have hl := dMs_len hD
  obtain ⟨A', o, e⟩ := me_eases (n := n) (S := S) (J := J) (W := W) (ws := ws) (b := b) (a := a) (T := (dMs D).length) (F := 418 + 140 * a) ha (by omega) (dEas D) A 0 n (418 + 140 * a) h4 h5.2.2.2.1 hb hD.2.2.2.2.2 h5.2.2.2.2 rfl (Nat.lt_of_le_of_lt hl (by omega))
  refine ⟨A', o, ?_⟩
  rw [Nat.zero_add] at e
  rw [← e]
  (repeat (first | ((with_reducible apply st_gR); (focus rfl)) | ((with_reducible apply st_gO); (focus rfl)) | ((with_reducible apply st_gI); (focus rfl); (focus (first | with_reducible exact (h4) | with_reducible exact vx (h4) (by omega) | (simp (disch := omega) only [up2_s, up2_n, up2_k] <;> first | with_reducible exact (h4) | with_reducible exact vx (h4) (by omega) | with_reducible rfl) | with_reducible rfl))) | ((with_reducible apply st_aI); (focus rfl); (focus (first | with_reducible rfl | (simp -failIfUnchanged (disch := omega) only [lit, nI_add, nI_mul, nI_sub, nI_m1'] <;> with_reducible rfl))); (focus omega); (focus (first | with_reducible exact (h4) | with_reducible exact vx (h4) (by omega) | (simp (disch := omega) only [up2_s, up2_n, up2_k] <;> first | with_reducible exact (h4) | with_reducible exact vx (h4) (by omega) | with_reducible rfl) | with_reducible rfl))) | ((with_reducible apply st_sI); (focus rfl); (focus (first | with_reducible rfl | (simp -failIfUnchanged (disch := omega) only [lit, nI_add, nI_mul, nI_sub, nI_m1'] <;> with_reducible rfl))); (focus omega); (focus (first | with_reducible exact (h4) | (simp (disch := omega) only [lit, nI_add, nI_mul, nI_sub, nI_m1'] <;> with_reducible rfl) | with_reducible rfl))) | ((with_reducible apply st_pF); (focus rfl); (focus (first | with_reducible exact (h4) | (simp (disch := omega) only [lit, nI_add, nI_mul, nI_sub, nI_m1'] <;> with_reducible rfl) | with_reducible rfl))) | ((with_reducible apply st_pZ); (focus rfl); (focus decide)) | ((with_reducible apply st_len); (focus rfl)) | ((with_reducible apply st_aZ); (focus (first | with_reducible rfl | (simp -failIfUnchanged (disch := omega) only [lit, nI_add, nI_mul, nI_sub, nI_m1'] <;> with_reducible rfl))); (focus omega); (focus (first | with_reducible exact (h4) | with_reducible exact vx (h4) (by omega) | (simp (disch := omega) only [up2_s, up2_n, up2_k] <;> first | with_reducible exact (h4) | with_reducible exact vx (h4) (by omega) | with_reducible rfl) | with_reducible rfl))) | ((with_reducible apply st_sZ); (focus (first | with_reducible rfl | (simp -failIfUnchanged (disch := omega) only [lit, nI_add, nI_mul, nI_sub, nI_m1'] <;> with_reducible rfl))); (focus omega); (focus rfl)) | ((with_reducible apply st_gL); (focus decide); (focus (first | with_reducible exact (h4) | with_reducible exact vx (h4) (by omega) | (simp (disch := omega) only [up2_s, up2_n, up2_k] <;> first | with_reducible exact (h4) | with_reducible exact vx (h4) (by omega) | with_reducible rfl) | with_reducible rfl))) | ((with_reducible apply st_pFL); (focus decide); (focus (first | with_reducible exact (h4) | (simp (disch := omega) only [lit, nI_add, nI_mul, nI_sub, nI_m1'] <;> with_reducible rfl) | with_reducible rfl))) | ((with_reducible apply st_aL); (focus (first | with_reducible rfl | (simp -failIfUnchanged (disch := omega) only [lit, nI_add, nI_mul, nI_sub, nI_m1'] <;> with_reducible rfl))); (focus omega); (focus (first | with_reducible exact (h4) | with_reducible exact vx (h4) (by omega) | (simp (disch := omega) only [up2_s, up2_n, up2_k] <;> first | with_reducible exact (h4) | with_reducible exact vx (h4) (by omega) | with_reducible rfl) | with_reducible rfl))) | ((with_reducible apply st_sL); (focus (first | with_reducible rfl | (simp -failIfUnchanged (disch := omega) only [lit, nI_add, nI_mul, nI_sub, nI_m1'] <;> with_reducible rfl))); (focus omega); (focus (first | with_reducible exact (h4) | (simp (disch := omega) only [lit, nI_add, nI_mul, nI_sub, nI_m1'] <;> with_reducible rfl) | with_reducible rfl))) | ((with_reducible apply st_aQ); (focus decide); (focus (first | with_reducible rfl | (simp -failIfUnchanged (disch := omega) only [lit, nI_add, nI_mul, nI_sub, nI_m1'] <;> with_reducible rfl))); (focus omega); (focus (first | with_reducible exact (h4) | with_reducible exact vx (h4) (by omega) | (simp (disch := omega) only [up2_s, up2_n, up2_k] <;> first | with_reducible exact (h4) | with_reducible exact vx (h4) (by omega) | with_reducible rfl) | with_reducible rfl))) | ((with_reducible apply ex_gB); (focus (first | with_reducible exact (h4) | (simp (disch := omega) only [lit, nI_add, nI_mul, nI_sub, nI_m1'] <;> first | with_reducible exact (h4))))) | ((with_reducible apply ex_pos); (focus (with_reducible assumption))) | ((with_reducible apply ex_neg); (focus (with_reducible assumption))) | ((with_reducible apply ex_pos); (focus ((simp -failIfUnchanged (disch := omega) only [lit, nI_add, nI_mul, nI_sub, nI_m1', nI_leI, nI_ltI, nI_eq, m_eq, m_eq', m_lt, m_le, m_lt', m_le', mm_eq, mm_lt, mm_le, or_true, true_or, or_false, false_or, not_true_eq_false, not_false_eq_true, Bool.false_eq_true] <;> omega)))) | ((with_reducible apply ex_neg); (focus ((simp -failIfUnchanged (disch := omega) only [lit, nI_add, nI_mul, nI_sub, nI_m1', nI_leI, nI_ltI, nI_eq, m_eq, m_eq', m_lt, m_le, m_lt', m_le', mm_eq, mm_lt, mm_le, or_true, true_or, or_false, false_or, not_true_eq_false, not_false_eq_true, Bool.false_eq_true] <;> omega)))) | (with_reducible apply ex_sm) | ((with_reducible apply ex_bind); (focus (first | with_reducible exact (h4) | (simp (disch := omega) only [lit, nI_add, nI_mul, nI_sub, nI_m1'] <;> first | with_reducible exact (h4))))) | unfold F_X12_easeOf | unfold F_X12_easeOf_0)); (try with_reducible rfl)
  have e1 : (418 : Int32) + 140 * nI a = nI (418 + 140 * a) := by
    rw [← nI_add, ← nI_mul]; rfl
  rw [e1]
  rfl
theorem m_speed {p e r : Nat} (hn : 200 ≤ n) (h : RdM A 121 D K) (hD : dOk D) (hp : p < dN D) (he : e < 10) (hr : r ≤ 60) : ∃ A', Off [123, 124] A A' ∧ F_X12_speedOf n 120 (nI p) (nI e) (nI r) (HP A S J W ws) = some (nI (dSpd D p e r), HP A' S J W ws) := by
  have hn8 := hD.1.1
  obtain ⟨-, -, b1, b2⟩ := hD.2.1 p hp
  have hben := hD.2.2.1 p (by omega)
  have ho : Off [123] A (up2 (up2 (up2 (up2 (up2 A 123 0 (nI p)) 123 1 (nI e)) 123 2 (nI (dSlo D p))) 123 3 (nI (dWin D p))) 123 4 (nI r)) := ((((Off.rf.up (by decide)).up (by decide)).up (by decide)).up (by decide)).up (by decide)
  have hb : ∀ w : Nat, w < 5 → (up2 (up2 (up2 (up2 (up2 A 123 0 (nI p)) 123 1 (nI e)) 123 2 (nI (dSlo D p))) 123 3 (nI (dWin D p))) 123 4 (nI r)) 123 w = nI (dBy D p e r w) ∧ dBy D p e r w < 100 := by
    intro w hw
    have e5 : w = 0 ∨ w = 1 ∨ w = 2 ∨ w = 3 ∨ w = 4 := by omega
    rcases e5 with rfl | rfl | rfl | rfl | rfl <;> simp [up2, dBy] <;> omega
  have h1 : RdM (up2 (up2 A 123 0 (nI p)) 123 1 (nI e)) 121 D K := h.off (l := [123]) ((Off.rf.up (by decide)).up (by decide)) (by decide)
  have h2 : RdM (up2 (up2 (up2 A 123 0 (nI p)) 123 1 (nI e)) 123 2 (nI (dSlo D p))) 121 D K := h1.off (l := [123]) (Off.rf.up (by decide)) (by decide)
  have h3 := h.off ho (by decide)
  obtain ⟨A', o, ee⟩ := m_easeOf (n := n) (S := S) (J := J) (W := W) (ws := ws) hn h3 hD (by omega) hb
  have h4 := h3.off o (by decide)
  refine ⟨A', (ho.mo (by decide)).tr (o.mo (by decide)), ?_⟩
  have e1 : (20 : Int32) + 4 * nI e - 5 * (nI (dSlo D p) - 5) - 2 * (nI (dWin D p) - 5) = nI (55 + 4 * e) - nI (5 * dSlo D p + 2 * dWin D p) := spd_eq e _ _
  have hsum : dEsum (dBy D p e r) (dEas D) ≤ 99 * 14 := by
    have : ∀ (b : Nat → Nat) (es : List (Nat × List Nat)), (∀ q ∈ es, eOk q) → dEsum b es ≤ 99 * es.length := by
      intro b es
      induction es with
      | nil => intro _; exact Nat.zero_le _
      | cons q es ih =>
        intro h
        have h1 := (h q (List.mem_cons_self ..)).1
        have h2 := ih (fun q hq => h q (List.mem_cons_of_mem _ hq))
        show (if (tkR b q.2 []).headD false then q.1 else 0) + dEsum b es ≤ _
        rw [List.length_cons]
        split <;> omega
    have h1 := this (dBy D p e r) (dEas D) hD.2.2.2.2.2
    have h2 := hD.2.2.2.1
    omega
  generalize hx : (20 : Int32) + 4 * nI e - 5 * (nI (dSlo D p) - 5) - 2 * (nI (dWin D p) - 5) - nI (dEsum (dBy D p e r) (dEas D)) = X
  have hX : X = nI (55 + 4 * e) - nI (5 * dSlo D p + 2 * dWin D p + dEsum (dBy D p e r) (dEas D)) := by rw [← hx, e1, sub_sub_n]
  have hg := gms (a := 55 + 4 * e) (b := 5 * dSlo D p + 2 * dWin D p + dEsum (dBy D p e r) (dEas D)) (w := dBen D p) (by omega) (by omega) (by omega) (by omega)
  rw [← hX] at hg
  (repeat (first | ((with_reducible apply st_gR); (focus rfl)) | ((with_reducible apply st_gO); (focus rfl)) | ((with_reducible apply st_gI); (focus rfl); (focus (first | with_reducible exact (m_slope h1 hD hp) | with_reducible exact (m_wind h2 hD hp) | with_reducible exact (m_slope h3 hD hp) | with_reducible exact (m_wind h3 hD hp) | with_reducible exact (ee) | with_reducible exact (m_bend h4 hD hp) | with_reducible exact vx (m_slope h1 hD hp) (by omega) | with_reducible exact vx (m_wind h2 hD hp) (by omega) | with_reducible exact vx (m_slope h3 hD hp) (by omega) | with_reducible exact vx (m_wind h3 hD hp) (by omega) | with_reducible exact vx (ee) (by omega) | with_reducible exact vx (m_bend h4 hD hp) (by omega) | (simp (disch := omega) only [up2_s, up2_n, up2_k] <;> first | with_reducible exact (m_slope h1 hD hp) | with_reducible exact (m_wind h2 hD hp) | with_reducible exact (m_slope h3 hD hp) | with_reducible exact (m_wind h3 hD hp) | with_reducible exact (ee) | with_reducible exact (m_bend h4 hD hp) | with_reducible exact vx (m_slope h1 hD hp) (by omega) | with_reducible exact vx (m_wind h2 hD hp) (by omega) | with_reducible exact vx (m_slope h3 hD hp) (by omega) | with_reducible exact vx (m_wind h3 hD hp) (by omega) | with_reducible exact vx (ee) (by omega) | with_reducible exact vx (m_bend h4 hD hp) (by omega) | with_reducible rfl) | with_reducible rfl))) | ((with_reducible apply st_aI); (focus rfl); (focus (first | with_reducible rfl | (simp -failIfUnchanged (disch := omega) only [lit, nI_add, nI_mul, nI_sub, nI_m1'] <;> with_reducible rfl))); (focus omega); (focus (first | with_reducible exact (m_slope h1 hD hp) | with_reducible exact (m_wind h2 hD hp) | with_reducible exact (m_slope h3 hD hp) | with_reducible exact (m_wind h3 hD hp) | with_reducible exact (ee) | with_reducible exact (m_bend h4 hD hp) | with_reducible exact vx (m_slope h1 hD hp) (by omega) | with_reducible exact vx (m_wind h2 hD hp) (by omega) | with_reducible exact vx (m_slope h3 hD hp) (by omega) | with_reducible exact vx (m_wind h3 hD hp) (by omega) | with_reducible exact vx (ee) (by omega) | with_reducible exact vx (m_bend h4 hD hp) (by omega) | (simp (disch := omega) only [up2_s, up2_n, up2_k] <;> first | with_reducible exact (m_slope h1 hD hp) | with_reducible exact (m_wind h2 hD hp) | with_reducible exact (m_slope h3 hD hp) | with_reducible exact (m_wind h3 hD hp) | with_reducible exact (ee) | with_reducible exact (m_bend h4 hD hp) | with_reducible exact vx (m_slope h1 hD hp) (by omega) | with_reducible exact vx (m_wind h2 hD hp) (by omega) | with_reducible exact vx (m_slope h3 hD hp) (by omega) | with_reducible exact vx (m_wind h3 hD hp) (by omega) | with_reducible exact vx (ee) (by omega) | with_reducible exact vx (m_bend h4 hD hp) (by omega) | with_reducible rfl) | with_reducible rfl))) | ((with_reducible apply st_sI); (focus rfl); (focus (first | with_reducible rfl | (simp -failIfUnchanged (disch := omega) only [lit, nI_add, nI_mul, nI_sub, nI_m1'] <;> with_reducible rfl))); (focus omega); (focus (first | with_reducible exact (m_slope h1 hD hp) | with_reducible exact (m_wind h2 hD hp) | with_reducible exact (m_slope h3 hD hp) | with_reducible exact (m_wind h3 hD hp) | with_reducible exact (ee) | with_reducible exact (m_bend h4 hD hp) | (simp (disch := omega) only [lit, nI_add, nI_mul, nI_sub, nI_m1'] <;> with_reducible rfl) | with_reducible rfl))) | ((with_reducible apply st_pF); (focus rfl); (focus (first | with_reducible exact (m_slope h1 hD hp) | with_reducible exact (m_wind h2 hD hp) | with_reducible exact (m_slope h3 hD hp) | with_reducible exact (m_wind h3 hD hp) | with_reducible exact (ee) | with_reducible exact (m_bend h4 hD hp) | (simp (disch := omega) only [lit, nI_add, nI_mul, nI_sub, nI_m1'] <;> with_reducible rfl) | with_reducible rfl))) | ((with_reducible apply st_pZ); (focus rfl); (focus decide)) | ((with_reducible apply st_len); (focus rfl)) | ((with_reducible apply st_aZ); (focus (first | with_reducible rfl | (simp -failIfUnchanged (disch := omega) only [lit, nI_add, nI_mul, nI_sub, nI_m1'] <;> with_reducible rfl))); (focus omega); (focus (first | with_reducible exact (m_slope h1 hD hp) | with_reducible exact (m_wind h2 hD hp) | with_reducible exact (m_slope h3 hD hp) | with_reducible exact (m_wind h3 hD hp) | with_reducible exact (ee) | with_reducible exact (m_bend h4 hD hp) | with_reducible exact vx (m_slope h1 hD hp) (by omega) | with_reducible exact vx (m_wind h2 hD hp) (by omega) | with_reducible exact vx (m_slope h3 hD hp) (by omega) | with_reducible exact vx (m_wind h3 hD hp) (by omega) | with_reducible exact vx (ee) (by omega) | with_reducible exact vx (m_bend h4 hD hp) (by omega) | (simp (disch := omega) only [up2_s, up2_n, up2_k] <;> first | with_reducible exact (m_slope h1 hD hp) | with_reducible exact (m_wind h2 hD hp) | with_reducible exact (m_slope h3 hD hp) | with_reducible exact (m_wind h3 hD hp) | with_reducible exact (ee) | with_reducible exact (m_bend h4 hD hp) | with_reducible exact vx (m_slope h1 hD hp) (by omega) | with_reducible exact vx (m_wind h2 hD hp) (by omega) | with_reducible exact vx (m_slope h3 hD hp) (by omega) | with_reducible exact vx (m_wind h3 hD hp) (by omega) | with_reducible exact vx (ee) (by omega) | with_reducible exact vx (m_bend h4 hD hp) (by omega) | with_reducible rfl) | with_reducible rfl))) | ((with_reducible apply st_sZ); (focus (first | with_reducible rfl | (simp -failIfUnchanged (disch := omega) only [lit, nI_add, nI_mul, nI_sub, nI_m1'] <;> with_reducible rfl))); (focus omega); (focus rfl)) | ((with_reducible apply st_gL); (focus decide); (focus (first | with_reducible exact (m_slope h1 hD hp) | with_reducible exact (m_wind h2 hD hp) | with_reducible exact (m_slope h3 hD hp) | with_reducible exact (m_wind h3 hD hp) | with_reducible exact (ee) | with_reducible exact (m_bend h4 hD hp) | with_reducible exact vx (m_slope h1 hD hp) (by omega) | with_reducible exact vx (m_wind h2 hD hp) (by omega) | with_reducible exact vx (m_slope h3 hD hp) (by omega) | with_reducible exact vx (m_wind h3 hD hp) (by omega) | with_reducible exact vx (ee) (by omega) | with_reducible exact vx (m_bend h4 hD hp) (by omega) | (simp (disch := omega) only [up2_s, up2_n, up2_k] <;> first | with_reducible exact (m_slope h1 hD hp) | with_reducible exact (m_wind h2 hD hp) | with_reducible exact (m_slope h3 hD hp) | with_reducible exact (m_wind h3 hD hp) | with_reducible exact (ee) | with_reducible exact (m_bend h4 hD hp) | with_reducible exact vx (m_slope h1 hD hp) (by omega) | with_reducible exact vx (m_wind h2 hD hp) (by omega) | with_reducible exact vx (m_slope h3 hD hp) (by omega) | with_reducible exact vx (m_wind h3 hD hp) (by omega) | with_reducible exact vx (ee) (by omega) | with_reducible exact vx (m_bend h4 hD hp) (by omega) | with_reducible rfl) | with_reducible rfl))) | ((with_reducible apply st_pFL); (focus decide); (focus (first | with_reducible exact (m_slope h1 hD hp) | with_reducible exact (m_wind h2 hD hp) | with_reducible exact (m_slope h3 hD hp) | with_reducible exact (m_wind h3 hD hp) | with_reducible exact (ee) | with_reducible exact (m_bend h4 hD hp) | (simp (disch := omega) only [lit, nI_add, nI_mul, nI_sub, nI_m1'] <;> with_reducible rfl) | with_reducible rfl))) | ((with_reducible apply st_aL); (focus (first | with_reducible rfl | (simp -failIfUnchanged (disch := omega) only [lit, nI_add, nI_mul, nI_sub, nI_m1'] <;> with_reducible rfl))); (focus omega); (focus (first | with_reducible exact (m_slope h1 hD hp) | with_reducible exact (m_wind h2 hD hp) | with_reducible exact (m_slope h3 hD hp) | with_reducible exact (m_wind h3 hD hp) | with_reducible exact (ee) | with_reducible exact (m_bend h4 hD hp) | with_reducible exact vx (m_slope h1 hD hp) (by omega) | with_reducible exact vx (m_wind h2 hD hp) (by omega) | with_reducible exact vx (m_slope h3 hD hp) (by omega) | with_reducible exact vx (m_wind h3 hD hp) (by omega) | with_reducible exact vx (ee) (by omega) | with_reducible exact vx (m_bend h4 hD hp) (by omega) | (simp (disch := omega) only [up2_s, up2_n, up2_k] <;> first | with_reducible exact (m_slope h1 hD hp) | with_reducible exact (m_wind h2 hD hp) | with_reducible exact (m_slope h3 hD hp) | with_reducible exact (m_wind h3 hD hp) | with_reducible exact (ee) | with_reducible exact (m_bend h4 hD hp) | with_reducible exact vx (m_slope h1 hD hp) (by omega) | with_reducible exact vx (m_wind h2 hD hp) (by omega) | with_reducible exact vx (m_slope h3 hD hp) (by omega) | with_reducible exact vx (m_wind h3 hD hp) (by omega) | with_reducible exact vx (ee) (by omega) | with_reducible exact vx (m_bend h4 hD hp) (by omega) | with_reducible rfl) | with_reducible rfl))) | ((with_reducible apply st_sL); (focus (first | with_reducible rfl | (simp -failIfUnchanged (disch := omega) only [lit, nI_add, nI_mul, nI_sub, nI_m1'] <;> with_reducible rfl))); (focus omega); (focus (first | with_reducible exact (m_slope h1 hD hp) | with_reducible exact (m_wind h2 hD hp) | with_reducible exact (m_slope h3 hD hp) | with_reducible exact (m_wind h3 hD hp) | with_reducible exact (ee) | with_reducible exact (m_bend h4 hD hp) | (simp (disch := omega) only [lit, nI_add, nI_mul, nI_sub, nI_m1'] <;> with_reducible rfl) | with_reducible rfl))) | ((with_reducible apply st_aQ); (focus decide); (focus (first | with_reducible rfl | (simp -failIfUnchanged (disch := omega) only [lit, nI_add, nI_mul, nI_sub, nI_m1'] <;> with_reducible rfl))); (focus omega); (focus (first | with_reducible exact (m_slope h1 hD hp) | with_reducible exact (m_wind h2 hD hp) | with_reducible exact (m_slope h3 hD hp) | with_reducible exact (m_wind h3 hD hp) | with_reducible exact (ee) | with_reducible exact (m_bend h4 hD hp) | with_reducible exact vx (m_slope h1 hD hp) (by omega) | with_reducible exact vx (m_wind h2 hD hp) (by omega) | with_reducible exact vx (m_slope h3 hD hp) (by omega) | with_reducible exact vx (m_wind h3 hD hp) (by omega) | with_reducible exact vx (ee) (by omega) | with_reducible exact vx (m_bend h4 hD hp) (by omega) | (simp (disch := omega) only [up2_s, up2_n, up2_k] <;> first | with_reducible exact (m_slope h1 hD hp) | with_reducible exact (m_wind h2 hD hp) | with_reducible exact (m_slope h3 hD hp) | with_reducible exact (m_wind h3 hD hp) | with_reducible exact (ee) | with_reducible exact (m_bend h4 hD hp) | with_reducible exact vx (m_slope h1 hD hp) (by omega) | with_reducible exact vx (m_wind h2 hD hp) (by omega) | with_reducible exact vx (m_slope h3 hD hp) (by omega) | with_reducible exact vx (m_wind h3 hD hp) (by omega) | with_reducible exact vx (ee) (by omega) | with_reducible exact vx (m_bend h4 hD hp) (by omega) | with_reducible rfl) | with_reducible rfl))) | ((with_reducible apply ex_gB); (focus (first | with_reducible exact (m_slope h1 hD hp) | with_reducible exact (m_wind h2 hD hp) | with_reducible exact (m_slope h3 hD hp) | with_reducible exact (m_wind h3 hD hp) | with_reducible exact (ee) | with_reducible exact (m_bend h4 hD hp) | (simp (disch := omega) only [lit, nI_add, nI_mul, nI_sub, nI_m1'] <;> first | with_reducible exact (m_slope h1 hD hp) | with_reducible exact (m_wind h2 hD hp) | with_reducible exact (m_slope h3 hD hp) | with_reducible exact (m_wind h3 hD hp) | with_reducible exact (ee) | with_reducible exact (m_bend h4 hD hp))))) | ((with_reducible apply ex_pos); (focus (with_reducible assumption))) | ((with_reducible apply ex_neg); (focus (with_reducible assumption))) | ((with_reducible apply ex_pos); (focus ((simp -failIfUnchanged (disch := omega) only [lit, nI_add, nI_mul, nI_sub, nI_m1', nI_leI, nI_ltI, nI_eq, m_eq, m_eq', m_lt, m_le, m_lt', m_le', mm_eq, mm_lt, mm_le, or_true, true_or, or_false, false_or, not_true_eq_false, not_false_eq_true, Bool.false_eq_true] <;> omega)))) | ((with_reducible apply ex_neg); (focus ((simp -failIfUnchanged (disch := omega) only [lit, nI_add, nI_mul, nI_sub, nI_m1', nI_leI, nI_ltI, nI_eq, m_eq, m_eq', m_lt, m_le, m_lt', m_le', mm_eq, mm_lt, mm_le, or_true, true_or, or_false, false_or, not_true_eq_false, not_false_eq_true, Bool.false_eq_true] <;> omega)))) | (with_reducible apply ex_sm) | ((with_reducible apply ex_bind); (focus (first | with_reducible exact (m_slope h1 hD hp) | with_reducible exact (m_wind h2 hD hp) | with_reducible exact (m_slope h3 hD hp) | with_reducible exact (m_wind h3 hD hp) | with_reducible exact (ee) | with_reducible exact (m_bend h4 hD hp) | (simp (disch := omega) only [lit, nI_add, nI_mul, nI_sub, nI_m1'] <;> first | with_reducible exact (m_slope h1 hD hp) | with_reducible exact (m_wind h2 hD hp) | with_reducible exact (m_slope h3 hD hp) | with_reducible exact (m_wind h3 hD hp) | with_reducible exact (ee) | with_reducible exact (m_bend h4 hD hp))))) | unfold F_X12_speedOf | unfold F_X12_speedOf_0)); (try with_reducible rfl)
  rw [hx]
  obtain ⟨g1, g2⟩ := gmm hg
  by_cases c : X ≤ nI (dBen D p)
  · have g3 := g1 c
    rw [if_pos c]
    unfold F_X12_speedOf_96 F_X12_speedOf_110
    show _ = some (nI (max 1 (min (dBen D p) (55 + 4 * e - (5 * dSlo D p + 2 * dWin D p + dEsum (dBy D p e r) (dEas D))))), HP A' S J W ws)
    rw [← g3]
    split <;> rfl
  · have g3 := g2 c
    rw [if_neg c]
    show _ = some (nI (max 1 (min (dBen D p) (55 + 4 * e - (5 * dSlo D p + 2 * dWin D p + dEsum (dBy D p e r) (dEas D))))), HP A' S J W ws)
    rw [← g3]
    have e9 : gO (HP A' S J W ws) 120 12 = some _ := rfl
    rw [e9, Option.bind_some, m_bend h4 hD hp, gB_some]
    unfold F_X12_speedOf_96 F_X12_speedOf_110
    split <;> rfl
theorem m_seconds {p e r : Nat} (hn : 200 ≤ n) (h : RdM A 121 D K) (hD : dOk D) (hp : p < dN D) (he : e < 10) (hr : r ≤ 60) : ∃ A', Off [123, 124] A A' ∧ F_X12_secondsOf n 120 (nI p) (nI e) (nI r) (HP A S J W ws) = some (nI (dSec D p e r), HP A' S J W ws) := by
  obtain ⟨A', o, ht⟩ := m_speed (S := S) (J := J) (W := W) (ws := ws) hn h hD hp he hr
  refine ⟨A', o, ?_⟩
  have h' : RdM A' 121 D K := h.off o (by decide)
  have hn8 := hD.1.1
  obtain ⟨b0, b1, -, -⟩ := hD.2.1 p hp
  obtain ⟨s1, s2⟩ := dSpd_b hD (e := e) (r := r) (p := p) (by omega)
  (repeat (first | ((with_reducible apply st_gR); (focus rfl)) | ((with_reducible apply st_gO); (focus rfl)) | ((with_reducible apply st_gI); (focus rfl); (focus (first | with_reducible exact (ht) | with_reducible exact (m_length h' hD hp) | with_reducible exact vx (ht) (by omega) | with_reducible exact vx (m_length h' hD hp) (by omega) | (simp (disch := omega) only [up2_s, up2_n, up2_k] <;> first | with_reducible exact (ht) | with_reducible exact (m_length h' hD hp) | with_reducible exact vx (ht) (by omega) | with_reducible exact vx (m_length h' hD hp) (by omega) | with_reducible rfl) | with_reducible rfl))) | ((with_reducible apply st_aI); (focus rfl); (focus (first | with_reducible rfl | (simp -failIfUnchanged (disch := omega) only [lit, nI_add, nI_mul, nI_sub, nI_m1'] <;> with_reducible rfl))); (focus omega); (focus (first | with_reducible exact (ht) | with_reducible exact (m_length h' hD hp) | with_reducible exact vx (ht) (by omega) | with_reducible exact vx (m_length h' hD hp) (by omega) | (simp (disch := omega) only [up2_s, up2_n, up2_k] <;> first | with_reducible exact (ht) | with_reducible exact (m_length h' hD hp) | with_reducible exact vx (ht) (by omega) | with_reducible exact vx (m_length h' hD hp) (by omega) | with_reducible rfl) | with_reducible rfl))) | ((with_reducible apply st_sI); (focus rfl); (focus (first | with_reducible rfl | (simp -failIfUnchanged (disch := omega) only [lit, nI_add, nI_mul, nI_sub, nI_m1'] <;> with_reducible rfl))); (focus omega); (focus (first | with_reducible exact (ht) | with_reducible exact (m_length h' hD hp) | (simp (disch := omega) only [lit, nI_add, nI_mul, nI_sub, nI_m1'] <;> with_reducible rfl) | with_reducible rfl))) | ((with_reducible apply st_pF); (focus rfl); (focus (first | with_reducible exact (ht) | with_reducible exact (m_length h' hD hp) | (simp (disch := omega) only [lit, nI_add, nI_mul, nI_sub, nI_m1'] <;> with_reducible rfl) | with_reducible rfl))) | ((with_reducible apply st_pZ); (focus rfl); (focus decide)) | ((with_reducible apply st_len); (focus rfl)) | ((with_reducible apply st_aZ); (focus (first | with_reducible rfl | (simp -failIfUnchanged (disch := omega) only [lit, nI_add, nI_mul, nI_sub, nI_m1'] <;> with_reducible rfl))); (focus omega); (focus (first | with_reducible exact (ht) | with_reducible exact (m_length h' hD hp) | with_reducible exact vx (ht) (by omega) | with_reducible exact vx (m_length h' hD hp) (by omega) | (simp (disch := omega) only [up2_s, up2_n, up2_k] <;> first | with_reducible exact (ht) | with_reducible exact (m_length h' hD hp) | with_reducible exact vx (ht) (by omega) | with_reducible exact vx (m_length h' hD hp) (by omega) | with_reducible rfl) | with_reducible rfl))) | ((with_reducible apply st_sZ); (focus (first | with_reducible rfl | (simp -failIfUnchanged (disch := omega) only [lit, nI_add, nI_mul, nI_sub, nI_m1'] <;> with_reducible rfl))); (focus omega); (focus rfl)) | ((with_reducible apply st_gL); (focus decide); (focus (first | with_reducible exact (ht) | with_reducible exact (m_length h' hD hp) | with_reducible exact vx (ht) (by omega) | with_reducible exact vx (m_length h' hD hp) (by omega) | (simp (disch := omega) only [up2_s, up2_n, up2_k] <;> first | with_reducible exact (ht) | with_reducible exact (m_length h' hD hp) | with_reducible exact vx (ht) (by omega) | with_reducible exact vx (m_length h' hD hp) (by omega) | with_reducible rfl) | with_reducible rfl))) | ((with_reducible apply st_pFL); (focus decide); (focus (first | with_reducible exact (ht) | with_reducible exact (m_length h' hD hp) | (simp (disch := omega) only [lit, nI_add, nI_mul, nI_sub, nI_m1'] <;> with_reducible rfl) | with_reducible rfl))) | ((with_reducible apply st_aL); (focus (first | with_reducible rfl | (simp -failIfUnchanged (disch := omega) only [lit, nI_add, nI_mul, nI_sub, nI_m1'] <;> with_reducible rfl))); (focus omega); (focus (first | with_reducible exact (ht) | with_reducible exact (m_length h' hD hp) | with_reducible exact vx (ht) (by omega) | with_reducible exact vx (m_length h' hD hp) (by omega) | (simp (disch := omega) only [up2_s, up2_n, up2_k] <;> first | with_reducible exact (ht) | with_reducible exact (m_length h' hD hp) | with_reducible exact vx (ht) (by omega) | with_reducible exact vx (m_length h' hD hp) (by omega) | with_reducible rfl) | with_reducible rfl))) | ((with_reducible apply st_sL); (focus (first | with_reducible rfl | (simp -failIfUnchanged (disch := omega) only [lit, nI_add, nI_mul, nI_sub, nI_m1'] <;> with_reducible rfl))); (focus omega); (focus (first | with_reducible exact (ht) | with_reducible exact (m_length h' hD hp) | (simp (disch := omega) only [lit, nI_add, nI_mul, nI_sub, nI_m1'] <;> with_reducible rfl) | with_reducible rfl))) | ((with_reducible apply st_aQ); (focus decide); (focus (first | with_reducible rfl | (simp -failIfUnchanged (disch := omega) only [lit, nI_add, nI_mul, nI_sub, nI_m1'] <;> with_reducible rfl))); (focus omega); (focus (first | with_reducible exact (ht) | with_reducible exact (m_length h' hD hp) | with_reducible exact vx (ht) (by omega) | with_reducible exact vx (m_length h' hD hp) (by omega) | (simp (disch := omega) only [up2_s, up2_n, up2_k] <;> first | with_reducible exact (ht) | with_reducible exact (m_length h' hD hp) | with_reducible exact vx (ht) (by omega) | with_reducible exact vx (m_length h' hD hp) (by omega) | with_reducible rfl) | with_reducible rfl))) | ((with_reducible apply ex_gB); (focus (first | with_reducible exact (ht) | with_reducible exact (m_length h' hD hp) | (simp (disch := omega) only [lit, nI_add, nI_mul, nI_sub, nI_m1'] <;> first | with_reducible exact (ht) | with_reducible exact (m_length h' hD hp))))) | ((with_reducible apply ex_pos); (focus (with_reducible assumption))) | ((with_reducible apply ex_neg); (focus (with_reducible assumption))) | ((with_reducible apply ex_pos); (focus ((simp -failIfUnchanged (disch := omega) only [lit, nI_add, nI_mul, nI_sub, nI_m1', nI_leI, nI_ltI, nI_eq, m_eq, m_eq', m_lt, m_le, m_lt', m_le', mm_eq, mm_lt, mm_le, or_true, true_or, or_false, false_or, not_true_eq_false, not_false_eq_true, Bool.false_eq_true] <;> omega)))) | ((with_reducible apply ex_neg); (focus ((simp -failIfUnchanged (disch := omega) only [lit, nI_add, nI_mul, nI_sub, nI_m1', nI_leI, nI_ltI, nI_eq, m_eq, m_eq', m_lt, m_le, m_lt', m_le', mm_eq, mm_lt, mm_le, or_true, true_or, or_false, false_or, not_true_eq_false, not_false_eq_true, Bool.false_eq_true] <;> omega)))) | (with_reducible apply ex_sm) | ((with_reducible apply ex_bind); (focus (first | with_reducible exact (ht) | with_reducible exact (m_length h' hD hp) | (simp (disch := omega) only [lit, nI_add, nI_mul, nI_sub, nI_m1'] <;> first | with_reducible exact (ht) | with_reducible exact (m_length h' hD hp))))) | unfold F_X12_secondsOf | unfold F_X12_secondsOf_0)); (try with_reducible rfl)
  have e1 : (100 : Int32) = nI 100 := rfl
  have e2 : (1 : Int32) = nI 1 := rfl
  rw [e1, e2, nI_mul, nI_add, nI_sub (by omega), nI_div (by omega) (by omega) (by omega)]
  rfl
end M3
