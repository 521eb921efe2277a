def F_X12_runs_19 (n : Nat)  (x0 : Nat) (h : gH) : Option (gH) :=
  (gI h x0 12 19).bind fun v1 =>
  (pF h x0 12 19 (.int (v1 + (1 : Int32)))).bind fun h3 =>
  some h3
set_option maxRecDepth 20000 in
set_option maxHeartbeats 1600000 in
theorem g_X12_runs_19 {n d : Nat} : ∀ {x0 : Nat} {h : gH} {rh : gH}, F_X12_runs_19 n x0 h = some rh → G M_X12_runs d 0 0 0 0 19 [some (.ref x0), none] [] h (qV rh) := by
  intro x0 h rh hf
  unfold F_X12_runs_19 at hf
  refine g_aload_n dX12_runs_19 rfl ?_
  refine g_dup dX12_runs_20 rfl ?_
  replace hf := Option.bind_eq_some_iff.mp hf
  obtain ⟨v1, q2, hf⟩ := hf
  refine g_gI f_X12_244 dX12_runs_21 q2 ?_
  refine g_iconst (v := (1 : Int32)) dX12_runs_24 (by decide) ?_
  refine g_iadd dX12_runs_25 ?_
  replace hf := Option.bind_eq_some_iff.mp hf
  obtain ⟨h3, q4, hf⟩ := hf
  refine g_pF p_X12_244 dX12_runs_26 q4 (fun _ => rfl) (fun _ => rfl) ?_
  obtain rfl := Option.some.inj hf
  exact g_vret dX12_runs_29 rfl ⟨rfl, rfl⟩ (Nat.le_of_ble_eq_true rfl) (Nat.le_of_ble_eq_true rfl)
def F_X12_runs_0 (n : Nat)  (x0 : Nat) (x1 : Int32) (h : gH) : Option (gH) :=
  (gI h x0 12 19).bind fun v1 =>
  if (20 : Int32) ≤ v1 then
  (F_X12_runs_19 n x0 h)
  else
  ((gR h x0 12 18).bind fun v4 =>
  (gI h x0 12 19).bind fun v6 =>
  (sI h v4 v6 x1).bind fun h8 =>
  F_X12_runs_19 n x0 h8)
set_option maxRecDepth 20000 in
set_option maxHeartbeats 1600000 in
theorem g_X12_runs_0 {n d : Nat} : ∀ {x0 : Nat} {x1 : Int32} {h : gH} {rh : gH}, F_X12_runs_0 n x0 x1 h = some rh → G M_X12_runs d 0 0 0 0 0 [some (.ref x0), some (.int x1)] [] h (qV rh) := by
  intro x0 x1 h rh hf
  unfold F_X12_runs_0 at hf
  refine g_aload_n dX12_runs_0 rfl ?_
  replace hf := Option.bind_eq_some_iff.mp hf
  obtain ⟨v1, q2, hf⟩ := hf
  refine g_gI f_X12_244 dX12_runs_1 q2 ?_
  refine g_bipush (v := (20 : Int32)) dX12_runs_4 (by decide) ?_
  refine g_icmp_ge (tgt := 19) dX12_runs_6 (by decide) (fun c3 => ?_) (fun c3 => ?_)
  · rw [if_pos c3] at hf
    refine g_weak (lv2 := [some (.ref x0), none]) (And.intro rfl (trivial)) ?_
    exact g_X12_runs_19 hf
  · rw [if_neg c3] at hf
    refine g_aload_n dX12_runs_9 rfl ?_
    replace hf := Option.bind_eq_some_iff.mp hf
    obtain ⟨v4, q5, hf⟩ := hf
    refine g_gR f_X12_37 dX12_runs_10 q5 ?_
    refine g_aload_n dX12_runs_13 rfl ?_
    replace hf := Option.bind_eq_some_iff.mp hf
    obtain ⟨v6, q7, hf⟩ := hf
    refine g_gI f_X12_244 dX12_runs_14 q7 ?_
    refine g_iload_n dX12_runs_17 rfl ?_
    replace hf := Option.bind_eq_some_iff.mp hf
    obtain ⟨h8, q9, hf⟩ := hf
    refine g_sI dX12_runs_18 q9 ?_
    refine g_weak (lv2 := [some (.ref x0), none]) (And.intro rfl (trivial)) ?_
    exact g_X12_runs_19 hf
def F_X12_runs (n : Nat) (a : Nat) (p0 : Int32) (h : gH) : Option (gH) := F_X12_runs_0 n  a p0 h
theorem t_X12_runs {n d : Nat} {a : Nat} {p0 : Int32} {h rh : gH} (hf : F_X12_runs n a p0 h = some rh) : T M_X12_runs d 0 0 [.ref a, .int p0] h (qV rh) := by
  refine T_of_G (L := 0) (by decide +kernel) rfl (Nat.le_of_ble_eq_true rfl) (g_lv (lv2 := [some (.ref a), some (.int p0)]) rfl ?_)
  exact g_X12_runs_0 hf
def F_X12_plainGoes_0 (n : Nat)  (x0 : Nat) (x1 : Int32) (h : gH) : Option (Int32 × gH) :=
  (gO h x0 12).bind fun f1 =>
  (F_X12_runs n x0 (1 : Int32) h).bind fun h3 =>
  (gI h3 x0 12 21).bind fun v5 =>
  some ((x1 + v5), h3)
set_option maxRecDepth 20000 in
set_option maxHeartbeats 1600000 in
theorem g_X12_plainGoes_0 {n d : Nat} : ∀ {x0 : Nat} {x1 : Int32} {h : gH} {rh : gH} {rv : Int32}, F_X12_plainGoes_0 n x0 x1 h = some (rv, rh) → G M_X12_plainGoes (d + 1) 0 0 0 0 0 [some (.ref x0), some (.int x1)] [] h (qI rv rh) := by
  intro x0 x1 h rh rv hf
  unfold F_X12_plainGoes_0 at hf
  refine g_aload_n dX12_plainGoes_0 rfl ?_
  refine g_iconst (v := (1 : Int32)) dX12_plainGoes_1 (by decide) ?_
  replace hf := Option.bind_eq_some_iff.mp hf
  obtain ⟨f1, q2, hf⟩ := hf
  replace hf := Option.bind_eq_some_iff.mp hf
  obtain ⟨h3, q4, hf⟩ := hf
  refine g_callV (as := [.int (1 : Int32)]) (mc1 := 0) (ms1 := 0) s_X12_247_X12_runs_12 dX12_plainGoes_2 (gO_of q2) rfl (Nat.le_of_ble_eq_true rfl) (Nat.le_of_ble_eq_true rfl) (Nat.le_of_ble_eq_true rfl) (t_X12_runs (d := d + 0) q4) (fun r9 h9 q9 => ?_)
  obtain ⟨rfl, rfl⟩ := q9
  refine g_stp (st2 := []) (pc2 := 5) (kc2 := 0) (kn2 := 0) rfl rfl rfl rfl ?_
  refine g_iload_n dX12_plainGoes_5 rfl ?_
  refine g_aload_n dX12_plainGoes_6 rfl ?_
  replace hf := Option.bind_eq_some_iff.mp hf
  obtain ⟨v5, q6, hf⟩ := hf
  refine g_gI f_X12_250 dX12_plainGoes_7 q6 ?_
  refine g_iadd dX12_plainGoes_10 ?_
  obtain ⟨rfl, rfl⟩ := Prod.mk.inj (Option.some.inj hf)
  exact g_iret dX12_plainGoes_11 rfl ⟨rfl, rfl⟩ (Nat.le_of_ble_eq_true rfl) (Nat.le_of_ble_eq_true rfl)
def F_X12_plainGoes (n : Nat) (a : Nat) (p0 : Int32) (h : gH) : Option (Int32 × gH) := F_X12_plainGoes_0 n  a p0 h
theorem t_X12_plainGoes {n d : Nat} {a : Nat} {p0 : Int32} {h rh : gH} {rv : Int32} (hf : F_X12_plainGoes n a p0 h = some (rv, rh)) : T M_X12_plainGoes (d + 1) 0 0 [.ref a, .int p0] h (qI rv rh) := by
  refine T_of_G (L := 0) (by decide +kernel) rfl (Nat.le_of_ble_eq_true rfl) (g_lv (lv2 := [some (.ref a), some (.int p0)]) rfl ?_)
  exact g_X12_plainGoes_0 hf
def F_X12_evenGoes_0 (n : Nat)  (x0 : Nat) (x1 : Int32) (h : gH) : Option (Int32 × gH) :=
  (gO h x0 12).bind fun f1 =>
  (F_X12_runs n x0 (11 : Int32) h).bind fun h3 =>
  (gO h3 x0 12).bind fun f5 =>
  gB (F_X12_plainGoes n x0 (x1 * (3 : Int32)) h3) fun v9 h7 =>
  some (v9, h7)
set_option maxRecDepth 20000 in
set_option maxHeartbeats 1600000 in
theorem g_X12_evenGoes_0 {n d : Nat} : ∀ {x0 : Nat} {x1 : Int32} {h : gH} {rh : gH} {rv : Int32}, F_X12_evenGoes_0 n x0 x1 h = some (rv, rh) → G M_X12_evenGoes (d + 2) 0 0 0 0 0 [some (.ref x0), some (.int x1)] [] h (qI rv rh) := by
  intro x0 x1 h rh rv hf
  unfold F_X12_evenGoes_0 at hf
  refine g_aload_n dX12_evenGoes_0 rfl ?_
  refine g_bipush (v := (11 : Int32)) dX12_evenGoes_1 (by decide) ?_
  replace hf := Option.bind_eq_some_iff.mp hf
  obtain ⟨f1, q2, hf⟩ := hf
  replace hf := Option.bind_eq_some_iff.mp hf
  obtain ⟨h3, q4, hf⟩ := hf
  refine g_callV (as := [.int (11 : Int32)]) (mc1 := 0) (ms1 := 0) s_X12_247_X12_runs_12 dX12_evenGoes_3 (gO_of q2) rfl (Nat.le_of_ble_eq_true rfl) (Nat.le_of_ble_eq_true rfl) (Nat.le_of_ble_eq_true rfl) (t_X12_runs (d := d + 1) q4) (fun r9 h9 q9 => ?_)
  obtain ⟨rfl, rfl⟩ := q9
  refine g_stp (st2 := []) (pc2 := 6) (kc2 := 0) (kn2 := 0) rfl rfl rfl rfl ?_
  refine g_aload_n dX12_evenGoes_6 rfl ?_
  refine g_iload_n dX12_evenGoes_7 rfl ?_
  refine g_iconst (v := (3 : Int32)) dX12_evenGoes_8 (by decide) ?_
  refine g_imul dX12_evenGoes_9 ?_
  replace hf := Option.bind_eq_some_iff.mp hf
  obtain ⟨f5, q6, hf⟩ := hf
  replace hf := gB_of hf
  obtain ⟨v9, h7, q8, hf⟩ := hf
  refine g_callV (as := [.int (x1 * (3 : Int32))]) (mc1 := 0) (ms1 := 0) s_X12_253_X12_plainGoes_12 dX12_evenGoes_10 (gO_of q6) rfl (Nat.le_of_ble_eq_true rfl) (Nat.le_of_ble_eq_true rfl) (Nat.le_of_ble_eq_true rfl) (t_X12_plainGoes (d := d + 0) q8) (fun r9 h9 q9 => ?_)
  obtain ⟨rfl, rfl⟩ := q9
  refine g_stp (st2 := [.int v9]) (pc2 := 13) (kc2 := 0) (kn2 := 0) rfl rfl rfl rfl ?_
  obtain ⟨rfl, rfl⟩ := Prod.mk.inj (Option.some.inj hf)
  exact g_iret dX12_evenGoes_13 rfl ⟨rfl, rfl⟩ (Nat.le_of_ble_eq_true rfl) (Nat.le_of_ble_eq_true rfl)
def F_X12_evenGoes (n : Nat) (a : Nat) (p0 : Int32) (h : gH) : Option (Int32 × gH) := F_X12_evenGoes_0 n  a p0 h
theorem t_X12_evenGoes {n d : Nat} {a : Nat} {p0 : Int32} {h rh : gH} {rv : Int32} (hf : F_X12_evenGoes n a p0 h = some (rv, rh)) : T M_X12_evenGoes (d + 2) 0 0 [.ref a, .int p0] h (qI rv rh) := by
  refine T_of_G (L := 0) (by decide +kernel) rfl (Nat.le_of_ble_eq_true rfl) (g_lv (lv2 := [some (.ref a), some (.int p0)]) rfl ?_)
  exact g_X12_evenGoes_0 hf
def F_X12_isUnder_39 (n : Nat)  (y0 : Int32) (h : gH) : Option (Int32 × gH) :=
  if y0 = 0 ∨ y0 = 1 then some (y0, h) else none
set_option maxRecDepth 20000 in
set_option maxHeartbeats 1600000 in
theorem g_X12_isUnder_39 {n d : Nat} : ∀ {y0 : Int32} {h : gH} {rh : gH} {rv : Int32}, F_X12_isUnder_39 n y0 h = some (rv, rh) → G M_X12_isUnder d 0 0 0 0 39 [none, none] [.int y0] h (qI rv rh) := by
  intro y0 h rh rv hf
  unfold F_X12_isUnder_39 at hf
  by_cases c1 : y0 = 0 ∨ y0 = 1
  · rw [if_pos c1] at hf
    obtain ⟨rfl, rfl⟩ := Prod.mk.inj (Option.some.inj hf)
    exact g_zret (ty := .boolean) dX12_isUnder_39 rfl (gZ_nar c1) ⟨rfl, rfl⟩ (Nat.le_of_ble_eq_true rfl) (Nat.le_of_ble_eq_true rfl)
  · rw [if_neg c1] at hf; cases hf
def F_X12_isUnder_38 (n : Nat)   (h : gH) : Option (Int32 × gH) :=
  F_X12_isUnder_39 n (0 : Int32) h
set_option maxRecDepth 20000 in
set_option maxHeartbeats 1600000 in
theorem g_X12_isUnder_38 {n d : Nat} : ∀  {h : gH} {rh : gH} {rv : Int32}, F_X12_isUnder_38 n  h = some (rv, rh) → G M_X12_isUnder d 0 0 0 0 38 [none, none] [] h (qI rv rh) := by
  intro  h rh rv hf
  unfold F_X12_isUnder_38 at hf
  refine g_iconst (v := (0 : Int32)) dX12_isUnder_38 (by decide) ?_
  exact g_X12_isUnder_39 hf
def F_X12_isUnder_34 (n : Nat)   (h : gH) : Option (Int32 × gH) :=
  F_X12_isUnder_39 n (1 : Int32) h
set_option maxRecDepth 20000 in
set_option maxHeartbeats 1600000 in
theorem g_X12_isUnder_34 {n d : Nat} : ∀  {h : gH} {rh : gH} {rv : Int32}, F_X12_isUnder_34 n  h = some (rv, rh) → G M_X12_isUnder d 0 0 0 0 34 [none, none] [] h (qI rv rh) := by
  intro  h rh rv hf
  unfold F_X12_isUnder_34 at hf
  refine g_iconst (v := (1 : Int32)) dX12_isUnder_34 (by decide) ?_
  refine g_goto (tgt := 39) dX12_isUnder_35 (by decide) ?_
  exact g_X12_isUnder_39 hf
def F_X12_isUnder_24 (n : Nat)  (x0 : Int32) (x1 : Int32) (h : gH) : Option (Int32 × gH) :=
  if x1 = (2 : Int32) then
  (if x0 = (5 : Int32) then
  (F_X12_isUnder_34 n h)
  else
  (F_X12_isUnder_38 n h))
  else
  (F_X12_isUnder_38 n h)
set_option maxRecDepth 20000 in
set_option maxHeartbeats 1600000 in
theorem g_X12_isUnder_24 {n d : Nat} : ∀ {x0 : Int32} {x1 : Int32} {h : gH} {rh : gH} {rv : Int32}, F_X12_isUnder_24 n x0 x1 h = some (rv, rh) → G M_X12_isUnder d 0 0 0 0 24 [some (.int x0), some (.int x1)] [] h (qI rv rh) := by
  intro x0 x1 h rh rv hf
  unfold F_X12_isUnder_24 at hf
  refine g_iload_n dX12_isUnder_24 rfl ?_
  refine g_iconst (v := (2 : Int32)) dX12_isUnder_25 (by decide) ?_
  refine g_icmp_ne (tgt := 38) dX12_isUnder_26 (by decide) (fun c1 => ?_) (fun c1 => ?_)
  · rw [if_neg c1] at hf
    refine g_weak (lv2 := [none, none]) (trivial) ?_
    exact g_X12_isUnder_38 hf
  · rw [if_pos c1] at hf
    refine g_iload_n dX12_isUnder_29 rfl ?_
    refine g_iconst (v := (5 : Int32)) dX12_isUnder_30 (by decide) ?_
    refine g_icmp_ne (tgt := 38) dX12_isUnder_31 (by decide) (fun c2 => ?_) (fun c2 => ?_)
    · rw [if_neg c2] at hf
      refine g_weak (lv2 := [none, none]) (trivial) ?_
      exact g_X12_isUnder_38 hf
    · rw [if_pos c2] at hf
      refine g_weak (lv2 := [none, none]) (trivial) ?_
      exact g_X12_isUnder_34 hf
def F_X12_isUnder_0 (n : Nat)  (x0 : Int32) (x1 : Int32) (h : gH) : Option (Int32 × gH) :=
  if x1 = 0 then
  (F_X12_isUnder_34 n h)
  else
  (if x1 = x0 then
  (F_X12_isUnder_34 n h)
  else
  (if x1 = (1 : Int32) then
  (if x0 = (3 : Int32) then
  (F_X12_isUnder_34 n h)
  else
  (if x0 = (4 : Int32) then
  (F_X12_isUnder_34 n h)
  else
  (F_X12_isUnder_24 n x0 x1 h)))
  else
  (F_X12_isUnder_24 n x0 x1 h)))
set_option maxRecDepth 20000 in
set_option maxHeartbeats 1600000 in
theorem g_X12_isUnder_0 {n d : Nat} : ∀ {x0 : Int32} {x1 : Int32} {h : gH} {rh : gH} {rv : Int32}, F_X12_isUnder_0 n x0 x1 h = some (rv, rh) → G M_X12_isUnder d 0 0 0 0 0 [some (.int x0), some (.int x1)] [] h (qI rv rh) := by
  intro x0 x1 h rh rv hf
  unfold F_X12_isUnder_0 at hf
  refine g_iload_n dX12_isUnder_0 rfl ?_
  refine g_if_eq (tgt := 34) dX12_isUnder_1 (by decide) (fun c1 => ?_) (fun c1 => ?_)
  · rw [if_pos c1] at hf
    refine g_weak (lv2 := [none, none]) (trivial) ?_
    exact g_X12_isUnder_34 hf
  · rw [if_neg c1] at hf
    refine g_iload_n dX12_isUnder_4 rfl ?_
    refine g_iload_n dX12_isUnder_5 rfl ?_
    refine g_icmp_eq (tgt := 34) dX12_isUnder_6 (by decide) (fun c2 => ?_) (fun c2 => ?_)
    · rw [if_pos c2] at hf
      refine g_weak (lv2 := [none, none]) (trivial) ?_
      exact g_X12_isUnder_34 hf
    · rw [if_neg c2] at hf
      refine g_iload_n dX12_isUnder_9 rfl ?_
      refine g_iconst (v := (1 : Int32)) dX12_isUnder_10 (by decide) ?_
      refine g_icmp_ne (tgt := 24) dX12_isUnder_11 (by decide) (fun c3 => ?_) (fun c3 => ?_)
      · rw [if_neg c3] at hf
        exact g_X12_isUnder_24 hf
      · rw [if_pos c3] at hf
        refine g_iload_n dX12_isUnder_14 rfl ?_
        refine g_iconst (v := (3 : Int32)) dX12_isUnder_15 (by decide) ?_
        refine g_icmp_eq (tgt := 34) dX12_isUnder_16 (by decide) (fun c4 => ?_) (fun c4 => ?_)
        · rw [if_pos c4] at hf
          refine g_weak (lv2 := [none, none]) (trivial) ?_
          exact g_X12_isUnder_34 hf
        · rw [if_neg c4] at hf
          refine g_iload_n dX12_isUnder_19 rfl ?_
          refine g_iconst (v := (4 : Int32)) dX12_isUnder_20 (by decide) ?_
          refine g_icmp_eq (tgt := 34) dX12_isUnder_21 (by decide) (fun c5 => ?_) (fun c5 => ?_)
          · rw [if_pos c5] at hf
            refine g_weak (lv2 := [none, none]) (trivial) ?_
            exact g_X12_isUnder_34 hf
          · rw [if_neg c5] at hf
            exact g_X12_isUnder_24 hf
def F_X12_isUnder (n : Nat) (p0 : Int32) (p1 : Int32) (h : gH) : Option (Int32 × gH) := F_X12_isUnder_0 n  p0 p1 h
theorem t_X12_isUnder {n d : Nat} {p0 : Int32} {p1 : Int32} {h rh : gH} {rv : Int32} (hf : F_X12_isUnder n p0 p1 h = some (rv, rh)) : T M_X12_isUnder d 0 0 [.int p0, .int p1] h (qI rv rh) := by
  refine T_of_G (L := 0) (by decide +kernel) rfl (Nat.le_of_ble_eq_true rfl) (g_lv (lv2 := [some (.int p0), some (.int p1)]) rfl ?_)
  exact g_X12_isUnder_0 hf
def F_X12_goesActs_49 (n : Nat)  (y0 : Int32) (h : gH) : Option (Int32 × gH) :=
  some (y0, h)
set_option maxRecDepth 20000 in
set_option maxHeartbeats 1600000 in
theorem g_X12_goesActs_49 {n d : Nat} : ∀ {y0 : Int32} {h : gH} {rh : gH} {rv : Int32}, F_X12_goesActs_49 n y0 h = some (rv, rh) → G M_X12_goesActs (d + 3) 0 0 0 0 49 [none, none] [.int y0] h (qI rv rh) := by
  intro y0 h rh rv hf
  unfold F_X12_goesActs_49 at hf
  obtain ⟨rfl, rfl⟩ := Prod.mk.inj (Option.some.inj hf)
  exact g_iret dX12_goesActs_49 rfl ⟨rfl, rfl⟩ (Nat.le_of_ble_eq_true rfl) (Nat.le_of_ble_eq_true rfl)
def F_X12_goesActs_0 (n : Nat)  (x0 : Nat) (x1 : Int32) (h : gH) : Option (Int32 × gH) :=
  (gI h x0 12 20).bind fun v1 =>
  if v1 = (4 : Int32) then
  ((gO h x0 12).bind fun f20 =>
  (F_X12_runs n x0 (51 : Int32) h).bind fun h22 =>
  (gO h22 x0 12).bind fun f24 =>
  gB (F_X12_evenGoes n x0 x1 h22) fun v28 h26 =>
  (gI h26 x0 12 21).bind fun v29 =>
  some ((v28 ^^^ v29), h26))
  else
  ((gI h x0 12 20).bind fun v4 =>
  gB (F_X12_isUnder n v4 (1 : Int32) h) fun v8 h6 =>
  if v8 = 0 then
  ((gO h6 x0 12).bind fun f10 =>
  gB (F_X12_plainGoes n x0 x1 h6) fun v14 h12 =>
  F_X12_goesActs_49 n v14 h12)
  else
  ((gO h6 x0 12).bind fun f15 =>
  gB (F_X12_evenGoes n x0 x1 h6) fun v19 h17 =>
  F_X12_goesActs_49 n v19 h17))
set_option maxRecDepth 20000 in
set_option maxHeartbeats 1600000 in
theorem g_X12_goesActs_0 {n d : Nat} : ∀ {x0 : Nat} {x1 : Int32} {h : gH} {rh : gH} {rv : Int32}, F_X12_goesActs_0 n x0 x1 h = some (rv, rh) → G M_X12_goesActs (d + 3) 0 0 0 0 0 [some (.ref x0), some (.int x1)] [] h (qI rv rh) := by
  intro x0 x1 h rh rv hf
  unfold F_X12_goesActs_0 at hf
  refine g_aload_n dX12_goesActs_0 rfl ?_
  replace hf := Option.bind_eq_some_iff.mp hf
  obtain ⟨v1, q2, hf⟩ := hf
  refine g_gI f_X12_256 dX12_goesActs_1 q2 ?_
  refine g_iconst (v := (4 : Int32)) dX12_goesActs_4 (by decide) ?_
  refine g_icmp_ne (tgt := 25) dX12_goesActs_5 (by decide) (fun c3 => ?_) (fun c3 => ?_)
  · rw [if_neg c3] at hf
    refine g_aload_n dX12_goesActs_25 rfl ?_
    replace hf := Option.bind_eq_some_iff.mp hf
    obtain ⟨v4, q5, hf⟩ := hf
    refine g_gI f_X12_256 dX12_goesActs_26 q5 ?_
    refine g_iconst (v := (1 : Int32)) dX12_goesActs_29 (by decide) ?_
    replace hf := gB_of hf
    obtain ⟨v8, h6, q7, hf⟩ := hf
    refine g_callS (as := [.int v4, .int (1 : Int32)]) (mc1 := 0) (ms1 := 0) s_X12_262_X12_isUnder dX12_goesActs_30 rfl (Nat.le_of_ble_eq_true rfl) (Nat.le_of_ble_eq_true rfl) (Nat.le_of_ble_eq_true rfl) (t_X12_isUnder (d := d + 2) q7) (fun r9 h9 q9 => ?_)
    obtain ⟨rfl, rfl⟩ := q9
    refine g_stp (st2 := [.int v8]) (pc2 := 33) (kc2 := 0) (kn2 := 0) rfl rfl rfl rfl ?_
    refine g_if_eq (tgt := 44) dX12_goesActs_33 (by decide) (fun c9 => ?_) (fun c9 => ?_)
    · rw [if_pos c9] at hf
      refine g_aload_n dX12_goesActs_44 rfl ?_
      refine g_iload_n dX12_goesActs_45 rfl ?_
      replace hf := Option.bind_eq_some_iff.mp hf
      obtain ⟨f10, q11, hf⟩ := hf
      replace hf := gB_of hf
      obtain ⟨v14, h12, q13, hf⟩ := hf
      refine g_callV (as := [.int x1]) (mc1 := 0) (ms1 := 0) s_X12_253_X12_plainGoes_12 dX12_goesActs_46 (gO_of q11) rfl (Nat.le_of_ble_eq_true rfl) (Nat.le_of_ble_eq_true rfl) (Nat.le_of_ble_eq_true rfl) (t_X12_plainGoes (d := d + 1) q13) (fun r9 h9 q9 => ?_)
      obtain ⟨rfl, rfl⟩ := q9
      refine g_stp (st2 := [.int v14]) (pc2 := 49) (kc2 := 0) (kn2 := 0) rfl rfl rfl rfl ?_
      refine g_weak (lv2 := [none, none]) (trivial) ?_
      exact g_X12_goesActs_49 hf
    · rw [if_neg c9] at hf
      refine g_aload_n dX12_goesActs_36 rfl ?_
      refine g_iload_n dX12_goesActs_37 rfl ?_
      replace hf := Option.bind_eq_some_iff.mp hf
      obtain ⟨f15, q16, hf⟩ := hf
      replace hf := gB_of hf
      obtain ⟨v19, h17, q18, hf⟩ := hf
      refine g_callV (as := [.int x1]) (mc1 := 0) (ms1 := 0) s_X12_259_X12_evenGoes_12 dX12_goesActs_38 (gO_of q16) rfl (Nat.le_of_ble_eq_true rfl) (Nat.le_of_ble_eq_true rfl) (Nat.le_of_ble_eq_true rfl) (t_X12_evenGoes (d := d + 0) q18) (fun r9 h9 q9 => ?_)
      obtain ⟨rfl, rfl⟩ := q9
      refine g_stp (st2 := [.int v19]) (pc2 := 41) (kc2 := 0) (kn2 := 0) rfl rfl rfl rfl ?_
      refine g_goto (tgt := 49) dX12_goesActs_41 (by decide) ?_
      refine g_weak (lv2 := [none, none]) (trivial) ?_
      exact g_X12_goesActs_49 hf
  · rw [if_pos c3] at hf
    refine g_aload_n dX12_goesActs_8 rfl ?_
    refine g_bipush (v := (51 : Int32)) dX12_goesActs_9 (by decide) ?_
    replace hf := Option.bind_eq_some_iff.mp hf
    obtain ⟨f20, q21, hf⟩ := hf
    replace hf := Option.bind_eq_some_iff.mp hf
    obtain ⟨h22, q23, hf⟩ := hf
    refine g_callV (as := [.int (51 : Int32)]) (mc1 := 0) (ms1 := 0) s_X12_247_X12_runs_12 dX12_goesActs_11 (gO_of q21) rfl (Nat.le_of_ble_eq_true rfl) (Nat.le_of_ble_eq_true rfl) (Nat.le_of_ble_eq_true rfl) (t_X12_runs (d := d + 2) q23) (fun r9 h9 q9 => ?_)
    obtain ⟨rfl, rfl⟩ := q9
    refine g_stp (st2 := []) (pc2 := 14) (kc2 := 0) (kn2 := 0) rfl rfl rfl rfl ?_
    refine g_aload_n dX12_goesActs_14 rfl ?_
    refine g_iload_n dX12_goesActs_15 rfl ?_
    replace hf := Option.bind_eq_some_iff.mp hf
    obtain ⟨f24, q25, hf⟩ := hf
    replace hf := gB_of hf
    obtain ⟨v28, h26, q27, hf⟩ := hf
    refine g_callV (as := [.int x1]) (mc1 := 0) (ms1 := 0) s_X12_259_X12_evenGoes_12 dX12_goesActs_16 (gO_of q25) rfl (Nat.le_of_ble_eq_true rfl) (Nat.le_of_ble_eq_true rfl) (Nat.le_of_ble_eq_true rfl) (t_X12_evenGoes (d := d + 0) q27) (fun r9 h9 q9 => ?_)
    obtain ⟨rfl, rfl⟩ := q9
    refine g_stp (st2 := [.int v28]) (pc2 := 19) (kc2 := 0) (kn2 := 0) rfl rfl rfl rfl ?_
    refine g_aload_n dX12_goesActs_19 rfl ?_
    replace hf := Option.bind_eq_some_iff.mp hf
    obtain ⟨v29, q30, hf⟩ := hf
    refine g_gI f_X12_250 dX12_goesActs_20 q30 ?_
    refine g_ixor dX12_goesActs_23 ?_
    obtain ⟨rfl, rfl⟩ := Prod.mk.inj (Option.some.inj hf)
    exact g_iret dX12_goesActs_24 rfl ⟨rfl, rfl⟩ (Nat.le_of_ble_eq_true rfl) (Nat.le_of_ble_eq_true rfl)
def F_X12_goesActs (n : Nat) (a : Nat) (p0 : Int32) (h : gH) : Option (Int32 × gH) := F_X12_goesActs_0 n  a p0 h
theorem t_X12_goesActs {n d : Nat} {a : Nat} {p0 : Int32} {h rh : gH} {rv : Int32} (hf : F_X12_goesActs n a p0 h = some (rv, rh)) : T M_X12_goesActs (d + 3) 0 0 [.ref a, .int p0] h (qI rv rh) := by
  refine T_of_G (L := 0) (by decide +kernel) rfl (Nat.le_of_ble_eq_true rfl) (g_lv (lv2 := [some (.ref a), some (.int p0)]) rfl ?_)
  exact g_X12_goesActs_0 hf
def F_X12_in_15 (n : Nat)  (y0 : Int32) (h : gH) : Option (Int32 × gH) :=
  if y0 = 0 ∨ y0 = 1 then some (y0, h) else none
set_option maxRecDepth 20000 in
set_option maxHeartbeats 1600000 in
theorem g_X12_in_15 {n d : Nat} : ∀ {y0 : Int32} {h : gH} {rh : gH} {rv : Int32}, F_X12_in_15 n y0 h = some (rv, rh) → G M_X12_in d 0 0 0 0 15 [none, none, none] [.int y0] h (qI rv rh) := by
  intro y0 h rh rv hf
  unfold F_X12_in_15 at hf
  by_cases c1 : y0 = 0 ∨ y0 = 1
  · rw [if_pos c1] at hf
    obtain ⟨rfl, rfl⟩ := Prod.mk.inj (Option.some.inj hf)
    exact g_zret (ty := .boolean) dX12_in_15 rfl (gZ_nar c1) ⟨rfl, rfl⟩ (Nat.le_of_ble_eq_true rfl) (Nat.le_of_ble_eq_true rfl)
  · rw [if_neg c1] at hf; cases hf
def F_X12_in_14 (n : Nat)   (h : gH) : Option (Int32 × gH) :=
  F_X12_in_15 n (0 : Int32) h
set_option maxRecDepth 20000 in
set_option maxHeartbeats 1600000 in
theorem g_X12_in_14 {n d : Nat} : ∀  {h : gH} {rh : gH} {rv : Int32}, F_X12_in_14 n  h = some (rv, rh) → G M_X12_in d 0 0 0 0 14 [none, none, none] [] h (qI rv rh) := by
  intro  h rh rv hf
  unfold F_X12_in_14 at hf
  refine g_iconst (v := (0 : Int32)) dX12_in_14 (by decide) ?_
  exact g_X12_in_15 hf
def F_X12_in_0 (n : Nat)  (x0 : Int32) (x1 : Int32) (x2 : Int32) (h : gH) : Option (Int32 × gH) :=
  if x0 < x1 then
  (F_X12_in_14 n h)
  else
  (if x2 < x0 then
  (F_X12_in_14 n h)
  else
  (F_X12_in_15 n (1 : Int32) h))
set_option maxRecDepth 20000 in
set_option maxHeartbeats 1600000 in
theorem g_X12_in_0 {n d : Nat} : ∀ {x0 : Int32} {x1 : Int32} {x2 : Int32} {h : gH} {rh : gH} {rv : Int32}, F_X12_in_0 n x0 x1 x2 h = some (rv, rh) → G M_X12_in d 0 0 0 0 0 [some (.int x0), some (.int x1), some (.int x2)] [] h (qI rv rh) := by
  intro x0 x1 x2 h rh rv hf
  unfold F_X12_in_0 at hf
  refine g_iload_n dX12_in_0 rfl ?_
  refine g_iload_n dX12_in_1 rfl ?_
  refine g_icmp_lt (tgt := 14) dX12_in_2 (by decide) (fun c1 => ?_) (fun c1 => ?_)
  · rw [if_pos c1] at hf
    refine g_weak (lv2 := [none, none, none]) (trivial) ?_
    exact g_X12_in_14 hf
  · rw [if_neg c1] at hf
    refine g_iload_n dX12_in_5 rfl ?_
    refine g_iload_n dX12_in_6 rfl ?_
    refine g_icmp_gt (tgt := 14) dX12_in_7 (by decide) (fun c2 => ?_) (fun c2 => ?_)
    · rw [if_pos c2] at hf
      refine g_weak (lv2 := [none, none, none]) (trivial) ?_
      exact g_X12_in_14 hf
    · rw [if_neg c2] at hf
      refine g_iconst (v := (1 : Int32)) dX12_in_10 (by decide) ?_
      refine g_goto (tgt := 15) dX12_in_11 (by decide) ?_
      refine g_weak (lv2 := [none, none, none]) (trivial) ?_
      exact g_X12_in_15 hf
def F_X12_in (n : Nat) (p0 : Int32) (p1 : Int32) (p2 : Int32) (h : gH) : Option (Int32 × gH) := F_X12_in_0 n  p0 p1 p2 h
theorem t_X12_in {n d : Nat} {p0 : Int32} {p1 : Int32} {p2 : Int32} {h rh : gH} {rv : Int32} (hf : F_X12_in n p0 p1 p2 h = some (rv, rh)) : T M_X12_in d 0 0 [.int p0, .int p1, .int p2] h (qI rv rh) := by
  refine T_of_G (L := 0) (by decide +kernel) rfl (Nat.le_of_ble_eq_true rfl) (g_lv (lv2 := [some (.int p0), some (.int p1), some (.int p2)]) rfl ?_)
  exact g_X12_in_0 hf
def F_X12_isWay_0 (n : Nat)  (x0 : Nat) (x1 : Int32) (h : gH) : Option (Int32 × gH) :=
  (gR h x0 12 1).bind fun v1 =>
  (aI h v1 (0 : Int32)).bind fun v3 =>
  gB (F_X12_in n x1 (0 : Int32) (v3 - (1 : Int32)) h) fun v7 h5 =>
  if v7 = 0 ∨ v7 = 1 then some (v7, h5) else none
set_option maxRecDepth 20000 in
set_option maxHeartbeats 1600000 in
theorem g_X12_isWay_0 {n d : Nat} : ∀ {x0 : Nat} {x1 : Int32} {h : gH} {rh : gH} {rv : Int32}, F_X12_isWay_0 n x0 x1 h = some (rv, rh) → G M_X12_isWay (d + 1) 0 0 0 0 0 [some (.ref x0), some (.int x1)] [] h (qI rv rh) := by
  intro x0 x1 h rh rv hf
  unfold F_X12_isWay_0 at hf
  refine g_iload_n dX12_isWay_0 rfl ?_
  refine g_iconst (v := (0 : Int32)) dX12_isWay_1 (by decide) ?_
  refine g_aload_n dX12_isWay_2 rfl ?_
  replace hf := Option.bind_eq_some_iff.mp hf
  obtain ⟨v1, q2, hf⟩ := hf
  refine g_gR f_X12_9 dX12_isWay_3 q2 ?_
  refine g_iconst (v := (0 : Int32)) dX12_isWay_6 (by decide) ?_
  replace hf := Option.bind_eq_some_iff.mp hf
  obtain ⟨v3, q4, hf⟩ := hf
  refine g_aI dX12_isWay_7 q4 ?_
  refine g_iconst (v := (1 : Int32)) dX12_isWay_8 (by decide) ?_
  refine g_isub dX12_isWay_9 ?_
  replace hf := gB_of hf
  obtain ⟨v7, h5, q6, hf⟩ := hf
  refine g_callS (as := [.int x1, .int (0 : Int32), .int (v3 - (1 : Int32))]) (mc1 := 0) (ms1 := 0) s_X12_44_X12_in dX12_isWay_10 rfl (Nat.le_of_ble_eq_true rfl) (Nat.le_of_ble_eq_true rfl) (Nat.le_of_ble_eq_true rfl) (t_X12_in (d := d + 0) q6) (fun r9 h9 q9 => ?_)
  obtain ⟨rfl, rfl⟩ := q9
  refine g_stp (st2 := [.int v7]) (pc2 := 13) (kc2 := 0) (kn2 := 0) rfl rfl rfl rfl ?_
  by_cases c8 : v7 = 0 ∨ v7 = 1
  · rw [if_pos c8] at hf
    obtain ⟨rfl, rfl⟩ := Prod.mk.inj (Option.some.inj hf)
    exact g_zret (ty := .boolean) dX12_isWay_13 rfl (gZ_nar c8) ⟨rfl, rfl⟩ (Nat.le_of_ble_eq_true rfl) (Nat.le_of_ble_eq_true rfl)
  · rw [if_neg c8] at hf; cases hf
def F_X12_isWay (n : Nat) (a : Nat) (p0 : Int32) (h : gH) : Option (Int32 × gH) := F_X12_isWay_0 n  a p0 h
theorem t_X12_isWay {n d : Nat} {a : Nat} {p0 : Int32} {h rh : gH} {rv : Int32} (hf : F_X12_isWay n a p0 h = some (rv, rh)) : T M_X12_isWay (d + 1) 0 0 [.ref a, .int p0] h (qI rv rh) := by
  refine T_of_G (L := 0) (by decide +kernel) rfl (Nat.le_of_ble_eq_true rfl) (g_lv (lv2 := [some (.ref a), some (.int p0)]) rfl ?_)
  exact g_X12_isWay_0 hf
def F_X12_plainSpends_0 (n : Nat)  (x0 : Nat) (x1 : Int32) (h : gH) : Option (Int32 × gH) :=
  (gO h x0 12).bind fun f1 =>
  (F_X12_runs n x0 (2 : Int32) h).bind fun h3 =>
  (gO h3 x0 12).bind fun f5 =>
  gB (F_X12_goesActs n x0 x1 h3) fun v9 h7 =>
  (gI h7 x0 12 22).bind fun v10 =>
  some ((v9 - v10), h7)
set_option maxRecDepth 20000 in
set_option maxHeartbeats 1600000 in
theorem g_X12_plainSpends_0 {n d : Nat} : ∀ {x0 : Nat} {x1 : Int32} {h : gH} {rh : gH} {rv : Int32}, F_X12_plainSpends_0 n x0 x1 h = some (rv, rh) → G M_X12_plainSpends (d + 4) 0 0 0 0 0 [some (.ref x0), some (.int x1)] [] h (qI rv rh) := by
  intro x0 x1 h rh rv hf
  unfold F_X12_plainSpends_0 at hf
  refine g_aload_n dX12_plainSpends_0 rfl ?_
  refine g_iconst (v := (2 : Int32)) dX12_plainSpends_1 (by decide) ?_
  replace hf := Option.bind_eq_some_iff.mp hf
  obtain ⟨f1, q2, hf⟩ := hf
  replace hf := Option.bind_eq_some_iff.mp hf
  obtain ⟨h3, q4, hf⟩ := hf
  refine g_callV (as := [.int (2 : Int32)]) (mc1 := 0) (ms1 := 0) s_X12_247_X12_runs_12 dX12_plainSpends_2 (gO_of q2) rfl (Nat.le_of_ble_eq_true rfl) (Nat.le_of_ble_eq_true rfl) (Nat.le_of_ble_eq_true rfl) (t_X12_runs (d := d + 3) q4) (fun r9 h9 q9 => ?_)
  obtain ⟨rfl, rfl⟩ := q9
  refine g_stp (st2 := []) (pc2 := 5) (kc2 := 0) (kn2 := 0) rfl rfl rfl rfl ?_
  refine g_aload_n dX12_plainSpends_5 rfl ?_
  refine g_iload_n dX12_plainSpends_6 rfl ?_
  replace hf := Option.bind_eq_some_iff.mp hf
  obtain ⟨f5, q6, hf⟩ := hf
  replace hf := gB_of hf
  obtain ⟨v9, h7, q8, hf⟩ := hf
  refine g_callV (as := [.int x1]) (mc1 := 0) (ms1 := 0) s_X12_266_X12_goesActs_12 dX12_plainSpends_7 (gO_of q6) rfl (Nat.le_of_ble_eq_true rfl) (Nat.le_of_ble_eq_true rfl) (Nat.le_of_ble_eq_true rfl) (t_X12_goesActs (d := d + 0) q8) (fun r9 h9 q9 => ?_)
  obtain ⟨rfl, rfl⟩ := q9
  refine g_stp (st2 := [.int v9]) (pc2 := 10) (kc2 := 0) (kn2 := 0) rfl rfl rfl rfl ?_
  refine g_aload_n dX12_plainSpends_10 rfl ?_
  replace hf := Option.bind_eq_some_iff.mp hf
  obtain ⟨v10, q11, hf⟩ := hf
  refine g_gI f_X12_269 dX12_plainSpends_11 q11 ?_
  refine g_isub dX12_plainSpends_14 ?_
  obtain ⟨rfl, rfl⟩ := Prod.mk.inj (Option.some.inj hf)
  exact g_iret dX12_plainSpends_15 rfl ⟨rfl, rfl⟩ (Nat.le_of_ble_eq_true rfl) (Nat.le_of_ble_eq_true rfl)
def F_X12_plainSpends (n : Nat) (a : Nat) (p0 : Int32) (h : gH) : Option (Int32 × gH) := F_X12_plainSpends_0 n  a p0 h
theorem t_X12_plainSpends {n d : Nat} {a : Nat} {p0 : Int32} {h rh : gH} {rv : Int32} (hf : F_X12_plainSpends n a p0 h = some (rv, rh)) : T M_X12_plainSpends (d + 4) 0 0 [.ref a, .int p0] h (qI rv rh) := by
  refine T_of_G (L := 0) (by decide +kernel) rfl (Nat.le_of_ble_eq_true rfl) (g_lv (lv2 := [some (.ref a), some (.int p0)]) rfl ?_)
  exact g_X12_plainSpends_0 hf
def F_X12_slopedSpends_0 (n : Nat)  (x0 : Nat) (x1 : Int32) (h : gH) : Option (Int32 × gH) :=
  (gO h x0 12).bind fun f1 =>
  (F_X12_runs n x0 (21 : Int32) h).bind fun h3 =>
  (gO h3 x0 12).bind fun f5 =>
  gB (F_X12_plainSpends n x0 x1 h3) fun v9 h7 =>
  some ((-v9), h7)
set_option maxRecDepth 20000 in
set_option maxHeartbeats 1600000 in
theorem g_X12_slopedSpends_0 {n d : Nat} : ∀ {x0 : Nat} {x1 : Int32} {h : gH} {rh : gH} {rv : Int32}, F_X12_slopedSpends_0 n x0 x1 h = some (rv, rh) → G M_X12_slopedSpends (d + 5) 0 0 0 0 0 [some (.ref x0), some (.int x1)] [] h (qI rv rh) := by
  intro x0 x1 h rh rv hf
  unfold F_X12_slopedSpends_0 at hf
  refine g_aload_n dX12_slopedSpends_0 rfl ?_
  refine g_bipush (v := (21 : Int32)) dX12_slopedSpends_1 (by decide) ?_
  replace hf := Option.bind_eq_some_iff.mp hf
  obtain ⟨f1, q2, hf⟩ := hf
  replace hf := Option.bind_eq_some_iff.mp hf
  obtain ⟨h3, q4, hf⟩ := hf
  refine g_callV (as := [.int (21 : Int32)]) (mc1 := 0) (ms1 := 0) s_X12_247_X12_runs_12 dX12_slopedSpends_3 (gO_of q2) rfl (Nat.le_of_ble_eq_true rfl) (Nat.le_of_ble_eq_true rfl) (Nat.le_of_ble_eq_true rfl) (t_X12_runs (d := d + 4) q4) (fun r9 h9 q9 => ?_)
  obtain ⟨rfl, rfl⟩ := q9
  refine g_stp (st2 := []) (pc2 := 6) (kc2 := 0) (kn2 := 0) rfl rfl rfl rfl ?_
  refine g_aload_n dX12_slopedSpends_6 rfl ?_
  refine g_iload_n dX12_slopedSpends_7 rfl ?_
  replace hf := Option.bind_eq_some_iff.mp hf
  obtain ⟨f5, q6, hf⟩ := hf
  replace hf := gB_of hf
  obtain ⟨v9, h7, q8, hf⟩ := hf
  refine g_callV (as := [.int x1]) (mc1 := 0) (ms1 := 0) s_X12_272_X12_plainSpends_12 dX12_slopedSpends_8 (gO_of q6) rfl (Nat.le_of_ble_eq_true rfl) (Nat.le_of_ble_eq_true rfl) (Nat.le_of_ble_eq_true rfl) (t_X12_plainSpends (d := d + 0) q8) (fun r9 h9 q9 => ?_)
  obtain ⟨rfl, rfl⟩ := q9
  refine g_stp (st2 := [.int v9]) (pc2 := 11) (kc2 := 0) (kn2 := 0) rfl rfl rfl rfl ?_
  refine g_ineg dX12_slopedSpends_11 ?_
  obtain ⟨rfl, rfl⟩ := Prod.mk.inj (Option.some.inj hf)
  exact g_iret dX12_slopedSpends_12 rfl ⟨rfl, rfl⟩ (Nat.le_of_ble_eq_true rfl) (Nat.le_of_ble_eq_true rfl)
def F_X12_slopedSpends (n : Nat) (a : Nat) (p0 : Int32) (h : gH) : Option (Int32 × gH) := F_X12_slopedSpends_0 n  a p0 h
theorem t_X12_slopedSpends {n d : Nat} {a : Nat} {p0 : Int32} {h rh : gH} {rv : Int32} (hf : F_X12_slopedSpends n a p0 h = some (rv, rh)) : T M_X12_slopedSpends (d + 5) 0 0 [.ref a, .int p0] h (qI rv rh) := by
  refine T_of_G (L := 0) (by decide +kernel) rfl (Nat.le_of_ble_eq_true rfl) (g_lv (lv2 := [some (.ref a), some (.int p0)]) rfl ?_)
  exact g_X12_slopedSpends_0 hf
def F_X12_spendsActs_46 (n : Nat)  (y0 : Int32) (h : gH) : Option (Int32 × gH) :=
  some (y0, h)
set_option maxRecDepth 20000 in
set_option maxHeartbeats 1600000 in
theorem g_X12_spendsActs_46 {n d : Nat} : ∀ {y0 : Int32} {h : gH} {rh : gH} {rv : Int32}, F_X12_spendsActs_46 n y0 h = some (rv, rh) → G M_X12_spendsActs (d + 6) 0 0 0 0 46 [none, none] [.int y0] h (qI rv rh) := by
  intro y0 h rh rv hf
  unfold F_X12_spendsActs_46 at hf
  obtain ⟨rfl, rfl⟩ := Prod.mk.inj (Option.some.inj hf)
  exact g_iret dX12_spendsActs_46 rfl ⟨rfl, rfl⟩ (Nat.le_of_ble_eq_true rfl) (Nat.le_of_ble_eq_true rfl)
def F_X12_spendsActs_0 (n : Nat)  (x0 : Nat) (x1 : Int32) (h : gH) : Option (Int32 × gH) :=
  (gI h x0 12 20).bind fun v1 =>
  if v1 = (5 : Int32) then
  ((gO h x0 12).bind fun f17 =>
  (F_X12_runs n x0 (61 : Int32) h).bind fun h19 =>
  (gO h19 x0 12).bind fun f21 =>
  gB (F_X12_slopedSpends n x0 x1 h19) fun v25 h23 =>
  (gI h23 x0 12 22).bind fun v26 =>
  some ((v25 + v26), h23))
  else
  ((gI h x0 12 20).bind fun v4 =>
  if v4 = (2 : Int32) then
  ((gO h x0 12).bind fun f12 =>
  gB (F_X12_slopedSpends n x0 x1 h) fun v16 h14 =>
  F_X12_spendsActs_46 n v16 h14)
  else
  ((gO h x0 12).bind fun f7 =>
  gB (F_X12_plainSpends n x0 x1 h) fun v11 h9 =>
  F_X12_spendsActs_46 n v11 h9))
set_option maxRecDepth 20000 in
set_option maxHeartbeats 1600000 in
theorem g_X12_spendsActs_0 {n d : Nat} : ∀ {x0 : Nat} {x1 : Int32} {h : gH} {rh : gH} {rv : Int32}, F_X12_spendsActs_0 n x0 x1 h = some (rv, rh) → G M_X12_spendsActs (d + 6) 0 0 0 0 0 [some (.ref x0), some (.int x1)] [] h (qI rv rh) := by
  intro x0 x1 h rh rv hf
  unfold F_X12_spendsActs_0 at hf
  refine g_aload_n dX12_spendsActs_0 rfl ?_
  replace hf := Option.bind_eq_some_iff.mp hf
  obtain ⟨v1, q2, hf⟩ := hf
  refine g_gI f_X12_256 dX12_spendsActs_1 q2 ?_
  refine g_iconst (v := (5 : Int32)) dX12_spendsActs_4 (by decide) ?_
  refine g_icmp_ne (tgt := 25) dX12_spendsActs_5 (by decide) (fun c3 => ?_) (fun c3 => ?_)
  · rw [if_neg c3] at hf
    refine g_aload_n dX12_spendsActs_25 rfl ?_
    replace hf := Option.bind_eq_some_iff.mp hf
    obtain ⟨v4, q5, hf⟩ := hf
    refine g_gI f_X12_256 dX12_spendsActs_26 q5 ?_
    refine g_iconst (v := (2 : Int32)) dX12_spendsActs_29 (by decide) ?_
    refine g_icmp_ne (tgt := 41) dX12_spendsActs_30 (by decide) (fun c6 => ?_) (fun c6 => ?_)
    · rw [if_neg c6] at hf
      refine g_aload_n dX12_spendsActs_41 rfl ?_
      refine g_iload_n dX12_spendsActs_42 rfl ?_
      replace hf := Option.bind_eq_some_iff.mp hf
      obtain ⟨f7, q8, hf⟩ := hf
      replace hf := gB_of hf
      obtain ⟨v11, h9, q10, hf⟩ := hf
      refine g_callV (as := [.int x1]) (mc1 := 0) (ms1 := 0) s_X12_272_X12_plainSpends_12 dX12_spendsActs_43 (gO_of q8) rfl (Nat.le_of_ble_eq_true rfl) (Nat.le_of_ble_eq_true rfl) (Nat.le_of_ble_eq_true rfl) (t_X12_plainSpends (d := d + 1) q10) (fun r9 h9 q9 => ?_)
      obtain ⟨rfl, rfl⟩ := q9
      refine g_stp (st2 := [.int v11]) (pc2 := 46) (kc2 := 0) (kn2 := 0) rfl rfl rfl rfl ?_
      refine g_weak (lv2 := [none, none]) (trivial) ?_
      exact g_X12_spendsActs_46 hf
    · rw [if_pos c6] at hf
      refine g_aload_n dX12_spendsActs_33 rfl ?_
      refine g_iload_n dX12_spendsActs_34 rfl ?_
      replace hf := Option.bind_eq_some_iff.mp hf
      obtain ⟨f12, q13, hf⟩ := hf
      replace hf := gB_of hf
      obtain ⟨v16, h14, q15, hf⟩ := hf
      refine g_callV (as := [.int x1]) (mc1 := 0) (ms1 := 0) s_X12_275_X12_slopedSpends_12 dX12_spendsActs_35 (gO_of q13) rfl (Nat.le_of_ble_eq_true rfl) (Nat.le_of_ble_eq_true rfl) (Nat.le_of_ble_eq_true rfl) (t_X12_slopedSpends (d := d + 0) q15) (fun r9 h9 q9 => ?_)
      obtain ⟨rfl, rfl⟩ := q9
      refine g_stp (st2 := [.int v16]) (pc2 := 38) (kc2 := 0) (kn2 := 0) rfl rfl rfl rfl ?_
      refine g_goto (tgt := 46) dX12_spendsActs_38 (by decide) ?_
      refine g_weak (lv2 := [none, none]) (trivial) ?_
      exact g_X12_spendsActs_46 hf
  · rw [if_pos c3] at hf
    refine g_aload_n dX12_spendsActs_8 rfl ?_
    refine g_bipush (v := (61 : Int32)) dX12_spendsActs_9 (by decide) ?_
    replace hf := Option.bind_eq_some_iff.mp hf
    obtain ⟨f17, q18, hf⟩ := hf
    replace hf := Option.bind_eq_some_iff.mp hf
    obtain ⟨h19, q20, hf⟩ := hf
    refine g_callV (as := [.int (61 : Int32)]) (mc1 := 0) (ms1 := 0) s_X12_247_X12_runs_12 dX12_spendsActs_11 (gO_of q18) rfl (Nat.le_of_ble_eq_true rfl) (Nat.le_of_ble_eq_true rfl) (Nat.le_of_ble_eq_true rfl) (t_X12_runs (d := d + 5) q20) (fun r9 h9 q9 => ?_)
    obtain ⟨rfl, rfl⟩ := q9
    refine g_stp (st2 := []) (pc2 := 14) (kc2 := 0) (kn2 := 0) rfl rfl rfl rfl ?_
    refine g_aload_n dX12_spendsActs_14 rfl ?_
    refine g_iload_n dX12_spendsActs_15 rfl ?_
    replace hf := Option.bind_eq_some_iff.mp hf
    obtain ⟨f21, q22, hf⟩ := hf
    replace hf := gB_of hf
    obtain ⟨v25, h23, q24, hf⟩ := hf
    refine g_callV (as := [.int x1]) (mc1 := 0) (ms1 := 0) s_X12_275_X12_slopedSpends_12 dX12_spendsActs_16 (gO_of q22) rfl (Nat.le_of_ble_eq_true rfl) (Nat.le_of_ble_eq_true rfl) (Nat.le_of_ble_eq_true rfl) (t_X12_slopedSpends (d := d + 0) q24) (fun r9 h9 q9 => ?_)
    obtain ⟨rfl, rfl⟩ := q9
    refine g_stp (st2 := [.int v25]) (pc2 := 19) (kc2 := 0) (kn2 := 0) rfl rfl rfl rfl ?_
    refine g_aload_n dX12_spendsActs_19 rfl ?_
    replace hf := Option.bind_eq_some_iff.mp hf
    obtain ⟨v26, q27, hf⟩ := hf
    refine g_gI f_X12_269 dX12_spendsActs_20 q27 ?_
    refine g_iadd dX12_spendsActs_23 ?_
    obtain ⟨rfl, rfl⟩ := Prod.mk.inj (Option.some.inj hf)
    exact g_iret dX12_spendsActs_24 rfl ⟨rfl, rfl⟩ (Nat.le_of_ble_eq_true rfl) (Nat.le_of_ble_eq_true rfl)
def F_X12_spendsActs (n : Nat) (a : Nat) (p0 : Int32) (h : gH) : Option (Int32 × gH) := F_X12_spendsActs_0 n  a p0 h
theorem t_X12_spendsActs {n d : Nat} {a : Nat} {p0 : Int32} {h rh : gH} {rv : Int32} (hf : F_X12_spendsActs n a p0 h = some (rv, rh)) : T M_X12_spendsActs (d + 6) 0 0 [.ref a, .int p0] h (qI rv rh) := by
  refine T_of_G (L := 0) (by decide +kernel) rfl (Nat.le_of_ble_eq_true rfl) (g_lv (lv2 := [some (.ref a), some (.int p0)]) rfl ?_)
  exact g_X12_spendsActs_0 hf
def F_X12_plainRests_0 (n : Nat)  (x0 : Nat) (x1 : Int32) (h : gH) : Option (Int32 × gH) :=
  (gO h x0 12).bind fun f1 =>
  (F_X12_runs n x0 (3 : Int32) h).bind fun h3 =>
  (gO h3 x0 12).bind fun f5 =>
  gB (F_X12_spendsActs n x0 x1 h3) fun v9 h7 =>
  some ((v9 * (2 : Int32)), h7)
set_option maxRecDepth 20000 in
set_option maxHeartbeats 1600000 in
theorem g_X12_plainRests_0 {n d : Nat} : ∀ {x0 : Nat} {x1 : Int32} {h : gH} {rh : gH} {rv : Int32}, F_X12_plainRests_0 n x0 x1 h = some (rv, rh) → G M_X12_plainRests (d + 7) 0 0 0 0 0 [some (.ref x0), some (.int x1)] [] h (qI rv rh) := by
  intro x0 x1 h rh rv hf
  unfold F_X12_plainRests_0 at hf
  refine g_aload_n dX12_plainRests_0 rfl ?_
  refine g_iconst (v := (3 : Int32)) dX12_plainRests_1 (by decide) ?_
  replace hf := Option.bind_eq_some_iff.mp hf
  obtain ⟨f1, q2, hf⟩ := hf
  replace hf := Option.bind_eq_some_iff.mp hf
  obtain ⟨h3, q4, hf⟩ := hf
  refine g_callV (as := [.int (3 : Int32)]) (mc1 := 0) (ms1 := 0) s_X12_247_X12_runs_12 dX12_plainRests_2 (gO_of q2) rfl (Nat.le_of_ble_eq_true rfl) (Nat.le_of_ble_eq_true rfl) (Nat.le_of_ble_eq_true rfl) (t_X12_runs (d := d + 6) q4) (fun r9 h9 q9 => ?_)
  obtain ⟨rfl, rfl⟩ := q9
  refine g_stp (st2 := []) (pc2 := 5) (kc2 := 0) (kn2 := 0) rfl rfl rfl rfl ?_
  refine g_aload_n dX12_plainRests_5 rfl ?_
  refine g_iload_n dX12_plainRests_6 rfl ?_
  replace hf := Option.bind_eq_some_iff.mp hf
  obtain ⟨f5, q6, hf⟩ := hf
  replace hf := gB_of hf
  obtain ⟨v9, h7, q8, hf⟩ := hf
  refine g_callV (as := [.int x1]) (mc1 := 0) (ms1 := 0) s_X12_278_X12_spendsActs_12 dX12_plainRests_7 (gO_of q6) rfl (Nat.le_of_ble_eq_true rfl) (Nat.le_of_ble_eq_true rfl) (Nat.le_of_ble_eq_true rfl) (t_X12_spendsActs (d := d + 0) q8) (fun r9 h9 q9 => ?_)
  obtain ⟨rfl, rfl⟩ := q9
  refine g_stp (st2 := [.int v9]) (pc2 := 10) (kc2 := 0) (kn2 := 0) rfl rfl rfl rfl ?_
  refine g_iconst (v := (2 : Int32)) dX12_plainRests_10 (by decide) ?_
  refine g_imul dX12_plainRests_11 ?_
  obtain ⟨rfl, rfl⟩ := Prod.mk.inj (Option.some.inj hf)
  exact g_iret dX12_plainRests_12 rfl ⟨rfl, rfl⟩ (Nat.le_of_ble_eq_true rfl) (Nat.le_of_ble_eq_true rfl)
def F_X12_plainRests (n : Nat) (a : Nat) (p0 : Int32) (h : gH) : Option (Int32 × gH) := F_X12_plainRests_0 n  a p0 h
theorem t_X12_plainRests {n d : Nat} {a : Nat} {p0 : Int32} {h rh : gH} {rv : Int32} (hf : F_X12_plainRests n a p0 h = some (rv, rh)) : T M_X12_plainRests (d + 7) 0 0 [.ref a, .int p0] h (qI rv rh) := by
  refine T_of_G (L := 0) (by decide +kernel) rfl (Nat.le_of_ble_eq_true rfl) (g_lv (lv2 := [some (.ref a), some (.int p0)]) rfl ?_)
  exact g_X12_plainRests_0 hf
def F_X12_restsActs_0 (n : Nat)  (x0 : Nat) (x1 : Int32) (h : gH) : Option (Int32 × gH) :=
  (gI h x0 12 20).bind fun v1 =>
  if v1 = (6 : Int32) then
  ((gO h x0 12).bind fun f26 =>
  (F_X12_runs n x0 (31 : Int32) h).bind fun h28 =>
  (gO h28 x0 12).bind fun f30 =>
  gB (F_X12_plainRests n x0 x1 h28) fun v34 h32 =>
  some ((v34 ^^^ (7 : Int32)), h32))
  else
  ((gI h x0 12 20).bind fun v4 =>
  if v4 = (3 : Int32) then
  ((gO h x0 12).bind fun f12 =>
  (F_X12_runs n x0 (41 : Int32) h).bind fun h14 =>
  (gO h14 x0 12).bind fun f16 =>
  gB (F_X12_plainRests n x0 (x1 - (1 : Int32)) h14) fun v20 h18 =>
  (gO h18 x0 12).bind fun f21 =>
  gB (F_X12_goesActs n x0 (2 : Int32) h18) fun v25 h23 =>
  some ((v20 + v25), h23))
  else
  ((gO h x0 12).bind fun f7 =>
  gB (F_X12_plainRests n x0 x1 h) fun v11 h9 =>
  some (v11, h9)))
set_option maxRecDepth 20000 in
set_option maxHeartbeats 1600000 in
theorem g_X12_restsActs_0 {n d : Nat} : ∀ {x0 : Nat} {x1 : Int32} {h : gH} {rh : gH} {rv : Int32}, F_X12_restsActs_0 n x0 x1 h = some (rv, rh) → G M_X12_restsActs (d + 8) 0 0 0 0 0 [some (.ref x0), some (.int x1), none] [] h (qI rv rh) := by
  intro x0 x1 h rh rv hf
  unfold F_X12_restsActs_0 at hf
  refine g_aload_n dX12_restsActs_0 rfl ?_
  replace hf := Option.bind_eq_some_iff.mp hf
  obtain ⟨v1, q2, hf⟩ := hf
  refine g_gI f_X12_256 dX12_restsActs_1 q2 ?_
  refine g_bipush (v := (6 : Int32)) dX12_restsActs_4 (by decide) ?_
  refine g_icmp_ne (tgt := 24) dX12_restsActs_6 (by decide) (fun c3 => ?_) (fun c3 => ?_)
  · rw [if_neg c3] at hf
    refine g_aload_n dX12_restsActs_24 rfl ?_
    replace hf := Option.bind_eq_some_iff.mp hf
    obtain ⟨v4, q5, hf⟩ := hf
    refine g_gI f_X12_256 dX12_restsActs_25 q5 ?_
    refine g_iconst (v := (3 : Int32)) dX12_restsActs_28 (by decide) ?_
    refine g_icmp_ne (tgt := 54) dX12_restsActs_29 (by decide) (fun c6 => ?_) (fun c6 => ?_)
    · rw [if_neg c6] at hf
      refine g_aload_n dX12_restsActs_54 rfl ?_
      refine g_iload_n dX12_restsActs_55 rfl ?_
      replace hf := Option.bind_eq_some_iff.mp hf
      obtain ⟨f7, q8, hf⟩ := hf
      replace hf := gB_of hf
      obtain ⟨v11, h9, q10, hf⟩ := hf
      refine g_callV (as := [.int x1]) (mc1 := 0) (ms1 := 0) s_X12_281_X12_plainRests_12 dX12_restsActs_56 (gO_of q8) rfl (Nat.le_of_ble_eq_true rfl) (Nat.le_of_ble_eq_true rfl) (Nat.le_of_ble_eq_true rfl) (t_X12_plainRests (d := d + 0) q10) (fun r9 h9 q9 => ?_)
      obtain ⟨rfl, rfl⟩ := q9
      refine g_stp (st2 := [.int v11]) (pc2 := 59) (kc2 := 0) (kn2 := 0) rfl rfl rfl rfl ?_
      obtain ⟨rfl, rfl⟩ := Prod.mk.inj (Option.some.inj hf)
      exact g_iret dX12_restsActs_59 rfl ⟨rfl, rfl⟩ (Nat.le_of_ble_eq_true rfl) (Nat.le_of_ble_eq_true rfl)
    · rw [if_pos c6] at hf
      refine g_aload_n dX12_restsActs_32 rfl ?_
      refine g_bipush (v := (41 : Int32)) dX12_restsActs_33 (by decide) ?_
      replace hf := Option.bind_eq_some_iff.mp hf
      obtain ⟨f12, q13, hf⟩ := hf
      replace hf := Option.bind_eq_some_iff.mp hf
      obtain ⟨h14, q15, hf⟩ := hf
      refine g_callV (as := [.int (41 : Int32)]) (mc1 := 0) (ms1 := 0) s_X12_247_X12_runs_12 dX12_restsActs_35 (gO_of q13) rfl (Nat.le_of_ble_eq_true rfl) (Nat.le_of_ble_eq_true rfl) (Nat.le_of_ble_eq_true rfl) (t_X12_runs (d := d + 7) q15) (fun r9 h9 q9 => ?_)
      obtain ⟨rfl, rfl⟩ := q9
      refine g_stp (st2 := []) (pc2 := 38) (kc2 := 0) (kn2 := 0) rfl rfl rfl rfl ?_
      refine g_aload_n dX12_restsActs_38 rfl ?_
      refine g_iload_n dX12_restsActs_39 rfl ?_
      refine g_iconst (v := (1 : Int32)) dX12_restsActs_40 (by decide) ?_
      refine g_isub dX12_restsActs_41 ?_
      replace hf := Option.bind_eq_some_iff.mp hf
      obtain ⟨f16, q17, hf⟩ := hf
      replace hf := gB_of hf
      obtain ⟨v20, h18, q19, hf⟩ := hf
      refine g_callV (as := [.int (x1 - (1 : Int32))]) (mc1 := 0) (ms1 := 0) s_X12_281_X12_plainRests_12 dX12_restsActs_42 (gO_of q17) rfl (Nat.le_of_ble_eq_true rfl) (Nat.le_of_ble_eq_true rfl) (Nat.le_of_ble_eq_true rfl) (t_X12_plainRests (d := d + 0) q19) (fun r9 h9 q9 => ?_)
      obtain ⟨rfl, rfl⟩ := q9
      refine g_stp (st2 := [.int v20]) (pc2 := 45) (kc2 := 0) (kn2 := 0) rfl rfl rfl rfl ?_
      refine g_istore_n dX12_restsActs_45 (by decide) (g_lvp (lv2 := [some (.ref x0), some (.int x1), some (.int v20)]) (pc2 := 46) rfl rfl ?_)
      refine g_iload_n dX12_restsActs_46 rfl ?_
      refine g_aload_n dX12_restsActs_47 rfl ?_
      refine g_iconst (v := (2 : Int32)) dX12_restsActs_48 (by decide) ?_
      replace hf := Option.bind_eq_some_iff.mp hf
      obtain ⟨f21, q22, hf⟩ := hf
      replace hf := gB_of hf
      obtain ⟨v25, h23, q24, hf⟩ := hf
      refine g_callV (as := [.int (2 : Int32)]) (mc1 := 0) (ms1 := 0) s_X12_266_X12_goesActs_12 dX12_restsActs_49 (gO_of q22) rfl (Nat.le_of_ble_eq_true rfl) (Nat.le_of_ble_eq_true rfl) (Nat.le_of_ble_eq_true rfl) (t_X12_goesActs (d := d + 4) q24) (fun r9 h9 q9 => ?_)
      obtain ⟨rfl, rfl⟩ := q9
      refine g_stp (st2 := [.int v25, .int v20]) (pc2 := 52) (kc2 := 0) (kn2 := 0) rfl rfl rfl rfl ?_
      refine g_iadd dX12_restsActs_52 ?_
      obtain ⟨rfl, rfl⟩ := Prod.mk.inj (Option.some.inj hf)
      exact g_iret dX12_restsActs_53 rfl ⟨rfl, rfl⟩ (Nat.le_of_ble_eq_true rfl) (Nat.le_of_ble_eq_true rfl)
  · rw [if_pos c3] at hf
    refine g_aload_n dX12_restsActs_9 rfl ?_
    refine g_bipush (v := (31 : Int32)) dX12_restsActs_10 (by decide) ?_
    replace hf := Option.bind_eq_some_iff.mp hf
    obtain ⟨f26, q27, hf⟩ := hf
    replace hf := Option.bind_eq_some_iff.mp hf
    obtain ⟨h28, q29, hf⟩ := hf
    refine g_callV (as := [.int (31 : Int32)]) (mc1 := 0) (ms1 := 0) s_X12_247_X12_runs_12 dX12_restsActs_12 (gO_of q27) rfl (Nat.le_of_ble_eq_true rfl) (Nat.le_of_ble_eq_true rfl) (Nat.le_of_ble_eq_true rfl) (t_X12_runs (d := d + 7) q29) (fun r9 h9 q9 => ?_)
    obtain ⟨rfl, rfl⟩ := q9
    refine g_stp (st2 := []) (pc2 := 15) (kc2 := 0) (kn2 := 0) rfl rfl rfl rfl ?_
    refine g_aload_n dX12_restsActs_15 rfl ?_
    refine g_iload_n dX12_restsActs_16 rfl ?_
    replace hf := Option.bind_eq_some_iff.mp hf
    obtain ⟨f30, q31, hf⟩ := hf
    replace hf := gB_of hf
    obtain ⟨v34, h32, q33, hf⟩ := hf
    refine g_callV (as := [.int x1]) (mc1 := 0) (ms1 := 0) s_X12_281_X12_plainRests_12 dX12_restsActs_17 (gO_of q31) rfl (Nat.le_of_ble_eq_true rfl) (Nat.le_of_ble_eq_true rfl) (Nat.le_of_ble_eq_true rfl) (t_X12_plainRests (d := d + 0) q33) (fun r9 h9 q9 => ?_)
    obtain ⟨rfl, rfl⟩ := q9
    refine g_stp (st2 := [.int v34]) (pc2 := 20) (kc2 := 0) (kn2 := 0) rfl rfl rfl rfl ?_
    refine g_bipush (v := (7 : Int32)) dX12_restsActs_20 (by decide) ?_
    refine g_ixor dX12_restsActs_22 ?_
    obtain ⟨rfl, rfl⟩ := Prod.mk.inj (Option.some.inj hf)
    exact g_iret dX12_restsActs_23 rfl ⟨rfl, rfl⟩ (Nat.le_of_ble_eq_true rfl) (Nat.le_of_ble_eq_true rfl)
def F_X12_restsActs (n : Nat) (a : Nat) (p0 : Int32) (h : gH) : Option (Int32 × gH) := F_X12_restsActs_0 n  a p0 h
theorem t_X12_restsActs {n d : Nat} {a : Nat} {p0 : Int32} {h rh : gH} {rv : Int32} (hf : F_X12_restsActs n a p0 h = some (rv, rh)) : T M_X12_restsActs (d + 8) 0 0 [.ref a, .int p0] h (qI rv rh) := by
  refine T_of_G (L := 1) (by decide +kernel) rfl (Nat.le_of_ble_eq_true rfl) (g_lv (lv2 := [some (.ref a), some (.int p0), none]) rfl ?_)
  exact g_X12_restsActs_0 hf
def F_X12_act_87 (n : Nat)  (y0 : Int32) (h : gH) : Option (Int32 × gH) :=
  some (y0, h)
set_option maxRecDepth 20000 in
set_option maxHeartbeats 1600000 in
theorem g_X12_act_87 {n d : Nat} : ∀ {y0 : Int32} {h : gH} {rh : gH} {rv : Int32}, F_X12_act_87 n y0 h = some (rv, rh) → G M_X12_act (d + 9) 0 0 0 0 87 [none, none, none, none] [.int y0] h (qI rv rh) := by
  intro y0 h rh rv hf
  unfold F_X12_act_87 at hf
  obtain ⟨rfl, rfl⟩ := Prod.mk.inj (Option.some.inj hf)
  exact g_iret dX12_act_87 rfl ⟨rfl, rfl⟩ (Nat.le_of_ble_eq_true rfl) (Nat.le_of_ble_eq_true rfl)
def F_X12_act_22 (n : Nat)   (h : gH) : Option (Int32 × gH) :=
  some ((0 : Int32), h)
set_option maxRecDepth 20000 in
set_option maxHeartbeats 1600000 in
theorem g_X12_act_22 {n d : Nat} : ∀  {h : gH} {rh : gH} {rv : Int32}, F_X12_act_22 n  h = some (rv, rh) → G M_X12_act (d + 9) 0 0 0 0 22 [none, none, none, none] [] h (qI rv rh) := by
  intro  h rh rv hf
  unfold F_X12_act_22 at hf
  refine g_iconst (v := (0 : Int32)) dX12_act_22 (by decide) ?_
  obtain ⟨rfl, rfl⟩ := Prod.mk.inj (Option.some.inj hf)
  exact g_iret dX12_act_23 rfl ⟨rfl, rfl⟩ (Nat.le_of_ble_eq_true rfl) (Nat.le_of_ble_eq_true rfl)
def F_X12_act_0 (n : Nat)  (x0 : Nat) (x1 : Int32) (x2 : Int32) (x3 : Int32) (h : gH) : Option (Int32 × gH) :=
  (pF h x0 12 19 (.int (0 : Int32))).bind fun h1 =>
  (gO h1 x0 12).bind fun f3 =>
  gB (F_X12_isWay n x0 x1 h1) fun v7 h5 =>
  if v7 = 0 then
  (F_X12_act_22 n h5)
  else
  (gB (F_X12_in n x2 (0 : Int32) (2 : Int32) h5) fun v11 h9 =>
  if v11 = 0 then
  (F_X12_act_22 n h9)
  else
  ((gR h9 x0 12 1).bind fun v13 =>
  (aI h9 v13 ((130 : Int32) + x1)).bind fun v15 =>
  (pF h9 x0 12 20 (.int v15)).bind fun h17 =>
  (pF h17 x0 12 21 (.int x1)).bind fun h19 =>
  (gR h19 x0 12 1).bind fun v21 =>
  (aI h19 v21 ((138 : Int32) + x1)).bind fun v23 =>
  (pF h19 x0 12 22 (.int v23)).bind fun h25 =>
  if x2 = 0 then
  ((gO h25 x0 12).bind fun f39 =>
  gB (F_X12_goesActs n x0 x3 h25) fun v43 h41 =>
  F_X12_act_87 n v43 h41)
  else
  (if x2 = (1 : Int32) then
  ((gO h25 x0 12).bind fun f34 =>
  gB (F_X12_spendsActs n x0 x3 h25) fun v38 h36 =>
  F_X12_act_87 n v38 h36)
  else
  ((gO h25 x0 12).bind fun f29 =>
  gB (F_X12_restsActs n x0 x3 h25) fun v33 h31 =>
  F_X12_act_87 n v33 h31))))
set_option maxRecDepth 20000 in
set_option maxHeartbeats 1600000 in
theorem g_X12_act_0 {n d : Nat} : ∀ {x0 : Nat} {x1 : Int32} {x2 : Int32} {x3 : Int32} {h : gH} {rh : gH} {rv : Int32}, F_X12_act_0 n x0 x1 x2 x3 h = some (rv, rh) → G M_X12_act (d + 9) 0 0 0 0 0 [some (.ref x0), some (.int x1), some (.int x2), some (.int x3)] [] h (qI rv rh) := by
  intro x0 x1 x2 x3 h rh rv hf
  unfold F_X12_act_0 at hf
  refine g_aload_n dX12_act_0 rfl ?_
  refine g_iconst (v := (0 : Int32)) dX12_act_1 (by decide) ?_
  replace hf := Option.bind_eq_some_iff.mp hf
  obtain ⟨h1, q2, hf⟩ := hf
  refine g_pF p_X12_244 dX12_act_2 q2 (fun _ => rfl) (fun _ => rfl) ?_
  refine g_aload_n dX12_act_5 rfl ?_
  refine g_iload_n dX12_act_6 rfl ?_
  replace hf := Option.bind_eq_some_iff.mp hf
  obtain ⟨f3, q4, hf⟩ := hf
  replace hf := gB_of hf
  obtain ⟨v7, h5, q6, hf⟩ := hf
  refine g_callV (as := [.int x1]) (mc1 := 0) (ms1 := 0) s_X12_188_X12_isWay_12 dX12_act_7 (gO_of q4) rfl (Nat.le_of_ble_eq_true rfl) (Nat.le_of_ble_eq_true rfl) (Nat.le_of_ble_eq_true rfl) (t_X12_isWay (d := d + 7) q6) (fun r9 h9 q9 => ?_)
  obtain ⟨rfl, rfl⟩ := q9
  refine g_stp (st2 := [.int v7]) (pc2 := 10) (kc2 := 0) (kn2 := 0) rfl rfl rfl rfl ?_
  refine g_if_eq (tgt := 22) dX12_act_10 (by decide) (fun c8 => ?_) (fun c8 => ?_)
  · rw [if_pos c8] at hf
    refine g_weak (lv2 := [none, none, none, none]) (trivial) ?_
    exact g_X12_act_22 hf
  · rw [if_neg c8] at hf
    refine g_iload_n dX12_act_13 rfl ?_
    refine g_iconst (v := (0 : Int32)) dX12_act_14 (by decide) ?_
    refine g_iconst (v := (2 : Int32)) dX12_act_15 (by decide) ?_
    replace hf := gB_of hf
    obtain ⟨v11, h9, q10, hf⟩ := hf
    refine g_callS (as := [.int x2, .int (0 : Int32), .int (2 : Int32)]) (mc1 := 0) (ms1 := 0) s_X12_44_X12_in dX12_act_16 rfl (Nat.le_of_ble_eq_true rfl) (Nat.le_of_ble_eq_true rfl) (Nat.le_of_ble_eq_true rfl) (t_X12_in (d := d + 8) q10) (fun r9 h9 q9 => ?_)
    obtain ⟨rfl, rfl⟩ := q9
    refine g_stp (st2 := [.int v11]) (pc2 := 19) (kc2 := 0) (kn2 := 0) rfl rfl rfl rfl ?_
    refine g_if_ne (tgt := 24) dX12_act_19 (by decide) (fun c12 => ?_) (fun c12 => ?_)
    · rw [if_neg c12] at hf
      refine g_aload_n dX12_act_24 rfl ?_
      refine g_aload_n dX12_act_25 rfl ?_
      replace hf := Option.bind_eq_some_iff.mp hf
      obtain ⟨v13, q14, hf⟩ := hf
      refine g_gR f_X12_9 dX12_act_26 q14 ?_
      refine g_sipush (v := (130 : Int32)) dX12_act_29 (by decide) ?_
      refine g_iload_n dX12_act_32 rfl ?_
      refine g_iadd dX12_act_33 ?_
      replace hf := Option.bind_eq_some_iff.mp hf
      obtain ⟨v15, q16, hf⟩ := hf
      refine g_aI dX12_act_34 q16 ?_
      replace hf := Option.bind_eq_some_iff.mp hf
      obtain ⟨h17, q18, hf⟩ := hf
      refine g_pF p_X12_256 dX12_act_35 q18 (fun _ => rfl) (fun _ => rfl) ?_
      refine g_aload_n dX12_act_38 rfl ?_
      refine g_iload_n dX12_act_39 rfl ?_
      replace hf := Option.bind_eq_some_iff.mp hf
      obtain ⟨h19, q20, hf⟩ := hf
      refine g_pF p_X12_250 dX12_act_40 q20 (fun _ => rfl) (fun _ => rfl) ?_
      refine g_aload_n dX12_act_43 rfl ?_
      refine g_aload_n dX12_act_44 rfl ?_
      replace hf := Option.bind_eq_some_iff.mp hf
      obtain ⟨v21, q22, hf⟩ := hf
      refine g_gR f_X12_9 dX12_act_45 q22 ?_
      refine g_sipush (v := (138 : Int32)) dX12_act_48 (by decide) ?_
      refine g_iload_n dX12_act_51 rfl ?_
      refine g_iadd dX12_act_52 ?_
      replace hf := Option.bind_eq_some_iff.mp hf
      obtain ⟨v23, q24, hf⟩ := hf
      refine g_aI dX12_act_53 q24 ?_
      replace hf := Option.bind_eq_some_iff.mp hf
      obtain ⟨h25, q26, hf⟩ := hf
      refine g_pF p_X12_269 dX12_act_54 q26 (fun _ => rfl) (fun _ => rfl) ?_
      refine g_iload_n dX12_act_57 rfl ?_
      refine g_if_ne (tgt := 69) dX12_act_58 (by decide) (fun c27 => ?_) (fun c27 => ?_)
      · rw [if_neg c27] at hf
        refine g_iload_n dX12_act_69 rfl ?_
        refine g_iconst (v := (1 : Int32)) dX12_act_70 (by decide) ?_
        refine g_icmp_ne (tgt := 82) dX12_act_71 (by decide) (fun c28 => ?_) (fun c28 => ?_)
        · rw [if_neg c28] at hf
          refine g_aload_n dX12_act_82 rfl ?_
          refine g_iload_n dX12_act_83 rfl ?_
          replace hf := Option.bind_eq_some_iff.mp hf
          obtain ⟨f29, q30, hf⟩ := hf
          replace hf := gB_of hf
          obtain ⟨v33, h31, q32, hf⟩ := hf
          refine g_callV (as := [.int x3]) (mc1 := 0) (ms1 := 0) s_X12_284_X12_restsActs_12 dX12_act_84 (gO_of q30) rfl (Nat.le_of_ble_eq_true rfl) (Nat.le_of_ble_eq_true rfl) (Nat.le_of_ble_eq_true rfl) (t_X12_restsActs (d := d + 0) q32) (fun r9 h9 q9 => ?_)
          obtain ⟨rfl, rfl⟩ := q9
          refine g_stp (st2 := [.int v33]) (pc2 := 87) (kc2 := 0) (kn2 := 0) rfl rfl rfl rfl ?_
          refine g_weak (lv2 := [none, none, none, none]) (trivial) ?_
          exact g_X12_act_87 hf
        · rw [if_pos c28] at hf
          refine g_aload_n dX12_act_74 rfl ?_
          refine g_iload_n dX12_act_75 rfl ?_
          replace hf := Option.bind_eq_some_iff.mp hf
          obtain ⟨f34, q35, hf⟩ := hf
          replace hf := gB_of hf
          obtain ⟨v38, h36, q37, hf⟩ := hf
          refine g_callV (as := [.int x3]) (mc1 := 0) (ms1 := 0) s_X12_278_X12_spendsActs_12 dX12_act_76 (gO_of q35) rfl (Nat.le_of_ble_eq_true rfl) (Nat.le_of_ble_eq_true rfl) (Nat.le_of_ble_eq_true rfl) (t_X12_spendsActs (d := d + 2) q37) (fun r9 h9 q9 => ?_)
          obtain ⟨rfl, rfl⟩ := q9
          refine g_stp (st2 := [.int v38]) (pc2 := 79) (kc2 := 0) (kn2 := 0) rfl rfl rfl rfl ?_
          refine g_goto (tgt := 87) dX12_act_79 (by decide) ?_
          refine g_weak (lv2 := [none, none, none, none]) (trivial) ?_
          exact g_X12_act_87 hf
      · rw [if_pos c27] at hf
        refine g_aload_n dX12_act_61 rfl ?_
        refine g_iload_n dX12_act_62 rfl ?_
        replace hf := Option.bind_eq_some_iff.mp hf
        obtain ⟨f39, q40, hf⟩ := hf
        replace hf := gB_of hf
        obtain ⟨v43, h41, q42, hf⟩ := hf
        refine g_callV (as := [.int x3]) (mc1 := 0) (ms1 := 0) s_X12_266_X12_goesActs_12 dX12_act_63 (gO_of q40) rfl (Nat.le_of_ble_eq_true rfl) (Nat.le_of_ble_eq_true rfl) (Nat.le_of_ble_eq_true rfl) (t_X12_goesActs (d := d + 5) q42) (fun r9 h9 q9 => ?_)
        obtain ⟨rfl, rfl⟩ := q9
        refine g_stp (st2 := [.int v43]) (pc2 := 66) (kc2 := 0) (kn2 := 0) rfl rfl rfl rfl ?_
        refine g_goto (tgt := 87) dX12_act_66 (by decide) ?_
        refine g_weak (lv2 := [none, none, none, none]) (trivial) ?_
        exact g_X12_act_87 hf
    · rw [if_pos c12] at hf
      refine g_weak (lv2 := [none, none, none, none]) (trivial) ?_
      exact g_X12_act_22 hf
def F_X12_act (n : Nat) (a : Nat) (p0 : Int32) (p1 : Int32) (p2 : Int32) (h : gH) : Option (Int32 × gH) := F_X12_act_0 n  a p0 p1 p2 h
theorem t_X12_act {n d : Nat} {a : Nat} {p0 : Int32} {p1 : Int32} {p2 : Int32} {h rh : gH} {rv : Int32} (hf : F_X12_act n a p0 p1 p2 h = some (rv, rh)) : T M_X12_act (d + 9) 0 0 [.ref a, .int p0, .int p1, .int p2] h (qI rv rh) := by
  refine T_of_G (L := 0) (by decide +kernel) rfl (Nat.le_of_ble_eq_true rfl) (g_lv (lv2 := [some (.ref a), some (.int p0), some (.int p1), some (.int p2)]) rfl ?_)
  exact g_X12_act_0 hf
def F_X12_here_27 (n : Nat)  (y0 : Int32) (h : gH) : Option (Int32 × gH) :=
  some (y0, h)
set_option maxRecDepth 20000 in
set_option maxHeartbeats 1600000 in
theorem g_X12_here_27 {n d : Nat} : ∀ {y0 : Int32} {h : gH} {rh : gH} {rv : Int32}, F_X12_here_27 n y0 h = some (rv, rh) → G M_X12_here d 0 0 0 0 27 [none] [.int y0] h (qI rv rh) := by
  intro y0 h rh rv hf
  unfold F_X12_here_27 at hf
  obtain ⟨rfl, rfl⟩ := Prod.mk.inj (Option.some.inj hf)
  exact g_iret dX12_here_27 rfl ⟨rfl, rfl⟩ (Nat.le_of_ble_eq_true rfl) (Nat.le_of_ble_eq_true rfl)
def F_X12_here_0 (n : Nat)  (x0 : Nat) (h : gH) : Option (Int32 × gH) :=
  (gI h x0 12 5).bind fun v1 =>
  (gI h x0 12 6).bind fun v3 =>
  if v3 ≤ v1 then
  (F_X12_here_27 n (-1 : Int32) h)
  else
  ((gR h x0 12 1).bind fun v6 =>
  (gI h x0 12 5).bind fun v8 =>
  (aI h v6 ((10 : Int32) + v8)).bind fun v10 =>
  F_X12_here_27 n v10 h)
set_option maxRecDepth 20000 in
set_option maxHeartbeats 1600000 in
theorem g_X12_here_0 {n d : Nat} : ∀ {x0 : Nat} {h : gH} {rh : gH} {rv : Int32}, F_X12_here_0 n x0 h = some (rv, rh) → G M_X12_here d 0 0 0 0 0 [some (.ref x0)] [] h (qI rv rh) := by
  intro x0 h rh rv hf
  unfold F_X12_here_0 at hf
  refine g_aload_n dX12_here_0 rfl ?_
  replace hf := Option.bind_eq_some_iff.mp hf
  obtain ⟨v1, q2, hf⟩ := hf
  refine g_gI f_X12_61 dX12_here_1 q2 ?_
  refine g_aload_n dX12_here_4 rfl ?_
  replace hf := Option.bind_eq_some_iff.mp hf
  obtain ⟨v3, q4, hf⟩ := hf
  refine g_gI f_X12_64 dX12_here_5 q4 ?_
  refine g_icmp_ge (tgt := 26) dX12_here_8 (by decide) (fun c5 => ?_) (fun c5 => ?_)
  · rw [if_pos c5] at hf
    refine g_iconst (v := (-1 : Int32)) dX12_here_26 (by decide) ?_
    refine g_weak (lv2 := [none]) (trivial) ?_
    exact g_X12_here_27 hf
  · rw [if_neg c5] at hf
    refine g_aload_n dX12_here_11 rfl ?_
    replace hf := Option.bind_eq_some_iff.mp hf
    obtain ⟨v6, q7, hf⟩ := hf
    refine g_gR f_X12_9 dX12_here_12 q7 ?_
    refine g_bipush (v := (10 : Int32)) dX12_here_15 (by decide) ?_
    refine g_aload_n dX12_here_17 rfl ?_
    replace hf := Option.bind_eq_some_iff.mp hf
    obtain ⟨v8, q9, hf⟩ := hf
    refine g_gI f_X12_61 dX12_here_18 q9 ?_
    refine g_iadd dX12_here_21 ?_
    replace hf := Option.bind_eq_some_iff.mp hf
    obtain ⟨v10, q11, hf⟩ := hf
    refine g_aI dX12_here_22 q11 ?_
    refine g_goto (tgt := 27) dX12_here_23 (by decide) ?_
    refine g_weak (lv2 := [none]) (trivial) ?_
    exact g_X12_here_27 hf
def F_X12_here (n : Nat) (a : Nat) (h : gH) : Option (Int32 × gH) := F_X12_here_0 n  a h
theorem t_X12_here {n d : Nat} {a : Nat} {h rh : gH} {rv : Int32} (hf : F_X12_here n a h = some (rv, rh)) : T M_X12_here d 0 0 [.ref a] h (qI rv rh) := by
  refine T_of_G (L := 0) (by decide +kernel) rfl (Nat.le_of_ble_eq_true rfl) (g_lv (lv2 := [some (.ref a)]) rfl ?_)
  exact g_X12_here_0 hf
def F_X12_among_2 (n : Nat)  : Nat → Nat → Nat → Int32 → gH → Option (Int32 × gH)
  | 0, _, _, _, _ => none
  | m + 1, x0, x1, x2, h => gB (F_J0_length_8abf5 n x1  h) fun v3 h1 =>
  if v3 ≤ x2 then
  (some ((-1 : Int32), h1))
  else
  ((gO h1 x0 12).bind fun f5 =>
  gB (F_X12_here n x0  h1) fun v9 h7 =>
  gB (F_J0_charAt_5068e n x1 x2 h7) fun v12 h10 =>
  if v9 = v12 then
  ((gI h10 x0 12 5).bind fun v14 =>
  (pF h10 x0 12 5 (.int (v14 + (1 : Int32)))).bind fun h16 =>
  some (x2, h16))
  else
  (F_X12_among_2 n m x0 x1 (x2 + (1 : Int32)) h10))
set_option maxRecDepth 20000 in
set_option maxHeartbeats 1600000 in
theorem g_X12_among_2 {n d : Nat} : ∀ {m : Nat} {x0 : Nat} {x1 : Nat} {x2 : Int32} {h : gH} {rh : gH} {rv : Int32}, F_X12_among_2 n m x0 x1 x2 h = some (rv, rh) → G M_X12_among (d + 7) 0 0 0 0 2 [some (.ref x0), some (.ref x1), some (.int x2)] [] h (qI rv rh) := by
  intro m
  induction m with
  | zero => intro x0 x1 x2 h rh rv hf; cases hf
  | succ m t2 =>
    intro x0 x1 x2 h rh rv hf
    unfold F_X12_among_2 at hf
    refine g_iload_n dX12_among_2 rfl ?_
    refine g_aload_n dX12_among_3 rfl ?_
    replace hf := gB_of hf
    obtain ⟨v3, h1, q2, hf⟩ := hf
    refine g_callStr (as := []) (mc1 := 0) (ms1 := 0) s_X12_74 dX12_among_4 (b_J0_length_8abf5 q2) rfl (Nat.le_of_ble_eq_true rfl) (Nat.le_of_ble_eq_true rfl) (Nat.le_of_ble_eq_true rfl) (t_J0_length_8abf5 (d := d + 0) q2) (fun r9 h9 q9 => ?_)
    obtain ⟨rfl, rfl⟩ := q9
    refine g_stp (st2 := [.int v3, .int x2]) (pc2 := 7) (kc2 := 0) (kn2 := 0) rfl rfl rfl rfl ?_
    refine g_icmp_ge (tgt := 40) dX12_among_7 (by decide) (fun c4 => ?_) (fun c4 => ?_)
    · rw [if_pos c4] at hf
      refine g_iconst (v := (-1 : Int32)) dX12_among_40 (by decide) ?_
      obtain ⟨rfl, rfl⟩ := Prod.mk.inj (Option.some.inj hf)
      exact g_iret dX12_among_41 rfl ⟨rfl, rfl⟩ (Nat.le_of_ble_eq_true rfl) (Nat.le_of_ble_eq_true rfl)
    · rw [if_neg c4] at hf
      refine g_aload_n dX12_among_10 rfl ?_
      replace hf := Option.bind_eq_some_iff.mp hf
      obtain ⟨f5, q6, hf⟩ := hf
      replace hf := gB_of hf
      obtain ⟨v9, h7, q8, hf⟩ := hf
      refine g_callV (as := []) (mc1 := 0) (ms1 := 0) s_X12_71_X12_here_12 dX12_among_11 (gO_of q6) rfl (Nat.le_of_ble_eq_true rfl) (Nat.le_of_ble_eq_true rfl) (Nat.le_of_ble_eq_true rfl) (t_X12_here (d := d + 6) q8) (fun r9 h9 q9 => ?_)
      obtain ⟨rfl, rfl⟩ := q9
      refine g_stp (st2 := [.int v9]) (pc2 := 14) (kc2 := 0) (kn2 := 0) rfl rfl rfl rfl ?_
      refine g_aload_n dX12_among_14 rfl ?_
      refine g_iload_n dX12_among_15 rfl ?_
      replace hf := gB_of hf
      obtain ⟨v12, h10, q11, hf⟩ := hf
      refine g_callStr (as := [.int x2]) (mc1 := 0) (ms1 := 0) s_X12_79 dX12_among_16 (b_J0_charAt_5068e q11) rfl (Nat.le_of_ble_eq_true rfl) (Nat.le_of_ble_eq_true rfl) (Nat.le_of_ble_eq_true rfl) (t_J0_charAt_5068e (d := d + 0) q11) (fun r9 h9 q9 => ?_)
      obtain ⟨rfl, rfl⟩ := q9
      refine g_stp (st2 := [.int v12, .int v9]) (pc2 := 19) (kc2 := 0) (kn2 := 0) rfl rfl rfl rfl ?_
      refine g_icmp_ne (tgt := 34) dX12_among_19 (by decide) (fun c13 => ?_) (fun c13 => ?_)
      · rw [if_neg c13] at hf
        refine g_iinc2 (w := (1 : Int32)) dX12_among_34 (by decide) rfl (by decide) (g_lvp (lv2 := [some (.ref x0), some (.ref x1), some (.int (x2 + (1 : Int32)))]) (pc2 := 37) rfl rfl ?_)
        refine g_goto (tgt := 2) dX12_among_37 (by decide) ?_
        exact t2 hf
      · rw [if_pos c13] at hf
        refine g_aload_n dX12_among_22 rfl ?_
        refine g_dup dX12_among_23 rfl ?_
        replace hf := Option.bind_eq_some_iff.mp hf
        obtain ⟨v14, q15, hf⟩ := hf
        refine g_gI f_X12_61 dX12_among_24 q15 ?_
        refine g_iconst (v := (1 : Int32)) dX12_among_27 (by decide) ?_
        refine g_iadd dX12_among_28 ?_
        replace hf := Option.bind_eq_some_iff.mp hf
        obtain ⟨h16, q17, hf⟩ := hf
        refine g_pF p_X12_61 dX12_among_29 q17 (fun _ => rfl) (fun _ => rfl) ?_
        refine g_iload_n dX12_among_32 rfl ?_
        obtain ⟨rfl, rfl⟩ := Prod.mk.inj (Option.some.inj hf)
        exact g_iret dX12_among_33 rfl ⟨rfl, rfl⟩ (Nat.le_of_ble_eq_true rfl) (Nat.le_of_ble_eq_true rfl)
def F_X12_among_0 (n : Nat)  (x0 : Nat) (x1 : Nat) (h : gH) : Option (Int32 × gH) :=
  F_X12_among_2 n n x0 x1 (0 : Int32) h
set_option maxRecDepth 20000 in
set_option maxHeartbeats 1600000 in
theorem g_X12_among_0 {n d : Nat} : ∀ {x0 : Nat} {x1 : Nat} {h : gH} {rh : gH} {rv : Int32}, F_X12_among_0 n x0 x1 h = some (rv, rh) → G M_X12_among (d + 7) 0 0 0 0 0 [some (.ref x0), some (.ref x1), none] [] h (qI rv rh) := by
  intro x0 x1 h rh rv hf
  unfold F_X12_among_0 at hf
  refine g_iconst (v := (0 : Int32)) dX12_among_0 (by decide) ?_
  refine g_istore_n dX12_among_1 (by decide) (g_lvp (lv2 := [some (.ref x0), some (.ref x1), some (.int (0 : Int32))]) (pc2 := 2) rfl rfl ?_)
  exact g_X12_among_2 hf
def F_X12_among (n : Nat) (a : Nat) (p0 : Nat) (h : gH) : Option (Int32 × gH) := F_X12_among_0 n  a p0 h
theorem t_X12_among {n d : Nat} {a : Nat} {p0 : Nat} {h rh : gH} {rv : Int32} (hf : F_X12_among n a p0 h = some (rv, rh)) : T M_X12_among (d + 7) 0 0 [.ref a, .ref p0] h (qI rv rh) := by
  refine T_of_G (L := 1) (by decide +kernel) rfl (Nat.le_of_ble_eq_true rfl) (g_lv (lv2 := [some (.ref a), some (.ref p0), none]) rfl ?_)
  exact g_X12_among_0 hf
def F_X12_as_52 (n : Nat)  (y0 : Int32) (h : gH) : Option (Int32 × gH) :=
  some (y0, h)
set_option maxRecDepth 20000 in
set_option maxHeartbeats 1600000 in
theorem g_X12_as_52 {n d : Nat} : ∀ {y0 : Int32} {h : gH} {rh : gH} {rv : Int32}, F_X12_as_52 n y0 h = some (rv, rh) → G M_X12_as (d + 2) 0 0 0 0 52 [none, none, none] [.int y0] h (qI rv rh) := by
  intro y0 h rh rv hf
  unfold F_X12_as_52 at hf
  obtain ⟨rfl, rfl⟩ := Prod.mk.inj (Option.some.inj hf)
  exact g_iret dX12_as_52 rfl ⟨rfl, rfl⟩ (Nat.le_of_ble_eq_true rfl) (Nat.le_of_ble_eq_true rfl)
def F_X12_as_18 (n : Nat)   (h : gH) : Option (Int32 × gH) :=
  some ((-1 : Int32), h)
set_option maxRecDepth 20000 in
set_option maxHeartbeats 1600000 in
theorem g_X12_as_18 {n d : Nat} : ∀  {h : gH} {rh : gH} {rv : Int32}, F_X12_as_18 n  h = some (rv, rh) → G M_X12_as (d + 2) 0 0 0 0 18 [none, none, none] [] h (qI rv rh) := by
  intro  h rh rv hf
  unfold F_X12_as_18 at hf
  refine g_iconst (v := (-1 : Int32)) dX12_as_18 (by decide) ?_
  obtain ⟨rfl, rfl⟩ := Prod.mk.inj (Option.some.inj hf)
  exact g_iret dX12_as_19 rfl ⟨rfl, rfl⟩ (Nat.le_of_ble_eq_true rfl) (Nat.le_of_ble_eq_true rfl)
def F_X12_as_0 (n : Nat)  (x0 : Nat) (x1 : Int32) (x2 : Int32) (h : gH) : Option (Int32 × gH) :=
  (gO h x0 12).bind fun f1 =>
  gB (F_X12_isWay n x0 x1 h) fun v5 h3 =>
  if v5 = 0 then
  (F_X12_as_18 n h3)
  else
  (gB (F_X12_in n x2 (0 : Int32) (6 : Int32) h3) fun v9 h7 =>
  if v9 = 0 then
  (F_X12_as_18 n h7)
  else
  ((gR h7 x0 12 1).bind fun v11 =>
  (aI h7 v11 ((130 : Int32) + x1)).bind fun v13 =>
  gB (F_X12_isUnder n v13 x2 h7) fun v17 h15 =>
  if v17 = 0 then
  (F_X12_as_52 n (-6 : Int32) h15)
  else
  ((gR h15 x0 12 1).bind fun v19 =>
  (aI h15 v19 ((138 : Int32) + x1)).bind fun v21 =>
  F_X12_as_52 n v21 h15)))
set_option maxRecDepth 20000 in
set_option maxHeartbeats 1600000 in
theorem g_X12_as_0 {n d : Nat} : ∀ {x0 : Nat} {x1 : Int32} {x2 : Int32} {h : gH} {rh : gH} {rv : Int32}, F_X12_as_0 n x0 x1 x2 h = some (rv, rh) → G M_X12_as (d + 2) 0 0 0 0 0 [some (.ref x0), some (.int x1), some (.int x2)] [] h (qI rv rh) := by
  intro x0 x1 x2 h rh rv hf
  unfold F_X12_as_0 at hf
  refine g_aload_n dX12_as_0 rfl ?_
  refine g_iload_n dX12_as_1 rfl ?_
  replace hf := Option.bind_eq_some_iff.mp hf
  obtain ⟨f1, q2, hf⟩ := hf
  replace hf := gB_of hf
  obtain ⟨v5, h3, q4, hf⟩ := hf
  refine g_callV (as := [.int x1]) (mc1 := 0) (ms1 := 0) s_X12_188_X12_isWay_12 dX12_as_2 (gO_of q2) rfl (Nat.le_of_ble_eq_true rfl) (Nat.le_of_ble_eq_true rfl) (Nat.le_of_ble_eq_true rfl) (t_X12_isWay (d := d + 0) q4) (fun r9 h9 q9 => ?_)
  obtain ⟨rfl, rfl⟩ := q9
  refine g_stp (st2 := [.int v5]) (pc2 := 5) (kc2 := 0) (kn2 := 0) rfl rfl rfl rfl ?_
  refine g_if_eq (tgt := 18) dX12_as_5 (by decide) (fun c6 => ?_) (fun c6 => ?_)
  · rw [if_pos c6] at hf
    refine g_weak (lv2 := [none, none, none]) (trivial) ?_
    exact g_X12_as_18 hf
  · rw [if_neg c6] at hf
    refine g_iload_n dX12_as_8 rfl ?_
    refine g_iconst (v := (0 : Int32)) dX12_as_9 (by decide) ?_
    refine g_bipush (v := (6 : Int32)) dX12_as_10 (by decide) ?_
    replace hf := gB_of hf
    obtain ⟨v9, h7, q8, hf⟩ := hf
    refine g_callS (as := [.int x2, .int (0 : Int32), .int (6 : Int32)]) (mc1 := 0) (ms1 := 0) s_X12_44_X12_in dX12_as_12 rfl (Nat.le_of_ble_eq_true rfl) (Nat.le_of_ble_eq_true rfl) (Nat.le_of_ble_eq_true rfl) (t_X12_in (d := d + 1) q8) (fun r9 h9 q9 => ?_)
    obtain ⟨rfl, rfl⟩ := q9
    refine g_stp (st2 := [.int v9]) (pc2 := 15) (kc2 := 0) (kn2 := 0) rfl rfl rfl rfl ?_
    refine g_if_ne (tgt := 20) dX12_as_15 (by decide) (fun c10 => ?_) (fun c10 => ?_)
    · rw [if_neg c10] at hf
      refine g_aload_n dX12_as_20 rfl ?_
      replace hf := Option.bind_eq_some_iff.mp hf
      obtain ⟨v11, q12, hf⟩ := hf
      refine g_gR f_X12_9 dX12_as_21 q12 ?_
      refine g_sipush (v := (130 : Int32)) dX12_as_24 (by decide) ?_
      refine g_iload_n dX12_as_27 rfl ?_
      refine g_iadd dX12_as_28 ?_
      replace hf := Option.bind_eq_some_iff.mp hf
      obtain ⟨v13, q14, hf⟩ := hf
      refine g_aI dX12_as_29 q14 ?_
      refine g_iload_n dX12_as_30 rfl ?_
      replace hf := gB_of hf
      obtain ⟨v17, h15, q16, hf⟩ := hf
      refine g_callS (as := [.int v13, .int x2]) (mc1 := 0) (ms1 := 0) s_X12_262_X12_isUnder dX12_as_31 rfl (Nat.le_of_ble_eq_true rfl) (Nat.le_of_ble_eq_true rfl) (Nat.le_of_ble_eq_true rfl) (t_X12_isUnder (d := d + 1) q16) (fun r9 h9 q9 => ?_)
      obtain ⟨rfl, rfl⟩ := q9
      refine g_stp (st2 := [.int v17]) (pc2 := 34) (kc2 := 0) (kn2 := 0) rfl rfl rfl rfl ?_
      refine g_if_eq (tgt := 50) dX12_as_34 (by decide) (fun c18 => ?_) (fun c18 => ?_)
      · rw [if_pos c18] at hf
        refine g_bipush (v := (-6 : Int32)) dX12_as_50 (by decide) ?_
        refine g_weak (lv2 := [none, none, none]) (trivial) ?_
        exact g_X12_as_52 hf
      · rw [if_neg c18] at hf
        refine g_aload_n dX12_as_37 rfl ?_
        replace hf := Option.bind_eq_some_iff.mp hf
        obtain ⟨v19, q20, hf⟩ := hf
        refine g_gR f_X12_9 dX12_as_38 q20 ?_
        refine g_sipush (v := (138 : Int32)) dX12_as_41 (by decide) ?_
        refine g_iload_n dX12_as_44 rfl ?_
        refine g_iadd dX12_as_45 ?_
        replace hf := Option.bind_eq_some_iff.mp hf
        obtain ⟨v21, q22, hf⟩ := hf
        refine g_aI dX12_as_46 q22 ?_
        refine g_goto (tgt := 52) dX12_as_47 (by decide) ?_
        refine g_weak (lv2 := [none, none, none]) (trivial) ?_
        exact g_X12_as_52 hf
    · rw [if_pos c10] at hf
      refine g_weak (lv2 := [none, none, none]) (trivial) ?_
      exact g_X12_as_18 hf
def F_X12_as (n : Nat) (a : Nat) (p0 : Int32) (p1 : Int32) (h : gH) : Option (Int32 × gH) := F_X12_as_0 n  a p0 p1 h
theorem t_X12_as {n d : Nat} {a : Nat} {p0 : Int32} {p1 : Int32} {h rh : gH} {rv : Int32} (hf : F_X12_as n a p0 p1 h = some (rv, rh)) : T M_X12_as (d + 2) 0 0 [.ref a, .int p0, .int p1] h (qI rv rh) := by
  refine T_of_G (L := 0) (by decide +kernel) rfl (Nat.le_of_ble_eq_true rfl) (g_lv (lv2 := [some (.ref a), some (.int p0), some (.int p1)]) rfl ?_)
  exact g_X12_as_0 hf
def F_X12_tellsOf_27 (n : Nat)  (y0 : Int32) (h : gH) : Option (Int32 × gH) :=
  some (y0, h)
set_option maxRecDepth 20000 in
set_option maxHeartbeats 1600000 in
theorem g_X12_tellsOf_27 {n d : Nat} : ∀ {y0 : Int32} {h : gH} {rh : gH} {rv : Int32}, F_X12_tellsOf_27 n y0 h = some (rv, rh) → G M_X12_tellsOf d 0 0 0 0 27 [none, none, none] [.int y0] h (qI rv rh) := by
  intro y0 h rh rv hf
  unfold F_X12_tellsOf_27 at hf
  obtain ⟨rfl, rfl⟩ := Prod.mk.inj (Option.some.inj hf)
  exact g_iret dX12_tellsOf_27 rfl ⟨rfl, rfl⟩ (Nat.le_of_ble_eq_true rfl) (Nat.le_of_ble_eq_true rfl)
def F_X12_tellsOf_0 (n : Nat)  (x0 : Nat) (x1 : Int32) (x2 : Int32) (h : gH) : Option (Int32 × gH) :=
  (gR h x0 12 1).bind fun v1 =>
  (aI h v1 (4 : Int32)).bind fun v3 =>
  if v3 = (-1 : Int32) then
  (F_X12_tellsOf_27 n x2 h)
  else
  ((gR h x0 12 1).bind fun v6 =>
  (gR h x0 12 1).bind fun v8 =>
  (aI h v8 (4 : Int32)).bind fun v10 =>
  (aI h v6 (x1 + v10)).bind fun v12 =>
  F_X12_tellsOf_27 n v12 h)
set_option maxRecDepth 20000 in
set_option maxHeartbeats 1600000 in
theorem g_X12_tellsOf_0 {n d : Nat} : ∀ {x0 : Nat} {x1 : Int32} {x2 : Int32} {h : gH} {rh : gH} {rv : Int32}, F_X12_tellsOf_0 n x0 x1 x2 h = some (rv, rh) → G M_X12_tellsOf d 0 0 0 0 0 [some (.ref x0), some (.int x1), some (.int x2)] [] h (qI rv rh) := by
  intro x0 x1 x2 h rh rv hf
  unfold F_X12_tellsOf_0 at hf
  refine g_aload_n dX12_tellsOf_0 rfl ?_
  replace hf := Option.bind_eq_some_iff.mp hf
  obtain ⟨v1, q2, hf⟩ := hf
  refine g_gR f_X12_9 dX12_tellsOf_1 q2 ?_
  refine g_iconst (v := (4 : Int32)) dX12_tellsOf_4 (by decide) ?_
  replace hf := Option.bind_eq_some_iff.mp hf
  obtain ⟨v3, q4, hf⟩ := hf
  refine g_aI dX12_tellsOf_5 q4 ?_
  refine g_iconst (v := (-1 : Int32)) dX12_tellsOf_6 (by decide) ?_
  refine g_icmp_ne (tgt := 14) dX12_tellsOf_7 (by decide) (fun c5 => ?_) (fun c5 => ?_)
  · rw [if_neg c5] at hf
    refine g_aload_n dX12_tellsOf_14 rfl ?_
    replace hf := Option.bind_eq_some_iff.mp hf
    obtain ⟨v6, q7, hf⟩ := hf
    refine g_gR f_X12_9 dX12_tellsOf_15 q7 ?_
    refine g_iload_n dX12_tellsOf_18 rfl ?_
    refine g_aload_n dX12_tellsOf_19 rfl ?_
    replace hf := Option.bind_eq_some_iff.mp hf
    obtain ⟨v8, q9, hf⟩ := hf
    refine g_gR f_X12_9 dX12_tellsOf_20 q9 ?_
    refine g_iconst (v := (4 : Int32)) dX12_tellsOf_23 (by decide) ?_
    replace hf := Option.bind_eq_some_iff.mp hf
    obtain ⟨v10, q11, hf⟩ := hf
    refine g_aI dX12_tellsOf_24 q11 ?_
    refine g_iadd dX12_tellsOf_25 ?_
    replace hf := Option.bind_eq_some_iff.mp hf
    obtain ⟨v12, q13, hf⟩ := hf
    refine g_aI dX12_tellsOf_26 q13 ?_
    refine g_weak (lv2 := [none, none, none]) (trivial) ?_
    exact g_X12_tellsOf_27 hf
  · rw [if_pos c5] at hf
    refine g_iload_n dX12_tellsOf_10 rfl ?_
    refine g_goto (tgt := 27) dX12_tellsOf_11 (by decide) ?_
    refine g_weak (lv2 := [none, none, none]) (trivial) ?_
    exact g_X12_tellsOf_27 hf
def F_X12_tellsOf (n : Nat) (a : Nat) (p0 : Int32) (p1 : Int32) (h : gH) : Option (Int32 × gH) := F_X12_tellsOf_0 n  a p0 p1 h
theorem t_X12_tellsOf {n d : Nat} {a : Nat} {p0 : Int32} {p1 : Int32} {h rh : gH} {rv : Int32} (hf : F_X12_tellsOf n a p0 p1 h = some (rv, rh)) : T M_X12_tellsOf d 0 0 [.ref a, .int p0, .int p1] h (qI rv rh) := by
  refine T_of_G (L := 0) (by decide +kernel) rfl (Nat.le_of_ble_eq_true rfl) (g_lv (lv2 := [some (.ref a), some (.int p0), some (.int p1)]) rfl ?_)
  exact g_X12_tellsOf_0 hf
def F_X12_bar_0 (n : Nat)  (x0 : Nat) (h : gH) : Option (Int32 × gH) :=
  (gO h x0 12).bind fun f1 =>
  gB (F_X12_tellsOf n x0 (223 : Int32) (4 : Int32) h) fun v5 h3 =>
  some (v5, h3)
set_option maxRecDepth 20000 in
set_option maxHeartbeats 1600000 in
theorem g_X12_bar_0 {n d : Nat} : ∀ {x0 : Nat} {h : gH} {rh : gH} {rv : Int32}, F_X12_bar_0 n x0 h = some (rv, rh) → G M_X12_bar (d + 1) 0 0 0 0 0 [some (.ref x0)] [] h (qI rv rh) := by
  intro x0 h rh rv hf
  unfold F_X12_bar_0 at hf
  refine g_aload_n dX12_bar_0 rfl ?_
  refine g_sipush (v := (223 : Int32)) dX12_bar_1 (by decide) ?_
  refine g_iconst (v := (4 : Int32)) dX12_bar_4 (by decide) ?_
  replace hf := Option.bind_eq_some_iff.mp hf
  obtain ⟨f1, q2, hf⟩ := hf
  replace hf := gB_of hf
  obtain ⟨v5, h3, q4, hf⟩ := hf
  refine g_callV (as := [.int (223 : Int32), .int (4 : Int32)]) (mc1 := 0) (ms1 := 0) s_X12_52_X12_tellsOf_12 dX12_bar_5 (gO_of q2) rfl (Nat.le_of_ble_eq_true rfl) (Nat.le_of_ble_eq_true rfl) (Nat.le_of_ble_eq_true rfl) (t_X12_tellsOf (d := d + 0) q4) (fun r9 h9 q9 => ?_)
  obtain ⟨rfl, rfl⟩ := q9
  refine g_stp (st2 := [.int v5]) (pc2 := 8) (kc2 := 0) (kn2 := 0) rfl rfl rfl rfl ?_
  obtain ⟨rfl, rfl⟩ := Prod.mk.inj (Option.some.inj hf)
  exact g_iret dX12_bar_8 rfl ⟨rfl, rfl⟩ (Nat.le_of_ble_eq_true rfl) (Nat.le_of_ble_eq_true rfl)
def F_X12_bar (n : Nat) (a : Nat) (h : gH) : Option (Int32 × gH) := F_X12_bar_0 n  a h
theorem t_X12_bar {n d : Nat} {a : Nat} {h rh : gH} {rv : Int32} (hf : F_X12_bar n a h = some (rv, rh)) : T M_X12_bar (d + 1) 0 0 [.ref a] h (qI rv rh) := by
  refine T_of_G (L := 0) (by decide +kernel) rfl (Nat.le_of_ble_eq_true rfl) (g_lv (lv2 := [some (.ref a)]) rfl ?_)
  exact g_X12_bar_0 hf
def F_X12_length_0 (n : Nat)  (x0 : Nat) (x1 : Int32) (h : gH) : Option (Int32 × gH) :=
  (gR h x0 12 1).bind fun v1 =>
  (gR h x0 12 1).bind fun v3 =>
  (aI h v3 (4 : Int32)).bind fun v5 =>
  (aI h v1 (((243 : Int32) + ((8 : Int32) * v5)) + x1)).bind fun v7 =>
  some (v7, h)
set_option maxRecDepth 20000 in
set_option maxHeartbeats 1600000 in
theorem g_X12_length_0 {n d : Nat} : ∀ {x0 : Nat} {x1 : Int32} {h : gH} {rh : gH} {rv : Int32}, F_X12_length_0 n x0 x1 h = some (rv, rh) → G M_X12_length d 0 0 0 0 0 [some (.ref x0), some (.int x1)] [] h (qI rv rh) := by
  intro x0 x1 h rh rv hf
  unfold F_X12_length_0 at hf
  refine g_aload_n dX12_length_0 rfl ?_
  replace hf := Option.bind_eq_some_iff.mp hf
  obtain ⟨v1, q2, hf⟩ := hf
  refine g_gR f_X12_9 dX12_length_1 q2 ?_
  refine g_sipush (v := (243 : Int32)) dX12_length_4 (by decide) ?_
  refine g_bipush (v := (8 : Int32)) dX12_length_7 (by decide) ?_
  refine g_aload_n dX12_length_9 rfl ?_
  replace hf := Option.bind_eq_some_iff.mp hf
  obtain ⟨v3, q4, hf⟩ := hf
  refine g_gR f_X12_9 dX12_length_10 q4 ?_
  refine g_iconst (v := (4 : Int32)) dX12_length_13 (by decide) ?_
  replace hf := Option.bind_eq_some_iff.mp hf
  obtain ⟨v5, q6, hf⟩ := hf
  refine g_aI dX12_length_14 q6 ?_
  refine g_imul dX12_length_15 ?_
  refine g_iadd dX12_length_16 ?_
  refine g_iload_n dX12_length_17 rfl ?_
  refine g_iadd dX12_length_18 ?_
  replace hf := Option.bind_eq_some_iff.mp hf
  obtain ⟨v7, q8, hf⟩ := hf
  refine g_aI dX12_length_19 q8 ?_
  obtain ⟨rfl, rfl⟩ := Prod.mk.inj (Option.some.inj hf)
  exact g_iret dX12_length_20 rfl ⟨rfl, rfl⟩ (Nat.le_of_ble_eq_true rfl) (Nat.le_of_ble_eq_true rfl)
def F_X12_length (n : Nat) (a : Nat) (p0 : Int32) (h : gH) : Option (Int32 × gH) := F_X12_length_0 n  a p0 h
theorem t_X12_length {n d : Nat} {a : Nat} {p0 : Int32} {h rh : gH} {rv : Int32} (hf : F_X12_length n a p0 h = some (rv, rh)) : T M_X12_length d 0 0 [.ref a, .int p0] h (qI rv rh) := by
  refine T_of_G (L := 0) (by decide +kernel) rfl (Nat.le_of_ble_eq_true rfl) (g_lv (lv2 := [some (.ref a), some (.int p0)]) rfl ?_)
  exact g_X12_length_0 hf
def F_X12_most_0 (n : Nat)  (x0 : Nat) (h : gH) : Option (Int32 × gH) :=
  (gO h x0 12).bind fun f1 =>
  gB (F_X12_tellsOf n x0 (228 : Int32) (20 : Int32) h) fun v5 h3 =>
  some (v5, h3)
set_option maxRecDepth 20000 in
set_option maxHeartbeats 1600000 in
theorem g_X12_most_0 {n d : Nat} : ∀ {x0 : Nat} {h : gH} {rh : gH} {rv : Int32}, F_X12_most_0 n x0 h = some (rv, rh) → G M_X12_most (d + 1) 0 0 0 0 0 [some (.ref x0)] [] h (qI rv rh) := by
  intro x0 h rh rv hf
  unfold F_X12_most_0 at hf
  refine g_aload_n dX12_most_0 rfl ?_
  refine g_sipush (v := (228 : Int32)) dX12_most_1 (by decide) ?_
  refine g_bipush (v := (20 : Int32)) dX12_most_4 (by decide) ?_
  replace hf := Option.bind_eq_some_iff.mp hf
  obtain ⟨f1, q2, hf⟩ := hf
  replace hf := gB_of hf
  obtain ⟨v5, h3, q4, hf⟩ := hf
  refine g_callV (as := [.int (228 : Int32), .int (20 : Int32)]) (mc1 := 0) (ms1 := 0) s_X12_52_X12_tellsOf_12 dX12_most_6 (gO_of q2) rfl (Nat.le_of_ble_eq_true rfl) (Nat.le_of_ble_eq_true rfl) (Nat.le_of_ble_eq_true rfl) (t_X12_tellsOf (d := d + 0) q4) (fun r9 h9 q9 => ?_)
  obtain ⟨rfl, rfl⟩ := q9
  refine g_stp (st2 := [.int v5]) (pc2 := 9) (kc2 := 0) (kn2 := 0) rfl rfl rfl rfl ?_
  obtain ⟨rfl, rfl⟩ := Prod.mk.inj (Option.some.inj hf)
  exact g_iret dX12_most_9 rfl ⟨rfl, rfl⟩ (Nat.le_of_ble_eq_true rfl) (Nat.le_of_ble_eq_true rfl)
def F_X12_most (n : Nat) (a : Nat) (h : gH) : Option (Int32 × gH) := F_X12_most_0 n  a h
theorem t_X12_most {n d : Nat} {a : Nat} {h rh : gH} {rv : Int32} (hf : F_X12_most n a h = some (rv, rh)) : T M_X12_most (d + 1) 0 0 [.ref a] h (qI rv rh) := by
  refine T_of_G (L := 0) (by decide +kernel) rfl (Nat.le_of_ble_eq_true rfl) (g_lv (lv2 := [some (.ref a)]) rfl ?_)
  exact g_X12_most_0 hf
def F_X12_behind_69 (n : Nat)  (y0 : Int32) (h : gH) : Option (Int32 × gH) :=
  some (y0, h)
set_option maxRecDepth 20000 in
set_option maxHeartbeats 1600000 in
theorem g_X12_behind_69 {n d : Nat} : ∀ {y0 : Int32} {h : gH} {rh : gH} {rv : Int32}, F_X12_behind_69 n y0 h = some (rv, rh) → G M_X12_behind (d + 2) 0 0 0 0 69 [none, none, none, none, none] [.int y0] h (qI rv rh) := by
  intro y0 h rh rv hf
  unfold F_X12_behind_69 at hf
  obtain ⟨rfl, rfl⟩ := Prod.mk.inj (Option.some.inj hf)
  exact g_iret dX12_behind_69 rfl ⟨rfl, rfl⟩ (Nat.le_of_ble_eq_true rfl) (Nat.le_of_ble_eq_true rfl)
def F_X12_behind_0 (n : Nat)  (x0 : Nat) (x1 : Int32) (x2 : Int32) (x3 : Int32) (h : gH) : Option (Int32 × gH) :=
  (gO h x0 12).bind fun f1 =>
  gB (F_X12_bar n x0  h) fun v5 h3 =>
  if x2 ≤ v5 then
  ((gO h3 x0 12).bind fun f7 =>
  gB (F_X12_length n x0 x1 h3) fun v11 h9 =>
  (gO h9 x0 12).bind fun f12 =>
  gB (F_X12_bar n x0  h9) fun v16 h14 =>
  (gO h14 x0 12).bind fun f17 =>
  gB (F_X12_tellsOf n x0 (233 : Int32) (5 : Int32) h14) fun v21 h19 =>
  (gO h19 x0 12).bind fun f22 =>
  gB (F_X12_most n x0  h19) fun v26 h24 =>
  if (x3 + (((v11 * (v16 - x2)) * v21) / (10 : Int32))) ≤ v26 then
  (F_X12_behind_69 n (x3 + (((v11 * (v16 - x2)) * v21) / (10 : Int32))) h24)
  else
  ((gO h24 x0 12).bind fun f28 =>
  gB (F_X12_most n x0  h24) fun v32 h30 =>
  F_X12_behind_69 n v32 h30))
  else
  ((gO h3 x0 12).bind fun f33 =>
  gB (F_X12_length n x0 x1 h3) fun v37 h35 =>
  (gO h35 x0 12).bind fun f38 =>
  gB (F_X12_bar n x0  h35) fun v42 h40 =>
  some ((x3 - (v37 * (x2 - v42))), h40))
set_option maxRecDepth 20000 in
set_option maxHeartbeats 1600000 in
theorem g_X12_behind_0 {n d : Nat} : ∀ {x0 : Nat} {x1 : Int32} {x2 : Int32} {x3 : Int32} {h : gH} {rh : gH} {rv : Int32}, F_X12_behind_0 n x0 x1 x2 x3 h = some (rv, rh) → G M_X12_behind (d + 2) 0 0 0 0 0 [some (.ref x0), some (.int x1), some (.int x2), some (.int x3), none] [] h (qI rv rh) := by
  intro x0 x1 x2 x3 h rh rv hf
  unfold F_X12_behind_0 at hf
  refine g_iload_n dX12_behind_0 rfl ?_
  refine g_aload_n dX12_behind_1 rfl ?_
  replace hf := Option.bind_eq_some_iff.mp hf
  obtain ⟨f1, q2, hf⟩ := hf
  replace hf := gB_of hf
  obtain ⟨v5, h3, q4, hf⟩ := hf
  refine g_callV (as := []) (mc1 := 0) (ms1 := 0) s_X12_166_X12_bar_12 dX12_behind_2 (gO_of q2) rfl (Nat.le_of_ble_eq_true rfl) (Nat.le_of_ble_eq_true rfl) (Nat.le_of_ble_eq_true rfl) (t_X12_bar (d := d + 0) q4) (fun r9 h9 q9 => ?_)
  obtain ⟨rfl, rfl⟩ := q9
  refine g_stp (st2 := [.int v5, .int x2]) (pc2 := 5) (kc2 := 0) (kn2 := 0) rfl rfl rfl rfl ?_
  refine g_icmp_le (tgt := 23) dX12_behind_5 (by decide) (fun c6 => ?_) (fun c6 => ?_)
  · rw [if_pos c6] at hf
    refine g_iload_n dX12_behind_23 rfl ?_
    refine g_aload_n dX12_behind_24 rfl ?_
    refine g_iload_n dX12_behind_25 rfl ?_
    replace hf := Option.bind_eq_some_iff.mp hf
    obtain ⟨f7, q8, hf⟩ := hf
    replace hf := gB_of hf
    obtain ⟨v11, h9, q10, hf⟩ := hf
    refine g_callV (as := [.int x1]) (mc1 := 0) (ms1 := 0) s_X12_155_X12_length_12 dX12_behind_26 (gO_of q8) rfl (Nat.le_of_ble_eq_true rfl) (Nat.le_of_ble_eq_true rfl) (Nat.le_of_ble_eq_true rfl) (t_X12_length (d := d + 1) q10) (fun r9 h9 q9 => ?_)
    obtain ⟨rfl, rfl⟩ := q9
    refine g_stp (st2 := [.int v11, .int x3]) (pc2 := 29) (kc2 := 0) (kn2 := 0) rfl rfl rfl rfl ?_
    refine g_aload_n dX12_behind_29 rfl ?_
    replace hf := Option.bind_eq_some_iff.mp hf
    obtain ⟨f12, q13, hf⟩ := hf
    replace hf := gB_of hf
    obtain ⟨v16, h14, q15, hf⟩ := hf
    refine g_callV (as := []) (mc1 := 0) (ms1 := 0) s_X12_166_X12_bar_12 dX12_behind_30 (gO_of q13) rfl (Nat.le_of_ble_eq_true rfl) (Nat.le_of_ble_eq_true rfl) (Nat.le_of_ble_eq_true rfl) (t_X12_bar (d := d + 0) q15) (fun r9 h9 q9 => ?_)
    obtain ⟨rfl, rfl⟩ := q9
    refine g_stp (st2 := [.int v16, .int v11, .int x3]) (pc2 := 33) (kc2 := 0) (kn2 := 0) rfl rfl rfl rfl ?_
    refine g_iload_n dX12_behind_33 rfl ?_
    refine g_isub dX12_behind_34 ?_
    refine g_imul dX12_behind_35 ?_
    refine g_aload_n dX12_behind_36 rfl ?_
    refine g_sipush (v := (233 : Int32)) dX12_behind_37 (by decide) ?_
    refine g_iconst (v := (5 : Int32)) dX12_behind_40 (by decide) ?_
    replace hf := Option.bind_eq_some_iff.mp hf
    obtain ⟨f17, q18, hf⟩ := hf
    replace hf := gB_of hf
    obtain ⟨v21, h19, q20, hf⟩ := hf
    refine g_callV (as := [.int (233 : Int32), .int (5 : Int32)]) (mc1 := 0) (ms1 := 0) s_X12_52_X12_tellsOf_12 dX12_behind_41 (gO_of q18) rfl (Nat.le_of_ble_eq_true rfl) (Nat.le_of_ble_eq_true rfl) (Nat.le_of_ble_eq_true rfl) (t_X12_tellsOf (d := d + 1) q20) (fun r9 h9 q9 => ?_)
    obtain ⟨rfl, rfl⟩ := q9
    refine g_stp (st2 := [.int v21, .int (v11 * (v16 - x2)), .int x3]) (pc2 := 44) (kc2 := 0) (kn2 := 0) rfl rfl rfl rfl ?_
    refine g_imul dX12_behind_44 ?_
    refine g_bipush (v := (10 : Int32)) dX12_behind_45 (by decide) ?_
    refine g_idiv dX12_behind_47 (by decide) ?_
    refine g_iadd dX12_behind_48 ?_
    refine g_istore dX12_behind_49 (by decide) (g_lvp (lv2 := [some (.ref x0), some (.int x1), some (.int x2), some (.int x3), some (.int (x3 + (((v11 * (v16 - x2)) * v21) / (10 : Int32))))]) (pc2 := 51) rfl rfl ?_)
    refine g_iload dX12_behind_51 rfl ?_
    refine g_aload_n dX12_behind_53 rfl ?_
    replace hf := Option.bind_eq_some_iff.mp hf
    obtain ⟨f22, q23, hf⟩ := hf
    replace hf := gB_of hf
    obtain ⟨v26, h24, q25, hf⟩ := hf
    refine g_callV (as := []) (mc1 := 0) (ms1 := 0) s_X12_56_X12_most_12 dX12_behind_54 (gO_of q23) rfl (Nat.le_of_ble_eq_true rfl) (Nat.le_of_ble_eq_true rfl) (Nat.le_of_ble_eq_true rfl) (t_X12_most (d := d + 0) q25) (fun r9 h9 q9 => ?_)
    obtain ⟨rfl, rfl⟩ := q9
    refine g_stp (st2 := [.int v26, .int (x3 + (((v11 * (v16 - x2)) * v21) / (10 : Int32)))]) (pc2 := 57) (kc2 := 0) (kn2 := 0) rfl rfl rfl rfl ?_
    refine g_icmp_le (tgt := 67) dX12_behind_57 (by decide) (fun c27 => ?_) (fun c27 => ?_)
    · rw [if_pos c27] at hf
      refine g_iload dX12_behind_67 rfl ?_
      refine g_weak (lv2 := [none, none, none, none, none]) (trivial) ?_
      exact g_X12_behind_69 hf
    · rw [if_neg c27] at hf
      refine g_aload_n dX12_behind_60 rfl ?_
      replace hf := Option.bind_eq_some_iff.mp hf
      obtain ⟨f28, q29, hf⟩ := hf
      replace hf := gB_of hf
      obtain ⟨v32, h30, q31, hf⟩ := hf
      refine g_callV (as := []) (mc1 := 0) (ms1 := 0) s_X12_56_X12_most_12 dX12_behind_61 (gO_of q29) rfl (Nat.le_of_ble_eq_true rfl) (Nat.le_of_ble_eq_true rfl) (Nat.le_of_ble_eq_true rfl) (t_X12_most (d := d + 0) q31) (fun r9 h9 q9 => ?_)
      obtain ⟨rfl, rfl⟩ := q9
      refine g_stp (st2 := [.int v32]) (pc2 := 64) (kc2 := 0) (kn2 := 0) rfl rfl rfl rfl ?_
      refine g_goto (tgt := 69) dX12_behind_64 (by decide) ?_
      refine g_weak (lv2 := [none, none, none, none, none]) (trivial) ?_
      exact g_X12_behind_69 hf
  · rw [if_neg c6] at hf
    refine g_iload_n dX12_behind_8 rfl ?_
    refine g_aload_n dX12_behind_9 rfl ?_
    refine g_iload_n dX12_behind_10 rfl ?_
    replace hf := Option.bind_eq_some_iff.mp hf
    obtain ⟨f33, q34, hf⟩ := hf
    replace hf := gB_of hf
    obtain ⟨v37, h35, q36, hf⟩ := hf
    refine g_callV (as := [.int x1]) (mc1 := 0) (ms1 := 0) s_X12_155_X12_length_12 dX12_behind_11 (gO_of q34) rfl (Nat.le_of_ble_eq_true rfl) (Nat.le_of_ble_eq_true rfl) (Nat.le_of_ble_eq_true rfl) (t_X12_length (d := d + 1) q36) (fun r9 h9 q9 => ?_)
    obtain ⟨rfl, rfl⟩ := q9
    refine g_stp (st2 := [.int v37, .int x3]) (pc2 := 14) (kc2 := 0) (kn2 := 0) rfl rfl rfl rfl ?_
    refine g_iload_n dX12_behind_14 rfl ?_
    refine g_aload_n dX12_behind_15 rfl ?_
    replace hf := Option.bind_eq_some_iff.mp hf
    obtain ⟨f38, q39, hf⟩ := hf
    replace hf := gB_of hf
    obtain ⟨v42, h40, q41, hf⟩ := hf
    refine g_callV (as := []) (mc1 := 0) (ms1 := 0) s_X12_166_X12_bar_12 dX12_behind_16 (gO_of q39) rfl (Nat.le_of_ble_eq_true rfl) (Nat.le_of_ble_eq_true rfl) (Nat.le_of_ble_eq_true rfl) (t_X12_bar (d := d + 0) q41) (fun r9 h9 q9 => ?_)
    obtain ⟨rfl, rfl⟩ := q9
    refine g_stp (st2 := [.int v42, .int x2, .int v37, .int x3]) (pc2 := 19) (kc2 := 0) (kn2 := 0) rfl rfl rfl rfl ?_
    refine g_isub dX12_behind_19 ?_
    refine g_imul dX12_behind_20 ?_
    refine g_isub dX12_behind_21 ?_
    obtain ⟨rfl, rfl⟩ := Prod.mk.inj (Option.some.inj hf)
    exact g_iret dX12_behind_22 rfl ⟨rfl, rfl⟩ (Nat.le_of_ble_eq_true rfl) (Nat.le_of_ble_eq_true rfl)
def F_X12_behind (n : Nat) (a : Nat) (p0 : Int32) (p1 : Int32) (p2 : Int32) (h : gH) : Option (Int32 × gH) := F_X12_behind_0 n  a p0 p1 p2 h
theorem t_X12_behind {n d : Nat} {a : Nat} {p0 : Int32} {p1 : Int32} {p2 : Int32} {h rh : gH} {rv : Int32} (hf : F_X12_behind n a p0 p1 p2 h = some (rv, rh)) : T M_X12_behind (d + 2) 0 0 [.ref a, .int p0, .int p1, .int p2] h (qI rv rh) := by
  refine T_of_G (L := 1) (by decide +kernel) rfl (Nat.le_of_ble_eq_true rfl) (g_lv (lv2 := [some (.ref a), some (.int p0), some (.int p1), some (.int p2), none]) rfl ?_)
  exact g_X12_behind_0 hf
def F_X12_bend_30 (n : Nat)  (y0 : Int32) (h : gH) : Option (Int32 × gH) :=
  some (y0, h)
set_option maxRecDepth 20000 in
set_option maxHeartbeats 1600000 in
theorem g_X12_bend_30 {n d : Nat} : ∀ {y0 : Int32} {h : gH} {rh : gH} {rv : Int32}, F_X12_bend_30 n y0 h = some (rv, rh) → G M_X12_bend d 0 0 0 0 30 [none, none, none] [.int y0] h (qI rv rh) := by
  intro y0 h rh rv hf
  unfold F_X12_bend_30 at hf
  obtain ⟨rfl, rfl⟩ := Prod.mk.inj (Option.some.inj hf)
  exact g_iret dX12_bend_30 rfl ⟨rfl, rfl⟩ (Nat.le_of_ble_eq_true rfl) (Nat.le_of_ble_eq_true rfl)
def F_X12_bend_0 (n : Nat)  (x0 : Nat) (x1 : Int32) (h : gH) : Option (Int32 × gH) :=
  (gR h x0 12 1).bind fun v1 =>
  (gR h x0 12 1).bind fun v3 =>
  (aI h v3 (4 : Int32)).bind fun v5 =>
  (aI h v1 (((363 : Int32) + ((10 : Int32) * v5)) + x1)).bind fun v7 =>
  if v7 = 0 then
  (F_X12_bend_30 n (1 : Int32) h)
  else
  (F_X12_bend_30 n v7 h)
set_option maxRecDepth 20000 in
set_option maxHeartbeats 1600000 in
theorem g_X12_bend_0 {n d : Nat} : ∀ {x0 : Nat} {x1 : Int32} {h : gH} {rh : gH} {rv : Int32}, F_X12_bend_0 n x0 x1 h = some (rv, rh) → G M_X12_bend d 0 0 0 0 0 [some (.ref x0), some (.int x1), none] [] h (qI rv rh) := by
  intro x0 x1 h rh rv hf
  unfold F_X12_bend_0 at hf
  refine g_aload_n dX12_bend_0 rfl ?_
  replace hf := Option.bind_eq_some_iff.mp hf
  obtain ⟨v1, q2, hf⟩ := hf
  refine g_gR f_X12_9 dX12_bend_1 q2 ?_
  refine g_sipush (v := (363 : Int32)) dX12_bend_4 (by decide) ?_
  refine g_bipush (v := (10 : Int32)) dX12_bend_7 (by decide) ?_
  refine g_aload_n dX12_bend_9 rfl ?_
  replace hf := Option.bind_eq_some_iff.mp hf
  obtain ⟨v3, q4, hf⟩ := hf
  refine g_gR f_X12_9 dX12_bend_10 q4 ?_
  refine g_iconst (v := (4 : Int32)) dX12_bend_13 (by decide) ?_
  replace hf := Option.bind_eq_some_iff.mp hf
  obtain ⟨v5, q6, hf⟩ := hf
  refine g_aI dX12_bend_14 q6 ?_
  refine g_imul dX12_bend_15 ?_
  refine g_iadd dX12_bend_16 ?_
  refine g_iload_n dX12_bend_17 rfl ?_
  refine g_iadd dX12_bend_18 ?_
  replace hf := Option.bind_eq_some_iff.mp hf
  obtain ⟨v7, q8, hf⟩ := hf
  refine g_aI dX12_bend_19 q8 ?_
  refine g_istore_n dX12_bend_20 (by decide) (g_lvp (lv2 := [some (.ref x0), some (.int x1), some (.int v7)]) (pc2 := 21) rfl rfl ?_)
  refine g_iload_n dX12_bend_21 rfl ?_
  refine g_if_ne (tgt := 29) dX12_bend_22 (by decide) (fun c9 => ?_) (fun c9 => ?_)
  · rw [if_neg c9] at hf
    refine g_iload_n dX12_bend_29 rfl ?_
    refine g_weak (lv2 := [none, none, none]) (trivial) ?_
    exact g_X12_bend_30 hf
  · rw [if_pos c9] at hf
    refine g_iconst (v := (1 : Int32)) dX12_bend_25 (by decide) ?_
    refine g_goto (tgt := 30) dX12_bend_26 (by decide) ?_
    refine g_weak (lv2 := [none, none, none]) (trivial) ?_
    exact g_X12_bend_30 hf
def F_X12_bend (n : Nat) (a : Nat) (p0 : Int32) (h : gH) : Option (Int32 × gH) := F_X12_bend_0 n  a p0 h
theorem t_X12_bend {n d : Nat} {a : Nat} {p0 : Int32} {h rh : gH} {rv : Int32} (hf : F_X12_bend n a p0 h = some (rv, rh)) : T M_X12_bend d 0 0 [.ref a, .int p0] h (qI rv rh) := by
  refine T_of_G (L := 1) (by decide +kernel) rfl (Nat.le_of_ble_eq_true rfl) (g_lv (lv2 := [some (.ref a), some (.int p0), none]) rfl ?_)
  exact g_X12_bend_0 hf
def F_X12_pieces_29 (n : Nat)  (y0 : Int32) (h : gH) : Option (Int32 × gH) :=
  some (y0, h)
set_option maxRecDepth 20000 in
set_option maxHeartbeats 1600000 in
theorem g_X12_pieces_29 {n d : Nat} : ∀ {y0 : Int32} {h : gH} {rh : gH} {rv : Int32}, F_X12_pieces_29 n y0 h = some (rv, rh) → G M_X12_pieces d 0 0 0 0 29 [none] [.int y0] h (qI rv rh) := by
  intro y0 h rh rv hf
  unfold F_X12_pieces_29 at hf
  obtain ⟨rfl, rfl⟩ := Prod.mk.inj (Option.some.inj hf)
  exact g_iret dX12_pieces_29 rfl ⟨rfl, rfl⟩ (Nat.le_of_ble_eq_true rfl) (Nat.le_of_ble_eq_true rfl)
def F_X12_pieces_0 (n : Nat)  (x0 : Nat) (h : gH) : Option (Int32 × gH) :=
  (gR h x0 12 1).bind fun v1 =>
  (aI h v1 (4 : Int32)).bind fun v3 =>
  if v3 = (-1 : Int32) then
  (F_X12_pieces_29 n (0 : Int32) h)
  else
  ((gR h x0 12 1).bind fun v6 =>
  (gR h x0 12 1).bind fun v8 =>
  (aI h v8 (4 : Int32)).bind fun v10 =>
  (aI h v6 ((218 : Int32) + v10)).bind fun v12 =>
  F_X12_pieces_29 n v12 h)
set_option maxRecDepth 20000 in
set_option maxHeartbeats 1600000 in
theorem g_X12_pieces_0 {n d : Nat} : ∀ {x0 : Nat} {h : gH} {rh : gH} {rv : Int32}, F_X12_pieces_0 n x0 h = some (rv, rh) → G M_X12_pieces d 0 0 0 0 0 [some (.ref x0)] [] h (qI rv rh) := by
  intro x0 h rh rv hf
  unfold F_X12_pieces_0 at hf
  refine g_aload_n dX12_pieces_0 rfl ?_
  replace hf := Option.bind_eq_some_iff.mp hf
  obtain ⟨v1, q2, hf⟩ := hf
  refine g_gR f_X12_9 dX12_pieces_1 q2 ?_
  refine g_iconst (v := (4 : Int32)) dX12_pieces_4 (by decide) ?_
  replace hf := Option.bind_eq_some_iff.mp hf
  obtain ⟨v3, q4, hf⟩ := hf
  refine g_aI dX12_pieces_5 q4 ?_
  refine g_iconst (v := (-1 : Int32)) dX12_pieces_6 (by decide) ?_
  refine g_icmp_ne (tgt := 14) dX12_pieces_7 (by decide) (fun c5 => ?_) (fun c5 => ?_)
  · rw [if_neg c5] at hf
    refine g_aload_n dX12_pieces_14 rfl ?_
    replace hf := Option.bind_eq_some_iff.mp hf
    obtain ⟨v6, q7, hf⟩ := hf
    refine g_gR f_X12_9 dX12_pieces_15 q7 ?_
    refine g_sipush (v := (218 : Int32)) dX12_pieces_18 (by decide) ?_
    refine g_aload_n dX12_pieces_21 rfl ?_
    replace hf := Option.bind_eq_some_iff.mp hf
    obtain ⟨v8, q9, hf⟩ := hf
    refine g_gR f_X12_9 dX12_pieces_22 q9 ?_
    refine g_iconst (v := (4 : Int32)) dX12_pieces_25 (by decide) ?_
    replace hf := Option.bind_eq_some_iff.mp hf
    obtain ⟨v10, q11, hf⟩ := hf
    refine g_aI dX12_pieces_26 q11 ?_
    refine g_iadd dX12_pieces_27 ?_
    replace hf := Option.bind_eq_some_iff.mp hf
    obtain ⟨v12, q13, hf⟩ := hf
    refine g_aI dX12_pieces_28 q13 ?_
    refine g_weak (lv2 := [none]) (trivial) ?_
    exact g_X12_pieces_29 hf
  · rw [if_pos c5] at hf
    refine g_iconst (v := (0 : Int32)) dX12_pieces_10 (by decide) ?_
    refine g_goto (tgt := 29) dX12_pieces_11 (by decide) ?_
    refine g_weak (lv2 := [none]) (trivial) ?_
    exact g_X12_pieces_29 hf
def F_X12_pieces (n : Nat) (a : Nat) (h : gH) : Option (Int32 × gH) := F_X12_pieces_0 n  a h
theorem t_X12_pieces {n d : Nat} {a : Nat} {h rh : gH} {rv : Int32} (hf : F_X12_pieces n a h = some (rv, rh)) : T M_X12_pieces d 0 0 [.ref a] h (qI rv rh) := by
  refine T_of_G (L := 0) (by decide +kernel) rfl (Nat.le_of_ble_eq_true rfl) (g_lv (lv2 := [some (.ref a)]) rfl ?_)
  exact g_X12_pieces_0 hf
def F_X12_easeOf_288 (n : Nat) (k22 : Nat → Int32 → Int32 → Int32 → Int32 → gH → Option (Int32 × gH)) (x0 : Nat) (x1 : Int32) (x2 : Int32) (x3 : Int32) (x4 : Int32) (h : gH) : Option (Int32 × gH) :=
  k22 x0 x1 x2 x3 (x4 + (1 : Int32)) h
set_option maxRecDepth 20000 in
set_option maxHeartbeats 1600000 in
theorem g_X12_easeOf_288 {n d : Nat} {k22 : Nat → Int32 → Int32 → Int32 → Int32 → gH → Option (Int32 × gH)} (t22 : ∀ {x0 : Nat} {x1 : Int32} {x2 : Int32} {x3 : Int32} {x4 : Int32} {h : gH} {rh : gH} {rv : Int32}, k22 x0 x1 x2 x3 x4 h = some (rv, rh) → G M_X12_easeOf d 0 0 0 0 22 [some (.ref x0), some (.int x1), some (.int x2), some (.int x3), some (.int x4), none, none, none, none] [] h (qI rv rh)) : ∀ {x0 : Nat} {x1 : Int32} {x2 : Int32} {x3 : Int32} {x4 : Int32} {h : gH} {rh : gH} {rv : Int32}, F_X12_easeOf_288 n k22 x0 x1 x2 x3 x4 h = some (rv, rh) → G M_X12_easeOf d 0 0 0 0 288 [some (.ref x0), some (.int x1), some (.int x2), some (.int x3), some (.int x4), none, none, none, none] [] h (qI rv rh) := by
  intro x0 x1 x2 x3 x4 h rh rv hf
  unfold F_X12_easeOf_288 at hf
  refine g_iinc2 (w := (1 : Int32)) dX12_easeOf_288 (by decide) rfl (by decide) (g_lvp (lv2 := [some (.ref x0), some (.int x1), some (.int x2), some (.int x3), some (.int (x4 + (1 : Int32))), none, none, none, none]) (pc2 := 291) rfl rfl ?_)
  refine g_goto (tgt := 22) dX12_easeOf_291 (by decide) ?_
  exact t22 hf
def F_X12_easeOf_286 (n : Nat) (k22 : Nat → Int32 → Int32 → Int32 → Int32 → gH → Option (Int32 × gH)) (x0 : Nat) (x2 : Int32) (x3 : Int32) (x4 : Int32) (y0 : Int32) (y1 : Int32) (h : gH) : Option (Int32 × gH) :=
  F_X12_easeOf_288 n (k22) x0 (y0 + y1) x2 x3 x4 h
set_option maxRecDepth 20000 in
set_option maxHeartbeats 1600000 in
theorem g_X12_easeOf_286 {n d : Nat} {k22 : Nat → Int32 → Int32 → Int32 → Int32 → gH → Option (Int32 × gH)} (t22 : ∀ {x0 : Nat} {x1 : Int32} {x2 : Int32} {x3 : Int32} {x4 : Int32} {h : gH} {rh : gH} {rv : Int32}, k22 x0 x1 x2 x3 x4 h = some (rv, rh) → G M_X12_easeOf d 0 0 0 0 22 [some (.ref x0), some (.int x1), some (.int x2), some (.int x3), some (.int x4), none, none, none, none] [] h (qI rv rh)) : ∀ {x0 : Nat} {x2 : Int32} {x3 : Int32} {x4 : Int32} {y0 : Int32} {y1 : Int32} {h : gH} {rh : gH} {rv : Int32}, F_X12_easeOf_286 n k22 x0 x2 x3 x4 y0 y1 h = some (rv, rh) → G M_X12_easeOf d 0 0 0 0 286 [some (.ref x0), none, some (.int x2), some (.int x3), some (.int x4), none, none, none, none] [.int y1, .int y0] h (qI rv rh) := by
  intro x0 x2 x3 x4 y0 y1 h rh rv hf
  unfold F_X12_easeOf_286 at hf
  refine g_iadd dX12_easeOf_286 ?_
  refine g_istore_n dX12_easeOf_287 (by decide) (g_lvp (lv2 := [some (.ref x0), some (.int (y0 + y1)), some (.int x2), some (.int x3), some (.int x4), none, none, none, none]) (pc2 := 288) rfl rfl ?_)
  exact g_X12_easeOf_288 t22 hf
def F_X12_easeOf_261 (n : Nat) (k22 : Nat → Int32 → Int32 → Int32 → Int32 → gH → Option (Int32 × gH)) (x0 : Nat) (x1 : Int32) (x2 : Int32) (x3 : Int32) (x4 : Int32) (y0 : Nat) (y1 : Int32) (y2 : Int32) (h : gH) : Option (Int32 × gH) :=
  (sZ h y0 y1 y2).bind fun h1 =>
  F_X12_easeOf_288 n (k22) x0 x1 x2 x3 x4 h1
set_option maxRecDepth 20000 in
set_option maxHeartbeats 1600000 in
theorem g_X12_easeOf_261 {n d : Nat} {k22 : Nat → Int32 → Int32 → Int32 → Int32 → gH → Option (Int32 × gH)} (t22 : ∀ {x0 : Nat} {x1 : Int32} {x2 : Int32} {x3 : Int32} {x4 : Int32} {h : gH} {rh : gH} {rv : Int32}, k22 x0 x1 x2 x3 x4 h = some (rv, rh) → G M_X12_easeOf d 0 0 0 0 22 [some (.ref x0), some (.int x1), some (.int x2), some (.int x3), some (.int x4), none, none, none, none] [] h (qI rv rh)) : ∀ {x0 : Nat} {x1 : Int32} {x2 : Int32} {x3 : Int32} {x4 : Int32} {y0 : Nat} {y1 : Int32} {y2 : Int32} {h : gH} {rh : gH} {rv : Int32}, F_X12_easeOf_261 n k22 x0 x1 x2 x3 x4 y0 y1 y2 h = some (rv, rh) → G M_X12_easeOf d 0 0 0 0 261 [some (.ref x0), some (.int x1), some (.int x2), some (.int x3), some (.int x4), none, none, none, none] [.int y2, .int y1, .ref y0] h (qI rv rh) := by
  intro x0 x1 x2 x3 x4 y0 y1 y2 h rh rv hf
  unfold F_X12_easeOf_261 at hf
  replace hf := Option.bind_eq_some_iff.mp hf
  obtain ⟨h1, q2, hf⟩ := hf
  refine g_sZ dX12_easeOf_261 q2 ?_
  refine g_goto (tgt := 288) dX12_easeOf_262 (by decide) ?_
  exact g_X12_easeOf_288 t22 hf
def F_X12_easeOf_256 (n : Nat) (k22 : Nat → Int32 → Int32 → Int32 → Int32 → gH → Option (Int32 × gH)) (x0 : Nat) (x1 : Int32) (x2 : Int32) (x3 : Int32) (x4 : Int32) (y0 : Nat) (y1 : Int32) (h : gH) : Option (Int32 × gH) :=
  F_X12_easeOf_261 n (k22) x0 x1 x2 x3 x4 y0 y1 (1 : Int32) h
set_option maxRecDepth 20000 in
set_option maxHeartbeats 1600000 in
theorem g_X12_easeOf_256 {n d : Nat} {k22 : Nat → Int32 → Int32 → Int32 → Int32 → gH → Option (Int32 × gH)} (t22 : ∀ {x0 : Nat} {x1 : Int32} {x2 : Int32} {x3 : Int32} {x4 : Int32} {h : gH} {rh : gH} {rv : Int32}, k22 x0 x1 x2 x3 x4 h = some (rv, rh) → G M_X12_easeOf d 0 0 0 0 22 [some (.ref x0), some (.int x1), some (.int x2), some (.int x3), some (.int x4), none, none, none, none] [] h (qI rv rh)) : ∀ {x0 : Nat} {x1 : Int32} {x2 : Int32} {x3 : Int32} {x4 : Int32} {y0 : Nat} {y1 : Int32} {h : gH} {rh : gH} {rv : Int32}, F_X12_easeOf_256 n k22 x0 x1 x2 x3 x4 y0 y1 h = some (rv, rh) → G M_X12_easeOf d 0 0 0 0 256 [some (.ref x0), some (.int x1), some (.int x2), some (.int x3), some (.int x4), none, none, none, none] [.int y1, .ref y0] h (qI rv rh) := by
  intro x0 x1 x2 x3 x4 y0 y1 h rh rv hf
  unfold F_X12_easeOf_256 at hf
  refine g_iconst (v := (1 : Int32)) dX12_easeOf_256 (by decide) ?_
  refine g_goto (tgt := 261) dX12_easeOf_257 (by decide) ?_
  exact g_X12_easeOf_261 t22 hf
def F_X12_easeOf_232 (n : Nat) (k22 : Nat → Int32 → Int32 → Int32 → Int32 → gH → Option (Int32 × gH)) (x0 : Nat) (x1 : Int32) (x2 : Int32) (x3 : Int32) (x4 : Int32) (y0 : Nat) (y1 : Int32) (h : gH) : Option (Int32 × gH) :=
  F_X12_easeOf_261 n (k22) x0 x1 x2 x3 x4 y0 y1 (0 : Int32) h
set_option maxRecDepth 20000 in
set_option maxHeartbeats 1600000 in
theorem g_X12_easeOf_232 {n d : Nat} {k22 : Nat → Int32 → Int32 → Int32 → Int32 → gH → Option (Int32 × gH)} (t22 : ∀ {x0 : Nat} {x1 : Int32} {x2 : Int32} {x3 : Int32} {x4 : Int32} {h : gH} {rh : gH} {rv : Int32}, k22 x0 x1 x2 x3 x4 h = some (rv, rh) → G M_X12_easeOf d 0 0 0 0 22 [some (.ref x0), some (.int x1), some (.int x2), some (.int x3), some (.int x4), none, none, none, none] [] h (qI rv rh)) : ∀ {x0 : Nat} {x1 : Int32} {x2 : Int32} {x3 : Int32} {x4 : Int32} {y0 : Nat} {y1 : Int32} {h : gH} {rh : gH} {rv : Int32}, F_X12_easeOf_232 n k22 x0 x1 x2 x3 x4 y0 y1 h = some (rv, rh) → G M_X12_easeOf d 0 0 0 0 232 [some (.ref x0), some (.int x1), some (.int x2), some (.int x3), some (.int x4), none, none, none, none] [.int y1, .ref y0] h (qI rv rh) := by
  intro x0 x1 x2 x3 x4 y0 y1 h rh rv hf
  unfold F_X12_easeOf_232 at hf
  refine g_iconst (v := (0 : Int32)) dX12_easeOf_232 (by decide) ?_
  refine g_goto (tgt := 261) dX12_easeOf_233 (by decide) ?_
  exact g_X12_easeOf_261 t22 hf
def F_X12_easeOf_180 (n : Nat) (k22 : Nat → Int32 → Int32 → Int32 → Int32 → gH → Option (Int32 × gH)) (x0 : Nat) (x1 : Int32) (x2 : Int32) (x3 : Int32) (x4 : Int32) (y0 : Nat) (y1 : Int32) (y2 : Int32) (h : gH) : Option (Int32 × gH) :=
  (sZ h y0 y1 y2).bind fun h1 =>
  F_X12_easeOf_288 n (k22) x0 x1 x2 x3 x4 h1
set_option maxRecDepth 20000 in
set_option maxHeartbeats 1600000 in
theorem g_X12_easeOf_180 {n d : Nat} {k22 : Nat → Int32 → Int32 → Int32 → Int32 → gH → Option (Int32 × gH)} (t22 : ∀ {x0 : Nat} {x1 : Int32} {x2 : Int32} {x3 : Int32} {x4 : Int32} {h : gH} {rh : gH} {rv : Int32}, k22 x0 x1 x2 x3 x4 h = some (rv, rh) → G M_X12_easeOf d 0 0 0 0 22 [some (.ref x0), some (.int x1), some (.int x2), some (.int x3), some (.int x4), none, none, none, none] [] h (qI rv rh)) : ∀ {x0 : Nat} {x1 : Int32} {x2 : Int32} {x3 : Int32} {x4 : Int32} {y0 : Nat} {y1 : Int32} {y2 : Int32} {h : gH} {rh : gH} {rv : Int32}, F_X12_easeOf_180 n k22 x0 x1 x2 x3 x4 y0 y1 y2 h = some (rv, rh) → G M_X12_easeOf d 0 0 0 0 180 [some (.ref x0), some (.int x1), some (.int x2), some (.int x3), some (.int x4), none, none, none, none] [.int y2, .int y1, .ref y0] h (qI rv rh) := by
  intro x0 x1 x2 x3 x4 y0 y1 y2 h rh rv hf
  unfold F_X12_easeOf_180 at hf
  replace hf := Option.bind_eq_some_iff.mp hf
  obtain ⟨h1, q2, hf⟩ := hf
  refine g_sZ dX12_easeOf_180 q2 ?_
  refine g_goto (tgt := 288) dX12_easeOf_181 (by decide) ?_
  exact g_X12_easeOf_288 t22 hf
def F_X12_easeOf_144 (n : Nat) (k22 : Nat → Int32 → Int32 → Int32 → Int32 → gH → Option (Int32 × gH)) (x0 : Nat) (x1 : Int32) (x2 : Int32) (x3 : Int32) (x4 : Int32) (y0 : Nat) (y1 : Int32) (y2 : Int32) (h : gH) : Option (Int32 × gH) :=
  (sZ h y0 y1 y2).bind fun h1 =>
  F_X12_easeOf_288 n (k22) x0 x1 (x2 + (1 : Int32)) x3 x4 h1
set_option maxRecDepth 20000 in
set_option maxHeartbeats 1600000 in
theorem g_X12_easeOf_144 {n d : Nat} {k22 : Nat → Int32 → Int32 → Int32 → Int32 → gH → Option (Int32 × gH)} (t22 : ∀ {x0 : Nat} {x1 : Int32} {x2 : Int32} {x3 : Int32} {x4 : Int32} {h : gH} {rh : gH} {rv : Int32}, k22 x0 x1 x2 x3 x4 h = some (rv, rh) → G M_X12_easeOf d 0 0 0 0 22 [some (.ref x0), some (.int x1), some (.int x2), some (.int x3), some (.int x4), none, none, none, none] [] h (qI rv rh)) : ∀ {x0 : Nat} {x1 : Int32} {x2 : Int32} {x3 : Int32} {x4 : Int32} {y0 : Nat} {y1 : Int32} {y2 : Int32} {h : gH} {rh : gH} {rv : Int32}, F_X12_easeOf_144 n k22 x0 x1 x2 x3 x4 y0 y1 y2 h = some (rv, rh) → G M_X12_easeOf d 0 0 0 0 144 [some (.ref x0), some (.int x1), some (.int x2), some (.int x3), some (.int x4), none, none, none, none] [.int y2, .int y1, .ref y0] h (qI rv rh) := by
  intro x0 x1 x2 x3 x4 y0 y1 y2 h rh rv hf
  unfold F_X12_easeOf_144 at hf
  replace hf := Option.bind_eq_some_iff.mp hf
  obtain ⟨h1, q2, hf⟩ := hf
  refine g_sZ dX12_easeOf_144 q2 ?_
  refine g_iinc2 (w := (1 : Int32)) dX12_easeOf_145 (by decide) rfl (by decide) (g_lvp (lv2 := [some (.ref x0), some (.int x1), some (.int (x2 + (1 : Int32))), some (.int x3), some (.int x4), none, none, none, none]) (pc2 := 148) rfl rfl ?_)
  refine g_goto (tgt := 288) dX12_easeOf_148 (by decide) ?_
  exact g_X12_easeOf_288 t22 hf
def F_X12_easeOf_22 (n : Nat)  : Nat → Nat → Int32 → Int32 → Int32 → Int32 → gH → Option (Int32 × gH)
  | 0, _, _, _, _, _, _ => none
  | m + 1, x0, x1, x2, x3, x4, h => (gR h x0 12 1).bind fun v1 =>
  (gR h x0 12 1).bind fun v3 =>
  (aI h v3 (4 : Int32)).bind fun v5 =>
  (aI h v1 ((413 : Int32) + v5)).bind fun v7 =>
  if (x3 + v7) ≤ x4 then
  (some (x1, h))
  else
  ((gR h x0 12 1).bind fun v10 =>
  (aI h v10 x4).bind fun v12 =>
  if v12 < 0 then
  (if v12 = (-1 : Int32) then
  ((gR h x0 12 10).bind fun v45 =>
  (gR h x0 12 10).bind fun v47 =>
  (aZ h v47 (x2 - (1 : Int32))).bind fun v49 =>
  if v49 = 0 then
  (F_X12_easeOf_180 n (F_X12_easeOf_22 n m) x0 x1 x2 x3 x4 v45 (x2 - (1 : Int32)) (1 : Int32) h)
  else
  (F_X12_easeOf_180 n (F_X12_easeOf_22 n m) x0 x1 x2 x3 x4 v45 (x2 - (1 : Int32)) (0 : Int32) h))
  else
  (if v12 ≤ (-10 : Int32) then
  ((gR h x0 12 10).bind fun v17 =>
  (aZ h v17 (0 : Int32)).bind fun v19 =>
  if v19 = 0 then
  (F_X12_easeOf_286 n (F_X12_easeOf_22 n m) x0 (0 : Int32) x3 x4 x1 (0 : Int32) h)
  else
  (F_X12_easeOf_286 n (F_X12_easeOf_22 n m) x0 (0 : Int32) x3 x4 x1 ((-10 : Int32) - v12) h))
  else
  ((gR h x0 12 10).bind fun v22 =>
  if v12 = (-2 : Int32) then
  ((gR h x0 12 10).bind fun v35 =>
  (aZ h v35 ((x2 + (-1 : Int32)) - (1 : Int32))).bind fun v37 =>
  if v37 = 0 then
  (F_X12_easeOf_232 n (F_X12_easeOf_22 n m) x0 x1 (x2 + (-1 : Int32)) x3 x4 v22 ((x2 + (-1 : Int32)) - (1 : Int32)) h)
  else
  ((gR h x0 12 10).bind fun v40 =>
  (aZ h v40 (x2 + (-1 : Int32))).bind fun v42 =>
  if v42 = 0 then
  (F_X12_easeOf_232 n (F_X12_easeOf_22 n m) x0 x1 (x2 + (-1 : Int32)) x3 x4 v22 ((x2 + (-1 : Int32)) - (1 : Int32)) h)
  else
  (F_X12_easeOf_261 n (F_X12_easeOf_22 n m) x0 x1 (x2 + (-1 : Int32)) x3 x4 v22 ((x2 + (-1 : Int32)) - (1 : Int32)) (1 : Int32) h)))
  else
  ((gR h x0 12 10).bind fun v25 =>
  (aZ h v25 ((x2 + (-1 : Int32)) - (1 : Int32))).bind fun v27 =>
  if v27 = 0 then
  ((gR h x0 12 10).bind fun v30 =>
  (aZ h v30 (x2 + (-1 : Int32))).bind fun v32 =>
  if v32 = 0 then
  (F_X12_easeOf_261 n (F_X12_easeOf_22 n m) x0 x1 (x2 + (-1 : Int32)) x3 x4 v22 ((x2 + (-1 : Int32)) - (1 : Int32)) (0 : Int32) h)
  else
  (F_X12_easeOf_256 n (F_X12_easeOf_22 n m) x0 x1 (x2 + (-1 : Int32)) x3 x4 v22 ((x2 + (-1 : Int32)) - (1 : Int32)) h))
  else
  (F_X12_easeOf_256 n (F_X12_easeOf_22 n m) x0 x1 (x2 + (-1 : Int32)) x3 x4 v22 ((x2 + (-1 : Int32)) - (1 : Int32)) h)))))
  else
  ((gR h x0 12 9).bind fun v52 =>
  (aI h v52 (v12 - v12 / (8 : Int32) * (8 : Int32))).bind fun v54 =>
  (gR h x0 12 10).bind fun v56 =>
  if ((v12 / (8 : Int32)) - (v12 / (8 : Int32)) / (4 : Int32) * (4 : Int32)) = 0 then
  (if (v12 / (32 : Int32)) ≤ v54 then
  (F_X12_easeOf_144 n (F_X12_easeOf_22 n m) x0 x1 x2 x3 x4 v56 x2 (0 : Int32) h)
  else
  (F_X12_easeOf_144 n (F_X12_easeOf_22 n m) x0 x1 x2 x3 x4 v56 x2 (1 : Int32) h))
  else
  (if ((v12 / (8 : Int32)) - (v12 / (8 : Int32)) / (4 : Int32) * (4 : Int32)) = (1 : Int32) then
  (if v54 = (v12 / (32 : Int32)) then
  (F_X12_easeOf_144 n (F_X12_easeOf_22 n m) x0 x1 x2 x3 x4 v56 x2 (1 : Int32) h)
  else
  (F_X12_easeOf_144 n (F_X12_easeOf_22 n m) x0 x1 x2 x3 x4 v56 x2 (0 : Int32) h))
  else
  (if v54 ≤ (v12 / (32 : Int32)) then
  (F_X12_easeOf_144 n (F_X12_easeOf_22 n m) x0 x1 x2 x3 x4 v56 x2 (0 : Int32) h)
  else
  (F_X12_easeOf_144 n (F_X12_easeOf_22 n m) x0 x1 x2 x3 x4 v56 x2 (1 : Int32) h)))))
set_option maxRecDepth 20000 in
set_option maxHeartbeats 1600000 in
theorem g_X12_easeOf_22 {n d : Nat} : ∀ {m : Nat} {x0 : Nat} {x1 : Int32} {x2 : Int32} {x3 : Int32} {x4 : Int32} {h : gH} {rh : gH} {rv : Int32}, F_X12_easeOf_22 n m x0 x1 x2 x3 x4 h = some (rv, rh) → G M_X12_easeOf d 0 0 0 0 22 [some (.ref x0), some (.int x1), some (.int x2), some (.int x3), some (.int x4), none, none, none, none] [] h (qI rv rh) := by
  intro m
  induction m with
  | zero => intro x0 x1 x2 x3 x4 h rh rv hf; cases hf
  | succ m t22 =>
    intro x0 x1 x2 x3 x4 h rh rv hf
    unfold F_X12_easeOf_22 at hf
    refine g_iload dX12_easeOf_22 rfl ?_
    refine g_iload_n dX12_easeOf_24 rfl ?_
    refine g_aload_n dX12_easeOf_25 rfl ?_
    replace hf := Option.bind_eq_some_iff.mp hf
    obtain ⟨v1, q2, hf⟩ := hf
    refine g_gR f_X12_9 dX12_easeOf_26 q2 ?_
    refine g_sipush (v := (413 : Int32)) dX12_easeOf_29 (by decide) ?_
    refine g_aload_n dX12_easeOf_32 rfl ?_
    replace hf := Option.bind_eq_some_iff.mp hf
    obtain ⟨v3, q4, hf⟩ := hf
    refine g_gR f_X12_9 dX12_easeOf_33 q4 ?_
    refine g_iconst (v := (4 : Int32)) dX12_easeOf_36 (by decide) ?_
    replace hf := Option.bind_eq_some_iff.mp hf
    obtain ⟨v5, q6, hf⟩ := hf
    refine g_aI dX12_easeOf_37 q6 ?_
    refine g_iadd dX12_easeOf_38 ?_
    replace hf := Option.bind_eq_some_iff.mp hf
    obtain ⟨v7, q8, hf⟩ := hf
    refine g_aI dX12_easeOf_39 q8 ?_
    refine g_iadd dX12_easeOf_40 ?_
    refine g_icmp_ge (tgt := 294) dX12_easeOf_41 (by decide) (fun c9 => ?_) (fun c9 => ?_)
    · rw [if_pos c9] at hf
      refine g_iload_n dX12_easeOf_294 rfl ?_
      obtain ⟨rfl, rfl⟩ := Prod.mk.inj (Option.some.inj hf)
      exact g_iret dX12_easeOf_295 rfl ⟨rfl, rfl⟩ (Nat.le_of_ble_eq_true rfl) (Nat.le_of_ble_eq_true rfl)
    · rw [if_neg c9] at hf
      refine g_aload_n dX12_easeOf_44 rfl ?_
      replace hf := Option.bind_eq_some_iff.mp hf
      obtain ⟨v10, q11, hf⟩ := hf
      refine g_gR f_X12_9 dX12_easeOf_45 q11 ?_
      refine g_iload dX12_easeOf_48 rfl ?_
      replace hf := Option.bind_eq_some_iff.mp hf
      obtain ⟨v12, q13, hf⟩ := hf
      refine g_aI dX12_easeOf_50 q13 ?_
      refine g_istore dX12_easeOf_51 (by decide) (g_lvp (lv2 := [some (.ref x0), some (.int x1), some (.int x2), some (.int x3), some (.int x4), some (.int v12), none, none, none]) (pc2 := 53) rfl rfl ?_)
      refine g_iload dX12_easeOf_53 rfl ?_
      refine g_if_lt (tgt := 151) dX12_easeOf_55 (by decide) (fun c14 => ?_) (fun c14 => ?_)
      · rw [if_pos c14] at hf
        refine g_iload dX12_easeOf_151 rfl ?_
        refine g_iconst (v := (-1 : Int32)) dX12_easeOf_153 (by decide) ?_
        refine g_icmp_ne (tgt := 184) dX12_easeOf_154 (by decide) (fun c15 => ?_) (fun c15 => ?_)
        · rw [if_neg c15] at hf
          refine g_iload dX12_easeOf_184 rfl ?_
          refine g_bipush (v := (-10 : Int32)) dX12_easeOf_186 (by decide) ?_
          refine g_icmp_le (tgt := 265) dX12_easeOf_188 (by decide) (fun c16 => ?_) (fun c16 => ?_)
          · rw [if_pos c16] at hf
            refine g_iconst (v := (0 : Int32)) dX12_easeOf_265 (by decide) ?_
            refine g_istore_n dX12_easeOf_266 (by decide) (g_lvp (lv2 := [some (.ref x0), some (.int x1), some (.int (0 : Int32)), some (.int x3), some (.int x4), some (.int v12), none, none, none]) (pc2 := 267) rfl rfl ?_)
            refine g_iload_n dX12_easeOf_267 rfl ?_
            refine g_aload_n dX12_easeOf_268 rfl ?_
            replace hf := Option.bind_eq_some_iff.mp hf
            obtain ⟨v17, q18, hf⟩ := hf
            refine g_gR f_X12_21 dX12_easeOf_269 q18 ?_
            refine g_iconst (v := (0 : Int32)) dX12_easeOf_272 (by decide) ?_
            replace hf := Option.bind_eq_some_iff.mp hf
            obtain ⟨v19, q20, hf⟩ := hf
            refine g_aZ dX12_easeOf_273 q20 ?_
            refine g_if_eq (tgt := 285) dX12_easeOf_274 (by decide) (fun c21 => ?_) (fun c21 => ?_)
            · rw [if_pos c21] at hf
              refine g_iconst (v := (0 : Int32)) dX12_easeOf_285 (by decide) ?_
              refine g_weak (lv2 := [some (.ref x0), none, some (.int (0 : Int32)), some (.int x3), some (.int x4), none, none, none, none]) (And.intro rfl (And.intro rfl (And.intro rfl (And.intro rfl (trivial))))) ?_
              exact g_X12_easeOf_286 t22 hf
            · rw [if_neg c21] at hf
              refine g_bipush (v := (-10 : Int32)) dX12_easeOf_277 (by decide) ?_
              refine g_iload dX12_easeOf_279 rfl ?_
              refine g_isub dX12_easeOf_281 ?_
              refine g_goto (tgt := 286) dX12_easeOf_282 (by decide) ?_
              refine g_weak (lv2 := [some (.ref x0), none, some (.int (0 : Int32)), some (.int x3), some (.int x4), none, none, none, none]) (And.intro rfl (And.intro rfl (And.intro rfl (And.intro rfl (trivial))))) ?_
              exact g_X12_easeOf_286 t22 hf
          · rw [if_neg c16] at hf
            refine g_iinc2 (w := (-1 : Int32)) dX12_easeOf_191 (by decide) rfl (by decide) (g_lvp (lv2 := [some (.ref x0), some (.int x1), some (.int (x2 + (-1 : Int32))), some (.int x3), some (.int x4), some (.int v12), none, none, none]) (pc2 := 194) rfl rfl ?_)
            refine g_aload_n dX12_easeOf_194 rfl ?_
            replace hf := Option.bind_eq_some_iff.mp hf
            obtain ⟨v22, q23, hf⟩ := hf
            refine g_gR f_X12_21 dX12_easeOf_195 q23 ?_
            refine g_iload_n dX12_easeOf_198 rfl ?_
            refine g_iconst (v := (1 : Int32)) dX12_easeOf_199 (by decide) ?_
            refine g_isub dX12_easeOf_200 ?_
            refine g_iload dX12_easeOf_201 rfl ?_
            refine g_bipush (v := (-2 : Int32)) dX12_easeOf_203 (by decide) ?_
            refine g_icmp_ne (tgt := 236) dX12_easeOf_205 (by decide) (fun c24 => ?_) (fun c24 => ?_)
            · rw [if_neg c24] at hf
              refine g_aload_n dX12_easeOf_236 rfl ?_
              replace hf := Option.bind_eq_some_iff.mp hf
              obtain ⟨v25, q26, hf⟩ := hf
              refine g_gR f_X12_21 dX12_easeOf_237 q26 ?_
              refine g_iload_n dX12_easeOf_240 rfl ?_
              refine g_iconst (v := (1 : Int32)) dX12_easeOf_241 (by decide) ?_
              refine g_isub dX12_easeOf_242 ?_
              replace hf := Option.bind_eq_some_iff.mp hf
              obtain ⟨v27, q28, hf⟩ := hf
              refine g_aZ dX12_easeOf_243 q28 ?_
              refine g_if_ne (tgt := 256) dX12_easeOf_244 (by decide) (fun c29 => ?_) (fun c29 => ?_)
              · rw [if_neg c29] at hf
                refine g_weak (lv2 := [some (.ref x0), some (.int x1), some (.int (x2 + (-1 : Int32))), some (.int x3), some (.int x4), none, none, none, none]) (And.intro rfl (And.intro rfl (And.intro rfl (And.intro rfl (And.intro rfl (trivial)))))) ?_
                exact g_X12_easeOf_256 t22 hf
              · rw [if_pos c29] at hf
                refine g_aload_n dX12_easeOf_247 rfl ?_
                replace hf := Option.bind_eq_some_iff.mp hf
                obtain ⟨v30, q31, hf⟩ := hf
                refine g_gR f_X12_21 dX12_easeOf_248 q31 ?_
                refine g_iload_n dX12_easeOf_251 rfl ?_
                replace hf := Option.bind_eq_some_iff.mp hf
                obtain ⟨v32, q33, hf⟩ := hf
                refine g_aZ dX12_easeOf_252 q33 ?_
                refine g_if_eq (tgt := 260) dX12_easeOf_253 (by decide) (fun c34 => ?_) (fun c34 => ?_)
                · rw [if_pos c34] at hf
                  refine g_iconst (v := (0 : Int32)) dX12_easeOf_260 (by decide) ?_
                  refine g_weak (lv2 := [some (.ref x0), some (.int x1), some (.int (x2 + (-1 : Int32))), some (.int x3), some (.int x4), none, none, none, none]) (And.intro rfl (And.intro rfl (And.intro rfl (And.intro rfl (And.intro rfl (trivial)))))) ?_
                  exact g_X12_easeOf_261 t22 hf
                · rw [if_neg c34] at hf
                  refine g_weak (lv2 := [some (.ref x0), some (.int x1), some (.int (x2 + (-1 : Int32))), some (.int x3), some (.int x4), none, none, none, none]) (And.intro rfl (And.intro rfl (And.intro rfl (And.intro rfl (And.intro rfl (trivial)))))) ?_
                  exact g_X12_easeOf_256 t22 hf
            · rw [if_pos c24] at hf
              refine g_aload_n dX12_easeOf_208 rfl ?_
              replace hf := Option.bind_eq_some_iff.mp hf
              obtain ⟨v35, q36, hf⟩ := hf
              refine g_gR f_X12_21 dX12_easeOf_209 q36 ?_
              refine g_iload_n dX12_easeOf_212 rfl ?_
              refine g_iconst (v := (1 : Int32)) dX12_easeOf_213 (by decide) ?_
              refine g_isub dX12_easeOf_214 ?_
              replace hf := Option.bind_eq_some_iff.mp hf
              obtain ⟨v37, q38, hf⟩ := hf
              refine g_aZ dX12_easeOf_215 q38 ?_
              refine g_if_eq (tgt := 232) dX12_easeOf_216 (by decide) (fun c39 => ?_) (fun c39 => ?_)
              · rw [if_pos c39] at hf
                refine g_weak (lv2 := [some (.ref x0), some (.int x1), some (.int (x2 + (-1 : Int32))), some (.int x3), some (.int x4), none, none, none, none]) (And.intro rfl (And.intro rfl (And.intro rfl (And.intro rfl (And.intro rfl (trivial)))))) ?_
                exact g_X12_easeOf_232 t22 hf
              · rw [if_neg c39] at hf
                refine g_aload_n dX12_easeOf_219 rfl ?_
                replace hf := Option.bind_eq_some_iff.mp hf
                obtain ⟨v40, q41, hf⟩ := hf
                refine g_gR f_X12_21 dX12_easeOf_220 q41 ?_
                refine g_iload_n dX12_easeOf_223 rfl ?_
                replace hf := Option.bind_eq_some_iff.mp hf
                obtain ⟨v42, q43, hf⟩ := hf
                refine g_aZ dX12_easeOf_224 q43 ?_
                refine g_if_eq (tgt := 232) dX12_easeOf_225 (by decide) (fun c44 => ?_) (fun c44 => ?_)
                · rw [if_pos c44] at hf
                  refine g_weak (lv2 := [some (.ref x0), some (.int x1), some (.int (x2 + (-1 : Int32))), some (.int x3), some (.int x4), none, none, none, none]) (And.intro rfl (And.intro rfl (And.intro rfl (And.intro rfl (And.intro rfl (trivial)))))) ?_
                  exact g_X12_easeOf_232 t22 hf
                · rw [if_neg c44] at hf
                  refine g_iconst (v := (1 : Int32)) dX12_easeOf_228 (by decide) ?_
                  refine g_goto (tgt := 261) dX12_easeOf_229 (by decide) ?_
                  refine g_weak (lv2 := [some (.ref x0), some (.int x1), some (.int (x2 + (-1 : Int32))), some (.int x3), some (.int x4), none, none, none, none]) (And.intro rfl (And.intro rfl (And.intro rfl (And.intro rfl (And.intro rfl (trivial)))))) ?_
                  exact g_X12_easeOf_261 t22 hf
        · rw [if_pos c15] at hf
          refine g_aload_n dX12_easeOf_157 rfl ?_
          replace hf := Option.bind_eq_some_iff.mp hf
          obtain ⟨v45, q46, hf⟩ := hf
          refine g_gR f_X12_21 dX12_easeOf_158 q46 ?_
          refine g_iload_n dX12_easeOf_161 rfl ?_
          refine g_iconst (v := (1 : Int32)) dX12_easeOf_162 (by decide) ?_
          refine g_isub dX12_easeOf_163 ?_
          refine g_aload_n dX12_easeOf_164 rfl ?_
          replace hf := Option.bind_eq_some_iff.mp hf
          obtain ⟨v47, q48, hf⟩ := hf
          refine g_gR f_X12_21 dX12_easeOf_165 q48 ?_
          refine g_iload_n dX12_easeOf_168 rfl ?_
          refine g_iconst (v := (1 : Int32)) dX12_easeOf_169 (by decide) ?_
          refine g_isub dX12_easeOf_170 ?_
          replace hf := Option.bind_eq_some_iff.mp hf
          obtain ⟨v49, q50, hf⟩ := hf
          refine g_aZ dX12_easeOf_171 q50 ?_
          refine g_if_ne (tgt := 179) dX12_easeOf_172 (by decide) (fun c51 => ?_) (fun c51 => ?_)
          · rw [if_neg c51] at hf
            refine g_iconst (v := (0 : Int32)) dX12_easeOf_179 (by decide) ?_
            refine g_weak (lv2 := [some (.ref x0), some (.int x1), some (.int x2), some (.int x3), some (.int x4), none, none, none, none]) (And.intro rfl (And.intro rfl (And.intro rfl (And.intro rfl (And.intro rfl (trivial)))))) ?_
            exact g_X12_easeOf_180 t22 hf
          · rw [if_pos c51] at hf
            refine g_iconst (v := (1 : Int32)) dX12_easeOf_175 (by decide) ?_
            refine g_goto (tgt := 180) dX12_easeOf_176 (by decide) ?_
            refine g_weak (lv2 := [some (.ref x0), some (.int x1), some (.int x2), some (.int x3), some (.int x4), none, none, none, none]) (And.intro rfl (And.intro rfl (And.intro rfl (And.intro rfl (And.intro rfl (trivial)))))) ?_
            exact g_X12_easeOf_180 t22 hf
      · rw [if_neg c14] at hf
        refine g_aload_n dX12_easeOf_58 rfl ?_
        replace hf := Option.bind_eq_some_iff.mp hf
        obtain ⟨v52, q53, hf⟩ := hf
        refine g_gR f_X12_18 dX12_easeOf_59 q53 ?_
        refine g_iload dX12_easeOf_62 rfl ?_
        refine g_bipush (v := (8 : Int32)) dX12_easeOf_64 (by decide) ?_
        refine g_irem dX12_easeOf_66 (by decide) ?_
        replace hf := Option.bind_eq_some_iff.mp hf
        obtain ⟨v54, q55, hf⟩ := hf
        refine g_aI dX12_easeOf_67 q55 ?_
        refine g_istore dX12_easeOf_68 (by decide) (g_lvp (lv2 := [some (.ref x0), some (.int x1), some (.int x2), some (.int x3), some (.int x4), some (.int v12), some (.int v54), none, none]) (pc2 := 70) rfl rfl ?_)
        refine g_iload dX12_easeOf_70 rfl ?_
        refine g_bipush (v := (8 : Int32)) dX12_easeOf_72 (by decide) ?_
        refine g_idiv dX12_easeOf_74 (by decide) ?_
        refine g_iconst (v := (4 : Int32)) dX12_easeOf_75 (by decide) ?_
        refine g_irem dX12_easeOf_76 (by decide) ?_
        refine g_istore dX12_easeOf_77 (by decide) (g_lvp (lv2 := [some (.ref x0), some (.int x1), some (.int x2), some (.int x3), some (.int x4), some (.int v12), some (.int v54), some (.int ((v12 / (8 : Int32)) - (v12 / (8 : Int32)) / (4 : Int32) * (4 : Int32))), none]) (pc2 := 79) rfl rfl ?_)
        refine g_iload dX12_easeOf_79 rfl ?_
        refine g_bipush (v := (32 : Int32)) dX12_easeOf_81 (by decide) ?_
        refine g_idiv dX12_easeOf_83 (by decide) ?_
        refine g_istore dX12_easeOf_84 (by decide) (g_lvp (lv2 := [some (.ref x0), some (.int x1), some (.int x2), some (.int x3), some (.int x4), some (.int v12), some (.int v54), some (.int ((v12 / (8 : Int32)) - (v12 / (8 : Int32)) / (4 : Int32) * (4 : Int32))), some (.int (v12 / (32 : Int32)))]) (pc2 := 86) rfl rfl ?_)
        refine g_aload_n dX12_easeOf_86 rfl ?_
        replace hf := Option.bind_eq_some_iff.mp hf
        obtain ⟨v56, q57, hf⟩ := hf
        refine g_gR f_X12_21 dX12_easeOf_87 q57 ?_
        refine g_iload_n dX12_easeOf_90 rfl ?_
        refine g_iload dX12_easeOf_91 rfl ?_
        refine g_if_ne (tgt := 111) dX12_easeOf_93 (by decide) (fun c58 => ?_) (fun c58 => ?_)
        · rw [if_neg c58] at hf
          refine g_iload dX12_easeOf_111 rfl ?_
          refine g_iconst (v := (1 : Int32)) dX12_easeOf_113 (by decide) ?_
          refine g_icmp_ne (tgt := 132) dX12_easeOf_114 (by decide) (fun c59 => ?_) (fun c59 => ?_)
          · rw [if_neg c59] at hf
            refine g_iload dX12_easeOf_132 rfl ?_
            refine g_iload dX12_easeOf_134 rfl ?_
            refine g_icmp_le (tgt := 143) dX12_easeOf_136 (by decide) (fun c60 => ?_) (fun c60 => ?_)
            · rw [if_pos c60] at hf
              refine g_iconst (v := (0 : Int32)) dX12_easeOf_143 (by decide) ?_
              refine g_weak (lv2 := [some (.ref x0), some (.int x1), some (.int x2), some (.int x3), some (.int x4), none, none, none, none]) (And.intro rfl (And.intro rfl (And.intro rfl (And.intro rfl (And.intro rfl (trivial)))))) ?_
              exact g_X12_easeOf_144 t22 hf
            · rw [if_neg c60] at hf
              refine g_iconst (v := (1 : Int32)) dX12_easeOf_139 (by decide) ?_
              refine g_goto (tgt := 144) dX12_easeOf_140 (by decide) ?_
              refine g_weak (lv2 := [some (.ref x0), some (.int x1), some (.int x2), some (.int x3), some (.int x4), none, none, none, none]) (And.intro rfl (And.intro rfl (And.intro rfl (And.intro rfl (And.intro rfl (trivial)))))) ?_
              exact g_X12_easeOf_144 t22 hf
          · rw [if_pos c59] at hf
            refine g_iload dX12_easeOf_117 rfl ?_
            refine g_iload dX12_easeOf_119 rfl ?_
            refine g_icmp_ne (tgt := 128) dX12_easeOf_121 (by decide) (fun c61 => ?_) (fun c61 => ?_)
            · rw [if_neg c61] at hf
              refine g_iconst (v := (0 : Int32)) dX12_easeOf_128 (by decide) ?_
              refine g_goto (tgt := 144) dX12_easeOf_129 (by decide) ?_
              refine g_weak (lv2 := [some (.ref x0), some (.int x1), some (.int x2), some (.int x3), some (.int x4), none, none, none, none]) (And.intro rfl (And.intro rfl (And.intro rfl (And.intro rfl (And.intro rfl (trivial)))))) ?_
              exact g_X12_easeOf_144 t22 hf
            · rw [if_pos c61] at hf
              refine g_iconst (v := (1 : Int32)) dX12_easeOf_124 (by decide) ?_
              refine g_goto (tgt := 144) dX12_easeOf_125 (by decide) ?_
              refine g_weak (lv2 := [some (.ref x0), some (.int x1), some (.int x2), some (.int x3), some (.int x4), none, none, none, none]) (And.intro rfl (And.intro rfl (And.intro rfl (And.intro rfl (And.intro rfl (trivial)))))) ?_
              exact g_X12_easeOf_144 t22 hf
        · rw [if_pos c58] at hf
          refine g_iload dX12_easeOf_96 rfl ?_
          refine g_iload dX12_easeOf_98 rfl ?_
          refine g_icmp_ge (tgt := 107) dX12_easeOf_100 (by decide) (fun c62 => ?_) (fun c62 => ?_)
          · rw [if_pos c62] at hf
            refine g_iconst (v := (0 : Int32)) dX12_easeOf_107 (by decide) ?_
            refine g_goto (tgt := 144) dX12_easeOf_108 (by decide) ?_
            refine g_weak (lv2 := [some (.ref x0), some (.int x1), some (.int x2), some (.int x3), some (.int x4), none, none, none, none]) (And.intro rfl (And.intro rfl (And.intro rfl (And.intro rfl (And.intro rfl (trivial)))))) ?_
            exact g_X12_easeOf_144 t22 hf
          · rw [if_neg c62] at hf
            refine g_iconst (v := (1 : Int32)) dX12_easeOf_103 (by decide) ?_
            refine g_goto (tgt := 144) dX12_easeOf_104 (by decide) ?_
            refine g_weak (lv2 := [some (.ref x0), some (.int x1), some (.int x2), some (.int x3), some (.int x4), none, none, none, none]) (And.intro rfl (And.intro rfl (And.intro rfl (And.intro rfl (And.intro rfl (trivial)))))) ?_
            exact g_X12_easeOf_144 t22 hf
def F_X12_easeOf_0 (n : Nat)  (x0 : Nat) (h : gH) : Option (Int32 × gH) :=
  (gR h x0 12 1).bind fun v1 =>
  (aI h v1 (4 : Int32)).bind fun v3 =>
  F_X12_easeOf_22 n n x0 (0 : Int32) (0 : Int32) ((418 : Int32) + ((140 : Int32) * v3)) ((418 : Int32) + ((140 : Int32) * v3)) h
set_option maxRecDepth 20000 in
set_option maxHeartbeats 1600000 in
theorem g_X12_easeOf_0 {n d : Nat} : ∀ {x0 : Nat} {h : gH} {rh : gH} {rv : Int32}, F_X12_easeOf_0 n x0 h = some (rv, rh) → G M_X12_easeOf d 0 0 0 0 0 [some (.ref x0), none, none, none, none, none, none, none, none] [] h (qI rv rh) := by
  intro x0 h rh rv hf
  unfold F_X12_easeOf_0 at hf
  refine g_iconst (v := (0 : Int32)) dX12_easeOf_0 (by decide) ?_
  refine g_istore_n dX12_easeOf_1 (by decide) (g_lvp (lv2 := [some (.ref x0), some (.int (0 : Int32)), none, none, none, none, none, none, none]) (pc2 := 2) rfl rfl ?_)
  refine g_iconst (v := (0 : Int32)) dX12_easeOf_2 (by decide) ?_
  refine g_istore_n dX12_easeOf_3 (by decide) (g_lvp (lv2 := [some (.ref x0), some (.int (0 : Int32)), some (.int (0 : Int32)), none, none, none, none, none, none]) (pc2 := 4) rfl rfl ?_)
  refine g_sipush (v := (418 : Int32)) dX12_easeOf_4 (by decide) ?_
  refine g_sipush (v := (140 : Int32)) dX12_easeOf_7 (by decide) ?_
  refine g_aload_n dX12_easeOf_10 rfl ?_
  replace hf := Option.bind_eq_some_iff.mp hf
  obtain ⟨v1, q2, hf⟩ := hf
  refine g_gR f_X12_9 dX12_easeOf_11 q2 ?_
  refine g_iconst (v := (4 : Int32)) dX12_easeOf_14 (by decide) ?_
  replace hf := Option.bind_eq_some_iff.mp hf
  obtain ⟨v3, q4, hf⟩ := hf
  refine g_aI dX12_easeOf_15 q4 ?_
  refine g_imul dX12_easeOf_16 ?_
  refine g_iadd dX12_easeOf_17 ?_
  refine g_istore_n dX12_easeOf_18 (by decide) (g_lvp (lv2 := [some (.ref x0), some (.int (0 : Int32)), some (.int (0 : Int32)), some (.int ((418 : Int32) + ((140 : Int32) * v3))), none, none, none, none, none]) (pc2 := 19) rfl rfl ?_)
  refine g_iload_n dX12_easeOf_19 rfl ?_
  refine g_istore dX12_easeOf_20 (by decide) (g_lvp (lv2 := [some (.ref x0), some (.int (0 : Int32)), some (.int (0 : Int32)), some (.int ((418 : Int32) + ((140 : Int32) * v3))), some (.int ((418 : Int32) + ((140 : Int32) * v3))), none, none, none, none]) (pc2 := 22) rfl rfl ?_)
  exact g_X12_easeOf_22 hf
def F_X12_easeOf (n : Nat) (a : Nat) (h : gH) : Option (Int32 × gH) := F_X12_easeOf_0 n  a h
theorem t_X12_easeOf {n d : Nat} {a : Nat} {h rh : gH} {rv : Int32} (hf : F_X12_easeOf n a h = some (rv, rh)) : T M_X12_easeOf d 0 0 [.ref a] h (qI rv rh) := by
  refine T_of_G (L := 8) (by decide +kernel) rfl (Nat.le_of_ble_eq_true rfl) (g_lv (lv2 := [some (.ref a), none, none, none, none, none, none, none, none]) rfl ?_)
  exact g_X12_easeOf_0 hf
def F_X12_slope_0 (n : Nat)  (x0 : Nat) (x1 : Int32) (h : gH) : Option (Int32 × gH) :=
  (gR h x0 12 1).bind fun v1 =>
  (gR h x0 12 1).bind fun v3 =>
  (aI h v3 (4 : Int32)).bind fun v5 =>
  (aI h v1 (((283 : Int32) + ((8 : Int32) * v5)) + x1)).bind fun v7 =>
  some (v7, h)
set_option maxRecDepth 20000 in
set_option maxHeartbeats 1600000 in
theorem g_X12_slope_0 {n d : Nat} : ∀ {x0 : Nat} {x1 : Int32} {h : gH} {rh : gH} {rv : Int32}, F_X12_slope_0 n x0 x1 h = some (rv, rh) → G M_X12_slope d 0 0 0 0 0 [some (.ref x0), some (.int x1)] [] h (qI rv rh) := by
  intro x0 x1 h rh rv hf
  unfold F_X12_slope_0 at hf
  refine g_aload_n dX12_slope_0 rfl ?_
  replace hf := Option.bind_eq_some_iff.mp hf
  obtain ⟨v1, q2, hf⟩ := hf
  refine g_gR f_X12_9 dX12_slope_1 q2 ?_
  refine g_sipush (v := (283 : Int32)) dX12_slope_4 (by decide) ?_
  refine g_bipush (v := (8 : Int32)) dX12_slope_7 (by decide) ?_
  refine g_aload_n dX12_slope_9 rfl ?_
  replace hf := Option.bind_eq_some_iff.mp hf
  obtain ⟨v3, q4, hf⟩ := hf
  refine g_gR f_X12_9 dX12_slope_10 q4 ?_
  refine g_iconst (v := (4 : Int32)) dX12_slope_13 (by decide) ?_
  replace hf := Option.bind_eq_some_iff.mp hf
  obtain ⟨v5, q6, hf⟩ := hf
  refine g_aI dX12_slope_14 q6 ?_
  refine g_imul dX12_slope_15 ?_
  refine g_iadd dX12_slope_16 ?_
  refine g_iload_n dX12_slope_17 rfl ?_
  refine g_iadd dX12_slope_18 ?_
  replace hf := Option.bind_eq_some_iff.mp hf
  obtain ⟨v7, q8, hf⟩ := hf
  refine g_aI dX12_slope_19 q8 ?_
  obtain ⟨rfl, rfl⟩ := Prod.mk.inj (Option.some.inj hf)
  exact g_iret dX12_slope_20 rfl ⟨rfl, rfl⟩ (Nat.le_of_ble_eq_true rfl) (Nat.le_of_ble_eq_true rfl)
def F_X12_slope (n : Nat) (a : Nat) (p0 : Int32) (h : gH) : Option (Int32 × gH) := F_X12_slope_0 n  a p0 h
theorem t_X12_slope {n d : Nat} {a : Nat} {p0 : Int32} {h rh : gH} {rv : Int32} (hf : F_X12_slope n a p0 h = some (rv, rh)) : T M_X12_slope d 0 0 [.ref a, .int p0] h (qI rv rh) := by
  refine T_of_G (L := 0) (by decide +kernel) rfl (Nat.le_of_ble_eq_true rfl) (g_lv (lv2 := [some (.ref a), some (.int p0)]) rfl ?_)
  exact g_X12_slope_0 hf
def F_X12_wind_0 (n : Nat)  (x0 : Nat) (x1 : Int32) (h : gH) : Option (Int32 × gH) :=
  (gR h x0 12 1).bind fun v1 =>
  (gR h x0 12 1).bind fun v3 =>
  (aI h v3 (4 : Int32)).bind fun v5 =>
  (aI h v1 (((323 : Int32) + ((8 : Int32) * v5)) + x1)).bind fun v7 =>
  some (v7, h)
set_option maxRecDepth 20000 in
set_option maxHeartbeats 1600000 in
theorem g_X12_wind_0 {n d : Nat} : ∀ {x0 : Nat} {x1 : Int32} {h : gH} {rh : gH} {rv : Int32}, F_X12_wind_0 n x0 x1 h = some (rv, rh) → G M_X12_wind d 0 0 0 0 0 [some (.ref x0), some (.int x1)] [] h (qI rv rh) := by
  intro x0 x1 h rh rv hf
  unfold F_X12_wind_0 at hf
  refine g_aload_n dX12_wind_0 rfl ?_
  replace hf := Option.bind_eq_some_iff.mp hf
  obtain ⟨v1, q2, hf⟩ := hf
  refine g_gR f_X12_9 dX12_wind_1 q2 ?_
  refine g_sipush (v := (323 : Int32)) dX12_wind_4 (by decide) ?_
  refine g_bipush (v := (8 : Int32)) dX12_wind_7 (by decide) ?_
  refine g_aload_n dX12_wind_9 rfl ?_
  replace hf := Option.bind_eq_some_iff.mp hf
  obtain ⟨v3, q4, hf⟩ := hf
  refine g_gR f_X12_9 dX12_wind_10 q4 ?_
  refine g_iconst (v := (4 : Int32)) dX12_wind_13 (by decide) ?_
  replace hf := Option.bind_eq_some_iff.mp hf
  obtain ⟨v5, q6, hf⟩ := hf
  refine g_aI dX12_wind_14 q6 ?_
  refine g_imul dX12_wind_15 ?_
  refine g_iadd dX12_wind_16 ?_
  refine g_iload_n dX12_wind_17 rfl ?_
  refine g_iadd dX12_wind_18 ?_
  replace hf := Option.bind_eq_some_iff.mp hf
  obtain ⟨v7, q8, hf⟩ := hf
  refine g_aI dX12_wind_19 q8 ?_
  obtain ⟨rfl, rfl⟩ := Prod.mk.inj (Option.some.inj hf)
  exact g_iret dX12_wind_20 rfl ⟨rfl, rfl⟩ (Nat.le_of_ble_eq_true rfl) (Nat.le_of_ble_eq_true rfl)
def F_X12_wind (n : Nat) (a : Nat) (p0 : Int32) (h : gH) : Option (Int32 × gH) := F_X12_wind_0 n  a p0 h
theorem t_X12_wind {n d : Nat} {a : Nat} {p0 : Int32} {h rh : gH} {rv : Int32} (hf : F_X12_wind n a p0 h = some (rv, rh)) : T M_X12_wind d 0 0 [.ref a, .int p0] h (qI rv rh) := by
  refine T_of_G (L := 0) (by decide +kernel) rfl (Nat.le_of_ble_eq_true rfl) (g_lv (lv2 := [some (.ref a), some (.int p0)]) rfl ?_)
  exact g_X12_wind_0 hf
def F_X12_speedOf_110 (n : Nat)  (y0 : Int32) (h : gH) : Option (Int32 × gH) :=
  some (y0, h)
set_option maxRecDepth 20000 in
set_option maxHeartbeats 1600000 in
theorem g_X12_speedOf_110 {n d : Nat} : ∀ {y0 : Int32} {h : gH} {rh : gH} {rv : Int32}, F_X12_speedOf_110 n y0 h = some (rv, rh) → G M_X12_speedOf (d + 1) 0 0 0 0 110 [none, none, none, none, none] [.int y0] h (qI rv rh) := by
  intro y0 h rh rv hf
  unfold F_X12_speedOf_110 at hf
  obtain ⟨rfl, rfl⟩ := Prod.mk.inj (Option.some.inj hf)
  exact g_iret dX12_speedOf_110 rfl ⟨rfl, rfl⟩ (Nat.le_of_ble_eq_true rfl) (Nat.le_of_ble_eq_true rfl)
def F_X12_speedOf_96 (n : Nat)  (y0 : Int32) (h : gH) : Option (Int32 × gH) :=
  if (1 : Int32) ≤ y0 then
  (F_X12_speedOf_110 n y0 h)
  else
  (F_X12_speedOf_110 n (1 : Int32) h)
set_option maxRecDepth 20000 in
set_option maxHeartbeats 1600000 in
theorem g_X12_speedOf_96 {n d : Nat} : ∀ {y0 : Int32} {h : gH} {rh : gH} {rv : Int32}, F_X12_speedOf_96 n y0 h = some (rv, rh) → G M_X12_speedOf (d + 1) 0 0 0 0 96 [none, none, none, none, none] [.int y0] h (qI rv rh) := by
  intro y0 h rh rv hf
  unfold F_X12_speedOf_96 at hf
  refine g_istore dX12_speedOf_96 (by decide) (g_lvp (lv2 := [none, none, none, none, some (.int y0)]) (pc2 := 98) rfl rfl ?_)
  refine g_iload dX12_speedOf_98 rfl ?_
  refine g_iconst (v := (1 : Int32)) dX12_speedOf_100 (by decide) ?_
  refine g_icmp_ge (tgt := 108) dX12_speedOf_101 (by decide) (fun c1 => ?_) (fun c1 => ?_)
  · rw [if_pos c1] at hf
    refine g_iload dX12_speedOf_108 rfl ?_
    refine g_weak (lv2 := [none, none, none, none, none]) (trivial) ?_
    exact g_X12_speedOf_110 hf
  · rw [if_neg c1] at hf
    refine g_iconst (v := (1 : Int32)) dX12_speedOf_104 (by decide) ?_
    refine g_goto (tgt := 110) dX12_speedOf_105 (by decide) ?_
    refine g_weak (lv2 := [none, none, none, none, none]) (trivial) ?_
    exact g_X12_speedOf_110 hf
def F_X12_speedOf_0 (n : Nat)  (x0 : Nat) (x1 : Int32) (x2 : Int32) (x3 : Int32) (h : gH) : Option (Int32 × gH) :=
  (gR h x0 12 9).bind fun v1 =>
  (sI h v1 (0 : Int32) x1).bind fun h3 =>
  (gR h3 x0 12 9).bind fun v5 =>
  (sI h3 v5 (1 : Int32) x2).bind fun h7 =>
  (gR h7 x0 12 9).bind fun v9 =>
  (gO h7 x0 12).bind fun f11 =>
  gB (F_X12_slope n x0 x1 h7) fun v15 h13 =>
  (sI h13 v9 (2 : Int32) v15).bind fun h16 =>
  (gR h16 x0 12 9).bind fun v18 =>
  (gO h16 x0 12).bind fun f20 =>
  gB (F_X12_wind n x0 x1 h16) fun v24 h22 =>
  (sI h22 v18 (3 : Int32) v24).bind fun h25 =>
  (gR h25 x0 12 9).bind fun v27 =>
  (sI h25 v27 (4 : Int32) x3).bind fun h29 =>
  (gO h29 x0 12).bind fun f31 =>
  gB (F_X12_slope n x0 x1 h29) fun v35 h33 =>
  (gO h33 x0 12).bind fun f36 =>
  gB (F_X12_wind n x0 x1 h33) fun v40 h38 =>
  (gO h38 x0 12).bind fun f41 =>
  gB (F_X12_easeOf n x0  h38) fun v45 h43 =>
  (gO h43 x0 12).bind fun f46 =>
  gB (F_X12_bend n x0 x1 h43) fun v50 h48 =>
  if (((((20 : Int32) + ((4 : Int32) * x2)) - ((5 : Int32) * (v35 - (5 : Int32)))) - ((2 : Int32) * (v40 - (5 : Int32)))) - v45) ≤ v50 then
  (F_X12_speedOf_96 n (((((20 : Int32) + ((4 : Int32) * x2)) - ((5 : Int32) * (v35 - (5 : Int32)))) - ((2 : Int32) * (v40 - (5 : Int32)))) - v45) h48)
  else
  ((gO h48 x0 12).bind fun f52 =>
  gB (F_X12_bend n x0 x1 h48) fun v56 h54 =>
  F_X12_speedOf_96 n v56 h54)
set_option maxRecDepth 20000 in
set_option maxHeartbeats 1600000 in
theorem g_X12_speedOf_0 {n d : Nat} : ∀ {x0 : Nat} {x1 : Int32} {x2 : Int32} {x3 : Int32} {h : gH} {rh : gH} {rv : Int32}, F_X12_speedOf_0 n x0 x1 x2 x3 h = some (rv, rh) → G M_X12_speedOf (d + 1) 0 0 0 0 0 [some (.ref x0), some (.int x1), some (.int x2), some (.int x3), none] [] h (qI rv rh) := by
  intro x0 x1 x2 x3 h rh rv hf
  unfold F_X12_speedOf_0 at hf
  refine g_aload_n dX12_speedOf_0 rfl ?_
  replace hf := Option.bind_eq_some_iff.mp hf
  obtain ⟨v1, q2, hf⟩ := hf
  refine g_gR f_X12_18 dX12_speedOf_1 q2 ?_
  refine g_iconst (v := (0 : Int32)) dX12_speedOf_4 (by decide) ?_
  refine g_iload_n dX12_speedOf_5 rfl ?_
  replace hf := Option.bind_eq_some_iff.mp hf
  obtain ⟨h3, q4, hf⟩ := hf
  refine g_sI dX12_speedOf_6 q4 ?_
  refine g_aload_n dX12_speedOf_7 rfl ?_
  replace hf := Option.bind_eq_some_iff.mp hf
  obtain ⟨v5, q6, hf⟩ := hf
  refine g_gR f_X12_18 dX12_speedOf_8 q6 ?_
  refine g_iconst (v := (1 : Int32)) dX12_speedOf_11 (by decide) ?_
  refine g_iload_n dX12_speedOf_12 rfl ?_
  replace hf := Option.bind_eq_some_iff.mp hf
  obtain ⟨h7, q8, hf⟩ := hf
  refine g_sI dX12_speedOf_13 q8 ?_
  refine g_aload_n dX12_speedOf_14 rfl ?_
  replace hf := Option.bind_eq_some_iff.mp hf
  obtain ⟨v9, q10, hf⟩ := hf
  refine g_gR f_X12_18 dX12_speedOf_15 q10 ?_
  refine g_iconst (v := (2 : Int32)) dX12_speedOf_18 (by decide) ?_
  refine g_aload_n dX12_speedOf_19 rfl ?_
  refine g_iload_n dX12_speedOf_20 rfl ?_
  replace hf := Option.bind_eq_some_iff.mp hf
  obtain ⟨f11, q12, hf⟩ := hf
  replace hf := gB_of hf
  obtain ⟨v15, h13, q14, hf⟩ := hf
  refine g_callV (as := [.int x1]) (mc1 := 0) (ms1 := 0) s_X12_157_X12_slope_12 dX12_speedOf_21 (gO_of q12) rfl (Nat.le_of_ble_eq_true rfl) (Nat.le_of_ble_eq_true rfl) (Nat.le_of_ble_eq_true rfl) (t_X12_slope (d := d + 0) q14) (fun r9 h9 q9 => ?_)
  obtain ⟨rfl, rfl⟩ := q9
  refine g_stp (st2 := [.int v15, .int (2 : Int32), .ref v9]) (pc2 := 24) (kc2 := 0) (kn2 := 0) rfl rfl rfl rfl ?_
  replace hf := Option.bind_eq_some_iff.mp hf
  obtain ⟨h16, q17, hf⟩ := hf
  refine g_sI dX12_speedOf_24 q17 ?_
  refine g_aload_n dX12_speedOf_25 rfl ?_
  replace hf := Option.bind_eq_some_iff.mp hf
  obtain ⟨v18, q19, hf⟩ := hf
  refine g_gR f_X12_18 dX12_speedOf_26 q19 ?_
  refine g_iconst (v := (3 : Int32)) dX12_speedOf_29 (by decide) ?_
  refine g_aload_n dX12_speedOf_30 rfl ?_
  refine g_iload_n dX12_speedOf_31 rfl ?_
  replace hf := Option.bind_eq_some_iff.mp hf
  obtain ⟨f20, q21, hf⟩ := hf
  replace hf := gB_of hf
  obtain ⟨v24, h22, q23, hf⟩ := hf
  refine g_callV (as := [.int x1]) (mc1 := 0) (ms1 := 0) s_X12_160_X12_wind_12 dX12_speedOf_32 (gO_of q21) rfl (Nat.le_of_ble_eq_true rfl) (Nat.le_of_ble_eq_true rfl) (Nat.le_of_ble_eq_true rfl) (t_X12_wind (d := d + 0) q23) (fun r9 h9 q9 => ?_)
  obtain ⟨rfl, rfl⟩ := q9
  refine g_stp (st2 := [.int v24, .int (3 : Int32), .ref v18]) (pc2 := 35) (kc2 := 0) (kn2 := 0) rfl rfl rfl rfl ?_
  replace hf := Option.bind_eq_some_iff.mp hf
  obtain ⟨h25, q26, hf⟩ := hf
  refine g_sI dX12_speedOf_35 q26 ?_
  refine g_aload_n dX12_speedOf_36 rfl ?_
  replace hf := Option.bind_eq_some_iff.mp hf
  obtain ⟨v27, q28, hf⟩ := hf
  refine g_gR f_X12_18 dX12_speedOf_37 q28 ?_
  refine g_iconst (v := (4 : Int32)) dX12_speedOf_40 (by decide) ?_
  refine g_iload_n dX12_speedOf_41 rfl ?_
  replace hf := Option.bind_eq_some_iff.mp hf
  obtain ⟨h29, q30, hf⟩ := hf
  refine g_sI dX12_speedOf_42 q30 ?_
  refine g_bipush (v := (20 : Int32)) dX12_speedOf_43 (by decide) ?_
  refine g_iconst (v := (4 : Int32)) dX12_speedOf_45 (by decide) ?_
  refine g_iload_n dX12_speedOf_46 rfl ?_
  refine g_imul dX12_speedOf_47 ?_
  refine g_iadd dX12_speedOf_48 ?_
  refine g_iconst (v := (5 : Int32)) dX12_speedOf_49 (by decide) ?_
  refine g_aload_n dX12_speedOf_50 rfl ?_
  refine g_iload_n dX12_speedOf_51 rfl ?_
  replace hf := Option.bind_eq_some_iff.mp hf
  obtain ⟨f31, q32, hf⟩ := hf
  replace hf := gB_of hf
  obtain ⟨v35, h33, q34, hf⟩ := hf
  refine g_callV (as := [.int x1]) (mc1 := 0) (ms1 := 0) s_X12_157_X12_slope_12 dX12_speedOf_52 (gO_of q32) rfl (Nat.le_of_ble_eq_true rfl) (Nat.le_of_ble_eq_true rfl) (Nat.le_of_ble_eq_true rfl) (t_X12_slope (d := d + 0) q34) (fun r9 h9 q9 => ?_)
  obtain ⟨rfl, rfl⟩ := q9
  refine g_stp (st2 := [.int v35, .int (5 : Int32), .int ((20 : Int32) + ((4 : Int32) * x2))]) (pc2 := 55) (kc2 := 0) (kn2 := 0) rfl rfl rfl rfl ?_
  refine g_iconst (v := (5 : Int32)) dX12_speedOf_55 (by decide) ?_
  refine g_isub dX12_speedOf_56 ?_
  refine g_imul dX12_speedOf_57 ?_
  refine g_isub dX12_speedOf_58 ?_
  refine g_iconst (v := (2 : Int32)) dX12_speedOf_59 (by decide) ?_
  refine g_aload_n dX12_speedOf_60 rfl ?_
  refine g_iload_n dX12_speedOf_61 rfl ?_
  replace hf := Option.bind_eq_some_iff.mp hf
  obtain ⟨f36, q37, hf⟩ := hf
  replace hf := gB_of hf
  obtain ⟨v40, h38, q39, hf⟩ := hf
  refine g_callV (as := [.int x1]) (mc1 := 0) (ms1 := 0) s_X12_160_X12_wind_12 dX12_speedOf_62 (gO_of q37) rfl (Nat.le_of_ble_eq_true rfl) (Nat.le_of_ble_eq_true rfl) (Nat.le_of_ble_eq_true rfl) (t_X12_wind (d := d + 0) q39) (fun r9 h9 q9 => ?_)
  obtain ⟨rfl, rfl⟩ := q9
  refine g_stp (st2 := [.int v40, .int (2 : Int32), .int (((20 : Int32) + ((4 : Int32) * x2)) - ((5 : Int32) * (v35 - (5 : Int32))))]) (pc2 := 65) (kc2 := 0) (kn2 := 0) rfl rfl rfl rfl ?_
  refine g_iconst (v := (5 : Int32)) dX12_speedOf_65 (by decide) ?_
  refine g_isub dX12_speedOf_66 ?_
  refine g_imul dX12_speedOf_67 ?_
  refine g_isub dX12_speedOf_68 ?_
  refine g_aload_n dX12_speedOf_69 rfl ?_
  replace hf := Option.bind_eq_some_iff.mp hf
  obtain ⟨f41, q42, hf⟩ := hf
  replace hf := gB_of hf
  obtain ⟨v45, h43, q44, hf⟩ := hf
  refine g_callV (as := []) (mc1 := 0) (ms1 := 0) s_X12_169_X12_easeOf_12 dX12_speedOf_70 (gO_of q42) rfl (Nat.le_of_ble_eq_true rfl) (Nat.le_of_ble_eq_true rfl) (Nat.le_of_ble_eq_true rfl) (t_X12_easeOf (d := d + 0) q44) (fun r9 h9 q9 => ?_)
  obtain ⟨rfl, rfl⟩ := q9
  refine g_stp (st2 := [.int v45, .int ((((20 : Int32) + ((4 : Int32) * x2)) - ((5 : Int32) * (v35 - (5 : Int32)))) - ((2 : Int32) * (v40 - (5 : Int32))))]) (pc2 := 73) (kc2 := 0) (kn2 := 0) rfl rfl rfl rfl ?_
  refine g_isub dX12_speedOf_73 ?_
  refine g_istore dX12_speedOf_74 (by decide) (g_lvp (lv2 := [some (.ref x0), some (.int x1), some (.int x2), some (.int x3), some (.int (((((20 : Int32) + ((4 : Int32) * x2)) - ((5 : Int32) * (v35 - (5 : Int32)))) - ((2 : Int32) * (v40 - (5 : Int32)))) - v45))]) (pc2 := 76) rfl rfl ?_)
  refine g_iload dX12_speedOf_76 rfl ?_
  refine g_aload_n dX12_speedOf_78 rfl ?_
  refine g_iload_n dX12_speedOf_79 rfl ?_
  replace hf := Option.bind_eq_some_iff.mp hf
  obtain ⟨f46, q47, hf⟩ := hf
  replace hf := gB_of hf
  obtain ⟨v50, h48, q49, hf⟩ := hf
  refine g_callV (as := [.int x1]) (mc1 := 0) (ms1 := 0) s_X12_163_X12_bend_12 dX12_speedOf_80 (gO_of q47) rfl (Nat.le_of_ble_eq_true rfl) (Nat.le_of_ble_eq_true rfl) (Nat.le_of_ble_eq_true rfl) (t_X12_bend (d := d + 0) q49) (fun r9 h9 q9 => ?_)
  obtain ⟨rfl, rfl⟩ := q9
  refine g_stp (st2 := [.int v50, .int (((((20 : Int32) + ((4 : Int32) * x2)) - ((5 : Int32) * (v35 - (5 : Int32)))) - ((2 : Int32) * (v40 - (5 : Int32)))) - v45)]) (pc2 := 83) (kc2 := 0) (kn2 := 0) rfl rfl rfl rfl ?_
  refine g_icmp_le (tgt := 94) dX12_speedOf_83 (by decide) (fun c51 => ?_) (fun c51 => ?_)
  · rw [if_pos c51] at hf
    refine g_iload dX12_speedOf_94 rfl ?_
    refine g_weak (lv2 := [none, none, none, none, none]) (trivial) ?_
    exact g_X12_speedOf_96 hf
  · rw [if_neg c51] at hf
    refine g_aload_n dX12_speedOf_86 rfl ?_
    refine g_iload_n dX12_speedOf_87 rfl ?_
    replace hf := Option.bind_eq_some_iff.mp hf
    obtain ⟨f52, q53, hf⟩ := hf
    replace hf := gB_of hf
    obtain ⟨v56, h54, q55, hf⟩ := hf
    refine g_callV (as := [.int x1]) (mc1 := 0) (ms1 := 0) s_X12_163_X12_bend_12 dX12_speedOf_88 (gO_of q53) rfl (Nat.le_of_ble_eq_true rfl) (Nat.le_of_ble_eq_true rfl) (Nat.le_of_ble_eq_true rfl) (t_X12_bend (d := d + 0) q55) (fun r9 h9 q9 => ?_)
    obtain ⟨rfl, rfl⟩ := q9
    refine g_stp (st2 := [.int v56]) (pc2 := 91) (kc2 := 0) (kn2 := 0) rfl rfl rfl rfl ?_
    refine g_goto (tgt := 96) dX12_speedOf_91 (by decide) ?_
    refine g_weak (lv2 := [none, none, none, none, none]) (trivial) ?_
    exact g_X12_speedOf_96 hf
def F_X12_speedOf (n : Nat) (a : Nat) (p0 : Int32) (p1 : Int32) (p2 : Int32) (h : gH) : Option (Int32 × gH) := F_X12_speedOf_0 n  a p0 p1 p2 h
theorem t_X12_speedOf {n d : Nat} {a : Nat} {p0 : Int32} {p1 : Int32} {p2 : Int32} {h rh : gH} {rv : Int32} (hf : F_X12_speedOf n a p0 p1 p2 h = some (rv, rh)) : T M_X12_speedOf (d + 1) 0 0 [.ref a, .int p0, .int p1, .int p2] h (qI rv rh) := by
  refine T_of_G (L := 1) (by decide +kernel) rfl (Nat.le_of_ble_eq_true rfl) (g_lv (lv2 := [some (.ref a), some (.int p0), some (.int p1), some (.int p2), none]) rfl ?_)
  exact g_X12_speedOf_0 hf
def F_X12_secondsOf_0 (n : Nat)  (x0 : Nat) (x1 : Int32) (x2 : Int32) (x3 : Int32) (h : gH) : Option (Int32 × gH) :=
  (gO h x0 12).bind fun f1 =>
  gB (F_X12_speedOf n x0 x1 x2 x3 h) fun v5 h3 =>
  (gO h3 x0 12).bind fun f6 =>
  gB (F_X12_length n x0 x1 h3) fun v10 h8 =>
  if v5 = (0 : Int32) then none else
  some ((((((100 : Int32) * v10) + v5) - (1 : Int32)) / v5), h8)
set_option maxRecDepth 20000 in
set_option maxHeartbeats 1600000 in
theorem g_X12_secondsOf_0 {n d : Nat} : ∀ {x0 : Nat} {x1 : Int32} {x2 : Int32} {x3 : Int32} {h : gH} {rh : gH} {rv : Int32}, F_X12_secondsOf_0 n x0 x1 x2 x3 h = some (rv, rh) → G M_X12_secondsOf (d + 2) 0 0 0 0 0 [some (.ref x0), some (.int x1), some (.int x2), some (.int x3), none] [] h (qI rv rh) := by
  intro x0 x1 x2 x3 h rh rv hf
  unfold F_X12_secondsOf_0 at hf
  refine g_aload_n dX12_secondsOf_0 rfl ?_
  refine g_iload_n dX12_secondsOf_1 rfl ?_
  refine g_iload_n dX12_secondsOf_2 rfl ?_
  refine g_iload_n dX12_secondsOf_3 rfl ?_
  replace hf := Option.bind_eq_some_iff.mp hf
  obtain ⟨f1, q2, hf⟩ := hf
  replace hf := gB_of hf
  obtain ⟨v5, h3, q4, hf⟩ := hf
  refine g_callV (as := [.int x1, .int x2, .int x3]) (mc1 := 0) (ms1 := 0) s_X12_172_X12_speedOf_12 dX12_secondsOf_4 (gO_of q2) rfl (Nat.le_of_ble_eq_true rfl) (Nat.le_of_ble_eq_true rfl) (Nat.le_of_ble_eq_true rfl) (t_X12_speedOf (d := d + 0) q4) (fun r9 h9 q9 => ?_)
  obtain ⟨rfl, rfl⟩ := q9
  refine g_stp (st2 := [.int v5]) (pc2 := 7) (kc2 := 0) (kn2 := 0) rfl rfl rfl rfl ?_
  refine g_istore dX12_secondsOf_7 (by decide) (g_lvp (lv2 := [some (.ref x0), some (.int x1), some (.int x2), some (.int x3), some (.int v5)]) (pc2 := 9) rfl rfl ?_)
  refine g_bipush (v := (100 : Int32)) dX12_secondsOf_9 (by decide) ?_
  refine g_aload_n dX12_secondsOf_11 rfl ?_
  refine g_iload_n dX12_secondsOf_12 rfl ?_
  replace hf := Option.bind_eq_some_iff.mp hf
  obtain ⟨f6, q7, hf⟩ := hf
  replace hf := gB_of hf
  obtain ⟨v10, h8, q9, hf⟩ := hf
  refine g_callV (as := [.int x1]) (mc1 := 0) (ms1 := 0) s_X12_155_X12_length_12 dX12_secondsOf_13 (gO_of q7) rfl (Nat.le_of_ble_eq_true rfl) (Nat.le_of_ble_eq_true rfl) (Nat.le_of_ble_eq_true rfl) (t_X12_length (d := d + 1) q9) (fun r9 h9 q9 => ?_)
  obtain ⟨rfl, rfl⟩ := q9
  refine g_stp (st2 := [.int v10, .int (100 : Int32)]) (pc2 := 16) (kc2 := 0) (kn2 := 0) rfl rfl rfl rfl ?_
  refine g_imul dX12_secondsOf_16 ?_
  refine g_iload dX12_secondsOf_17 rfl ?_
  refine g_iadd dX12_secondsOf_19 ?_
  refine g_iconst (v := (1 : Int32)) dX12_secondsOf_20 (by decide) ?_
  refine g_isub dX12_secondsOf_21 ?_
  refine g_iload dX12_secondsOf_22 rfl ?_
  by_cases c11 : v5 = (0 : Int32)
  · rw [if_pos c11] at hf; cases hf
  rw [if_neg c11] at hf
  refine g_idiv dX12_secondsOf_24 c11 ?_
  obtain ⟨rfl, rfl⟩ := Prod.mk.inj (Option.some.inj hf)
  exact g_iret dX12_secondsOf_25 rfl ⟨rfl, rfl⟩ (Nat.le_of_ble_eq_true rfl) (Nat.le_of_ble_eq_true rfl)
def F_X12_secondsOf (n : Nat) (a : Nat) (p0 : Int32) (p1 : Int32) (p2 : Int32) (h : gH) : Option (Int32 × gH) := F_X12_secondsOf_0 n  a p0 p1 p2 h
theorem t_X12_secondsOf {n d : Nat} {a : Nat} {p0 : Int32} {p1 : Int32} {p2 : Int32} {h rh : gH} {rv : Int32} (hf : F_X12_secondsOf n a p0 p1 p2 h = some (rv, rh)) : T M_X12_secondsOf (d + 2) 0 0 [.ref a, .int p0, .int p1, .int p2] h (qI rv rh) := by
  refine T_of_G (L := 1) (by decide +kernel) rfl (Nat.le_of_ble_eq_true rfl) (g_lv (lv2 := [some (.ref a), some (.int p0), some (.int p1), some (.int p2), none]) rfl ?_)
  exact g_X12_secondsOf_0 hf
def F_X12_looks_193 (n : Nat) (k77 : Nat → Int32 → Int32 → Int32 → Int32 → Int32 → Int32 → Int32 → gH → Option (gH)) (x0 : Nat) (x1 : Int32) (x3 : Int32) (x4 : Int32) (x5 : Int32) (x6 : Int32) (x7 : Int32) (x8 : Int32) (h : gH) : Option (gH) :=
  k77 x0 x1 x3 x4 x5 x6 x7 (x8 + (1 : Int32)) h
set_option maxRecDepth 20000 in
set_option maxHeartbeats 1600000 in
theorem g_X12_looks_193 {n d : Nat} {k77 : Nat → Int32 → Int32 → Int32 → Int32 → Int32 → Int32 → Int32 → gH → Option (gH)} (t77 : ∀ {x0 : Nat} {x1 : Int32} {x3 : Int32} {x4 : Int32} {x5 : Int32} {x6 : Int32} {x7 : Int32} {x8 : Int32} {h : gH} {rh : gH}, k77 x0 x1 x3 x4 x5 x6 x7 x8 h = some rh → G M_X12_looks (d + 3) 0 0 0 0 77 [some (.ref x0), some (.int x1), none, some (.int x3), some (.int x4), some (.int x5), some (.int x6), some (.int x7), some (.int x8), none, none, none] [] h (qV rh)) : ∀ {x0 : Nat} {x1 : Int32} {x3 : Int32} {x4 : Int32} {x5 : Int32} {x6 : Int32} {x7 : Int32} {x8 : Int32} {h : gH} {rh : gH}, F_X12_looks_193 n k77 x0 x1 x3 x4 x5 x6 x7 x8 h = some rh → G M_X12_looks (d + 3) 0 0 0 0 193 [some (.ref x0), some (.int x1), none, some (.int x3), some (.int x4), some (.int x5), some (.int x6), some (.int x7), some (.int x8), none, none, none] [] h (qV rh) := by
  intro x0 x1 x3 x4 x5 x6 x7 x8 h rh hf
  unfold F_X12_looks_193 at hf
  refine g_iinc2 (w := (1 : Int32)) dX12_looks_193 (by decide) rfl (by decide) (g_lvp (lv2 := [some (.ref x0), some (.int x1), none, some (.int x3), some (.int x4), some (.int x5), some (.int x6), some (.int x7), some (.int (x8 + (1 : Int32))), none, none, none]) (pc2 := 196) rfl rfl ?_)
  refine g_goto (tgt := 77) dX12_looks_196 (by decide) ?_
  exact t77 hf
def F_X12_looks_176 (n : Nat) (k77 : Nat → Int32 → Int32 → Int32 → Int32 → Int32 → Int32 → Int32 → gH → Option (gH)) (x0 : Nat) (x1 : Int32) (x3 : Int32) (x4 : Int32) (x8 : Int32) (x10 : Int32) (x11 : Int32) (h : gH) : Option (gH) :=
  (gR h x0 12 12).bind fun v1 =>
  (aI h v1 x10).bind fun v3 =>
  F_X12_looks_193 n (k77) x0 x1 x3 x4 x8 x11 v3 x8 h
set_option maxRecDepth 20000 in
set_option maxHeartbeats 1600000 in
theorem g_X12_looks_176 {n d : Nat} {k77 : Nat → Int32 → Int32 → Int32 → Int32 → Int32 → Int32 → Int32 → gH → Option (gH)} (t77 : ∀ {x0 : Nat} {x1 : Int32} {x3 : Int32} {x4 : Int32} {x5 : Int32} {x6 : Int32} {x7 : Int32} {x8 : Int32} {h : gH} {rh : gH}, k77 x0 x1 x3 x4 x5 x6 x7 x8 h = some rh → G M_X12_looks (d + 3) 0 0 0 0 77 [some (.ref x0), some (.int x1), none, some (.int x3), some (.int x4), some (.int x5), some (.int x6), some (.int x7), some (.int x8), none, none, none] [] h (qV rh)) : ∀ {x0 : Nat} {x1 : Int32} {x3 : Int32} {x4 : Int32} {x8 : Int32} {x10 : Int32} {x11 : Int32} {h : gH} {rh : gH}, F_X12_looks_176 n k77 x0 x1 x3 x4 x8 x10 x11 h = some rh → G M_X12_looks (d + 3) 0 0 0 0 176 [some (.ref x0), some (.int x1), none, some (.int x3), some (.int x4), none, none, none, some (.int x8), none, some (.int x10), some (.int x11)] [] h (qV rh) := by
  intro x0 x1 x3 x4 x8 x10 x11 h rh hf
  unfold F_X12_looks_176 at hf
  refine g_iload dX12_looks_176 rfl ?_
  refine g_istore dX12_looks_178 (by decide) (g_lvp (lv2 := [some (.ref x0), some (.int x1), none, some (.int x3), some (.int x4), some (.int x8), none, none, some (.int x8), none, some (.int x10), some (.int x11)]) (pc2 := 180) rfl rfl ?_)
  refine g_iload dX12_looks_180 rfl ?_
  refine g_istore dX12_looks_182 (by decide) (g_lvp (lv2 := [some (.ref x0), some (.int x1), none, some (.int x3), some (.int x4), some (.int x8), some (.int x11), none, some (.int x8), none, some (.int x10), some (.int x11)]) (pc2 := 184) rfl rfl ?_)
  refine g_aload_n dX12_looks_184 rfl ?_
  replace hf := Option.bind_eq_some_iff.mp hf
  obtain ⟨v1, q2, hf⟩ := hf
  refine g_gR f_X12_28 dX12_looks_185 q2 ?_
  refine g_iload dX12_looks_188 rfl ?_
  replace hf := Option.bind_eq_some_iff.mp hf
  obtain ⟨v3, q4, hf⟩ := hf
  refine g_aI dX12_looks_190 q4 ?_
  refine g_istore dX12_looks_191 (by decide) (g_lvp (lv2 := [some (.ref x0), some (.int x1), none, some (.int x3), some (.int x4), some (.int x8), some (.int x11), some (.int v3), some (.int x8), none, some (.int x10), some (.int x11)]) (pc2 := 193) rfl rfl ?_)
  refine g_weak (lv2 := [some (.ref x0), some (.int x1), none, some (.int x3), some (.int x4), some (.int x8), some (.int x11), some (.int v3), some (.int x8), none, none, none]) (And.intro rfl (And.intro rfl (And.intro rfl (And.intro rfl (And.intro rfl (And.intro rfl (And.intro rfl (And.intro rfl (trivial))))))))) ?_
  exact g_X12_looks_193 t77 hf
def F_X12_looks_107 (n : Nat) (k77 : Nat → Int32 → Int32 → Int32 → Int32 → Int32 → Int32 → Int32 → gH → Option (gH)) (x0 : Nat) (x1 : Int32) (x3 : Int32) (x4 : Int32) (x5 : Int32) (x6 : Int32) (x7 : Int32) (x8 : Int32) (y0 : Int32) (h : gH) : Option (gH) :=
  if y0 < 0 then
  (F_X12_looks_193 n (k77) x0 x1 x3 x4 x5 x6 x7 x8 h)
  else
  ((gO h x0 12).bind fun f2 =>
  gB (F_X12_secondsOf n x0 x3 x8 x4 h) fun v6 h4 =>
  (gR h4 x0 12 11).bind fun v7 =>
  (aI h4 v7 (((61 : Int32) * (x3 + (1 : Int32))) + y0)).bind fun v9 =>
  if x5 = (-1 : Int32) then
  (F_X12_looks_176 n (k77) x0 x1 x3 x4 x8 (((61 : Int32) * (x3 + (1 : Int32))) + y0) (v6 + v9) h4)
  else
  (if (v6 + v9) < x6 then
  (F_X12_looks_176 n (k77) x0 x1 x3 x4 x8 (((61 : Int32) * (x3 + (1 : Int32))) + y0) (v6 + v9) h4)
  else
  (if (v6 + v9) = x6 then
  ((gR h4 x0 12 12).bind fun v14 =>
  (aI h4 v14 (((61 : Int32) * (x3 + (1 : Int32))) + y0)).bind fun v16 =>
  if v16 ≤ x7 then
  (F_X12_looks_193 n (k77) x0 x1 x3 x4 x5 x6 x7 x8 h4)
  else
  (F_X12_looks_176 n (k77) x0 x1 x3 x4 x8 (((61 : Int32) * (x3 + (1 : Int32))) + y0) (v6 + v9) h4))
  else
  (F_X12_looks_193 n (k77) x0 x1 x3 x4 x5 x6 x7 x8 h4))))
set_option maxRecDepth 20000 in
set_option maxHeartbeats 1600000 in
theorem g_X12_looks_107 {n d : Nat} {k77 : Nat → Int32 → Int32 → Int32 → Int32 → Int32 → Int32 → Int32 → gH → Option (gH)} (t77 : ∀ {x0 : Nat} {x1 : Int32} {x3 : Int32} {x4 : Int32} {x5 : Int32} {x6 : Int32} {x7 : Int32} {x8 : Int32} {h : gH} {rh : gH}, k77 x0 x1 x3 x4 x5 x6 x7 x8 h = some rh → G M_X12_looks (d + 3) 0 0 0 0 77 [some (.ref x0), some (.int x1), none, some (.int x3), some (.int x4), some (.int x5), some (.int x6), some (.int x7), some (.int x8), none, none, none] [] h (qV rh)) : ∀ {x0 : Nat} {x1 : Int32} {x3 : Int32} {x4 : Int32} {x5 : Int32} {x6 : Int32} {x7 : Int32} {x8 : Int32} {y0 : Int32} {h : gH} {rh : gH}, F_X12_looks_107 n k77 x0 x1 x3 x4 x5 x6 x7 x8 y0 h = some rh → G M_X12_looks (d + 3) 0 0 0 0 107 [some (.ref x0), some (.int x1), none, some (.int x3), some (.int x4), some (.int x5), some (.int x6), some (.int x7), some (.int x8), none, none, none] [.int y0] h (qV rh) := by
  intro x0 x1 x3 x4 x5 x6 x7 x8 y0 h rh hf
  unfold F_X12_looks_107 at hf
  refine g_istore dX12_looks_107 (by decide) (g_lvp (lv2 := [some (.ref x0), some (.int x1), none, some (.int x3), some (.int x4), some (.int x5), some (.int x6), some (.int x7), some (.int x8), some (.int y0), none, none]) (pc2 := 109) rfl rfl ?_)
  refine g_iload dX12_looks_109 rfl ?_
  refine g_if_lt (tgt := 193) dX12_looks_111 (by decide) (fun c1 => ?_) (fun c1 => ?_)
  · rw [if_pos c1] at hf
    refine g_weak (lv2 := [some (.ref x0), some (.int x1), none, some (.int x3), some (.int x4), some (.int x5), some (.int x6), some (.int x7), some (.int x8), none, none, none]) (And.intro rfl (And.intro rfl (And.intro rfl (And.intro rfl (And.intro rfl (And.intro rfl (And.intro rfl (And.intro rfl (trivial))))))))) ?_
    exact g_X12_looks_193 t77 hf
  · rw [if_neg c1] at hf
    refine g_bipush (v := (61 : Int32)) dX12_looks_114 (by decide) ?_
    refine g_iload_n dX12_looks_116 rfl ?_
    refine g_iconst (v := (1 : Int32)) dX12_looks_117 (by decide) ?_
    refine g_iadd dX12_looks_118 ?_
    refine g_imul dX12_looks_119 ?_
    refine g_iload dX12_looks_120 rfl ?_
    refine g_iadd dX12_looks_122 ?_
    refine g_istore dX12_looks_123 (by decide) (g_lvp (lv2 := [some (.ref x0), some (.int x1), none, some (.int x3), some (.int x4), some (.int x5), some (.int x6), some (.int x7), some (.int x8), some (.int y0), some (.int (((61 : Int32) * (x3 + (1 : Int32))) + y0)), none]) (pc2 := 125) rfl rfl ?_)
    refine g_aload_n dX12_looks_125 rfl ?_
    refine g_iload_n dX12_looks_126 rfl ?_
    refine g_iload dX12_looks_127 rfl ?_
    refine g_iload dX12_looks_129 rfl ?_
    replace hf := Option.bind_eq_some_iff.mp hf
    obtain ⟨f2, q3, hf⟩ := hf
    replace hf := gB_of hf
    obtain ⟨v6, h4, q5, hf⟩ := hf
    refine g_callV (as := [.int x3, .int x8, .int x4]) (mc1 := 0) (ms1 := 0) s_X12_179_X12_secondsOf_12 dX12_looks_131 (gO_of q3) rfl (Nat.le_of_ble_eq_true rfl) (Nat.le_of_ble_eq_true rfl) (Nat.le_of_ble_eq_true rfl) (t_X12_secondsOf (d := d + 0) q5) (fun r9 h9 q9 => ?_)
    obtain ⟨rfl, rfl⟩ := q9
    refine g_stp (st2 := [.int v6]) (pc2 := 134) (kc2 := 0) (kn2 := 0) rfl rfl rfl rfl ?_
    refine g_aload_n dX12_looks_134 rfl ?_
    replace hf := Option.bind_eq_some_iff.mp hf
    obtain ⟨v7, q8, hf⟩ := hf
    refine g_gR f_X12_25 dX12_looks_135 q8 ?_
    refine g_iload dX12_looks_138 rfl ?_
    replace hf := Option.bind_eq_some_iff.mp hf
    obtain ⟨v9, q10, hf⟩ := hf
    refine g_aI dX12_looks_140 q10 ?_
    refine g_iadd dX12_looks_141 ?_
    refine g_istore dX12_looks_142 (by decide) (g_lvp (lv2 := [some (.ref x0), some (.int x1), none, some (.int x3), some (.int x4), some (.int x5), some (.int x6), some (.int x7), some (.int x8), some (.int y0), some (.int (((61 : Int32) * (x3 + (1 : Int32))) + y0)), some (.int (v6 + v9))]) (pc2 := 144) rfl rfl ?_)
    refine g_iload dX12_looks_144 rfl ?_
    refine g_iconst (v := (-1 : Int32)) dX12_looks_146 (by decide) ?_
    refine g_icmp_eq (tgt := 176) dX12_looks_147 (by decide) (fun c11 => ?_) (fun c11 => ?_)
    · rw [if_pos c11] at hf
      refine g_weak (lv2 := [some (.ref x0), some (.int x1), none, some (.int x3), some (.int x4), none, none, none, some (.int x8), none, some (.int (((61 : Int32) * (x3 + (1 : Int32))) + y0)), some (.int (v6 + v9))]) (And.intro rfl (And.intro rfl (And.intro rfl (And.intro rfl (And.intro rfl (And.intro rfl (And.intro rfl (trivial)))))))) ?_
      exact g_X12_looks_176 t77 hf
    · rw [if_neg c11] at hf
      refine g_iload dX12_looks_150 rfl ?_
      refine g_iload dX12_looks_152 rfl ?_
      refine g_icmp_lt (tgt := 176) dX12_looks_154 (by decide) (fun c12 => ?_) (fun c12 => ?_)
      · rw [if_pos c12] at hf
        refine g_weak (lv2 := [some (.ref x0), some (.int x1), none, some (.int x3), some (.int x4), none, none, none, some (.int x8), none, some (.int (((61 : Int32) * (x3 + (1 : Int32))) + y0)), some (.int (v6 + v9))]) (And.intro rfl (And.intro rfl (And.intro rfl (And.intro rfl (And.intro rfl (And.intro rfl (And.intro rfl (trivial)))))))) ?_
        exact g_X12_looks_176 t77 hf
      · rw [if_neg c12] at hf
        refine g_iload dX12_looks_157 rfl ?_
        refine g_iload dX12_looks_159 rfl ?_
        refine g_icmp_ne (tgt := 193) dX12_looks_161 (by decide) (fun c13 => ?_) (fun c13 => ?_)
        · rw [if_neg c13] at hf
          refine g_weak (lv2 := [some (.ref x0), some (.int x1), none, some (.int x3), some (.int x4), some (.int x5), some (.int x6), some (.int x7), some (.int x8), none, none, none]) (And.intro rfl (And.intro rfl (And.intro rfl (And.intro rfl (And.intro rfl (And.intro rfl (And.intro rfl (And.intro rfl (trivial))))))))) ?_
          exact g_X12_looks_193 t77 hf
        · rw [if_pos c13] at hf
          refine g_aload_n dX12_looks_164 rfl ?_
          replace hf := Option.bind_eq_some_iff.mp hf
          obtain ⟨v14, q15, hf⟩ := hf
          refine g_gR f_X12_28 dX12_looks_165 q15 ?_
          refine g_iload dX12_looks_168 rfl ?_
          replace hf := Option.bind_eq_some_iff.mp hf
          obtain ⟨v16, q17, hf⟩ := hf
          refine g_aI dX12_looks_170 q17 ?_
          refine g_iload dX12_looks_171 rfl ?_
          refine g_icmp_le (tgt := 193) dX12_looks_173 (by decide) (fun c18 => ?_) (fun c18 => ?_)
          · rw [if_pos c18] at hf
            refine g_weak (lv2 := [some (.ref x0), some (.int x1), none, some (.int x3), some (.int x4), some (.int x5), some (.int x6), some (.int x7), some (.int x8), none, none, none]) (And.intro rfl (And.intro rfl (And.intro rfl (And.intro rfl (And.intro rfl (And.intro rfl (And.intro rfl (And.intro rfl (trivial))))))))) ?_
            exact g_X12_looks_193 t77 hf
          · rw [if_neg c18] at hf
            refine g_weak (lv2 := [some (.ref x0), some (.int x1), none, some (.int x3), some (.int x4), none, none, none, some (.int x8), none, some (.int (((61 : Int32) * (x3 + (1 : Int32))) + y0)), some (.int (v6 + v9))]) (And.intro rfl (And.intro rfl (And.intro rfl (And.intro rfl (And.intro rfl (And.intro rfl (And.intro rfl (trivial)))))))) ?_
            exact g_X12_looks_176 t77 hf
def F_X12_looks_77 (n : Nat) (k56 : Nat → Int32 → Int32 → Int32 → gH → Option (gH)) : Nat → Nat → Int32 → Int32 → Int32 → Int32 → Int32 → Int32 → Int32 → gH → Option (gH)
  | 0, _, _, _, _, _, _, _, _, _ => none
  | m + 1, x0, x1, x3, x4, x5, x6, x7, x8, h => if (10 : Int32) ≤ x8 then
  ((gR h x0 12 11).bind fun v2 =>
  (sI h v2 (((61 : Int32) * x3) + x4) x6).bind fun h4 =>
  (gR h4 x0 12 12).bind fun v6 =>
  (sI h4 v6 (((61 : Int32) * x3) + x4) x7).bind fun h8 =>
  (gR h8 x0 12 13).bind fun v10 =>
  (sI h8 v10 (((61 : Int32) * x3) + x4) x5).bind fun h12 =>
  k56 x0 x1 x3 (x4 + (1 : Int32)) h12)
  else
  (if ((x1 >>> (x8 &&& 31)) &&& (1 : Int32)) = (1 : Int32) then
  ((gO h x0 12).bind fun f15 =>
  gB (F_X12_behind n x0 x3 x8 x4 h) fun v19 h17 =>
  F_X12_looks_107 n (F_X12_looks_77 n k56 m) x0 x1 x3 x4 x5 x6 x7 x8 v19 h17)
  else
  (F_X12_looks_107 n (F_X12_looks_77 n k56 m) x0 x1 x3 x4 x5 x6 x7 x8 (-1 : Int32) h))
set_option maxRecDepth 20000 in
set_option maxHeartbeats 1600000 in
theorem g_X12_looks_77 {n d : Nat} {k56 : Nat → Int32 → Int32 → Int32 → gH → Option (gH)} (t56 : ∀ {x0 : Nat} {x1 : Int32} {x3 : Int32} {x4 : Int32} {h : gH} {rh : gH}, k56 x0 x1 x3 x4 h = some rh → G M_X12_looks (d + 3) 0 0 0 0 56 [some (.ref x0), some (.int x1), none, some (.int x3), some (.int x4), none, none, none, none, none, none, none] [] h (qV rh)) : ∀ {m : Nat} {x0 : Nat} {x1 : Int32} {x3 : Int32} {x4 : Int32} {x5 : Int32} {x6 : Int32} {x7 : Int32} {x8 : Int32} {h : gH} {rh : gH}, F_X12_looks_77 n k56 m x0 x1 x3 x4 x5 x6 x7 x8 h = some rh → G M_X12_looks (d + 3) 0 0 0 0 77 [some (.ref x0), some (.int x1), none, some (.int x3), some (.int x4), some (.int x5), some (.int x6), some (.int x7), some (.int x8), none, none, none] [] h (qV rh) := by
  intro m
  induction m with
  | zero => intro x0 x1 x3 x4 x5 x6 x7 x8 h rh hf; cases hf
  | succ m t77 =>
    intro x0 x1 x3 x4 x5 x6 x7 x8 h rh hf
    unfold F_X12_looks_77 at hf
    refine g_iload dX12_looks_77 rfl ?_
    refine g_bipush (v := (10 : Int32)) dX12_looks_79 (by decide) ?_
    refine g_icmp_ge (tgt := 199) dX12_looks_81 (by decide) (fun c1 => ?_) (fun c1 => ?_)
    · rw [if_pos c1] at hf
      refine g_aload_n dX12_looks_199 rfl ?_
      replace hf := Option.bind_eq_some_iff.mp hf
      obtain ⟨v2, q3, hf⟩ := hf
      refine g_gR f_X12_25 dX12_looks_200 q3 ?_
      refine g_bipush (v := (61 : Int32)) dX12_looks_203 (by decide) ?_
      refine g_iload_n dX12_looks_205 rfl ?_
      refine g_imul dX12_looks_206 ?_
      refine g_iload dX12_looks_207 rfl ?_
      refine g_iadd dX12_looks_209 ?_
      refine g_iload dX12_looks_210 rfl ?_
      replace hf := Option.bind_eq_some_iff.mp hf
      obtain ⟨h4, q5, hf⟩ := hf
      refine g_sI dX12_looks_212 q5 ?_
      refine g_aload_n dX12_looks_213 rfl ?_
      replace hf := Option.bind_eq_some_iff.mp hf
      obtain ⟨v6, q7, hf⟩ := hf
      refine g_gR f_X12_28 dX12_looks_214 q7 ?_
      refine g_bipush (v := (61 : Int32)) dX12_looks_217 (by decide) ?_
      refine g_iload_n dX12_looks_219 rfl ?_
      refine g_imul dX12_looks_220 ?_
      refine g_iload dX12_looks_221 rfl ?_
      refine g_iadd dX12_looks_223 ?_
      refine g_iload dX12_looks_224 rfl ?_
      replace hf := Option.bind_eq_some_iff.mp hf
      obtain ⟨h8, q9, hf⟩ := hf
      refine g_sI dX12_looks_226 q9 ?_
      refine g_aload_n dX12_looks_227 rfl ?_
      replace hf := Option.bind_eq_some_iff.mp hf
      obtain ⟨v10, q11, hf⟩ := hf
      refine g_gR f_X12_31 dX12_looks_228 q11 ?_
      refine g_bipush (v := (61 : Int32)) dX12_looks_231 (by decide) ?_
      refine g_iload_n dX12_looks_233 rfl ?_
      refine g_imul dX12_looks_234 ?_
      refine g_iload dX12_looks_235 rfl ?_
      refine g_iadd dX12_looks_237 ?_
      refine g_iload dX12_looks_238 rfl ?_
      replace hf := Option.bind_eq_some_iff.mp hf
      obtain ⟨h12, q13, hf⟩ := hf
      refine g_sI dX12_looks_240 q13 ?_
      refine g_iinc2 (w := (1 : Int32)) dX12_looks_241 (by decide) rfl (by decide) (g_lvp (lv2 := [some (.ref x0), some (.int x1), none, some (.int x3), some (.int (x4 + (1 : Int32))), some (.int x5), some (.int x6), some (.int x7), some (.int x8), none, none, none]) (pc2 := 244) rfl rfl ?_)
      refine g_goto (tgt := 56) dX12_looks_244 (by decide) ?_
      refine g_weak (lv2 := [some (.ref x0), some (.int x1), none, some (.int x3), some (.int (x4 + (1 : Int32))), none, none, none, none, none, none, none]) (And.intro rfl (And.intro rfl (And.intro rfl (And.intro rfl (trivial))))) ?_
      exact t56 hf
    · rw [if_neg c1] at hf
      refine g_iload_n dX12_looks_84 rfl ?_
      refine g_iload dX12_looks_85 rfl ?_
      refine g_ishr dX12_looks_87 ?_
      refine g_iconst (v := (1 : Int32)) dX12_looks_88 (by decide) ?_
      refine g_iand dX12_looks_89 ?_
      refine g_iconst (v := (1 : Int32)) dX12_looks_90 (by decide) ?_
      refine g_icmp_ne (tgt := 106) dX12_looks_91 (by decide) (fun c14 => ?_) (fun c14 => ?_)
      · rw [if_neg c14] at hf
        refine g_iconst (v := (-1 : Int32)) dX12_looks_106 (by decide) ?_
        exact g_X12_looks_107 t77 hf
      · rw [if_pos c14] at hf
        refine g_aload_n dX12_looks_94 rfl ?_
        refine g_iload_n dX12_looks_95 rfl ?_
        refine g_iload dX12_looks_96 rfl ?_
        refine g_iload dX12_looks_98 rfl ?_
        replace hf := Option.bind_eq_some_iff.mp hf
        obtain ⟨f15, q16, hf⟩ := hf
        replace hf := gB_of hf
        obtain ⟨v19, h17, q18, hf⟩ := hf
        refine g_callV (as := [.int x3, .int x8, .int x4]) (mc1 := 0) (ms1 := 0) s_X12_182_X12_behind_12 dX12_looks_100 (gO_of q16) rfl (Nat.le_of_ble_eq_true rfl) (Nat.le_of_ble_eq_true rfl) (Nat.le_of_ble_eq_true rfl) (t_X12_behind (d := d + 0) q18) (fun r9 h9 q9 => ?_)
        obtain ⟨rfl, rfl⟩ := q9
        refine g_stp (st2 := [.int v19]) (pc2 := 103) (kc2 := 0) (kn2 := 0) rfl rfl rfl rfl ?_
        refine g_goto (tgt := 107) dX12_looks_103 (by decide) ?_
        exact g_X12_looks_107 t77 hf
def F_X12_looks_56 (n : Nat) (k49 : Nat → Int32 → Int32 → gH → Option (gH)) : Nat → Nat → Int32 → Int32 → Int32 → gH → Option (gH)
  | 0, _, _, _, _, _ => none
  | m + 1, x0, x1, x3, x4, h => (gO h x0 12).bind fun f1 =>
  gB (F_X12_most n x0  h) fun v5 h3 =>
  if v5 < x4 then
  (k49 x0 x1 (x3 + (-1 : Int32)) h3)
  else
  (F_X12_looks_77 n (F_X12_looks_56 n k49 m) n x0 x1 x3 x4 (-1 : Int32) (0 : Int32) (0 : Int32) (0 : Int32) h3)
set_option maxRecDepth 20000 in
set_option maxHeartbeats 1600000 in
theorem g_X12_looks_56 {n d : Nat} {k49 : Nat → Int32 → Int32 → gH → Option (gH)} (t49 : ∀ {x0 : Nat} {x1 : Int32} {x3 : Int32} {h : gH} {rh : gH}, k49 x0 x1 x3 h = some rh → G M_X12_looks (d + 3) 0 0 0 0 49 [some (.ref x0), some (.int x1), none, some (.int x3), none, none, none, none, none, none, none, none] [] h (qV rh)) : ∀ {m : Nat} {x0 : Nat} {x1 : Int32} {x3 : Int32} {x4 : Int32} {h : gH} {rh : gH}, F_X12_looks_56 n k49 m x0 x1 x3 x4 h = some rh → G M_X12_looks (d + 3) 0 0 0 0 56 [some (.ref x0), some (.int x1), none, some (.int x3), some (.int x4), none, none, none, none, none, none, none] [] h (qV rh) := by
  intro m
  induction m with
  | zero => intro x0 x1 x3 x4 h rh hf; cases hf
  | succ m t56 =>
    intro x0 x1 x3 x4 h rh hf
    unfold F_X12_looks_56 at hf
    refine g_iload dX12_looks_56 rfl ?_
    refine g_aload_n dX12_looks_58 rfl ?_
    replace hf := Option.bind_eq_some_iff.mp hf
    obtain ⟨f1, q2, hf⟩ := hf
    replace hf := gB_of hf
    obtain ⟨v5, h3, q4, hf⟩ := hf
    refine g_callV (as := []) (mc1 := 0) (ms1 := 0) s_X12_56_X12_most_12 dX12_looks_59 (gO_of q2) rfl (Nat.le_of_ble_eq_true rfl) (Nat.le_of_ble_eq_true rfl) (Nat.le_of_ble_eq_true rfl) (t_X12_most (d := d + 1) q4) (fun r9 h9 q9 => ?_)
    obtain ⟨rfl, rfl⟩ := q9
    refine g_stp (st2 := [.int v5, .int x4]) (pc2 := 62) (kc2 := 0) (kn2 := 0) rfl rfl rfl rfl ?_
    refine g_icmp_gt (tgt := 247) dX12_looks_62 (by decide) (fun c6 => ?_) (fun c6 => ?_)
    · rw [if_pos c6] at hf
      refine g_iinc2 (w := (-1 : Int32)) dX12_looks_247 (by decide) rfl (by decide) (g_lvp (lv2 := [some (.ref x0), some (.int x1), none, some (.int (x3 + (-1 : Int32))), some (.int x4), none, none, none, none, none, none, none]) (pc2 := 250) rfl rfl ?_)
      refine g_goto (tgt := 49) dX12_looks_250 (by decide) ?_
      refine g_weak (lv2 := [some (.ref x0), some (.int x1), none, some (.int (x3 + (-1 : Int32))), none, none, none, none, none, none, none, none]) (And.intro rfl (And.intro rfl (And.intro rfl (trivial)))) ?_
      exact t49 hf
    · rw [if_neg c6] at hf
      refine g_iconst (v := (-1 : Int32)) dX12_looks_65 (by decide) ?_
      refine g_istore dX12_looks_66 (by decide) (g_lvp (lv2 := [some (.ref x0), some (.int x1), none, some (.int x3), some (.int x4), some (.int (-1 : Int32)), none, none, none, none, none, none]) (pc2 := 68) rfl rfl ?_)
      refine g_iconst (v := (0 : Int32)) dX12_looks_68 (by decide) ?_
      refine g_istore dX12_looks_69 (by decide) (g_lvp (lv2 := [some (.ref x0), some (.int x1), none, some (.int x3), some (.int x4), some (.int (-1 : Int32)), some (.int (0 : Int32)), none, none, none, none, none]) (pc2 := 71) rfl rfl ?_)
      refine g_iconst (v := (0 : Int32)) dX12_looks_71 (by decide) ?_
      refine g_istore dX12_looks_72 (by decide) (g_lvp (lv2 := [some (.ref x0), some (.int x1), none, some (.int x3), some (.int x4), some (.int (-1 : Int32)), some (.int (0 : Int32)), some (.int (0 : Int32)), none, none, none, none]) (pc2 := 74) rfl rfl ?_)
      refine g_iconst (v := (0 : Int32)) dX12_looks_74 (by decide) ?_
      refine g_istore dX12_looks_75 (by decide) (g_lvp (lv2 := [some (.ref x0), some (.int x1), none, some (.int x3), some (.int x4), some (.int (-1 : Int32)), some (.int (0 : Int32)), some (.int (0 : Int32)), some (.int (0 : Int32)), none, none, none]) (pc2 := 77) rfl rfl ?_)
      exact g_X12_looks_77 t56 hf
def F_X12_looks_49 (n : Nat)  : Nat → Nat → Int32 → Int32 → gH → Option (gH)
  | 0, _, _, _, _ => none
  | m + 1, x0, x1, x3, h => if x3 < 0 then
  (some h)
  else
  (F_X12_looks_56 n (F_X12_looks_49 n m) n x0 x1 x3 (0 : Int32) h)
set_option maxRecDepth 20000 in
set_option maxHeartbeats 1600000 in
theorem g_X12_looks_49 {n d : Nat} : ∀ {m : Nat} {x0 : Nat} {x1 : Int32} {x3 : Int32} {h : gH} {rh : gH}, F_X12_looks_49 n m x0 x1 x3 h = some rh → G M_X12_looks (d + 3) 0 0 0 0 49 [some (.ref x0), some (.int x1), none, some (.int x3), none, none, none, none, none, none, none, none] [] h (qV rh) := by
  intro m
  induction m with
  | zero => intro x0 x1 x3 h rh hf; cases hf
  | succ m t49 =>
    intro x0 x1 x3 h rh hf
    unfold F_X12_looks_49 at hf
    refine g_iload_n dX12_looks_49 rfl ?_
    refine g_if_lt (tgt := 253) dX12_looks_50 (by decide) (fun c1 => ?_) (fun c1 => ?_)
    · rw [if_pos c1] at hf
      obtain rfl := Option.some.inj hf
      exact g_vret dX12_looks_253 rfl ⟨rfl, rfl⟩ (Nat.le_of_ble_eq_true rfl) (Nat.le_of_ble_eq_true rfl)
    · rw [if_neg c1] at hf
      refine g_iconst (v := (0 : Int32)) dX12_looks_53 (by decide) ?_
      refine g_istore dX12_looks_54 (by decide) (g_lvp (lv2 := [some (.ref x0), some (.int x1), none, some (.int x3), some (.int (0 : Int32)), none, none, none, none, none, none, none]) (pc2 := 56) rfl rfl ?_)
      exact g_X12_looks_56 t49 hf
def F_X12_looks_7 (n : Nat)  : Nat → Nat → Int32 → Int32 → Int32 → gH → Option (gH)
  | 0, _, _, _, _, _ => none
  | m + 1, x0, x1, x2, x3, h => (gO h x0 12).bind fun f1 =>
  gB (F_X12_most n x0  h) fun v5 h3 =>
  if v5 < x3 then
  (F_X12_looks_49 n n x0 x1 (x2 - (1 : Int32)) h3)
  else
  ((gR h3 x0 12 11).bind fun v7 =>
  (sI h3 v7 (((61 : Int32) * x2) + x3) (0 : Int32)).bind fun h9 =>
  (gR h9 x0 12 12).bind fun v11 =>
  (sI h9 v11 (((61 : Int32) * x2) + x3) x3).bind fun h13 =>
  F_X12_looks_7 n m x0 x1 x2 (x3 + (1 : Int32)) h13)
set_option maxRecDepth 20000 in
set_option maxHeartbeats 1600000 in
theorem g_X12_looks_7 {n d : Nat} : ∀ {m : Nat} {x0 : Nat} {x1 : Int32} {x2 : Int32} {x3 : Int32} {h : gH} {rh : gH}, F_X12_looks_7 n m x0 x1 x2 x3 h = some rh → G M_X12_looks (d + 3) 0 0 0 0 7 [some (.ref x0), some (.int x1), some (.int x2), some (.int x3), none, none, none, none, none, none, none, none] [] h (qV rh) := by
  intro m
  induction m with
  | zero => intro x0 x1 x2 x3 h rh hf; cases hf
  | succ m t7 =>
    intro x0 x1 x2 x3 h rh hf
    unfold F_X12_looks_7 at hf
    refine g_iload_n dX12_looks_7 rfl ?_
    refine g_aload_n dX12_looks_8 rfl ?_
    replace hf := Option.bind_eq_some_iff.mp hf
    obtain ⟨f1, q2, hf⟩ := hf
    replace hf := gB_of hf
    obtain ⟨v5, h3, q4, hf⟩ := hf
    refine g_callV (as := []) (mc1 := 0) (ms1 := 0) s_X12_56_X12_most_12 dX12_looks_9 (gO_of q2) rfl (Nat.le_of_ble_eq_true rfl) (Nat.le_of_ble_eq_true rfl) (Nat.le_of_ble_eq_true rfl) (t_X12_most (d := d + 1) q4) (fun r9 h9 q9 => ?_)
    obtain ⟨rfl, rfl⟩ := q9
    refine g_stp (st2 := [.int v5, .int x3]) (pc2 := 12) (kc2 := 0) (kn2 := 0) rfl rfl rfl rfl ?_
    refine g_icmp_gt (tgt := 45) dX12_looks_12 (by decide) (fun c6 => ?_) (fun c6 => ?_)
    · rw [if_pos c6] at hf
      refine g_iload_n dX12_looks_45 rfl ?_
      refine g_iconst (v := (1 : Int32)) dX12_looks_46 (by decide) ?_
      refine g_isub dX12_looks_47 ?_
      refine g_istore_n dX12_looks_48 (by decide) (g_lvp (lv2 := [some (.ref x0), some (.int x1), some (.int x2), some (.int (x2 - (1 : Int32))), none, none, none, none, none, none, none, none]) (pc2 := 49) rfl rfl ?_)
      refine g_weak (lv2 := [some (.ref x0), some (.int x1), none, some (.int (x2 - (1 : Int32))), none, none, none, none, none, none, none, none]) (And.intro rfl (And.intro rfl (And.intro rfl (trivial)))) ?_
      exact g_X12_looks_49 hf
    · rw [if_neg c6] at hf
      refine g_aload_n dX12_looks_15 rfl ?_
      replace hf := Option.bind_eq_some_iff.mp hf
      obtain ⟨v7, q8, hf⟩ := hf
      refine g_gR f_X12_25 dX12_looks_16 q8 ?_
      refine g_bipush (v := (61 : Int32)) dX12_looks_19 (by decide) ?_
      refine g_iload_n dX12_looks_21 rfl ?_
      refine g_imul dX12_looks_22 ?_
      refine g_iload_n dX12_looks_23 rfl ?_
      refine g_iadd dX12_looks_24 ?_
      refine g_iconst (v := (0 : Int32)) dX12_looks_25 (by decide) ?_
      replace hf := Option.bind_eq_some_iff.mp hf
      obtain ⟨h9, q10, hf⟩ := hf
      refine g_sI dX12_looks_26 q10 ?_
      refine g_aload_n dX12_looks_27 rfl ?_
      replace hf := Option.bind_eq_some_iff.mp hf
      obtain ⟨v11, q12, hf⟩ := hf
      refine g_gR f_X12_28 dX12_looks_28 q12 ?_
      refine g_bipush (v := (61 : Int32)) dX12_looks_31 (by decide) ?_
      refine g_iload_n dX12_looks_33 rfl ?_
      refine g_imul dX12_looks_34 ?_
      refine g_iload_n dX12_looks_35 rfl ?_
      refine g_iadd dX12_looks_36 ?_
      refine g_iload_n dX12_looks_37 rfl ?_
      replace hf := Option.bind_eq_some_iff.mp hf
      obtain ⟨h13, q14, hf⟩ := hf
      refine g_sI dX12_looks_38 q14 ?_
      refine g_iinc2 (w := (1 : Int32)) dX12_looks_39 (by decide) rfl (by decide) (g_lvp (lv2 := [some (.ref x0), some (.int x1), some (.int x2), some (.int (x3 + (1 : Int32))), none, none, none, none, none, none, none, none]) (pc2 := 42) rfl rfl ?_)
      refine g_goto (tgt := 7) dX12_looks_42 (by decide) ?_
      exact t7 hf
def F_X12_looks_0 (n : Nat)  (x0 : Nat) (x1 : Int32) (h : gH) : Option (gH) :=
  (gO h x0 12).bind fun f1 =>
  gB (F_X12_pieces n x0  h) fun v5 h3 =>
  F_X12_looks_7 n n x0 x1 v5 (0 : Int32) h3
set_option maxRecDepth 20000 in
set_option maxHeartbeats 1600000 in
theorem g_X12_looks_0 {n d : Nat} : ∀ {x0 : Nat} {x1 : Int32} {h : gH} {rh : gH}, F_X12_looks_0 n x0 x1 h = some rh → G M_X12_looks (d + 3) 0 0 0 0 0 [some (.ref x0), some (.int x1), none, none, none, none, none, none, none, none, none, none] [] h (qV rh) := by
  intro x0 x1 h rh hf
  unfold F_X12_looks_0 at hf
  refine g_aload_n dX12_looks_0 rfl ?_
  replace hf := Option.bind_eq_some_iff.mp hf
  obtain ⟨f1, q2, hf⟩ := hf
  replace hf := gB_of hf
  obtain ⟨v5, h3, q4, hf⟩ := hf
  refine g_callV (as := []) (mc1 := 0) (ms1 := 0) s_X12_48_X12_pieces_12 dX12_looks_1 (gO_of q2) rfl (Nat.le_of_ble_eq_true rfl) (Nat.le_of_ble_eq_true rfl) (Nat.le_of_ble_eq_true rfl) (t_X12_pieces (d := d + 2) q4) (fun r9 h9 q9 => ?_)
  obtain ⟨rfl, rfl⟩ := q9
  refine g_stp (st2 := [.int v5]) (pc2 := 4) (kc2 := 0) (kn2 := 0) rfl rfl rfl rfl ?_
  refine g_istore_n dX12_looks_4 (by decide) (g_lvp (lv2 := [some (.ref x0), some (.int x1), some (.int v5), none, none, none, none, none, none, none, none, none]) (pc2 := 5) rfl rfl ?_)
  refine g_iconst (v := (0 : Int32)) dX12_looks_5 (by decide) ?_
  refine g_istore_n dX12_looks_6 (by decide) (g_lvp (lv2 := [some (.ref x0), some (.int x1), some (.int v5), some (.int (0 : Int32)), none, none, none, none, none, none, none, none]) (pc2 := 7) rfl rfl ?_)
  exact g_X12_looks_7 hf
def F_X12_looks (n : Nat) (a : Nat) (p0 : Int32) (h : gH) : Option (gH) := F_X12_looks_0 n  a p0 h
theorem t_X12_looks {n d : Nat} {a : Nat} {p0 : Int32} {h rh : gH} (hf : F_X12_looks n a p0 h = some rh) : T M_X12_looks (d + 3) 0 0 [.ref a, .int p0] h (qV rh) := by
  refine T_of_G (L := 10) (by decide +kernel) rfl (Nat.le_of_ble_eq_true rfl) (g_lv (lv2 := [some (.ref a), some (.int p0), none, none, none, none, none, none, none, none, none, none]) rfl ?_)
  exact g_X12_looks_0 hf
def F_X12_secondsBy_0 (n : Nat)  (x0 : Nat) (x1 : Int32) (h : gH) : Option (Int32 × gH) :=
  (gO h x0 12).bind fun f1 =>
  (F_X12_looks n x0 (x1 ||| (1 : Int32)) h).bind fun h3 =>
  (gR h3 x0 12 11).bind fun v5 =>
  (gO h3 x0 12).bind fun f7 =>
  gB (F_X12_most n x0  h3) fun v11 h9 =>
  (aI h9 v5 v11).bind fun v12 =>
  some (v12, h9)
set_option maxRecDepth 20000 in
set_option maxHeartbeats 1600000 in
theorem g_X12_secondsBy_0 {n d : Nat} : ∀ {x0 : Nat} {x1 : Int32} {h : gH} {rh : gH} {rv : Int32}, F_X12_secondsBy_0 n x0 x1 h = some (rv, rh) → G M_X12_secondsBy (d + 4) 0 0 0 0 0 [some (.ref x0), some (.int x1)] [] h (qI rv rh) := by
  intro x0 x1 h rh rv hf
  unfold F_X12_secondsBy_0 at hf
  refine g_aload_n dX12_secondsBy_0 rfl ?_
  refine g_iload_n dX12_secondsBy_1 rfl ?_
  refine g_iconst (v := (1 : Int32)) dX12_secondsBy_2 (by decide) ?_
  refine g_ior dX12_secondsBy_3 ?_
  replace hf := Option.bind_eq_some_iff.mp hf
  obtain ⟨f1, q2, hf⟩ := hf
  replace hf := Option.bind_eq_some_iff.mp hf
  obtain ⟨h3, q4, hf⟩ := hf
  refine g_callV (as := [.int (x1 ||| (1 : Int32))]) (mc1 := 0) (ms1 := 0) s_X12_185_X12_looks_12 dX12_secondsBy_4 (gO_of q2) rfl (Nat.le_of_ble_eq_true rfl) (Nat.le_of_ble_eq_true rfl) (Nat.le_of_ble_eq_true rfl) (t_X12_looks (d := d + 0) q4) (fun r9 h9 q9 => ?_)
  obtain ⟨rfl, rfl⟩ := q9
  refine g_stp (st2 := []) (pc2 := 7) (kc2 := 0) (kn2 := 0) rfl rfl rfl rfl ?_
  refine g_aload_n dX12_secondsBy_7 rfl ?_
  replace hf := Option.bind_eq_some_iff.mp hf
  obtain ⟨v5, q6, hf⟩ := hf
  refine g_gR f_X12_25 dX12_secondsBy_8 q6 ?_
  refine g_aload_n dX12_secondsBy_11 rfl ?_
  replace hf := Option.bind_eq_some_iff.mp hf
  obtain ⟨f7, q8, hf⟩ := hf
  replace hf := gB_of hf
  obtain ⟨v11, h9, q10, hf⟩ := hf
  refine g_callV (as := []) (mc1 := 0) (ms1 := 0) s_X12_56_X12_most_12 dX12_secondsBy_12 (gO_of q8) rfl (Nat.le_of_ble_eq_true rfl) (Nat.le_of_ble_eq_true rfl) (Nat.le_of_ble_eq_true rfl) (t_X12_most (d := d + 2) q10) (fun r9 h9 q9 => ?_)
  obtain ⟨rfl, rfl⟩ := q9
  refine g_stp (st2 := [.int v11, .ref v5]) (pc2 := 15) (kc2 := 0) (kn2 := 0) rfl rfl rfl rfl ?_
  replace hf := Option.bind_eq_some_iff.mp hf
  obtain ⟨v12, q13, hf⟩ := hf
  refine g_aI dX12_secondsBy_15 q13 ?_
  obtain ⟨rfl, rfl⟩ := Prod.mk.inj (Option.some.inj hf)
  exact g_iret dX12_secondsBy_16 rfl ⟨rfl, rfl⟩ (Nat.le_of_ble_eq_true rfl) (Nat.le_of_ble_eq_true rfl)
def F_X12_secondsBy (n : Nat) (a : Nat) (p0 : Int32) (h : gH) : Option (Int32 × gH) := F_X12_secondsBy_0 n  a p0 h
theorem t_X12_secondsBy {n d : Nat} {a : Nat} {p0 : Int32} {h rh : gH} {rv : Int32} (hf : F_X12_secondsBy n a p0 h = some (rv, rh)) : T M_X12_secondsBy (d + 4) 0 0 [.ref a, .int p0] h (qI rv rh) := by
  refine T_of_G (L := 0) (by decide +kernel) rfl (Nat.le_of_ble_eq_true rfl) (g_lv (lv2 := [some (.ref a), some (.int p0)]) rfl ?_)
  exact g_X12_secondsBy_0 hf
def F_X12_by_31 (n : Nat)  (y0 : Int32) (h : gH) : Option (Int32 × gH) :=
  some (y0, h)
set_option maxRecDepth 20000 in
set_option maxHeartbeats 1600000 in
theorem g_X12_by_31 {n d : Nat} : ∀ {y0 : Int32} {h : gH} {rh : gH} {rv : Int32}, F_X12_by_31 n y0 h = some (rv, rh) → G M_X12_by (d + 5) 0 0 0 0 31 [none, none] [.int y0] h (qI rv rh) := by
  intro y0 h rh rv hf
  unfold F_X12_by_31 at hf
  obtain ⟨rfl, rfl⟩ := Prod.mk.inj (Option.some.inj hf)
  exact g_iret dX12_by_31 rfl ⟨rfl, rfl⟩ (Nat.le_of_ble_eq_true rfl) (Nat.le_of_ble_eq_true rfl)
def F_X12_by_0 (n : Nat)  (x0 : Nat) (x1 : Int32) (h : gH) : Option (Int32 × gH) :=
  gB (F_X12_in n x1 (0 : Int32) (1023 : Int32) h) fun v3 h1 =>
  if v3 = 0 then
  (some ((-2 : Int32), h1))
  else
  ((gO h1 x0 12).bind fun f5 =>
  gB (F_X12_pieces n x0  h1) fun v9 h7 =>
  if v9 = 0 then
  (F_X12_by_31 n (-3 : Int32) h7)
  else
  ((gO h7 x0 12).bind fun f11 =>
  gB (F_X12_secondsBy n x0 x1 h7) fun v15 h13 =>
  F_X12_by_31 n v15 h13))
set_option maxRecDepth 20000 in
set_option maxHeartbeats 1600000 in
theorem g_X12_by_0 {n d : Nat} : ∀ {x0 : Nat} {x1 : Int32} {h : gH} {rh : gH} {rv : Int32}, F_X12_by_0 n x0 x1 h = some (rv, rh) → G M_X12_by (d + 5) 0 0 0 0 0 [some (.ref x0), some (.int x1)] [] h (qI rv rh) := by
  intro x0 x1 h rh rv hf
  unfold F_X12_by_0 at hf
  refine g_iload_n dX12_by_0 rfl ?_
  refine g_iconst (v := (0 : Int32)) dX12_by_1 (by decide) ?_
  refine g_sipush (v := (1023 : Int32)) dX12_by_2 (by decide) ?_
  replace hf := gB_of hf
  obtain ⟨v3, h1, q2, hf⟩ := hf
  refine g_callS (as := [.int x1, .int (0 : Int32), .int (1023 : Int32)]) (mc1 := 0) (ms1 := 0) s_X12_44_X12_in dX12_by_5 rfl (Nat.le_of_ble_eq_true rfl) (Nat.le_of_ble_eq_true rfl) (Nat.le_of_ble_eq_true rfl) (t_X12_in (d := d + 4) q2) (fun r9 h9 q9 => ?_)
  obtain ⟨rfl, rfl⟩ := q9
  refine g_stp (st2 := [.int v3]) (pc2 := 8) (kc2 := 0) (kn2 := 0) rfl rfl rfl rfl ?_
  refine g_if_ne (tgt := 14) dX12_by_8 (by decide) (fun c4 => ?_) (fun c4 => ?_)
  · rw [if_neg c4] at hf
    refine g_aload_n dX12_by_14 rfl ?_
    replace hf := Option.bind_eq_some_iff.mp hf
    obtain ⟨f5, q6, hf⟩ := hf
    replace hf := gB_of hf
    obtain ⟨v9, h7, q8, hf⟩ := hf
    refine g_callV (as := []) (mc1 := 0) (ms1 := 0) s_X12_48_X12_pieces_12 dX12_by_15 (gO_of q6) rfl (Nat.le_of_ble_eq_true rfl) (Nat.le_of_ble_eq_true rfl) (Nat.le_of_ble_eq_true rfl) (t_X12_pieces (d := d + 4) q8) (fun r9 h9 q9 => ?_)
    obtain ⟨rfl, rfl⟩ := q9
    refine g_stp (st2 := [.int v9]) (pc2 := 18) (kc2 := 0) (kn2 := 0) rfl rfl rfl rfl ?_
    refine g_if_ne (tgt := 26) dX12_by_18 (by decide) (fun c10 => ?_) (fun c10 => ?_)
    · rw [if_neg c10] at hf
      refine g_aload_n dX12_by_26 rfl ?_
      refine g_iload_n dX12_by_27 rfl ?_
      replace hf := Option.bind_eq_some_iff.mp hf
      obtain ⟨f11, q12, hf⟩ := hf
      replace hf := gB_of hf
      obtain ⟨v15, h13, q14, hf⟩ := hf
      refine g_callV (as := [.int x1]) (mc1 := 0) (ms1 := 0) s_X12_241_X12_secondsBy_12 dX12_by_28 (gO_of q12) rfl (Nat.le_of_ble_eq_true rfl) (Nat.le_of_ble_eq_true rfl) (Nat.le_of_ble_eq_true rfl) (t_X12_secondsBy (d := d + 0) q14) (fun r9 h9 q9 => ?_)
      obtain ⟨rfl, rfl⟩ := q9
      refine g_stp (st2 := [.int v15]) (pc2 := 31) (kc2 := 0) (kn2 := 0) rfl rfl rfl rfl ?_
      refine g_weak (lv2 := [none, none]) (trivial) ?_
      exact g_X12_by_31 hf
    · rw [if_pos c10] at hf
      refine g_bipush (v := (-3 : Int32)) dX12_by_21 (by decide) ?_
      refine g_goto (tgt := 31) dX12_by_23 (by decide) ?_
      refine g_weak (lv2 := [none, none]) (trivial) ?_
      exact g_X12_by_31 hf
  · rw [if_pos c4] at hf
    refine g_bipush (v := (-2 : Int32)) dX12_by_11 (by decide) ?_
    obtain ⟨rfl, rfl⟩ := Prod.mk.inj (Option.some.inj hf)
    exact g_iret dX12_by_13 rfl ⟨rfl, rfl⟩ (Nat.le_of_ble_eq_true rfl) (Nat.le_of_ble_eq_true rfl)
def F_X12_by (n : Nat) (a : Nat) (p0 : Int32) (h : gH) : Option (Int32 × gH) := F_X12_by_0 n  a p0 h
theorem t_X12_by {n d : Nat} {a : Nat} {p0 : Int32} {h rh : gH} {rv : Int32} (hf : F_X12_by n a p0 h = some (rv, rh)) : T M_X12_by (d + 5) 0 0 [.ref a, .int p0] h (qI rv rh) := by
  refine T_of_G (L := 0) (by decide +kernel) rfl (Nat.le_of_ble_eq_true rfl) (g_lv (lv2 := [some (.ref a), some (.int p0)]) rfl ?_)
  exact g_X12_by_0 hf
def F_X12_figure_68 (n : Nat)  (x2 : Int32) (y0 : Nat) (y1 : Int32) (y2 : Int32) (h : gH) : Option (Int32 × gH) :=
  (pF h y0 12 5 (.int (y1 + y2))).bind fun h1 =>
  some (x2, h1)
set_option maxRecDepth 20000 in
set_option maxHeartbeats 1600000 in
theorem g_X12_figure_68 {n d : Nat} : ∀ {x2 : Int32} {y0 : Nat} {y1 : Int32} {y2 : Int32} {h : gH} {rh : gH} {rv : Int32}, F_X12_figure_68 n x2 y0 y1 y2 h = some (rv, rh) → G M_X12_figure (d + 1) 0 0 0 0 68 [none, none, some (.int x2)] [.int y2, .int y1, .ref y0] h (qI rv rh) := by
  intro x2 y0 y1 y2 h rh rv hf
  unfold F_X12_figure_68 at hf
  refine g_iadd dX12_figure_68 ?_
  replace hf := Option.bind_eq_some_iff.mp hf
  obtain ⟨h1, q2, hf⟩ := hf
  refine g_pF p_X12_61 dX12_figure_69 q2 (fun _ => rfl) (fun _ => rfl) ?_
  refine g_iload_n dX12_figure_72 rfl ?_
  obtain ⟨rfl, rfl⟩ := Prod.mk.inj (Option.some.inj hf)
  exact g_iret dX12_figure_73 rfl ⟨rfl, rfl⟩ (Nat.le_of_ble_eq_true rfl) (Nat.le_of_ble_eq_true rfl)
def F_X12_figure_50 (n : Nat)  (x0 : Nat) (y0 : Int32) (h : gH) : Option (Int32 × gH) :=
  (gI h x0 12 5).bind fun v1 =>
  (gI h x0 12 7).bind fun v3 =>
  if v3 = 0 then
  (F_X12_figure_68 n y0 x0 v1 (1 : Int32) h)
  else
  (F_X12_figure_68 n y0 x0 v1 (0 : Int32) h)
set_option maxRecDepth 20000 in
set_option maxHeartbeats 1600000 in
theorem g_X12_figure_50 {n d : Nat} : ∀ {x0 : Nat} {y0 : Int32} {h : gH} {rh : gH} {rv : Int32}, F_X12_figure_50 n x0 y0 h = some (rv, rh) → G M_X12_figure (d + 1) 0 0 0 0 50 [some (.ref x0), none, none] [.int y0] h (qI rv rh) := by
  intro x0 y0 h rh rv hf
  unfold F_X12_figure_50 at hf
  refine g_istore_n dX12_figure_50 (by decide) (g_lvp (lv2 := [some (.ref x0), none, some (.int y0)]) (pc2 := 51) rfl rfl ?_)
  refine g_aload_n dX12_figure_51 rfl ?_
  refine g_dup dX12_figure_52 rfl ?_
  replace hf := Option.bind_eq_some_iff.mp hf
  obtain ⟨v1, q2, hf⟩ := hf
  refine g_gI f_X12_61 dX12_figure_53 q2 ?_
  refine g_aload_n dX12_figure_56 rfl ?_
  replace hf := Option.bind_eq_some_iff.mp hf
  obtain ⟨v3, q4, hf⟩ := hf
  refine g_gI f_X12_67 dX12_figure_57 q4 ?_
  refine g_if_eq (tgt := 67) dX12_figure_60 (by decide) (fun c5 => ?_) (fun c5 => ?_)
  · rw [if_pos c5] at hf
    refine g_iconst (v := (1 : Int32)) dX12_figure_67 (by decide) ?_
    refine g_weak (lv2 := [none, none, some (.int y0)]) (And.intro rfl (trivial)) ?_
    exact g_X12_figure_68 hf
  · rw [if_neg c5] at hf
    refine g_iconst (v := (0 : Int32)) dX12_figure_63 (by decide) ?_
    refine g_goto (tgt := 68) dX12_figure_64 (by decide) ?_
    refine g_weak (lv2 := [none, none, some (.int y0)]) (And.intro rfl (trivial)) ?_
    exact g_X12_figure_68 hf
def F_X12_figure_29 (n : Nat)  (x0 : Nat) (y0 : Nat) (y1 : Int32) (h : gH) : Option (Int32 × gH) :=
  (pZ h y0 12 7 y1).bind fun h1 =>
  (gI h1 x0 12 7).bind fun v3 =>
  if v3 = 0 then
  ((gO h1 x0 12).bind fun f6 =>
  gB (F_X12_here n x0  h1) fun v10 h8 =>
  F_X12_figure_50 n x0 (v10 - (48 : Int32)) h8)
  else
  (F_X12_figure_50 n x0 (0 : Int32) h1)
set_option maxRecDepth 20000 in
set_option maxHeartbeats 1600000 in
theorem g_X12_figure_29 {n d : Nat} : ∀ {x0 : Nat} {y0 : Nat} {y1 : Int32} {h : gH} {rh : gH} {rv : Int32}, F_X12_figure_29 n x0 y0 y1 h = some (rv, rh) → G M_X12_figure (d + 1) 0 0 0 0 29 [some (.ref x0), none, none] [.int y1, .ref y0] h (qI rv rh) := by
  intro x0 y0 y1 h rh rv hf
  unfold F_X12_figure_29 at hf
  replace hf := Option.bind_eq_some_iff.mp hf
  obtain ⟨h1, q2, hf⟩ := hf
  refine g_pZ p_X12_67 dX12_figure_29 q2 ?_
  refine g_aload_n dX12_figure_32 rfl ?_
  replace hf := Option.bind_eq_some_iff.mp hf
  obtain ⟨v3, q4, hf⟩ := hf
  refine g_gI f_X12_67 dX12_figure_33 q4 ?_
  refine g_if_eq (tgt := 43) dX12_figure_36 (by decide) (fun c5 => ?_) (fun c5 => ?_)
  · rw [if_pos c5] at hf
    refine g_aload_n dX12_figure_43 rfl ?_
    replace hf := Option.bind_eq_some_iff.mp hf
    obtain ⟨f6, q7, hf⟩ := hf
    replace hf := gB_of hf
    obtain ⟨v10, h8, q9, hf⟩ := hf
    refine g_callV (as := []) (mc1 := 0) (ms1 := 0) s_X12_71_X12_here_12 dX12_figure_44 (gO_of q7) rfl (Nat.le_of_ble_eq_true rfl) (Nat.le_of_ble_eq_true rfl) (Nat.le_of_ble_eq_true rfl) (t_X12_here (d := d + 0) q9) (fun r9 h9 q9 => ?_)
    obtain ⟨rfl, rfl⟩ := q9
    refine g_stp (st2 := [.int v10]) (pc2 := 47) (kc2 := 0) (kn2 := 0) rfl rfl rfl rfl ?_
    refine g_bipush (v := (48 : Int32)) dX12_figure_47 (by decide) ?_
    refine g_isub dX12_figure_49 ?_
    exact g_X12_figure_50 hf
  · rw [if_neg c5] at hf
    refine g_iconst (v := (0 : Int32)) dX12_figure_39 (by decide) ?_
    refine g_goto (tgt := 50) dX12_figure_40 (by decide) ?_
    exact g_X12_figure_50 hf
def F_X12_figure_24 (n : Nat)  (x0 : Nat) (y0 : Nat) (h : gH) : Option (Int32 × gH) :=
  F_X12_figure_29 n x0 y0 (1 : Int32) h
set_option maxRecDepth 20000 in
set_option maxHeartbeats 1600000 in
theorem g_X12_figure_24 {n d : Nat} : ∀ {x0 : Nat} {y0 : Nat} {h : gH} {rh : gH} {rv : Int32}, F_X12_figure_24 n x0 y0 h = some (rv, rh) → G M_X12_figure (d + 1) 0 0 0 0 24 [some (.ref x0), none, none] [.ref y0] h (qI rv rh) := by
  intro x0 y0 h rh rv hf
  unfold F_X12_figure_24 at hf
  refine g_iconst (v := (1 : Int32)) dX12_figure_24 (by decide) ?_
  refine g_goto (tgt := 29) dX12_figure_25 (by decide) ?_
  exact g_X12_figure_29 hf
def F_X12_figure_0 (n : Nat)  (x0 : Nat) (x1 : Int32) (h : gH) : Option (Int32 × gH) :=
  (gI h x0 12 7).bind fun v1 =>
  if v1 = 0 then
  ((gO h x0 12).bind fun f4 =>
  gB (F_X12_here n x0  h) fun v8 h6 =>
  gB (F_X12_in n v8 ((48 : Int32) + x1) (57 : Int32) h6) fun v11 h9 =>
  if v11 = 0 then
  (F_X12_figure_24 n x0 x0 h9)
  else
  (F_X12_figure_29 n x0 x0 (0 : Int32) h9))
  else
  (F_X12_figure_24 n x0 x0 h)
set_option maxRecDepth 20000 in
set_option maxHeartbeats 1600000 in
theorem g_X12_figure_0 {n d : Nat} : ∀ {x0 : Nat} {x1 : Int32} {h : gH} {rh : gH} {rv : Int32}, F_X12_figure_0 n x0 x1 h = some (rv, rh) → G M_X12_figure (d + 1) 0 0 0 0 0 [some (.ref x0), some (.int x1), none] [] h (qI rv rh) := by
  intro x0 x1 h rh rv hf
  unfold F_X12_figure_0 at hf
  refine g_aload_n dX12_figure_0 rfl ?_
  refine g_aload_n dX12_figure_1 rfl ?_
  replace hf := Option.bind_eq_some_iff.mp hf
  obtain ⟨v1, q2, hf⟩ := hf
  refine g_gI f_X12_67 dX12_figure_2 q2 ?_
  refine g_if_ne (tgt := 24) dX12_figure_5 (by decide) (fun c3 => ?_) (fun c3 => ?_)
  · rw [if_neg c3] at hf
    refine g_weak (lv2 := [some (.ref x0), none, none]) (And.intro rfl (trivial)) ?_
    exact g_X12_figure_24 hf
  · rw [if_pos c3] at hf
    refine g_aload_n dX12_figure_8 rfl ?_
    replace hf := Option.bind_eq_some_iff.mp hf
    obtain ⟨f4, q5, hf⟩ := hf
    replace hf := gB_of hf
    obtain ⟨v8, h6, q7, hf⟩ := hf
    refine g_callV (as := []) (mc1 := 0) (ms1 := 0) s_X12_71_X12_here_12 dX12_figure_9 (gO_of q5) rfl (Nat.le_of_ble_eq_true rfl) (Nat.le_of_ble_eq_true rfl) (Nat.le_of_ble_eq_true rfl) (t_X12_here (d := d + 0) q7) (fun r9 h9 q9 => ?_)
    obtain ⟨rfl, rfl⟩ := q9
    refine g_stp (st2 := [.int v8, .ref x0]) (pc2 := 12) (kc2 := 0) (kn2 := 0) rfl rfl rfl rfl ?_
    refine g_bipush (v := (48 : Int32)) dX12_figure_12 (by decide) ?_
    refine g_iload_n dX12_figure_14 rfl ?_
    refine g_iadd dX12_figure_15 ?_
    refine g_bipush (v := (57 : Int32)) dX12_figure_16 (by decide) ?_
    replace hf := gB_of hf
    obtain ⟨v11, h9, q10, hf⟩ := hf
    refine g_callS (as := [.int v8, .int ((48 : Int32) + x1), .int (57 : Int32)]) (mc1 := 0) (ms1 := 0) s_X12_44_X12_in dX12_figure_18 rfl (Nat.le_of_ble_eq_true rfl) (Nat.le_of_ble_eq_true rfl) (Nat.le_of_ble_eq_true rfl) (t_X12_in (d := d + 0) q10) (fun r9 h9 q9 => ?_)
    obtain ⟨rfl, rfl⟩ := q9
    refine g_stp (st2 := [.int v11, .ref x0]) (pc2 := 21) (kc2 := 0) (kn2 := 0) rfl rfl rfl rfl ?_
    refine g_if_ne (tgt := 28) dX12_figure_21 (by decide) (fun c12 => ?_) (fun c12 => ?_)
    · rw [if_neg c12] at hf
      refine g_iconst (v := (0 : Int32)) dX12_figure_28 (by decide) ?_
      refine g_weak (lv2 := [some (.ref x0), none, none]) (And.intro rfl (trivial)) ?_
      exact g_X12_figure_29 hf
    · rw [if_pos c12] at hf
      refine g_weak (lv2 := [some (.ref x0), none, none]) (And.intro rfl (trivial)) ?_
      exact g_X12_figure_24 hf
def F_X12_figure (n : Nat) (a : Nat) (p0 : Int32) (h : gH) : Option (Int32 × gH) := F_X12_figure_0 n  a p0 h
theorem t_X12_figure {n d : Nat} {a : Nat} {p0 : Int32} {h rh : gH} {rv : Int32} (hf : F_X12_figure n a p0 h = some (rv, rh)) : T M_X12_figure (d + 1) 0 0 [.ref a, .int p0] h (qI rv rh) := by
  refine T_of_G (L := 1) (by decide +kernel) rfl (Nat.le_of_ble_eq_true rfl) (g_lv (lv2 := [some (.ref a), some (.int p0), none]) rfl ?_)
  exact g_X12_figure_0 hf
def F_X12_figures_97 (n : Nat)  (x1 : Int32) (h : gH) : Option (Int32 × gH) :=
  some (x1, h)
set_option maxRecDepth 20000 in
set_option maxHeartbeats 1600000 in
theorem g_X12_figures_97 {n d : Nat} : ∀ {x1 : Int32} {h : gH} {rh : gH} {rv : Int32}, F_X12_figures_97 n x1 h = some (rv, rh) → G M_X12_figures (d + 1) 0 0 0 0 97 [none, some (.int x1), none] [] h (qI rv rh) := by
  intro x1 h rh rv hf
  unfold F_X12_figures_97 at hf
  refine g_iload_n dX12_figures_97 rfl ?_
  obtain ⟨rfl, rfl⟩ := Prod.mk.inj (Option.some.inj hf)
  exact g_iret dX12_figures_98 rfl ⟨rfl, rfl⟩ (Nat.le_of_ble_eq_true rfl) (Nat.le_of_ble_eq_true rfl)
def F_X12_figures_68 (n : Nat) (k34 : Nat → Int32 → Int32 → gH → Option (Int32 × gH)) (x0 : Nat) (x1 : Int32) (x2 : Int32) (h : gH) : Option (Int32 × gH) :=
  (gO h x0 12).bind fun f1 =>
  gB (F_X12_here n x0  h) fun v5 h3 =>
  (gI h3 x0 12 5).bind fun v6 =>
  (pF h3 x0 12 5 (.int (v6 + (1 : Int32)))).bind fun h8 =>
  k34 x0 ((((10 : Int32) * x1) + v5) - (48 : Int32)) (x2 + (1 : Int32)) h8
set_option maxRecDepth 20000 in
set_option maxHeartbeats 1600000 in
theorem g_X12_figures_68 {n d : Nat} {k34 : Nat → Int32 → Int32 → gH → Option (Int32 × gH)} (t34 : ∀ {x0 : Nat} {x1 : Int32} {x2 : Int32} {h : gH} {rh : gH} {rv : Int32}, k34 x0 x1 x2 h = some (rv, rh) → G M_X12_figures (d + 1) 0 0 0 0 34 [some (.ref x0), some (.int x1), some (.int x2)] [] h (qI rv rh)) : ∀ {x0 : Nat} {x1 : Int32} {x2 : Int32} {h : gH} {rh : gH} {rv : Int32}, F_X12_figures_68 n k34 x0 x1 x2 h = some (rv, rh) → G M_X12_figures (d + 1) 0 0 0 0 68 [some (.ref x0), some (.int x1), some (.int x2)] [] h (qI rv rh) := by
  intro x0 x1 x2 h rh rv hf
  unfold F_X12_figures_68 at hf
  refine g_bipush (v := (10 : Int32)) dX12_figures_68 (by decide) ?_
  refine g_iload_n dX12_figures_70 rfl ?_
  refine g_imul dX12_figures_71 ?_
  refine g_aload_n dX12_figures_72 rfl ?_
  replace hf := Option.bind_eq_some_iff.mp hf
  obtain ⟨f1, q2, hf⟩ := hf
  replace hf := gB_of hf
  obtain ⟨v5, h3, q4, hf⟩ := hf
  refine g_callV (as := []) (mc1 := 0) (ms1 := 0) s_X12_71_X12_here_12 dX12_figures_73 (gO_of q2) rfl (Nat.le_of_ble_eq_true rfl) (Nat.le_of_ble_eq_true rfl) (Nat.le_of_ble_eq_true rfl) (t_X12_here (d := d + 0) q4) (fun r9 h9 q9 => ?_)
  obtain ⟨rfl, rfl⟩ := q9
  refine g_stp (st2 := [.int v5, .int ((10 : Int32) * x1)]) (pc2 := 76) (kc2 := 0) (kn2 := 0) rfl rfl rfl rfl ?_
  refine g_iadd dX12_figures_76 ?_
  refine g_bipush (v := (48 : Int32)) dX12_figures_77 (by decide) ?_
  refine g_isub dX12_figures_79 ?_
  refine g_istore_n dX12_figures_80 (by decide) (g_lvp (lv2 := [some (.ref x0), some (.int ((((10 : Int32) * x1) + v5) - (48 : Int32))), some (.int x2)]) (pc2 := 81) rfl rfl ?_)
  refine g_aload_n dX12_figures_81 rfl ?_
  refine g_dup dX12_figures_82 rfl ?_
  replace hf := Option.bind_eq_some_iff.mp hf
  obtain ⟨v6, q7, hf⟩ := hf
  refine g_gI f_X12_61 dX12_figures_83 q7 ?_
  refine g_iconst (v := (1 : Int32)) dX12_figures_86 (by decide) ?_
  refine g_iadd dX12_figures_87 ?_
  replace hf := Option.bind_eq_some_iff.mp hf
  obtain ⟨h8, q9, hf⟩ := hf
  refine g_pF p_X12_61 dX12_figures_88 q9 (fun _ => rfl) (fun _ => rfl) ?_
  refine g_iinc2 (w := (1 : Int32)) dX12_figures_91 (by decide) rfl (by decide) (g_lvp (lv2 := [some (.ref x0), some (.int ((((10 : Int32) * x1) + v5) - (48 : Int32))), some (.int (x2 + (1 : Int32)))]) (pc2 := 94) rfl rfl ?_)
  refine g_goto (tgt := 34) dX12_figures_94 (by decide) ?_
  exact t34 hf
def F_X12_figures_34 (n : Nat)  : Nat → Nat → Int32 → Int32 → gH → Option (Int32 × gH)
  | 0, _, _, _, _ => none
  | m + 1, x0, x1, x2, h => if (2 : Int32) ≤ x2 then
  (F_X12_figures_97 n x1 h)
  else
  ((gI h x0 12 7).bind fun v2 =>
  if v2 = 0 then
  ((gO h x0 12).bind fun f5 =>
  gB (F_X12_here n x0  h) fun v9 h7 =>
  gB (F_X12_in n v9 (48 : Int32) (57 : Int32) h7) fun v12 h10 =>
  if v12 = 0 then
  (F_X12_figures_97 n x1 h10)
  else
  (if x2 = 0 then
  (F_X12_figures_68 n (F_X12_figures_34 n m) x0 x1 x2 h10)
  else
  (if x1 ≤ 0 then
  (F_X12_figures_97 n x1 h10)
  else
  (F_X12_figures_68 n (F_X12_figures_34 n m) x0 x1 x2 h10))))
  else
  (F_X12_figures_97 n x1 h))
set_option maxRecDepth 20000 in
set_option maxHeartbeats 1600000 in
theorem g_X12_figures_34 {n d : Nat} : ∀ {m : Nat} {x0 : Nat} {x1 : Int32} {x2 : Int32} {h : gH} {rh : gH} {rv : Int32}, F_X12_figures_34 n m x0 x1 x2 h = some (rv, rh) → G M_X12_figures (d + 1) 0 0 0 0 34 [some (.ref x0), some (.int x1), some (.int x2)] [] h (qI rv rh) := by
  intro m
  induction m with
  | zero => intro x0 x1 x2 h rh rv hf; cases hf
  | succ m t34 =>
    intro x0 x1 x2 h rh rv hf
    unfold F_X12_figures_34 at hf
    refine g_iload_n dX12_figures_34 rfl ?_
    refine g_iconst (v := (2 : Int32)) dX12_figures_35 (by decide) ?_
    refine g_icmp_ge (tgt := 97) dX12_figures_36 (by decide) (fun c1 => ?_) (fun c1 => ?_)
    · rw [if_pos c1] at hf
      refine g_weak (lv2 := [none, some (.int x1), none]) (And.intro rfl (trivial)) ?_
      exact g_X12_figures_97 hf
    · rw [if_neg c1] at hf
      refine g_aload_n dX12_figures_39 rfl ?_
      replace hf := Option.bind_eq_some_iff.mp hf
      obtain ⟨v2, q3, hf⟩ := hf
      refine g_gI f_X12_67 dX12_figures_40 q3 ?_
      refine g_if_ne (tgt := 97) dX12_figures_43 (by decide) (fun c4 => ?_) (fun c4 => ?_)
      · rw [if_neg c4] at hf
        refine g_weak (lv2 := [none, some (.int x1), none]) (And.intro rfl (trivial)) ?_
        exact g_X12_figures_97 hf
      · rw [if_pos c4] at hf
        refine g_aload_n dX12_figures_46 rfl ?_
        replace hf := Option.bind_eq_some_iff.mp hf
        obtain ⟨f5, q6, hf⟩ := hf
        replace hf := gB_of hf
        obtain ⟨v9, h7, q8, hf⟩ := hf
        refine g_callV (as := []) (mc1 := 0) (ms1 := 0) s_X12_71_X12_here_12 dX12_figures_47 (gO_of q6) rfl (Nat.le_of_ble_eq_true rfl) (Nat.le_of_ble_eq_true rfl) (Nat.le_of_ble_eq_true rfl) (t_X12_here (d := d + 0) q8) (fun r9 h9 q9 => ?_)
        obtain ⟨rfl, rfl⟩ := q9
        refine g_stp (st2 := [.int v9]) (pc2 := 50) (kc2 := 0) (kn2 := 0) rfl rfl rfl rfl ?_
        refine g_bipush (v := (48 : Int32)) dX12_figures_50 (by decide) ?_
        refine g_bipush (v := (57 : Int32)) dX12_figures_52 (by decide) ?_
        replace hf := gB_of hf
        obtain ⟨v12, h10, q11, hf⟩ := hf
        refine g_callS (as := [.int v9, .int (48 : Int32), .int (57 : Int32)]) (mc1 := 0) (ms1 := 0) s_X12_44_X12_in dX12_figures_54 rfl (Nat.le_of_ble_eq_true rfl) (Nat.le_of_ble_eq_true rfl) (Nat.le_of_ble_eq_true rfl) (t_X12_in (d := d + 0) q11) (fun r9 h9 q9 => ?_)
        obtain ⟨rfl, rfl⟩ := q9
        refine g_stp (st2 := [.int v12]) (pc2 := 57) (kc2 := 0) (kn2 := 0) rfl rfl rfl rfl ?_
        refine g_if_eq (tgt := 97) dX12_figures_57 (by decide) (fun c13 => ?_) (fun c13 => ?_)
        · rw [if_pos c13] at hf
          refine g_weak (lv2 := [none, some (.int x1), none]) (And.intro rfl (trivial)) ?_
          exact g_X12_figures_97 hf
        · rw [if_neg c13] at hf
          refine g_iload_n dX12_figures_60 rfl ?_
          refine g_if_eq (tgt := 68) dX12_figures_61 (by decide) (fun c14 => ?_) (fun c14 => ?_)
          · rw [if_pos c14] at hf
            exact g_X12_figures_68 t34 hf
          · rw [if_neg c14] at hf
            refine g_iload_n dX12_figures_64 rfl ?_
            refine g_if_le (tgt := 97) dX12_figures_65 (by decide) (fun c15 => ?_) (fun c15 => ?_)
            · rw [if_pos c15] at hf
              refine g_weak (lv2 := [none, some (.int x1), none]) (And.intro rfl (trivial)) ?_
              exact g_X12_figures_97 hf
            · rw [if_neg c15] at hf
              exact g_X12_figures_68 t34 hf
def F_X12_figures_27 (n : Nat)  (x0 : Nat) (y0 : Nat) (y1 : Int32) (h : gH) : Option (Int32 × gH) :=
  (pZ h y0 12 7 y1).bind fun h1 =>
  F_X12_figures_34 n n x0 (0 : Int32) (0 : Int32) h1
set_option maxRecDepth 20000 in
set_option maxHeartbeats 1600000 in
theorem g_X12_figures_27 {n d : Nat} : ∀ {x0 : Nat} {y0 : Nat} {y1 : Int32} {h : gH} {rh : gH} {rv : Int32}, F_X12_figures_27 n x0 y0 y1 h = some (rv, rh) → G M_X12_figures (d + 1) 0 0 0 0 27 [some (.ref x0), none, none] [.int y1, .ref y0] h (qI rv rh) := by
  intro x0 y0 y1 h rh rv hf
  unfold F_X12_figures_27 at hf
  replace hf := Option.bind_eq_some_iff.mp hf
  obtain ⟨h1, q2, hf⟩ := hf
  refine g_pZ p_X12_67 dX12_figures_27 q2 ?_
  refine g_iconst (v := (0 : Int32)) dX12_figures_30 (by decide) ?_
  refine g_istore_n dX12_figures_31 (by decide) (g_lvp (lv2 := [some (.ref x0), some (.int (0 : Int32)), none]) (pc2 := 32) rfl rfl ?_)
  refine g_iconst (v := (0 : Int32)) dX12_figures_32 (by decide) ?_
  refine g_istore_n dX12_figures_33 (by decide) (g_lvp (lv2 := [some (.ref x0), some (.int (0 : Int32)), some (.int (0 : Int32))]) (pc2 := 34) rfl rfl ?_)
  exact g_X12_figures_34 hf
def F_X12_figures_22 (n : Nat)  (x0 : Nat) (y0 : Nat) (h : gH) : Option (Int32 × gH) :=
  F_X12_figures_27 n x0 y0 (1 : Int32) h
set_option maxRecDepth 20000 in
set_option maxHeartbeats 1600000 in
theorem g_X12_figures_22 {n d : Nat} : ∀ {x0 : Nat} {y0 : Nat} {h : gH} {rh : gH} {rv : Int32}, F_X12_figures_22 n x0 y0 h = some (rv, rh) → G M_X12_figures (d + 1) 0 0 0 0 22 [some (.ref x0), none, none] [.ref y0] h (qI rv rh) := by
  intro x0 y0 h rh rv hf
  unfold F_X12_figures_22 at hf
  refine g_iconst (v := (1 : Int32)) dX12_figures_22 (by decide) ?_
  refine g_goto (tgt := 27) dX12_figures_23 (by decide) ?_
  exact g_X12_figures_27 hf
def F_X12_figures_0 (n : Nat)  (x0 : Nat) (h : gH) : Option (Int32 × gH) :=
  (gI h x0 12 7).bind fun v1 =>
  if v1 = 0 then
  ((gO h x0 12).bind fun f4 =>
  gB (F_X12_here n x0  h) fun v8 h6 =>
  gB (F_X12_in n v8 (48 : Int32) (57 : Int32) h6) fun v11 h9 =>
  if v11 = 0 then
  (F_X12_figures_22 n x0 x0 h9)
  else
  (F_X12_figures_27 n x0 x0 (0 : Int32) h9))
  else
  (F_X12_figures_22 n x0 x0 h)
set_option maxRecDepth 20000 in
set_option maxHeartbeats 1600000 in
theorem g_X12_figures_0 {n d : Nat} : ∀ {x0 : Nat} {h : gH} {rh : gH} {rv : Int32}, F_X12_figures_0 n x0 h = some (rv, rh) → G M_X12_figures (d + 1) 0 0 0 0 0 [some (.ref x0), none, none] [] h (qI rv rh) := by
  intro x0 h rh rv hf
  unfold F_X12_figures_0 at hf
  refine g_aload_n dX12_figures_0 rfl ?_
  refine g_aload_n dX12_figures_1 rfl ?_
  replace hf := Option.bind_eq_some_iff.mp hf
  obtain ⟨v1, q2, hf⟩ := hf
  refine g_gI f_X12_67 dX12_figures_2 q2 ?_
  refine g_if_ne (tgt := 22) dX12_figures_5 (by decide) (fun c3 => ?_) (fun c3 => ?_)
  · rw [if_neg c3] at hf
    exact g_X12_figures_22 hf
  · rw [if_pos c3] at hf
    refine g_aload_n dX12_figures_8 rfl ?_
    replace hf := Option.bind_eq_some_iff.mp hf
    obtain ⟨f4, q5, hf⟩ := hf
    replace hf := gB_of hf
    obtain ⟨v8, h6, q7, hf⟩ := hf
    refine g_callV (as := []) (mc1 := 0) (ms1 := 0) s_X12_71_X12_here_12 dX12_figures_9 (gO_of q5) rfl (Nat.le_of_ble_eq_true rfl) (Nat.le_of_ble_eq_true rfl) (Nat.le_of_ble_eq_true rfl) (t_X12_here (d := d + 0) q7) (fun r9 h9 q9 => ?_)
    obtain ⟨rfl, rfl⟩ := q9
    refine g_stp (st2 := [.int v8, .ref x0]) (pc2 := 12) (kc2 := 0) (kn2 := 0) rfl rfl rfl rfl ?_
    refine g_bipush (v := (48 : Int32)) dX12_figures_12 (by decide) ?_
    refine g_bipush (v := (57 : Int32)) dX12_figures_14 (by decide) ?_
    replace hf := gB_of hf
    obtain ⟨v11, h9, q10, hf⟩ := hf
    refine g_callS (as := [.int v8, .int (48 : Int32), .int (57 : Int32)]) (mc1 := 0) (ms1 := 0) s_X12_44_X12_in dX12_figures_16 rfl (Nat.le_of_ble_eq_true rfl) (Nat.le_of_ble_eq_true rfl) (Nat.le_of_ble_eq_true rfl) (t_X12_in (d := d + 0) q10) (fun r9 h9 q9 => ?_)
    obtain ⟨rfl, rfl⟩ := q9
    refine g_stp (st2 := [.int v11, .ref x0]) (pc2 := 19) (kc2 := 0) (kn2 := 0) rfl rfl rfl rfl ?_
    refine g_if_ne (tgt := 26) dX12_figures_19 (by decide) (fun c12 => ?_) (fun c12 => ?_)
    · rw [if_neg c12] at hf
      refine g_iconst (v := (0 : Int32)) dX12_figures_26 (by decide) ?_
      exact g_X12_figures_27 hf
    · rw [if_pos c12] at hf
      exact g_X12_figures_22 hf
def F_X12_figures (n : Nat) (a : Nat) (h : gH) : Option (Int32 × gH) := F_X12_figures_0 n  a h
theorem t_X12_figures {n d : Nat} {a : Nat} {h rh : gH} {rv : Int32} (hf : F_X12_figures n a h = some (rv, rh)) : T M_X12_figures (d + 1) 0 0 [.ref a] h (qI rv rh) := by
  refine T_of_G (L := 2) (by decide +kernel) rfl (Nat.le_of_ble_eq_true rfl) (g_lv (lv2 := [some (.ref a), none, none]) rfl ?_)
  exact g_X12_figures_0 hf
def F_X12_must_41 (n : Nat)  (y0 : Nat) (y1 : Int32) (y2 : Int32) (h : gH) : Option (gH) :=
  (pF h y0 12 5 (.int (y1 + y2))).bind fun h1 =>
  some h1
set_option maxRecDepth 20000 in
set_option maxHeartbeats 1600000 in
theorem g_X12_must_41 {n d : Nat} : ∀ {y0 : Nat} {y1 : Int32} {y2 : Int32} {h : gH} {rh : gH}, F_X12_must_41 n y0 y1 y2 h = some rh → G M_X12_must (d + 1) 0 0 0 0 41 [none, none] [.int y2, .int y1, .ref y0] h (qV rh) := by
  intro y0 y1 y2 h rh hf
  unfold F_X12_must_41 at hf
  refine g_iadd dX12_must_41 ?_
  replace hf := Option.bind_eq_some_iff.mp hf
  obtain ⟨h1, q2, hf⟩ := hf
  refine g_pF p_X12_61 dX12_must_42 q2 (fun _ => rfl) (fun _ => rfl) ?_
  obtain rfl := Option.some.inj hf
  exact g_vret dX12_must_45 rfl ⟨rfl, rfl⟩ (Nat.le_of_ble_eq_true rfl) (Nat.le_of_ble_eq_true rfl)
def F_X12_must_21 (n : Nat)  (x0 : Nat) (y0 : Nat) (y1 : Int32) (h : gH) : Option (gH) :=
  (pZ h y0 12 7 y1).bind fun h1 =>
  (gI h1 x0 12 5).bind fun v3 =>
  (gI h1 x0 12 7).bind fun v5 =>
  if v5 = 0 then
  (F_X12_must_41 n x0 v3 (1 : Int32) h1)
  else
  (F_X12_must_41 n x0 v3 (0 : Int32) h1)
set_option maxRecDepth 20000 in
set_option maxHeartbeats 1600000 in
theorem g_X12_must_21 {n d : Nat} : ∀ {x0 : Nat} {y0 : Nat} {y1 : Int32} {h : gH} {rh : gH}, F_X12_must_21 n x0 y0 y1 h = some rh → G M_X12_must (d + 1) 0 0 0 0 21 [some (.ref x0), none] [.int y1, .ref y0] h (qV rh) := by
  intro x0 y0 y1 h rh hf
  unfold F_X12_must_21 at hf
  replace hf := Option.bind_eq_some_iff.mp hf
  obtain ⟨h1, q2, hf⟩ := hf
  refine g_pZ p_X12_67 dX12_must_21 q2 ?_
  refine g_aload_n dX12_must_24 rfl ?_
  refine g_dup dX12_must_25 rfl ?_
  replace hf := Option.bind_eq_some_iff.mp hf
  obtain ⟨v3, q4, hf⟩ := hf
  refine g_gI f_X12_61 dX12_must_26 q4 ?_
  refine g_aload_n dX12_must_29 rfl ?_
  replace hf := Option.bind_eq_some_iff.mp hf
  obtain ⟨v5, q6, hf⟩ := hf
  refine g_gI f_X12_67 dX12_must_30 q6 ?_
  refine g_if_eq (tgt := 40) dX12_must_33 (by decide) (fun c7 => ?_) (fun c7 => ?_)
  · rw [if_pos c7] at hf
    refine g_iconst (v := (1 : Int32)) dX12_must_40 (by decide) ?_
    refine g_weak (lv2 := [none, none]) (trivial) ?_
    exact g_X12_must_41 hf
  · rw [if_neg c7] at hf
    refine g_iconst (v := (0 : Int32)) dX12_must_36 (by decide) ?_
    refine g_goto (tgt := 41) dX12_must_37 (by decide) ?_
    refine g_weak (lv2 := [none, none]) (trivial) ?_
    exact g_X12_must_41 hf
def F_X12_must_16 (n : Nat)  (x0 : Nat) (y0 : Nat) (h : gH) : Option (gH) :=
  F_X12_must_21 n x0 y0 (1 : Int32) h
set_option maxRecDepth 20000 in
set_option maxHeartbeats 1600000 in
theorem g_X12_must_16 {n d : Nat} : ∀ {x0 : Nat} {y0 : Nat} {h : gH} {rh : gH}, F_X12_must_16 n x0 y0 h = some rh → G M_X12_must (d + 1) 0 0 0 0 16 [some (.ref x0), none] [.ref y0] h (qV rh) := by
  intro x0 y0 h rh hf
  unfold F_X12_must_16 at hf
  refine g_iconst (v := (1 : Int32)) dX12_must_16 (by decide) ?_
  refine g_goto (tgt := 21) dX12_must_17 (by decide) ?_
  exact g_X12_must_21 hf
def F_X12_must_0 (n : Nat)  (x0 : Nat) (x1 : Int32) (h : gH) : Option (gH) :=
  (gI h x0 12 7).bind fun v1 =>
  if v1 = 0 then
  ((gO h x0 12).bind fun f4 =>
  gB (F_X12_here n x0  h) fun v8 h6 =>
  if v8 = x1 then
  (F_X12_must_21 n x0 x0 (0 : Int32) h6)
  else
  (F_X12_must_16 n x0 x0 h6))
  else
  (F_X12_must_16 n x0 x0 h)
set_option maxRecDepth 20000 in
set_option maxHeartbeats 1600000 in
theorem g_X12_must_0 {n d : Nat} : ∀ {x0 : Nat} {x1 : Int32} {h : gH} {rh : gH}, F_X12_must_0 n x0 x1 h = some rh → G M_X12_must (d + 1) 0 0 0 0 0 [some (.ref x0), some (.int x1)] [] h (qV rh) := by
  intro x0 x1 h rh hf
  unfold F_X12_must_0 at hf
  refine g_aload_n dX12_must_0 rfl ?_
  refine g_aload_n dX12_must_1 rfl ?_
  replace hf := Option.bind_eq_some_iff.mp hf
  obtain ⟨v1, q2, hf⟩ := hf
  refine g_gI f_X12_67 dX12_must_2 q2 ?_
  refine g_if_ne (tgt := 16) dX12_must_5 (by decide) (fun c3 => ?_) (fun c3 => ?_)
  · rw [if_neg c3] at hf
    refine g_weak (lv2 := [some (.ref x0), none]) (And.intro rfl (trivial)) ?_
    exact g_X12_must_16 hf
  · rw [if_pos c3] at hf
    refine g_aload_n dX12_must_8 rfl ?_
    replace hf := Option.bind_eq_some_iff.mp hf
    obtain ⟨f4, q5, hf⟩ := hf
    replace hf := gB_of hf
    obtain ⟨v8, h6, q7, hf⟩ := hf
    refine g_callV (as := []) (mc1 := 0) (ms1 := 0) s_X12_71_X12_here_12 dX12_must_9 (gO_of q5) rfl (Nat.le_of_ble_eq_true rfl) (Nat.le_of_ble_eq_true rfl) (Nat.le_of_ble_eq_true rfl) (t_X12_here (d := d + 0) q7) (fun r9 h9 q9 => ?_)
    obtain ⟨rfl, rfl⟩ := q9
    refine g_stp (st2 := [.int v8, .ref x0]) (pc2 := 12) (kc2 := 0) (kn2 := 0) rfl rfl rfl rfl ?_
    refine g_iload_n dX12_must_12 rfl ?_
    refine g_icmp_eq (tgt := 20) dX12_must_13 (by decide) (fun c9 => ?_) (fun c9 => ?_)
    · rw [if_pos c9] at hf
      refine g_iconst (v := (0 : Int32)) dX12_must_20 (by decide) ?_
      refine g_weak (lv2 := [some (.ref x0), none]) (And.intro rfl (trivial)) ?_
      exact g_X12_must_21 hf
    · rw [if_neg c9] at hf
      refine g_weak (lv2 := [some (.ref x0), none]) (And.intro rfl (trivial)) ?_
      exact g_X12_must_16 hf
def F_X12_must (n : Nat) (a : Nat) (p0 : Int32) (h : gH) : Option (gH) := F_X12_must_0 n  a p0 h
theorem t_X12_must {n d : Nat} {a : Nat} {p0 : Int32} {h rh : gH} (hf : F_X12_must n a p0 h = some rh) : T M_X12_must (d + 1) 0 0 [.ref a, .int p0] h (qV rh) := by
  refine T_of_G (L := 0) (by decide +kernel) rfl (Nat.le_of_ble_eq_true rfl) (g_lv (lv2 := [some (.ref a), some (.int p0)]) rfl ?_)
  exact g_X12_must_0 hf
def F_X12_spells_2 (n : Nat)  : Nat → Nat → Nat → Int32 → gH → Option (gH)
  | 0, _, _, _, _ => none
  | m + 1, x0, x1, x2, h => gB (F_J0_length_8abf5 n x1  h) fun v3 h1 =>
  if v3 ≤ x2 then
  (some h1)
  else
  (gB (F_J0_charAt_5068e n x1 x2 h1) fun v7 h5 =>
  (gO h5 x0 12).bind fun f8 =>
  (F_X12_must n x0 v7 h5).bind fun h10 =>
  F_X12_spells_2 n m x0 x1 (x2 + (1 : Int32)) h10)
set_option maxRecDepth 20000 in
set_option maxHeartbeats 1600000 in
theorem g_X12_spells_2 {n d : Nat} : ∀ {m : Nat} {x0 : Nat} {x1 : Nat} {x2 : Int32} {h : gH} {rh : gH}, F_X12_spells_2 n m x0 x1 x2 h = some rh → G M_X12_spells (d + 7) 0 0 0 0 2 [some (.ref x0), some (.ref x1), some (.int x2)] [] h (qV rh) := by
  intro m
  induction m with
  | zero => intro x0 x1 x2 h rh hf; cases hf
  | succ m t2 =>
    intro x0 x1 x2 h rh hf
    unfold F_X12_spells_2 at hf
    refine g_iload_n dX12_spells_2 rfl ?_
    refine g_aload_n dX12_spells_3 rfl ?_
    replace hf := gB_of hf
    obtain ⟨v3, h1, q2, hf⟩ := hf
    refine g_callStr (as := []) (mc1 := 0) (ms1 := 0) s_X12_74 dX12_spells_4 (b_J0_length_8abf5 q2) rfl (Nat.le_of_ble_eq_true rfl) (Nat.le_of_ble_eq_true rfl) (Nat.le_of_ble_eq_true rfl) (t_J0_length_8abf5 (d := d + 0) q2) (fun r9 h9 q9 => ?_)
    obtain ⟨rfl, rfl⟩ := q9
    refine g_stp (st2 := [.int v3, .int x2]) (pc2 := 7) (kc2 := 0) (kn2 := 0) rfl rfl rfl rfl ?_
    refine g_icmp_ge (tgt := 25) dX12_spells_7 (by decide) (fun c4 => ?_) (fun c4 => ?_)
    · rw [if_pos c4] at hf
      obtain rfl := Option.some.inj hf
      exact g_vret dX12_spells_25 rfl ⟨rfl, rfl⟩ (Nat.le_of_ble_eq_true rfl) (Nat.le_of_ble_eq_true rfl)
    · rw [if_neg c4] at hf
      refine g_aload_n dX12_spells_10 rfl ?_
      refine g_aload_n dX12_spells_11 rfl ?_
      refine g_iload_n dX12_spells_12 rfl ?_
      replace hf := gB_of hf
      obtain ⟨v7, h5, q6, hf⟩ := hf
      refine g_callStr (as := [.int x2]) (mc1 := 0) (ms1 := 0) s_X12_79 dX12_spells_13 (b_J0_charAt_5068e q6) rfl (Nat.le_of_ble_eq_true rfl) (Nat.le_of_ble_eq_true rfl) (Nat.le_of_ble_eq_true rfl) (t_J0_charAt_5068e (d := d + 0) q6) (fun r9 h9 q9 => ?_)
      obtain ⟨rfl, rfl⟩ := q9
      refine g_stp (st2 := [.int v7, .ref x0]) (pc2 := 16) (kc2 := 0) (kn2 := 0) rfl rfl rfl rfl ?_
      replace hf := Option.bind_eq_some_iff.mp hf
      obtain ⟨f8, q9, hf⟩ := hf
      replace hf := Option.bind_eq_some_iff.mp hf
      obtain ⟨h10, q11, hf⟩ := hf
      refine g_callV (as := [.int v7]) (mc1 := 0) (ms1 := 0) s_X12_83_X12_must_12 dX12_spells_16 (gO_of q9) rfl (Nat.le_of_ble_eq_true rfl) (Nat.le_of_ble_eq_true rfl) (Nat.le_of_ble_eq_true rfl) (t_X12_must (d := d + 5) q11) (fun r9 h9 q9 => ?_)
      obtain ⟨rfl, rfl⟩ := q9
      refine g_stp (st2 := []) (pc2 := 19) (kc2 := 0) (kn2 := 0) rfl rfl rfl rfl ?_
      refine g_iinc2 (w := (1 : Int32)) dX12_spells_19 (by decide) rfl (by decide) (g_lvp (lv2 := [some (.ref x0), some (.ref x1), some (.int (x2 + (1 : Int32)))]) (pc2 := 22) rfl rfl ?_)
      refine g_goto (tgt := 2) dX12_spells_22 (by decide) ?_
      exact t2 hf
def F_X12_spells_0 (n : Nat)  (x0 : Nat) (x1 : Nat) (h : gH) : Option (gH) :=
  F_X12_spells_2 n n x0 x1 (0 : Int32) h
set_option maxRecDepth 20000 in
set_option maxHeartbeats 1600000 in
theorem g_X12_spells_0 {n d : Nat} : ∀ {x0 : Nat} {x1 : Nat} {h : gH} {rh : gH}, F_X12_spells_0 n x0 x1 h = some rh → G M_X12_spells (d + 7) 0 0 0 0 0 [some (.ref x0), some (.ref x1), none] [] h (qV rh) := by
  intro x0 x1 h rh hf
  unfold F_X12_spells_0 at hf
  refine g_iconst (v := (0 : Int32)) dX12_spells_0 (by decide) ?_
  refine g_istore_n dX12_spells_1 (by decide) (g_lvp (lv2 := [some (.ref x0), some (.ref x1), some (.int (0 : Int32))]) (pc2 := 2) rfl rfl ?_)
  exact g_X12_spells_2 hf
def F_X12_spells (n : Nat) (a : Nat) (p0 : Nat) (h : gH) : Option (gH) := F_X12_spells_0 n  a p0 h
theorem t_X12_spells {n d : Nat} {a : Nat} {p0 : Nat} {h rh : gH} (hf : F_X12_spells n a p0 h = some rh) : T M_X12_spells (d + 7) 0 0 [.ref a, .ref p0] h (qV rh) := by
  refine T_of_G (L := 1) (by decide +kernel) rfl (Nat.le_of_ble_eq_true rfl) (g_lv (lv2 := [some (.ref a), some (.ref p0), none]) rfl ?_)
  exact g_X12_spells_0 hf
def F_X12_tellsHere_41 (n : Nat)   (h : gH) : Option (gH) :=
  some h
set_option maxRecDepth 20000 in
set_option maxHeartbeats 1600000 in
theorem g_X12_tellsHere_41 {n d : Nat} : ∀  {h : gH} {rh : gH}, F_X12_tellsHere_41 n  h = some rh → G M_X12_tellsHere (d + 8) 0 0 0 0 41 [none, none, none, none, none] [] h (qV rh) := by
  intro  h rh hf
  unfold F_X12_tellsHere_41 at hf
  obtain rfl := Option.some.inj hf
  exact g_vret dX12_tellsHere_41 rfl ⟨rfl, rfl⟩ (Nat.le_of_ble_eq_true rfl) (Nat.le_of_ble_eq_true rfl)
def F_X12_tellsHere_40 (n : Nat)  (y0 : Nat) (y1 : Int32) (y2 : Int32) (h : gH) : Option (gH) :=
  (sI h y0 y1 y2).bind fun h1 =>
  F_X12_tellsHere_41 n h1
set_option maxRecDepth 20000 in
set_option maxHeartbeats 1600000 in
theorem g_X12_tellsHere_40 {n d : Nat} : ∀ {y0 : Nat} {y1 : Int32} {y2 : Int32} {h : gH} {rh : gH}, F_X12_tellsHere_40 n y0 y1 y2 h = some rh → G M_X12_tellsHere (d + 8) 0 0 0 0 40 [none, none, none, none, none] [.int y2, .int y1, .ref y0] h (qV rh) := by
  intro y0 y1 y2 h rh hf
  unfold F_X12_tellsHere_40 at hf
  replace hf := Option.bind_eq_some_iff.mp hf
  obtain ⟨h1, q2, hf⟩ := hf
  refine g_sI dX12_tellsHere_40 q2 ?_
  exact g_X12_tellsHere_41 hf
def F_X12_tellsHere_0 (n : Nat)  (x0 : Nat) (x1 : Int32) (x2 : Nat) (x3 : Int32) (h : gH) : Option (gH) :=
  (gO h x0 12).bind fun f1 =>
  (F_X12_spells n x0 x2 h).bind fun h3 =>
  (gO h3 x0 12).bind fun f5 =>
  gB (F_X12_figures n x0  h3) fun v9 h7 =>
  (gI h7 x0 12 7).bind fun v10 =>
  if v10 = 0 then
  ((gR h7 x0 12 1).bind fun v13 =>
  (gI h7 x0 12 4).bind fun v15 =>
  if v9 ≤ x3 then
  (F_X12_tellsHere_40 n v13 (x1 + v15) v9 h7)
  else
  (F_X12_tellsHere_40 n v13 (x1 + v15) x3 h7))
  else
  (F_X12_tellsHere_41 n h7)
set_option maxRecDepth 20000 in
set_option maxHeartbeats 1600000 in
theorem g_X12_tellsHere_0 {n d : Nat} : ∀ {x0 : Nat} {x1 : Int32} {x2 : Nat} {x3 : Int32} {h : gH} {rh : gH}, F_X12_tellsHere_0 n x0 x1 x2 x3 h = some rh → G M_X12_tellsHere (d + 8) 0 0 0 0 0 [some (.ref x0), some (.int x1), some (.ref x2), some (.int x3), none] [] h (qV rh) := by
  intro x0 x1 x2 x3 h rh hf
  unfold F_X12_tellsHere_0 at hf
  refine g_aload_n dX12_tellsHere_0 rfl ?_
  refine g_aload_n dX12_tellsHere_1 rfl ?_
  replace hf := Option.bind_eq_some_iff.mp hf
  obtain ⟨f1, q2, hf⟩ := hf
  replace hf := Option.bind_eq_some_iff.mp hf
  obtain ⟨h3, q4, hf⟩ := hf
  refine g_callV (as := [.ref x2]) (mc1 := 0) (ms1 := 0) s_X12_118_X12_spells_12 dX12_tellsHere_2 (gO_of q2) rfl (Nat.le_of_ble_eq_true rfl) (Nat.le_of_ble_eq_true rfl) (Nat.le_of_ble_eq_true rfl) (t_X12_spells (d := d + 0) q4) (fun r9 h9 q9 => ?_)
  obtain ⟨rfl, rfl⟩ := q9
  refine g_stp (st2 := []) (pc2 := 5) (kc2 := 0) (kn2 := 0) rfl rfl rfl rfl ?_
  refine g_aload_n dX12_tellsHere_5 rfl ?_
  replace hf := Option.bind_eq_some_iff.mp hf
  obtain ⟨f5, q6, hf⟩ := hf
  replace hf := gB_of hf
  obtain ⟨v9, h7, q8, hf⟩ := hf
  refine g_callV (as := []) (mc1 := 0) (ms1 := 0) s_X12_110_X12_figures_12 dX12_tellsHere_6 (gO_of q6) rfl (Nat.le_of_ble_eq_true rfl) (Nat.le_of_ble_eq_true rfl) (Nat.le_of_ble_eq_true rfl) (t_X12_figures (d := d + 6) q8) (fun r9 h9 q9 => ?_)
  obtain ⟨rfl, rfl⟩ := q9
  refine g_stp (st2 := [.int v9]) (pc2 := 9) (kc2 := 0) (kn2 := 0) rfl rfl rfl rfl ?_
  refine g_istore dX12_tellsHere_9 (by decide) (g_lvp (lv2 := [some (.ref x0), some (.int x1), some (.ref x2), some (.int x3), some (.int v9)]) (pc2 := 11) rfl rfl ?_)
  refine g_aload_n dX12_tellsHere_11 rfl ?_
  replace hf := Option.bind_eq_some_iff.mp hf
  obtain ⟨v10, q11, hf⟩ := hf
  refine g_gI f_X12_67 dX12_tellsHere_12 q11 ?_
  refine g_if_ne (tgt := 41) dX12_tellsHere_15 (by decide) (fun c12 => ?_) (fun c12 => ?_)
  · rw [if_neg c12] at hf
    refine g_weak (lv2 := [none, none, none, none, none]) (trivial) ?_
    exact g_X12_tellsHere_41 hf
  · rw [if_pos c12] at hf
    refine g_aload_n dX12_tellsHere_18 rfl ?_
    replace hf := Option.bind_eq_some_iff.mp hf
    obtain ⟨v13, q14, hf⟩ := hf
    refine g_gR f_X12_9 dX12_tellsHere_19 q14 ?_
    refine g_iload_n dX12_tellsHere_22 rfl ?_
    refine g_aload_n dX12_tellsHere_23 rfl ?_
    replace hf := Option.bind_eq_some_iff.mp hf
    obtain ⟨v15, q16, hf⟩ := hf
    refine g_gI f_X12_87 dX12_tellsHere_24 q16 ?_
    refine g_iadd dX12_tellsHere_27 ?_
    refine g_iload dX12_tellsHere_28 rfl ?_
    refine g_iload_n dX12_tellsHere_30 rfl ?_
    refine g_icmp_le (tgt := 38) dX12_tellsHere_31 (by decide) (fun c17 => ?_) (fun c17 => ?_)
    · rw [if_pos c17] at hf
      refine g_iload dX12_tellsHere_38 rfl ?_
      refine g_weak (lv2 := [none, none, none, none, none]) (trivial) ?_
      exact g_X12_tellsHere_40 hf
    · rw [if_neg c17] at hf
      refine g_iload_n dX12_tellsHere_34 rfl ?_
      refine g_goto (tgt := 40) dX12_tellsHere_35 (by decide) ?_
      refine g_weak (lv2 := [none, none, none, none, none]) (trivial) ?_
      exact g_X12_tellsHere_40 hf
def F_X12_tellsHere (n : Nat) (a : Nat) (p0 : Int32) (p1 : Nat) (p2 : Int32) (h : gH) : Option (gH) := F_X12_tellsHere_0 n  a p0 p1 p2 h
theorem t_X12_tellsHere {n d : Nat} {a : Nat} {p0 : Int32} {p1 : Nat} {p2 : Int32} {h rh : gH} (hf : F_X12_tellsHere n a p0 p1 p2 h = some rh) : T M_X12_tellsHere (d + 8) 0 0 [.ref a, .int p0, .ref p1, .int p2] h (qV rh) := by
  refine T_of_G (L := 1) (by decide +kernel) rfl (Nat.le_of_ble_eq_true rfl) (g_lv (lv2 := [some (.ref a), some (.int p0), some (.ref p1), some (.int p2), none]) rfl ?_)
  exact g_X12_tellsHere_0 hf
def F_X12_clauseOfB_105 (n : Nat)   (h : gH) : Option (gH) :=
  some h
set_option maxRecDepth 20000 in
set_option maxHeartbeats 1600000 in
theorem g_X12_clauseOfB_105 {n d : Nat} : ∀  {h : gH} {rh : gH}, F_X12_clauseOfB_105 n  h = some rh → G M_X12_clauseOfB (d + 9) 0 0 0 0 105 [none, none, none] [] h (qV rh) := by
  intro  h rh hf
  unfold F_X12_clauseOfB_105 at hf
  obtain rfl := Option.some.inj hf
  exact g_vret dX12_clauseOfB_105 rfl ⟨rfl, rfl⟩ (Nat.le_of_ble_eq_true rfl) (Nat.le_of_ble_eq_true rfl)
def F_X12_clauseOfB_64 (n : Nat)   (h : gH) : Option (gH) :=
  some h
set_option maxRecDepth 20000 in
set_option maxHeartbeats 1600000 in
theorem g_X12_clauseOfB_64 {n d : Nat} : ∀  {h : gH} {rh : gH}, F_X12_clauseOfB_64 n  h = some rh → G M_X12_clauseOfB (d + 9) 0 0 0 0 64 [none, none, none] [] h (qV rh) := by
  intro  h rh hf
  unfold F_X12_clauseOfB_64 at hf
  obtain rfl := Option.some.inj hf
  exact g_vret dX12_clauseOfB_64 rfl ⟨rfl, rfl⟩ (Nat.le_of_ble_eq_true rfl) (Nat.le_of_ble_eq_true rfl)
def F_X12_clauseOfB_0 (n : Nat)  (x0 : Nat) (h : gH) : Option (gH) :=
  (gO h x0 12).bind fun f1 =>
  (F_X12_must n x0 (98 : Int32) h).bind fun h3 =>
  (gO h3 x0 12).bind fun f5 =>
  gB (F_X12_here n x0  h3) fun v9 h7 =>
  if v9 = (101 : Int32) then
  ((gO h7 x0 12).bind fun f29 =>
  (F_X12_spells n x0 11 h7).bind fun h31 =>
  (gO h31 x0 12).bind fun f33 =>
  gB (F_X12_figure n x0 (0 : Int32) h31) fun v37 h35 =>
  (gO h35 x0 12).bind fun f38 =>
  (F_X12_must n x0 (32 : Int32) h35).bind fun h40 =>
  (gO h40 x0 12).bind fun f42 =>
  gB (F_X12_figures n x0  h40) fun v46 h44 =>
  (gI h44 x0 12 7).bind fun v47 =>
  if v47 = 0 then
  ((gR h44 x0 12 1).bind fun v50 =>
  (gI h44 x0 12 4).bind fun v52 =>
  (sI h44 v50 (((363 : Int32) + ((10 : Int32) * v52)) + v37) v46).bind fun h54 =>
  F_X12_clauseOfB_64 n h54)
  else
  (F_X12_clauseOfB_64 n h44))
  else
  ((gO h7 x0 12).bind fun f11 =>
  (F_X12_must n x0 (97 : Int32) h7).bind fun h13 =>
  (gO h13 x0 12).bind fun f15 =>
  gB (F_X12_here n x0  h13) fun v19 h17 =>
  if v19 = (114 : Int32) then
  ((gO h17 x0 12).bind fun f25 =>
  (F_X12_tellsHere n x0 (223 : Int32) 12 (9 : Int32) h17).bind fun h27 =>
  F_X12_clauseOfB_105 n h27)
  else
  ((gO h17 x0 12).bind fun f21 =>
  (F_X12_tellsHere n x0 (233 : Int32) 13 (99 : Int32) h17).bind fun h23 =>
  F_X12_clauseOfB_105 n h23))
set_option maxRecDepth 20000 in
set_option maxHeartbeats 1600000 in
theorem g_X12_clauseOfB_0 {n d : Nat} : ∀ {x0 : Nat} {h : gH} {rh : gH}, F_X12_clauseOfB_0 n x0 h = some rh → G M_X12_clauseOfB (d + 9) 0 0 0 0 0 [some (.ref x0), none, none] [] h (qV rh) := by
  intro x0 h rh hf
  unfold F_X12_clauseOfB_0 at hf
  refine g_aload_n dX12_clauseOfB_0 rfl ?_
  refine g_bipush (v := (98 : Int32)) dX12_clauseOfB_1 (by decide) ?_
  replace hf := Option.bind_eq_some_iff.mp hf
  obtain ⟨f1, q2, hf⟩ := hf
  replace hf := Option.bind_eq_some_iff.mp hf
  obtain ⟨h3, q4, hf⟩ := hf
  refine g_callV (as := [.int (98 : Int32)]) (mc1 := 0) (ms1 := 0) s_X12_83_X12_must_12 dX12_clauseOfB_3 (gO_of q2) rfl (Nat.le_of_ble_eq_true rfl) (Nat.le_of_ble_eq_true rfl) (Nat.le_of_ble_eq_true rfl) (t_X12_must (d := d + 7) q4) (fun r9 h9 q9 => ?_)
  obtain ⟨rfl, rfl⟩ := q9
  refine g_stp (st2 := []) (pc2 := 6) (kc2 := 0) (kn2 := 0) rfl rfl rfl rfl ?_
  refine g_aload_n dX12_clauseOfB_6 rfl ?_
  replace hf := Option.bind_eq_some_iff.mp hf
  obtain ⟨f5, q6, hf⟩ := hf
  replace hf := gB_of hf
  obtain ⟨v9, h7, q8, hf⟩ := hf
  refine g_callV (as := []) (mc1 := 0) (ms1 := 0) s_X12_71_X12_here_12 dX12_clauseOfB_7 (gO_of q6) rfl (Nat.le_of_ble_eq_true rfl) (Nat.le_of_ble_eq_true rfl) (Nat.le_of_ble_eq_true rfl) (t_X12_here (d := d + 8) q8) (fun r9 h9 q9 => ?_)
  obtain ⟨rfl, rfl⟩ := q9
  refine g_stp (st2 := [.int v9]) (pc2 := 10) (kc2 := 0) (kn2 := 0) rfl rfl rfl rfl ?_
  refine g_bipush (v := (101 : Int32)) dX12_clauseOfB_10 (by decide) ?_
  refine g_icmp_ne (tgt := 65) dX12_clauseOfB_12 (by decide) (fun c10 => ?_) (fun c10 => ?_)
  · rw [if_neg c10] at hf
    refine g_aload_n dX12_clauseOfB_65 rfl ?_
    refine g_bipush (v := (97 : Int32)) dX12_clauseOfB_66 (by decide) ?_
    replace hf := Option.bind_eq_some_iff.mp hf
    obtain ⟨f11, q12, hf⟩ := hf
    replace hf := Option.bind_eq_some_iff.mp hf
    obtain ⟨h13, q14, hf⟩ := hf
    refine g_callV (as := [.int (97 : Int32)]) (mc1 := 0) (ms1 := 0) s_X12_83_X12_must_12 dX12_clauseOfB_68 (gO_of q12) rfl (Nat.le_of_ble_eq_true rfl) (Nat.le_of_ble_eq_true rfl) (Nat.le_of_ble_eq_true rfl) (t_X12_must (d := d + 7) q14) (fun r9 h9 q9 => ?_)
    obtain ⟨rfl, rfl⟩ := q9
    refine g_stp (st2 := []) (pc2 := 71) (kc2 := 0) (kn2 := 0) rfl rfl rfl rfl ?_
    refine g_aload_n dX12_clauseOfB_71 rfl ?_
    replace hf := Option.bind_eq_some_iff.mp hf
    obtain ⟨f15, q16, hf⟩ := hf
    replace hf := gB_of hf
    obtain ⟨v19, h17, q18, hf⟩ := hf
    refine g_callV (as := []) (mc1 := 0) (ms1 := 0) s_X12_71_X12_here_12 dX12_clauseOfB_72 (gO_of q16) rfl (Nat.le_of_ble_eq_true rfl) (Nat.le_of_ble_eq_true rfl) (Nat.le_of_ble_eq_true rfl) (t_X12_here (d := d + 8) q18) (fun r9 h9 q9 => ?_)
    obtain ⟨rfl, rfl⟩ := q9
    refine g_stp (st2 := [.int v19]) (pc2 := 75) (kc2 := 0) (kn2 := 0) rfl rfl rfl rfl ?_
    refine g_bipush (v := (114 : Int32)) dX12_clauseOfB_75 (by decide) ?_
    refine g_icmp_ne (tgt := 94) dX12_clauseOfB_77 (by decide) (fun c20 => ?_) (fun c20 => ?_)
    · rw [if_neg c20] at hf
      refine g_aload_n dX12_clauseOfB_94 rfl ?_
      refine g_sipush (v := (233 : Int32)) dX12_clauseOfB_95 (by decide) ?_
      refine g_ldcS (i := 12) (by decide +kernel) dX12_clauseOfB_98 ?_ (by decide)
      refine g_bipush (v := (99 : Int32)) dX12_clauseOfB_100 (by decide) ?_
      replace hf := Option.bind_eq_some_iff.mp hf
      obtain ⟨f21, q22, hf⟩ := hf
      replace hf := Option.bind_eq_some_iff.mp hf
      obtain ⟨h23, q24, hf⟩ := hf
      refine g_callV (as := [.int (233 : Int32), .ref 13, .int (99 : Int32)]) (mc1 := 0) (ms1 := 0) s_X12_130_X12_tellsHere_12 dX12_clauseOfB_102 (gO_of q22) rfl (Nat.le_of_ble_eq_true rfl) (Nat.le_of_ble_eq_true rfl) (Nat.le_of_ble_eq_true rfl) (t_X12_tellsHere (d := d + 0) q24) (fun r9 h9 q9 => ?_)
      obtain ⟨rfl, rfl⟩ := q9
      refine g_stp (st2 := []) (pc2 := 105) (kc2 := 0) (kn2 := 0) rfl rfl rfl rfl ?_
      refine g_weak (lv2 := [none, none, none]) (trivial) ?_
      exact g_X12_clauseOfB_105 hf
    · rw [if_pos c20] at hf
      refine g_aload_n dX12_clauseOfB_80 rfl ?_
      refine g_sipush (v := (223 : Int32)) dX12_clauseOfB_81 (by decide) ?_
      refine g_ldcS (i := 11) (by decide +kernel) dX12_clauseOfB_84 ?_ (by decide)
      refine g_bipush (v := (9 : Int32)) dX12_clauseOfB_86 (by decide) ?_
      replace hf := Option.bind_eq_some_iff.mp hf
      obtain ⟨f25, q26, hf⟩ := hf
      replace hf := Option.bind_eq_some_iff.mp hf
      obtain ⟨h27, q28, hf⟩ := hf
      refine g_callV (as := [.int (223 : Int32), .ref 12, .int (9 : Int32)]) (mc1 := 0) (ms1 := 0) s_X12_130_X12_tellsHere_12 dX12_clauseOfB_88 (gO_of q26) rfl (Nat.le_of_ble_eq_true rfl) (Nat.le_of_ble_eq_true rfl) (Nat.le_of_ble_eq_true rfl) (t_X12_tellsHere (d := d + 0) q28) (fun r9 h9 q9 => ?_)
      obtain ⟨rfl, rfl⟩ := q9
      refine g_stp (st2 := []) (pc2 := 91) (kc2 := 0) (kn2 := 0) rfl rfl rfl rfl ?_
      refine g_goto (tgt := 105) dX12_clauseOfB_91 (by decide) ?_
      refine g_weak (lv2 := [none, none, none]) (trivial) ?_
      exact g_X12_clauseOfB_105 hf
  · rw [if_pos c10] at hf
    refine g_aload_n dX12_clauseOfB_15 rfl ?_
    refine g_ldcS (i := 10) (by decide +kernel) dX12_clauseOfB_16 ?_ (by decide)
    replace hf := Option.bind_eq_some_iff.mp hf
    obtain ⟨f29, q30, hf⟩ := hf
    replace hf := Option.bind_eq_some_iff.mp hf
    obtain ⟨h31, q32, hf⟩ := hf
    refine g_callV (as := [.ref 11]) (mc1 := 0) (ms1 := 0) s_X12_118_X12_spells_12 dX12_clauseOfB_18 (gO_of q30) rfl (Nat.le_of_ble_eq_true rfl) (Nat.le_of_ble_eq_true rfl) (Nat.le_of_ble_eq_true rfl) (t_X12_spells (d := d + 1) q32) (fun r9 h9 q9 => ?_)
    obtain ⟨rfl, rfl⟩ := q9
    refine g_stp (st2 := []) (pc2 := 21) (kc2 := 0) (kn2 := 0) rfl rfl rfl rfl ?_
    refine g_aload_n dX12_clauseOfB_21 rfl ?_
    refine g_iconst (v := (0 : Int32)) dX12_clauseOfB_22 (by decide) ?_
    replace hf := Option.bind_eq_some_iff.mp hf
    obtain ⟨f33, q34, hf⟩ := hf
    replace hf := gB_of hf
    obtain ⟨v37, h35, q36, hf⟩ := hf
    refine g_callV (as := [.int (0 : Int32)]) (mc1 := 0) (ms1 := 0) s_X12_122_X12_figure_12 dX12_clauseOfB_23 (gO_of q34) rfl (Nat.le_of_ble_eq_true rfl) (Nat.le_of_ble_eq_true rfl) (Nat.le_of_ble_eq_true rfl) (t_X12_figure (d := d + 7) q36) (fun r9 h9 q9 => ?_)
    obtain ⟨rfl, rfl⟩ := q9
    refine g_stp (st2 := [.int v37]) (pc2 := 26) (kc2 := 0) (kn2 := 0) rfl rfl rfl rfl ?_
    refine g_istore_n dX12_clauseOfB_26 (by decide) (g_lvp (lv2 := [some (.ref x0), some (.int v37), none]) (pc2 := 27) rfl rfl ?_)
    refine g_aload_n dX12_clauseOfB_27 rfl ?_
    refine g_bipush (v := (32 : Int32)) dX12_clauseOfB_28 (by decide) ?_
    replace hf := Option.bind_eq_some_iff.mp hf
    obtain ⟨f38, q39, hf⟩ := hf
    replace hf := Option.bind_eq_some_iff.mp hf
    obtain ⟨h40, q41, hf⟩ := hf
    refine g_callV (as := [.int (32 : Int32)]) (mc1 := 0) (ms1 := 0) s_X12_83_X12_must_12 dX12_clauseOfB_30 (gO_of q39) rfl (Nat.le_of_ble_eq_true rfl) (Nat.le_of_ble_eq_true rfl) (Nat.le_of_ble_eq_true rfl) (t_X12_must (d := d + 7) q41) (fun r9 h9 q9 => ?_)
    obtain ⟨rfl, rfl⟩ := q9
    refine g_stp (st2 := []) (pc2 := 33) (kc2 := 0) (kn2 := 0) rfl rfl rfl rfl ?_
    refine g_aload_n dX12_clauseOfB_33 rfl ?_
    replace hf := Option.bind_eq_some_iff.mp hf
    obtain ⟨f42, q43, hf⟩ := hf
    replace hf := gB_of hf
    obtain ⟨v46, h44, q45, hf⟩ := hf
    refine g_callV (as := []) (mc1 := 0) (ms1 := 0) s_X12_110_X12_figures_12 dX12_clauseOfB_34 (gO_of q43) rfl (Nat.le_of_ble_eq_true rfl) (Nat.le_of_ble_eq_true rfl) (Nat.le_of_ble_eq_true rfl) (t_X12_figures (d := d + 7) q45) (fun r9 h9 q9 => ?_)
    obtain ⟨rfl, rfl⟩ := q9
    refine g_stp (st2 := [.int v46]) (pc2 := 37) (kc2 := 0) (kn2 := 0) rfl rfl rfl rfl ?_
    refine g_istore_n dX12_clauseOfB_37 (by decide) (g_lvp (lv2 := [some (.ref x0), some (.int v37), some (.int v46)]) (pc2 := 38) rfl rfl ?_)
    refine g_aload_n dX12_clauseOfB_38 rfl ?_
    replace hf := Option.bind_eq_some_iff.mp hf
    obtain ⟨v47, q48, hf⟩ := hf
    refine g_gI f_X12_67 dX12_clauseOfB_39 q48 ?_
    refine g_if_ne (tgt := 64) dX12_clauseOfB_42 (by decide) (fun c49 => ?_) (fun c49 => ?_)
    · rw [if_neg c49] at hf
      refine g_weak (lv2 := [none, none, none]) (trivial) ?_
      exact g_X12_clauseOfB_64 hf
    · rw [if_pos c49] at hf
      refine g_aload_n dX12_clauseOfB_45 rfl ?_
      replace hf := Option.bind_eq_some_iff.mp hf
      obtain ⟨v50, q51, hf⟩ := hf
      refine g_gR f_X12_9 dX12_clauseOfB_46 q51 ?_
      refine g_sipush (v := (363 : Int32)) dX12_clauseOfB_49 (by decide) ?_
      refine g_bipush (v := (10 : Int32)) dX12_clauseOfB_52 (by decide) ?_
      refine g_aload_n dX12_clauseOfB_54 rfl ?_
      replace hf := Option.bind_eq_some_iff.mp hf
      obtain ⟨v52, q53, hf⟩ := hf
      refine g_gI f_X12_87 dX12_clauseOfB_55 q53 ?_
      refine g_imul dX12_clauseOfB_58 ?_
      refine g_iadd dX12_clauseOfB_59 ?_
      refine g_iload_n dX12_clauseOfB_60 rfl ?_
      refine g_iadd dX12_clauseOfB_61 ?_
      refine g_iload_n dX12_clauseOfB_62 rfl ?_
      replace hf := Option.bind_eq_some_iff.mp hf
      obtain ⟨h54, q55, hf⟩ := hf
      refine g_sI dX12_clauseOfB_63 q55 ?_
      refine g_weak (lv2 := [none, none, none]) (trivial) ?_
      exact g_X12_clauseOfB_64 hf
def F_X12_clauseOfB (n : Nat) (a : Nat) (h : gH) : Option (gH) := F_X12_clauseOfB_0 n  a h
theorem t_X12_clauseOfB {n d : Nat} {a : Nat} {h rh : gH} (hf : F_X12_clauseOfB n a h = some rh) : T M_X12_clauseOfB (d + 9) 0 0 [.ref a] h (qV rh) := by
  refine T_of_G (L := 2) (by decide +kernel) rfl (Nat.le_of_ble_eq_true rfl) (g_lv (lv2 := [some (.ref a), none, none]) rfl ?_)
  exact g_X12_clauseOfB_0 hf
def F_X12_emits_56 (n : Nat)   (h : gH) : Option (gH) :=
  some h
set_option maxRecDepth 20000 in
set_option maxHeartbeats 1600000 in
theorem g_X12_emits_56 {n d : Nat} : ∀  {h : gH} {rh : gH}, F_X12_emits_56 n  h = some rh → G M_X12_emits d 0 0 0 0 56 [none, none] [] h (qV rh) := by
  intro  h rh hf
  unfold F_X12_emits_56 at hf
  obtain rfl := Option.some.inj hf
  exact g_vret dX12_emits_56 rfl ⟨rfl, rfl⟩ (Nat.le_of_ble_eq_true rfl) (Nat.le_of_ble_eq_true rfl)
def F_X12_emits_0 (n : Nat)  (x0 : Nat) (x1 : Int32) (h : gH) : Option (gH) :=
  (gI h x0 12 7).bind fun v1 =>
  if v1 = 0 then
  ((gR h x0 12 1).bind fun v4 =>
  (gI h x0 12 4).bind fun v6 =>
  (gR h x0 12 1).bind fun v8 =>
  (gI h x0 12 4).bind fun v10 =>
  (aI h v8 ((413 : Int32) + v10)).bind fun v12 =>
  (sI h v4 (((418 : Int32) + ((140 : Int32) * v6)) + v12) x1).bind fun h14 =>
  (gR h14 x0 12 1).bind fun v16 =>
  (gI h14 x0 12 4).bind fun v18 =>
  (aI h14 v16 ((413 : Int32) + v18)).bind fun v20 =>
  (sI h14 v16 ((413 : Int32) + v18) (v20 + (1 : Int32))).bind fun h22 =>
  F_X12_emits_56 n h22)
  else
  (F_X12_emits_56 n h)
set_option maxRecDepth 20000 in
set_option maxHeartbeats 1600000 in
theorem g_X12_emits_0 {n d : Nat} : ∀ {x0 : Nat} {x1 : Int32} {h : gH} {rh : gH}, F_X12_emits_0 n x0 x1 h = some rh → G M_X12_emits d 0 0 0 0 0 [some (.ref x0), some (.int x1)] [] h (qV rh) := by
  intro x0 x1 h rh hf
  unfold F_X12_emits_0 at hf
  refine g_aload_n dX12_emits_0 rfl ?_
  replace hf := Option.bind_eq_some_iff.mp hf
  obtain ⟨v1, q2, hf⟩ := hf
  refine g_gI f_X12_67 dX12_emits_1 q2 ?_
  refine g_if_ne (tgt := 56) dX12_emits_4 (by decide) (fun c3 => ?_) (fun c3 => ?_)
  · rw [if_neg c3] at hf
    refine g_weak (lv2 := [none, none]) (trivial) ?_
    exact g_X12_emits_56 hf
  · rw [if_pos c3] at hf
    refine g_aload_n dX12_emits_7 rfl ?_
    replace hf := Option.bind_eq_some_iff.mp hf
    obtain ⟨v4, q5, hf⟩ := hf
    refine g_gR f_X12_9 dX12_emits_8 q5 ?_
    refine g_sipush (v := (418 : Int32)) dX12_emits_11 (by decide) ?_
    refine g_sipush (v := (140 : Int32)) dX12_emits_14 (by decide) ?_
    refine g_aload_n dX12_emits_17 rfl ?_
    replace hf := Option.bind_eq_some_iff.mp hf
    obtain ⟨v6, q7, hf⟩ := hf
    refine g_gI f_X12_87 dX12_emits_18 q7 ?_
    refine g_imul dX12_emits_21 ?_
    refine g_iadd dX12_emits_22 ?_
    refine g_aload_n dX12_emits_23 rfl ?_
    replace hf := Option.bind_eq_some_iff.mp hf
    obtain ⟨v8, q9, hf⟩ := hf
    refine g_gR f_X12_9 dX12_emits_24 q9 ?_
    refine g_sipush (v := (413 : Int32)) dX12_emits_27 (by decide) ?_
    refine g_aload_n dX12_emits_30 rfl ?_
    replace hf := Option.bind_eq_some_iff.mp hf
    obtain ⟨v10, q11, hf⟩ := hf
    refine g_gI f_X12_87 dX12_emits_31 q11 ?_
    refine g_iadd dX12_emits_34 ?_
    replace hf := Option.bind_eq_some_iff.mp hf
    obtain ⟨v12, q13, hf⟩ := hf
    refine g_aI dX12_emits_35 q13 ?_
    refine g_iadd dX12_emits_36 ?_
    refine g_iload_n dX12_emits_37 rfl ?_
    replace hf := Option.bind_eq_some_iff.mp hf
    obtain ⟨h14, q15, hf⟩ := hf
    refine g_sI dX12_emits_38 q15 ?_
    refine g_aload_n dX12_emits_39 rfl ?_
    replace hf := Option.bind_eq_some_iff.mp hf
    obtain ⟨v16, q17, hf⟩ := hf
    refine g_gR f_X12_9 dX12_emits_40 q17 ?_
    refine g_sipush (v := (413 : Int32)) dX12_emits_43 (by decide) ?_
    refine g_aload_n dX12_emits_46 rfl ?_
    replace hf := Option.bind_eq_some_iff.mp hf
    obtain ⟨v18, q19, hf⟩ := hf
    refine g_gI f_X12_87 dX12_emits_47 q19 ?_
    refine g_iadd dX12_emits_50 ?_
    refine g_dup2 dX12_emits_51 rfl rfl ?_
    replace hf := Option.bind_eq_some_iff.mp hf
    obtain ⟨v20, q21, hf⟩ := hf
    refine g_aI dX12_emits_52 q21 ?_
    refine g_iconst (v := (1 : Int32)) dX12_emits_53 (by decide) ?_
    refine g_iadd dX12_emits_54 ?_
    replace hf := Option.bind_eq_some_iff.mp hf
    obtain ⟨h22, q23, hf⟩ := hf
    refine g_sI dX12_emits_55 q23 ?_
    refine g_weak (lv2 := [none, none]) (trivial) ?_
    exact g_X12_emits_56 hf
def F_X12_emits (n : Nat) (a : Nat) (p0 : Int32) (h : gH) : Option (gH) := F_X12_emits_0 n  a p0 h
theorem t_X12_emits {n d : Nat} {a : Nat} {p0 : Int32} {h rh : gH} (hf : F_X12_emits n a p0 h = some rh) : T M_X12_emits d 0 0 [.ref a, .int p0] h (qV rh) := by
  refine T_of_G (L := 0) (by decide +kernel) rfl (Nat.le_of_ble_eq_true rfl) (g_lv (lv2 := [some (.ref a), some (.int p0)]) rfl ?_)
  exact g_X12_emits_0 hf
def F_X12_pieceHere_143 (n : Nat)   (h : gH) : Option (gH) :=
  some h
set_option maxRecDepth 20000 in
set_option maxHeartbeats 1600000 in
theorem g_X12_pieceHere_143 {n d : Nat} : ∀  {h : gH} {rh : gH}, F_X12_pieceHere_143 n  h = some rh → G M_X12_pieceHere (d + 8) 0 0 0 0 143 [none, none, none, none, none] [] h (qV rh) := by
  intro  h rh hf
  unfold F_X12_pieceHere_143 at hf
  obtain rfl := Option.some.inj hf
  exact g_vret dX12_pieceHere_143 rfl ⟨rfl, rfl⟩ (Nat.le_of_ble_eq_true rfl) (Nat.le_of_ble_eq_true rfl)
def F_X12_pieceHere_0 (n : Nat)  (x0 : Nat) (h : gH) : Option (gH) :=
  (gR h x0 12 1).bind fun v1 =>
  (gI h x0 12 4).bind fun v3 =>
  (aI h v1 ((218 : Int32) + v3)).bind fun v5 =>
  if v5 = (8 : Int32) then
  ((pZ h x0 12 7 (1 : Int32)).bind fun h66 =>
  some h66)
  else
  ((gO h x0 12).bind fun f8 =>
  (F_X12_spells n x0 10 h).bind fun h10 =>
  (gO h10 x0 12).bind fun f12 =>
  gB (F_X12_figure n x0 (1 : Int32) h10) fun v16 h14 =>
  (gO h14 x0 12).bind fun f17 =>
  (F_X12_must n x0 (32 : Int32) h14).bind fun h19 =>
  (gO h19 x0 12).bind fun f21 =>
  gB (F_X12_figure n x0 (0 : Int32) h19) fun v25 h23 =>
  (gO h23 x0 12).bind fun f26 =>
  (F_X12_must n x0 (32 : Int32) h23).bind fun h28 =>
  (gO h28 x0 12).bind fun f30 =>
  gB (F_X12_figure n x0 (0 : Int32) h28) fun v34 h32 =>
  (gI h32 x0 12 7).bind fun v35 =>
  if v35 = 0 then
  ((gI h32 x0 12 4).bind fun v38 =>
  (gR h32 x0 12 1).bind fun v40 =>
  (gI h32 x0 12 4).bind fun v42 =>
  (aI h32 v40 ((218 : Int32) + v42)).bind fun v44 =>
  (gR h32 x0 12 1).bind fun v46 =>
  (sI h32 v46 ((243 : Int32) + (((8 : Int32) * v38) + v44)) v16).bind fun h48 =>
  (gR h48 x0 12 1).bind fun v50 =>
  (sI h48 v50 ((283 : Int32) + (((8 : Int32) * v38) + v44)) v25).bind fun h52 =>
  (gR h52 x0 12 1).bind fun v54 =>
  (sI h52 v54 ((323 : Int32) + (((8 : Int32) * v38) + v44)) v34).bind fun h56 =>
  (gR h56 x0 12 1).bind fun v58 =>
  (gI h56 x0 12 4).bind fun v60 =>
  (aI h56 v58 ((218 : Int32) + v60)).bind fun v62 =>
  (sI h56 v58 ((218 : Int32) + v60) (v62 + (1 : Int32))).bind fun h64 =>
  F_X12_pieceHere_143 n h64)
  else
  (F_X12_pieceHere_143 n h32))
set_option maxRecDepth 20000 in
set_option maxHeartbeats 1600000 in
theorem g_X12_pieceHere_0 {n d : Nat} : ∀ {x0 : Nat} {h : gH} {rh : gH}, F_X12_pieceHere_0 n x0 h = some rh → G M_X12_pieceHere (d + 8) 0 0 0 0 0 [some (.ref x0), none, none, none, none] [] h (qV rh) := by
  intro x0 h rh hf
  unfold F_X12_pieceHere_0 at hf
  refine g_aload_n dX12_pieceHere_0 rfl ?_
  replace hf := Option.bind_eq_some_iff.mp hf
  obtain ⟨v1, q2, hf⟩ := hf
  refine g_gR f_X12_9 dX12_pieceHere_1 q2 ?_
  refine g_sipush (v := (218 : Int32)) dX12_pieceHere_4 (by decide) ?_
  refine g_aload_n dX12_pieceHere_7 rfl ?_
  replace hf := Option.bind_eq_some_iff.mp hf
  obtain ⟨v3, q4, hf⟩ := hf
  refine g_gI f_X12_87 dX12_pieceHere_8 q4 ?_
  refine g_iadd dX12_pieceHere_11 ?_
  replace hf := Option.bind_eq_some_iff.mp hf
  obtain ⟨v5, q6, hf⟩ := hf
  refine g_aI dX12_pieceHere_12 q6 ?_
  refine g_bipush (v := (8 : Int32)) dX12_pieceHere_13 (by decide) ?_
  refine g_icmp_ne (tgt := 24) dX12_pieceHere_15 (by decide) (fun c7 => ?_) (fun c7 => ?_)
  · rw [if_neg c7] at hf
    refine g_aload_n dX12_pieceHere_24 rfl ?_
    refine g_ldcS (i := 9) (by decide +kernel) dX12_pieceHere_25 ?_ (by decide)
    replace hf := Option.bind_eq_some_iff.mp hf
    obtain ⟨f8, q9, hf⟩ := hf
    replace hf := Option.bind_eq_some_iff.mp hf
    obtain ⟨h10, q11, hf⟩ := hf
    refine g_callV (as := [.ref 10]) (mc1 := 0) (ms1 := 0) s_X12_118_X12_spells_12 dX12_pieceHere_27 (gO_of q9) rfl (Nat.le_of_ble_eq_true rfl) (Nat.le_of_ble_eq_true rfl) (Nat.le_of_ble_eq_true rfl) (t_X12_spells (d := d + 0) q11) (fun r9 h9 q9 => ?_)
    obtain ⟨rfl, rfl⟩ := q9
    refine g_stp (st2 := []) (pc2 := 30) (kc2 := 0) (kn2 := 0) rfl rfl rfl rfl ?_
    refine g_aload_n dX12_pieceHere_30 rfl ?_
    refine g_iconst (v := (1 : Int32)) dX12_pieceHere_31 (by decide) ?_
    replace hf := Option.bind_eq_some_iff.mp hf
    obtain ⟨f12, q13, hf⟩ := hf
    replace hf := gB_of hf
    obtain ⟨v16, h14, q15, hf⟩ := hf
    refine g_callV (as := [.int (1 : Int32)]) (mc1 := 0) (ms1 := 0) s_X12_122_X12_figure_12 dX12_pieceHere_32 (gO_of q13) rfl (Nat.le_of_ble_eq_true rfl) (Nat.le_of_ble_eq_true rfl) (Nat.le_of_ble_eq_true rfl) (t_X12_figure (d := d + 6) q15) (fun r9 h9 q9 => ?_)
    obtain ⟨rfl, rfl⟩ := q9
    refine g_stp (st2 := [.int v16]) (pc2 := 35) (kc2 := 0) (kn2 := 0) rfl rfl rfl rfl ?_
    refine g_istore_n dX12_pieceHere_35 (by decide) (g_lvp (lv2 := [some (.ref x0), some (.int v16), none, none, none]) (pc2 := 36) rfl rfl ?_)
    refine g_aload_n dX12_pieceHere_36 rfl ?_
    refine g_bipush (v := (32 : Int32)) dX12_pieceHere_37 (by decide) ?_
    replace hf := Option.bind_eq_some_iff.mp hf
    obtain ⟨f17, q18, hf⟩ := hf
    replace hf := Option.bind_eq_some_iff.mp hf
    obtain ⟨h19, q20, hf⟩ := hf
    refine g_callV (as := [.int (32 : Int32)]) (mc1 := 0) (ms1 := 0) s_X12_83_X12_must_12 dX12_pieceHere_39 (gO_of q18) rfl (Nat.le_of_ble_eq_true rfl) (Nat.le_of_ble_eq_true rfl) (Nat.le_of_ble_eq_true rfl) (t_X12_must (d := d + 6) q20) (fun r9 h9 q9 => ?_)
    obtain ⟨rfl, rfl⟩ := q9
    refine g_stp (st2 := []) (pc2 := 42) (kc2 := 0) (kn2 := 0) rfl rfl rfl rfl ?_
    refine g_aload_n dX12_pieceHere_42 rfl ?_
    refine g_iconst (v := (0 : Int32)) dX12_pieceHere_43 (by decide) ?_
    replace hf := Option.bind_eq_some_iff.mp hf
    obtain ⟨f21, q22, hf⟩ := hf
    replace hf := gB_of hf
    obtain ⟨v25, h23, q24, hf⟩ := hf
    refine g_callV (as := [.int (0 : Int32)]) (mc1 := 0) (ms1 := 0) s_X12_122_X12_figure_12 dX12_pieceHere_44 (gO_of q22) rfl (Nat.le_of_ble_eq_true rfl) (Nat.le_of_ble_eq_true rfl) (Nat.le_of_ble_eq_true rfl) (t_X12_figure (d := d + 6) q24) (fun r9 h9 q9 => ?_)
    obtain ⟨rfl, rfl⟩ := q9
    refine g_stp (st2 := [.int v25]) (pc2 := 47) (kc2 := 0) (kn2 := 0) rfl rfl rfl rfl ?_
    refine g_istore_n dX12_pieceHere_47 (by decide) (g_lvp (lv2 := [some (.ref x0), some (.int v16), some (.int v25), none, none]) (pc2 := 48) rfl rfl ?_)
    refine g_aload_n dX12_pieceHere_48 rfl ?_
    refine g_bipush (v := (32 : Int32)) dX12_pieceHere_49 (by decide) ?_
    replace hf := Option.bind_eq_some_iff.mp hf
    obtain ⟨f26, q27, hf⟩ := hf
    replace hf := Option.bind_eq_some_iff.mp hf
    obtain ⟨h28, q29, hf⟩ := hf
    refine g_callV (as := [.int (32 : Int32)]) (mc1 := 0) (ms1 := 0) s_X12_83_X12_must_12 dX12_pieceHere_51 (gO_of q27) rfl (Nat.le_of_ble_eq_true rfl) (Nat.le_of_ble_eq_true rfl) (Nat.le_of_ble_eq_true rfl) (t_X12_must (d := d + 6) q29) (fun r9 h9 q9 => ?_)
    obtain ⟨rfl, rfl⟩ := q9
    refine g_stp (st2 := []) (pc2 := 54) (kc2 := 0) (kn2 := 0) rfl rfl rfl rfl ?_
    refine g_aload_n dX12_pieceHere_54 rfl ?_
    refine g_iconst (v := (0 : Int32)) dX12_pieceHere_55 (by decide) ?_
    replace hf := Option.bind_eq_some_iff.mp hf
    obtain ⟨f30, q31, hf⟩ := hf
    replace hf := gB_of hf
    obtain ⟨v34, h32, q33, hf⟩ := hf
    refine g_callV (as := [.int (0 : Int32)]) (mc1 := 0) (ms1 := 0) s_X12_122_X12_figure_12 dX12_pieceHere_56 (gO_of q31) rfl (Nat.le_of_ble_eq_true rfl) (Nat.le_of_ble_eq_true rfl) (Nat.le_of_ble_eq_true rfl) (t_X12_figure (d := d + 6) q33) (fun r9 h9 q9 => ?_)
    obtain ⟨rfl, rfl⟩ := q9
    refine g_stp (st2 := [.int v34]) (pc2 := 59) (kc2 := 0) (kn2 := 0) rfl rfl rfl rfl ?_
    refine g_istore_n dX12_pieceHere_59 (by decide) (g_lvp (lv2 := [some (.ref x0), some (.int v16), some (.int v25), some (.int v34), none]) (pc2 := 60) rfl rfl ?_)
    refine g_aload_n dX12_pieceHere_60 rfl ?_
    replace hf := Option.bind_eq_some_iff.mp hf
    obtain ⟨v35, q36, hf⟩ := hf
    refine g_gI f_X12_67 dX12_pieceHere_61 q36 ?_
    refine g_if_ne (tgt := 143) dX12_pieceHere_64 (by decide) (fun c37 => ?_) (fun c37 => ?_)
    · rw [if_neg c37] at hf
      refine g_weak (lv2 := [none, none, none, none, none]) (trivial) ?_
      exact g_X12_pieceHere_143 hf
    · rw [if_pos c37] at hf
      refine g_bipush (v := (8 : Int32)) dX12_pieceHere_67 (by decide) ?_
      refine g_aload_n dX12_pieceHere_69 rfl ?_
      replace hf := Option.bind_eq_some_iff.mp hf
      obtain ⟨v38, q39, hf⟩ := hf
      refine g_gI f_X12_87 dX12_pieceHere_70 q39 ?_
      refine g_imul dX12_pieceHere_73 ?_
      refine g_aload_n dX12_pieceHere_74 rfl ?_
      replace hf := Option.bind_eq_some_iff.mp hf
      obtain ⟨v40, q41, hf⟩ := hf
      refine g_gR f_X12_9 dX12_pieceHere_75 q41 ?_
      refine g_sipush (v := (218 : Int32)) dX12_pieceHere_78 (by decide) ?_
      refine g_aload_n dX12_pieceHere_81 rfl ?_
      replace hf := Option.bind_eq_some_iff.mp hf
      obtain ⟨v42, q43, hf⟩ := hf
      refine g_gI f_X12_87 dX12_pieceHere_82 q43 ?_
      refine g_iadd dX12_pieceHere_85 ?_
      replace hf := Option.bind_eq_some_iff.mp hf
      obtain ⟨v44, q45, hf⟩ := hf
      refine g_aI dX12_pieceHere_86 q45 ?_
      refine g_iadd dX12_pieceHere_87 ?_
      refine g_istore dX12_pieceHere_88 (by decide) (g_lvp (lv2 := [some (.ref x0), some (.int v16), some (.int v25), some (.int v34), some (.int (((8 : Int32) * v38) + v44))]) (pc2 := 90) rfl rfl ?_)
      refine g_aload_n dX12_pieceHere_90 rfl ?_
      replace hf := Option.bind_eq_some_iff.mp hf
      obtain ⟨v46, q47, hf⟩ := hf
      refine g_gR f_X12_9 dX12_pieceHere_91 q47 ?_
      refine g_sipush (v := (243 : Int32)) dX12_pieceHere_94 (by decide) ?_
      refine g_iload dX12_pieceHere_97 rfl ?_
      refine g_iadd dX12_pieceHere_99 ?_
      refine g_iload_n dX12_pieceHere_100 rfl ?_
      replace hf := Option.bind_eq_some_iff.mp hf
      obtain ⟨h48, q49, hf⟩ := hf
      refine g_sI dX12_pieceHere_101 q49 ?_
      refine g_aload_n dX12_pieceHere_102 rfl ?_
      replace hf := Option.bind_eq_some_iff.mp hf
      obtain ⟨v50, q51, hf⟩ := hf
      refine g_gR f_X12_9 dX12_pieceHere_103 q51 ?_
      refine g_sipush (v := (283 : Int32)) dX12_pieceHere_106 (by decide) ?_
      refine g_iload dX12_pieceHere_109 rfl ?_
      refine g_iadd dX12_pieceHere_111 ?_
      refine g_iload_n dX12_pieceHere_112 rfl ?_
      replace hf := Option.bind_eq_some_iff.mp hf
      obtain ⟨h52, q53, hf⟩ := hf
      refine g_sI dX12_pieceHere_113 q53 ?_
      refine g_aload_n dX12_pieceHere_114 rfl ?_
      replace hf := Option.bind_eq_some_iff.mp hf
      obtain ⟨v54, q55, hf⟩ := hf
      refine g_gR f_X12_9 dX12_pieceHere_115 q55 ?_
      refine g_sipush (v := (323 : Int32)) dX12_pieceHere_118 (by decide) ?_
      refine g_iload dX12_pieceHere_121 rfl ?_
      refine g_iadd dX12_pieceHere_123 ?_
      refine g_iload_n dX12_pieceHere_124 rfl ?_
      replace hf := Option.bind_eq_some_iff.mp hf
      obtain ⟨h56, q57, hf⟩ := hf
      refine g_sI dX12_pieceHere_125 q57 ?_
      refine g_aload_n dX12_pieceHere_126 rfl ?_
      replace hf := Option.bind_eq_some_iff.mp hf
      obtain ⟨v58, q59, hf⟩ := hf
      refine g_gR f_X12_9 dX12_pieceHere_127 q59 ?_
      refine g_sipush (v := (218 : Int32)) dX12_pieceHere_130 (by decide) ?_
      refine g_aload_n dX12_pieceHere_133 rfl ?_
      replace hf := Option.bind_eq_some_iff.mp hf
      obtain ⟨v60, q61, hf⟩ := hf
      refine g_gI f_X12_87 dX12_pieceHere_134 q61 ?_
      refine g_iadd dX12_pieceHere_137 ?_
      refine g_dup2 dX12_pieceHere_138 rfl rfl ?_
      replace hf := Option.bind_eq_some_iff.mp hf
      obtain ⟨v62, q63, hf⟩ := hf
      refine g_aI dX12_pieceHere_139 q63 ?_
      refine g_iconst (v := (1 : Int32)) dX12_pieceHere_140 (by decide) ?_
      refine g_iadd dX12_pieceHere_141 ?_
      replace hf := Option.bind_eq_some_iff.mp hf
      obtain ⟨h64, q65, hf⟩ := hf
      refine g_sI dX12_pieceHere_142 q65 ?_
      refine g_weak (lv2 := [none, none, none, none, none]) (trivial) ?_
      exact g_X12_pieceHere_143 hf
  · rw [if_pos c7] at hf
    refine g_aload_n dX12_pieceHere_18 rfl ?_
    refine g_iconst (v := (1 : Int32)) dX12_pieceHere_19 (by decide) ?_
    replace hf := Option.bind_eq_some_iff.mp hf
    obtain ⟨h66, q67, hf⟩ := hf
    refine g_pZ p_X12_67 dX12_pieceHere_20 q67 ?_
    obtain rfl := Option.some.inj hf
    exact g_vret dX12_pieceHere_23 rfl ⟨rfl, rfl⟩ (Nat.le_of_ble_eq_true rfl) (Nat.le_of_ble_eq_true rfl)
def F_X12_pieceHere (n : Nat) (a : Nat) (h : gH) : Option (gH) := F_X12_pieceHere_0 n  a h
theorem t_X12_pieceHere {n d : Nat} {a : Nat} {h rh : gH} (hf : F_X12_pieceHere n a h = some rh) : T M_X12_pieceHere (d + 8) 0 0 [.ref a] h (qV rh) := by
  refine T_of_G (L := 4) (by decide +kernel) rfl (Nat.le_of_ble_eq_true rfl) (g_lv (lv2 := [some (.ref a), none, none, none, none]) rfl ?_)
  exact g_X12_pieceHere_0 hf
def F_X12_every_43 (n : Nat) (fk : Nat → gH → Option (gH))   (h : gH) : Option (gH) :=
  some h
set_option maxRecDepth 20000 in
set_option maxHeartbeats 1600000 in
theorem g_X12_every_43 {n d : Nat} {fk : Nat → gH → Option (gH)} (ft : ∀ {e : Nat} {a : Nat} {h rh : gH}, fk a h = some rh → T M_X12_factor (d + e + 7) 0 0 [.ref a] h (qV rh)) : ∀  {h : gH} {rh : gH}, F_X12_every_43 n fk  h = some rh → G M_X12_every (d + 8) 0 0 0 0 43 [none] [] h (qV rh) := by
  intro  h rh hf
  unfold F_X12_every_43 at hf
  obtain rfl := Option.some.inj hf
  exact g_vret dX12_every_43 rfl ⟨rfl, rfl⟩ (Nat.le_of_ble_eq_true rfl) (Nat.le_of_ble_eq_true rfl)
def F_X12_every_4 (n : Nat) (fk : Nat → gH → Option (gH))  : Nat → Nat → gH → Option (gH)
  | 0, _, _ => none
  | m + 1, x0, h => (gI h x0 12 7).bind fun v1 =>
  if v1 = 0 then
  ((gO h x0 12).bind fun f4 =>
  gB (F_X12_here n x0  h) fun v8 h6 =>
  if v8 = (38 : Int32) then
  ((gI h6 x0 12 5).bind fun v10 =>
  (pF h6 x0 12 5 (.int (v10 + (1 : Int32)))).bind fun h12 =>
  (gO h12 x0 12).bind fun f14 =>
  (fk x0  h12).bind fun h16 =>
  (gO h16 x0 12).bind fun f18 =>
  (F_X12_emits n x0 (-2 : Int32) h16).bind fun h20 =>
  F_X12_every_4 n fk m x0 h20)
  else
  (F_X12_every_43 n fk h6))
  else
  (F_X12_every_43 n fk h)
set_option maxRecDepth 20000 in
set_option maxHeartbeats 1600000 in
theorem g_X12_every_4 {n d : Nat} {fk : Nat → gH → Option (gH)} (ft : ∀ {e : Nat} {a : Nat} {h rh : gH}, fk a h = some rh → T M_X12_factor (d + e + 7) 0 0 [.ref a] h (qV rh)) : ∀ {m : Nat} {x0 : Nat} {h : gH} {rh : gH}, F_X12_every_4 n fk m x0 h = some rh → G M_X12_every (d + 8) 0 0 0 0 4 [some (.ref x0)] [] h (qV rh) := by
  intro m
  induction m with
  | zero => intro x0 h rh hf; cases hf
  | succ m t4 =>
    intro x0 h rh hf
    unfold F_X12_every_4 at hf
    refine g_aload_n dX12_every_4 rfl ?_
    replace hf := Option.bind_eq_some_iff.mp hf
    obtain ⟨v1, q2, hf⟩ := hf
    refine g_gI f_X12_67 dX12_every_5 q2 ?_
    refine g_if_ne (tgt := 43) dX12_every_8 (by decide) (fun c3 => ?_) (fun c3 => ?_)
    · rw [if_neg c3] at hf
      refine g_weak (lv2 := [none]) (trivial) ?_
      exact g_X12_every_43 ft hf
    · rw [if_pos c3] at hf
      refine g_aload_n dX12_every_11 rfl ?_
      replace hf := Option.bind_eq_some_iff.mp hf
      obtain ⟨f4, q5, hf⟩ := hf
      replace hf := gB_of hf
      obtain ⟨v8, h6, q7, hf⟩ := hf
      refine g_callV (as := []) (mc1 := 0) (ms1 := 0) s_X12_71_X12_here_12 dX12_every_12 (gO_of q5) rfl (Nat.le_of_ble_eq_true rfl) (Nat.le_of_ble_eq_true rfl) (Nat.le_of_ble_eq_true rfl) (t_X12_here (d := d + 7) q7) (fun r9 h9 q9 => ?_)
      obtain ⟨rfl, rfl⟩ := q9
      refine g_stp (st2 := [.int v8]) (pc2 := 15) (kc2 := 0) (kn2 := 0) rfl rfl rfl rfl ?_
      refine g_bipush (v := (38 : Int32)) dX12_every_15 (by decide) ?_
      refine g_icmp_ne (tgt := 43) dX12_every_17 (by decide) (fun c9 => ?_) (fun c9 => ?_)
      · rw [if_neg c9] at hf
        refine g_weak (lv2 := [none]) (trivial) ?_
        exact g_X12_every_43 ft hf
      · rw [if_pos c9] at hf
        refine g_aload_n dX12_every_20 rfl ?_
        refine g_dup dX12_every_21 rfl ?_
        replace hf := Option.bind_eq_some_iff.mp hf
        obtain ⟨v10, q11, hf⟩ := hf
        refine g_gI f_X12_61 dX12_every_22 q11 ?_
        refine g_iconst (v := (1 : Int32)) dX12_every_25 (by decide) ?_
        refine g_iadd dX12_every_26 ?_
        replace hf := Option.bind_eq_some_iff.mp hf
        obtain ⟨h12, q13, hf⟩ := hf
        refine g_pF p_X12_61 dX12_every_27 q13 (fun _ => rfl) (fun _ => rfl) ?_
        refine g_aload_n dX12_every_30 rfl ?_
        replace hf := Option.bind_eq_some_iff.mp hf
        obtain ⟨f14, q15, hf⟩ := hf
        replace hf := Option.bind_eq_some_iff.mp hf
        obtain ⟨h16, q17, hf⟩ := hf
        refine g_callV (as := []) (mc1 := 0) (ms1 := 0) s_X12_93_X12_factor_12 dX12_every_31 (gO_of q15) rfl (Nat.le_of_ble_eq_true rfl) (Nat.le_of_ble_eq_true rfl) (Nat.le_of_ble_eq_true rfl) (ft (e := 0) q17) (fun r9 h9 q9 => ?_)
        obtain ⟨rfl, rfl⟩ := q9
        refine g_stp (st2 := []) (pc2 := 34) (kc2 := 0) (kn2 := 0) rfl rfl rfl rfl ?_
        refine g_aload_n dX12_every_34 rfl ?_
        refine g_bipush (v := (-2 : Int32)) dX12_every_35 (by decide) ?_
        replace hf := Option.bind_eq_some_iff.mp hf
        obtain ⟨f18, q19, hf⟩ := hf
        replace hf := Option.bind_eq_some_iff.mp hf
        obtain ⟨h20, q21, hf⟩ := hf
        refine g_callV (as := [.int (-2 : Int32)]) (mc1 := 0) (ms1 := 0) s_X12_96_X12_emits_12 dX12_every_37 (gO_of q19) rfl (Nat.le_of_ble_eq_true rfl) (Nat.le_of_ble_eq_true rfl) (Nat.le_of_ble_eq_true rfl) (t_X12_emits (d := d + 7) q21) (fun r9 h9 q9 => ?_)
        obtain ⟨rfl, rfl⟩ := q9
        refine g_stp (st2 := []) (pc2 := 40) (kc2 := 0) (kn2 := 0) rfl rfl rfl rfl ?_
        refine g_goto (tgt := 4) dX12_every_40 (by decide) ?_
        exact t4 hf
def F_X12_every_0 (n : Nat) (fk : Nat → gH → Option (gH))  (x0 : Nat) (h : gH) : Option (gH) :=
  (gO h x0 12).bind fun f1 =>
  (fk x0  h).bind fun h3 =>
  F_X12_every_4 n fk n x0 h3
set_option maxRecDepth 20000 in
set_option maxHeartbeats 1600000 in
theorem g_X12_every_0 {n d : Nat} {fk : Nat → gH → Option (gH)} (ft : ∀ {e : Nat} {a : Nat} {h rh : gH}, fk a h = some rh → T M_X12_factor (d + e + 7) 0 0 [.ref a] h (qV rh)) : ∀ {x0 : Nat} {h : gH} {rh : gH}, F_X12_every_0 n fk x0 h = some rh → G M_X12_every (d + 8) 0 0 0 0 0 [some (.ref x0)] [] h (qV rh) := by
  intro x0 h rh hf
  unfold F_X12_every_0 at hf
  refine g_aload_n dX12_every_0 rfl ?_
  replace hf := Option.bind_eq_some_iff.mp hf
  obtain ⟨f1, q2, hf⟩ := hf
  replace hf := Option.bind_eq_some_iff.mp hf
  obtain ⟨h3, q4, hf⟩ := hf
  refine g_callV (as := []) (mc1 := 0) (ms1 := 0) s_X12_93_X12_factor_12 dX12_every_1 (gO_of q2) rfl (Nat.le_of_ble_eq_true rfl) (Nat.le_of_ble_eq_true rfl) (Nat.le_of_ble_eq_true rfl) (ft (e := 0) q4) (fun r9 h9 q9 => ?_)
  obtain ⟨rfl, rfl⟩ := q9
  refine g_stp (st2 := []) (pc2 := 4) (kc2 := 0) (kn2 := 0) rfl rfl rfl rfl ?_
  exact g_X12_every_4 ft hf
def FB_X12_every (n : Nat) (fk : Nat → gH → Option (gH)) (a : Nat) (h : gH) : Option (gH) := F_X12_every_0 n fk  a h
theorem tb_X12_every {n d : Nat} {fk : Nat → gH → Option (gH)} (ft : ∀ {e : Nat} {a : Nat} {h rh : gH}, fk a h = some rh → T M_X12_factor (d + e + 7) 0 0 [.ref a] h (qV rh)) {a : Nat} {h rh : gH} (hf : FB_X12_every n fk a h = some rh) : T M_X12_every (d + 8) 0 0 [.ref a] h (qV rh) := by
  refine T_of_G (L := 0) (by decide +kernel) rfl (Nat.le_of_ble_eq_true rfl) (g_lv (lv2 := [some (.ref a)]) rfl ?_)
  exact g_X12_every_0 ft hf
def F_X12_some_43 (n : Nat) (fk : Nat → gH → Option (gH))   (h : gH) : Option (gH) :=
  some h
set_option maxRecDepth 20000 in
set_option maxHeartbeats 1600000 in
theorem g_X12_some_43 {n d : Nat} {fk : Nat → gH → Option (gH)} (ft : ∀ {e : Nat} {a : Nat} {h rh : gH}, fk a h = some rh → T M_X12_factor (d + e + 7) 0 0 [.ref a] h (qV rh)) : ∀  {h : gH} {rh : gH}, F_X12_some_43 n fk  h = some rh → G M_X12_some (d + 9) 0 0 0 0 43 [none] [] h (qV rh) := by
  intro  h rh hf
  unfold F_X12_some_43 at hf
  obtain rfl := Option.some.inj hf
  exact g_vret dX12_some_43 rfl ⟨rfl, rfl⟩ (Nat.le_of_ble_eq_true rfl) (Nat.le_of_ble_eq_true rfl)
def F_X12_some_4 (n : Nat) (fk : Nat → gH → Option (gH))  : Nat → Nat → gH → Option (gH)
  | 0, _, _ => none
  | m + 1, x0, h => (gI h x0 12 7).bind fun v1 =>
  if v1 = 0 then
  ((gO h x0 12).bind fun f4 =>
  gB (F_X12_here n x0  h) fun v8 h6 =>
  if v8 = (124 : Int32) then
  ((gI h6 x0 12 5).bind fun v10 =>
  (pF h6 x0 12 5 (.int (v10 + (1 : Int32)))).bind fun h12 =>
  (gO h12 x0 12).bind fun f14 =>
  (FB_X12_every n fk x0  h12).bind fun h16 =>
  (gO h16 x0 12).bind fun f18 =>
  (F_X12_emits n x0 (-3 : Int32) h16).bind fun h20 =>
  F_X12_some_4 n fk m x0 h20)
  else
  (F_X12_some_43 n fk h6))
  else
  (F_X12_some_43 n fk h)
set_option maxRecDepth 20000 in
set_option maxHeartbeats 1600000 in
theorem g_X12_some_4 {n d : Nat} {fk : Nat → gH → Option (gH)} (ft : ∀ {e : Nat} {a : Nat} {h rh : gH}, fk a h = some rh → T M_X12_factor (d + e + 7) 0 0 [.ref a] h (qV rh)) : ∀ {m : Nat} {x0 : Nat} {h : gH} {rh : gH}, F_X12_some_4 n fk m x0 h = some rh → G M_X12_some (d + 9) 0 0 0 0 4 [some (.ref x0)] [] h (qV rh) := by
  intro m
  induction m with
  | zero => intro x0 h rh hf; cases hf
  | succ m t4 =>
    intro x0 h rh hf
    unfold F_X12_some_4 at hf
    refine g_aload_n dX12_some_4 rfl ?_
    replace hf := Option.bind_eq_some_iff.mp hf
    obtain ⟨v1, q2, hf⟩ := hf
    refine g_gI f_X12_67 dX12_some_5 q2 ?_
    refine g_if_ne (tgt := 43) dX12_some_8 (by decide) (fun c3 => ?_) (fun c3 => ?_)
    · rw [if_neg c3] at hf
      refine g_weak (lv2 := [none]) (trivial) ?_
      exact g_X12_some_43 ft hf
    · rw [if_pos c3] at hf
      refine g_aload_n dX12_some_11 rfl ?_
      replace hf := Option.bind_eq_some_iff.mp hf
      obtain ⟨f4, q5, hf⟩ := hf
      replace hf := gB_of hf
      obtain ⟨v8, h6, q7, hf⟩ := hf
      refine g_callV (as := []) (mc1 := 0) (ms1 := 0) s_X12_71_X12_here_12 dX12_some_12 (gO_of q5) rfl (Nat.le_of_ble_eq_true rfl) (Nat.le_of_ble_eq_true rfl) (Nat.le_of_ble_eq_true rfl) (t_X12_here (d := d + 8) q7) (fun r9 h9 q9 => ?_)
      obtain ⟨rfl, rfl⟩ := q9
      refine g_stp (st2 := [.int v8]) (pc2 := 15) (kc2 := 0) (kn2 := 0) rfl rfl rfl rfl ?_
      refine g_bipush (v := (124 : Int32)) dX12_some_15 (by decide) ?_
      refine g_icmp_ne (tgt := 43) dX12_some_17 (by decide) (fun c9 => ?_) (fun c9 => ?_)
      · rw [if_neg c9] at hf
        refine g_weak (lv2 := [none]) (trivial) ?_
        exact g_X12_some_43 ft hf
      · rw [if_pos c9] at hf
        refine g_aload_n dX12_some_20 rfl ?_
        refine g_dup dX12_some_21 rfl ?_
        replace hf := Option.bind_eq_some_iff.mp hf
        obtain ⟨v10, q11, hf⟩ := hf
        refine g_gI f_X12_61 dX12_some_22 q11 ?_
        refine g_iconst (v := (1 : Int32)) dX12_some_25 (by decide) ?_
        refine g_iadd dX12_some_26 ?_
        replace hf := Option.bind_eq_some_iff.mp hf
        obtain ⟨h12, q13, hf⟩ := hf
        refine g_pF p_X12_61 dX12_some_27 q13 (fun _ => rfl) (fun _ => rfl) ?_
        refine g_aload_n dX12_some_30 rfl ?_
        replace hf := Option.bind_eq_some_iff.mp hf
        obtain ⟨f14, q15, hf⟩ := hf
        replace hf := Option.bind_eq_some_iff.mp hf
        obtain ⟨h16, q17, hf⟩ := hf
        refine g_callV (as := []) (mc1 := 0) (ms1 := 0) s_X12_113_X12_every_12 dX12_some_31 (gO_of q15) rfl (Nat.le_of_ble_eq_true rfl) (Nat.le_of_ble_eq_true rfl) (Nat.le_of_ble_eq_true rfl) (tb_X12_every (d := d + 0) (@fun e => by intros; rw [Nat.add_assoc d 0 e]; exact ft (by assumption)) q17) (fun r9 h9 q9 => ?_)
        obtain ⟨rfl, rfl⟩ := q9
        refine g_stp (st2 := []) (pc2 := 34) (kc2 := 0) (kn2 := 0) rfl rfl rfl rfl ?_
        refine g_aload_n dX12_some_34 rfl ?_
        refine g_bipush (v := (-3 : Int32)) dX12_some_35 (by decide) ?_
        replace hf := Option.bind_eq_some_iff.mp hf
        obtain ⟨f18, q19, hf⟩ := hf
        replace hf := Option.bind_eq_some_iff.mp hf
        obtain ⟨h20, q21, hf⟩ := hf
        refine g_callV (as := [.int (-3 : Int32)]) (mc1 := 0) (ms1 := 0) s_X12_96_X12_emits_12 dX12_some_37 (gO_of q19) rfl (Nat.le_of_ble_eq_true rfl) (Nat.le_of_ble_eq_true rfl) (Nat.le_of_ble_eq_true rfl) (t_X12_emits (d := d + 8) q21) (fun r9 h9 q9 => ?_)
        obtain ⟨rfl, rfl⟩ := q9
        refine g_stp (st2 := []) (pc2 := 40) (kc2 := 0) (kn2 := 0) rfl rfl rfl rfl ?_
        refine g_goto (tgt := 4) dX12_some_40 (by decide) ?_
        exact t4 hf
def F_X12_some_0 (n : Nat) (fk : Nat → gH → Option (gH))  (x0 : Nat) (h : gH) : Option (gH) :=
  (gO h x0 12).bind fun f1 =>
  (FB_X12_every n fk x0  h).bind fun h3 =>
  F_X12_some_4 n fk n x0 h3
set_option maxRecDepth 20000 in
set_option maxHeartbeats 1600000 in
theorem g_X12_some_0 {n d : Nat} {fk : Nat → gH → Option (gH)} (ft : ∀ {e : Nat} {a : Nat} {h rh : gH}, fk a h = some rh → T M_X12_factor (d + e + 7) 0 0 [.ref a] h (qV rh)) : ∀ {x0 : Nat} {h : gH} {rh : gH}, F_X12_some_0 n fk x0 h = some rh → G M_X12_some (d + 9) 0 0 0 0 0 [some (.ref x0)] [] h (qV rh) := by
  intro x0 h rh hf
  unfold F_X12_some_0 at hf
  refine g_aload_n dX12_some_0 rfl ?_
  replace hf := Option.bind_eq_some_iff.mp hf
  obtain ⟨f1, q2, hf⟩ := hf
  replace hf := Option.bind_eq_some_iff.mp hf
  obtain ⟨h3, q4, hf⟩ := hf
  refine g_callV (as := []) (mc1 := 0) (ms1 := 0) s_X12_113_X12_every_12 dX12_some_1 (gO_of q2) rfl (Nat.le_of_ble_eq_true rfl) (Nat.le_of_ble_eq_true rfl) (Nat.le_of_ble_eq_true rfl) (tb_X12_every (d := d + 0) (@fun e => by intros; rw [Nat.add_assoc d 0 e]; exact ft (by assumption)) q4) (fun r9 h9 q9 => ?_)
  obtain ⟨rfl, rfl⟩ := q9
  refine g_stp (st2 := []) (pc2 := 4) (kc2 := 0) (kn2 := 0) rfl rfl rfl rfl ?_
  exact g_X12_some_4 ft hf
def FB_X12_some (n : Nat) (fk : Nat → gH → Option (gH)) (a : Nat) (h : gH) : Option (gH) := F_X12_some_0 n fk  a h
theorem tb_X12_some {n d : Nat} {fk : Nat → gH → Option (gH)} (ft : ∀ {e : Nat} {a : Nat} {h rh : gH}, fk a h = some rh → T M_X12_factor (d + e + 7) 0 0 [.ref a] h (qV rh)) {a : Nat} {h rh : gH} (hf : FB_X12_some n fk a h = some rh) : T M_X12_some (d + 9) 0 0 [.ref a] h (qV rh) := by
  refine T_of_G (L := 0) (by decide +kernel) rfl (Nat.le_of_ble_eq_true rfl) (g_lv (lv2 := [some (.ref a)]) rfl ?_)
  exact g_X12_some_0 ft hf
def F_X12_factor_169 (n : Nat) (fk : Nat → gH → Option (gH))  (x0 : Nat) (x2 : Int32) (x3 : Int32) (y0 : Nat) (y1 : Int32) (h : gH) : Option (gH) :=
  (pZ h y0 12 7 y1).bind fun h1 =>
  (gO h1 x0 12).bind fun f3 =>
  gB (F_X12_figures n x0  h1) fun v7 h5 =>
  (gO h5 x0 12).bind fun f8 =>
  (F_X12_emits n x0 ((x2 + ((8 : Int32) * x3)) + ((32 : Int32) * v7)) h5).bind fun h10 =>
  some h10
set_option maxRecDepth 20000 in
set_option maxHeartbeats 1600000 in
theorem g_X12_factor_169 {n d : Nat} {fk : Nat → gH → Option (gH)} (ft : ∀ {e : Nat} {a : Nat} {h rh : gH}, fk a h = some rh → T M_X12_factor (d + e + 7) 0 0 [.ref a] h (qV rh)) : ∀ {x0 : Nat} {x2 : Int32} {x3 : Int32} {y0 : Nat} {y1 : Int32} {h : gH} {rh : gH}, F_X12_factor_169 n fk x0 x2 x3 y0 y1 h = some rh → G M_X12_factor (d + 10) 0 0 0 0 169 [some (.ref x0), none, some (.int x2), some (.int x3), none] [.int y1, .ref y0] h (qV rh) := by
  intro x0 x2 x3 y0 y1 h rh hf
  unfold F_X12_factor_169 at hf
  replace hf := Option.bind_eq_some_iff.mp hf
  obtain ⟨h1, q2, hf⟩ := hf
  refine g_pZ p_X12_67 dX12_factor_169 q2 ?_
  refine g_aload_n dX12_factor_172 rfl ?_
  replace hf := Option.bind_eq_some_iff.mp hf
  obtain ⟨f3, q4, hf⟩ := hf
  replace hf := gB_of hf
  obtain ⟨v7, h5, q6, hf⟩ := hf
  refine g_callV (as := []) (mc1 := 0) (ms1 := 0) s_X12_110_X12_figures_12 dX12_factor_173 (gO_of q4) rfl (Nat.le_of_ble_eq_true rfl) (Nat.le_of_ble_eq_true rfl) (Nat.le_of_ble_eq_true rfl) (t_X12_figures (d := d + 8) q6) (fun r9 h9 q9 => ?_)
  obtain ⟨rfl, rfl⟩ := q9
  refine g_stp (st2 := [.int v7]) (pc2 := 176) (kc2 := 0) (kn2 := 0) rfl rfl rfl rfl ?_
  refine g_istore dX12_factor_176 (by decide) (g_lvp (lv2 := [some (.ref x0), none, some (.int x2), some (.int x3), some (.int v7)]) (pc2 := 178) rfl rfl ?_)
  refine g_aload_n dX12_factor_178 rfl ?_
  refine g_iload_n dX12_factor_179 rfl ?_
  refine g_bipush (v := (8 : Int32)) dX12_factor_180 (by decide) ?_
  refine g_iload_n dX12_factor_182 rfl ?_
  refine g_imul dX12_factor_183 ?_
  refine g_iadd dX12_factor_184 ?_
  refine g_bipush (v := (32 : Int32)) dX12_factor_185 (by decide) ?_
  refine g_iload dX12_factor_187 rfl ?_
  refine g_imul dX12_factor_189 ?_
  refine g_iadd dX12_factor_190 ?_
  replace hf := Option.bind_eq_some_iff.mp hf
  obtain ⟨f8, q9, hf⟩ := hf
  replace hf := Option.bind_eq_some_iff.mp hf
  obtain ⟨h10, q11, hf⟩ := hf
  refine g_callV (as := [.int ((x2 + ((8 : Int32) * x3)) + ((32 : Int32) * v7))]) (mc1 := 0) (ms1 := 0) s_X12_96_X12_emits_12 dX12_factor_191 (gO_of q9) rfl (Nat.le_of_ble_eq_true rfl) (Nat.le_of_ble_eq_true rfl) (Nat.le_of_ble_eq_true rfl) (t_X12_emits (d := d + 9) q11) (fun r9 h9 q9 => ?_)
  obtain ⟨rfl, rfl⟩ := q9
  refine g_stp (st2 := []) (pc2 := 194) (kc2 := 0) (kn2 := 0) rfl rfl rfl rfl ?_
  obtain rfl := Option.some.inj hf
  exact g_vret dX12_factor_194 rfl ⟨rfl, rfl⟩ (Nat.le_of_ble_eq_true rfl) (Nat.le_of_ble_eq_true rfl)
def F_X12_factor_164 (n : Nat) (fk : Nat → gH → Option (gH))  (x0 : Nat) (x2 : Int32) (x3 : Int32) (y0 : Nat) (h : gH) : Option (gH) :=
  F_X12_factor_169 n fk x0 x2 x3 y0 (1 : Int32) h
set_option maxRecDepth 20000 in
set_option maxHeartbeats 1600000 in
theorem g_X12_factor_164 {n d : Nat} {fk : Nat → gH → Option (gH)} (ft : ∀ {e : Nat} {a : Nat} {h rh : gH}, fk a h = some rh → T M_X12_factor (d + e + 7) 0 0 [.ref a] h (qV rh)) : ∀ {x0 : Nat} {x2 : Int32} {x3 : Int32} {y0 : Nat} {h : gH} {rh : gH}, F_X12_factor_164 n fk x0 x2 x3 y0 h = some rh → G M_X12_factor (d + 10) 0 0 0 0 164 [some (.ref x0), none, some (.int x2), some (.int x3), none] [.ref y0] h (qV rh) := by
  intro x0 x2 x3 y0 h rh hf
  unfold F_X12_factor_164 at hf
  refine g_iconst (v := (1 : Int32)) dX12_factor_164 (by decide) ?_
  refine g_goto (tgt := 169) dX12_factor_165 (by decide) ?_
  exact g_X12_factor_169 ft hf
def F_X12_factor_150 (n : Nat) (fk : Nat → gH → Option (gH))  (x0 : Nat) (x2 : Int32) (y0 : Int32) (h : gH) : Option (gH) :=
  (gI h x0 12 7).bind fun v1 =>
  if v1 = 0 then
  (if y0 = (-1 : Int32) then
  (F_X12_factor_164 n fk x0 x2 y0 x0 h)
  else
  (F_X12_factor_169 n fk x0 x2 y0 x0 (0 : Int32) h))
  else
  (F_X12_factor_164 n fk x0 x2 y0 x0 h)
set_option maxRecDepth 20000 in
set_option maxHeartbeats 1600000 in
theorem g_X12_factor_150 {n d : Nat} {fk : Nat → gH → Option (gH)} (ft : ∀ {e : Nat} {a : Nat} {h rh : gH}, fk a h = some rh → T M_X12_factor (d + e + 7) 0 0 [.ref a] h (qV rh)) : ∀ {x0 : Nat} {x2 : Int32} {y0 : Int32} {h : gH} {rh : gH}, F_X12_factor_150 n fk x0 x2 y0 h = some rh → G M_X12_factor (d + 10) 0 0 0 0 150 [some (.ref x0), none, some (.int x2), none, none] [.int y0] h (qV rh) := by
  intro x0 x2 y0 h rh hf
  unfold F_X12_factor_150 at hf
  refine g_istore_n dX12_factor_150 (by decide) (g_lvp (lv2 := [some (.ref x0), none, some (.int x2), some (.int y0), none]) (pc2 := 151) rfl rfl ?_)
  refine g_aload_n dX12_factor_151 rfl ?_
  refine g_aload_n dX12_factor_152 rfl ?_
  replace hf := Option.bind_eq_some_iff.mp hf
  obtain ⟨v1, q2, hf⟩ := hf
  refine g_gI f_X12_67 dX12_factor_153 q2 ?_
  refine g_if_ne (tgt := 164) dX12_factor_156 (by decide) (fun c3 => ?_) (fun c3 => ?_)
  · rw [if_neg c3] at hf
    exact g_X12_factor_164 ft hf
  · rw [if_pos c3] at hf
    refine g_iload_n dX12_factor_159 rfl ?_
    refine g_iconst (v := (-1 : Int32)) dX12_factor_160 (by decide) ?_
    refine g_icmp_ne (tgt := 168) dX12_factor_161 (by decide) (fun c4 => ?_) (fun c4 => ?_)
    · rw [if_neg c4] at hf
      refine g_iconst (v := (0 : Int32)) dX12_factor_168 (by decide) ?_
      exact g_X12_factor_169 ft hf
    · rw [if_pos c4] at hf
      exact g_X12_factor_164 ft hf
def F_X12_factor_130 (n : Nat) (fk : Nat → gH → Option (gH))  (x0 : Nat) (x2 : Int32) (y0 : Nat) (y1 : Int32) (h : gH) : Option (gH) :=
  (pZ h y0 12 7 y1).bind fun h1 =>
  (gI h1 x0 12 7).bind fun v3 =>
  if v3 = 0 then
  ((gO h1 x0 12).bind fun f6 =>
  gB (F_X12_among n x0 2 h1) fun v10 h8 =>
  F_X12_factor_150 n fk x0 x2 v10 h8)
  else
  (F_X12_factor_150 n fk x0 x2 (0 : Int32) h1)
set_option maxRecDepth 20000 in
set_option maxHeartbeats 1600000 in
theorem g_X12_factor_130 {n d : Nat} {fk : Nat → gH → Option (gH)} (ft : ∀ {e : Nat} {a : Nat} {h rh : gH}, fk a h = some rh → T M_X12_factor (d + e + 7) 0 0 [.ref a] h (qV rh)) : ∀ {x0 : Nat} {x2 : Int32} {y0 : Nat} {y1 : Int32} {h : gH} {rh : gH}, F_X12_factor_130 n fk x0 x2 y0 y1 h = some rh → G M_X12_factor (d + 10) 0 0 0 0 130 [some (.ref x0), none, some (.int x2), none, none] [.int y1, .ref y0] h (qV rh) := by
  intro x0 x2 y0 y1 h rh hf
  unfold F_X12_factor_130 at hf
  replace hf := Option.bind_eq_some_iff.mp hf
  obtain ⟨h1, q2, hf⟩ := hf
  refine g_pZ p_X12_67 dX12_factor_130 q2 ?_
  refine g_aload_n dX12_factor_133 rfl ?_
  replace hf := Option.bind_eq_some_iff.mp hf
  obtain ⟨v3, q4, hf⟩ := hf
  refine g_gI f_X12_67 dX12_factor_134 q4 ?_
  refine g_if_eq (tgt := 144) dX12_factor_137 (by decide) (fun c5 => ?_) (fun c5 => ?_)
  · rw [if_pos c5] at hf
    refine g_aload_n dX12_factor_144 rfl ?_
    refine g_ldcS (i := 1) (by decide +kernel) dX12_factor_145 ?_ (by decide)
    replace hf := Option.bind_eq_some_iff.mp hf
    obtain ⟨f6, q7, hf⟩ := hf
    replace hf := gB_of hf
    obtain ⟨v10, h8, q9, hf⟩ := hf
    refine g_callV (as := [.ref 2]) (mc1 := 0) (ms1 := 0) s_X12_104_X12_among_12 dX12_factor_147 (gO_of q7) rfl (Nat.le_of_ble_eq_true rfl) (Nat.le_of_ble_eq_true rfl) (Nat.le_of_ble_eq_true rfl) (t_X12_among (d := d + 2) q9) (fun r9 h9 q9 => ?_)
    obtain ⟨rfl, rfl⟩ := q9
    refine g_stp (st2 := [.int v10]) (pc2 := 150) (kc2 := 0) (kn2 := 0) rfl rfl rfl rfl ?_
    exact g_X12_factor_150 ft hf
  · rw [if_neg c5] at hf
    refine g_iconst (v := (0 : Int32)) dX12_factor_140 (by decide) ?_
    refine g_goto (tgt := 150) dX12_factor_141 (by decide) ?_
    exact g_X12_factor_150 ft hf
def F_X12_factor_101 (n : Nat) (fk : Nat → gH → Option (gH))  (x0 : Nat) (h : gH) : Option (gH) :=
  (gI h x0 12 8).bind fun v1 =>
  (pF h x0 12 8 (.int (v1 - (1 : Int32)))).bind fun h3 =>
  some h3
set_option maxRecDepth 20000 in
set_option maxHeartbeats 1600000 in
theorem g_X12_factor_101 {n d : Nat} {fk : Nat → gH → Option (gH)} (ft : ∀ {e : Nat} {a : Nat} {h rh : gH}, fk a h = some rh → T M_X12_factor (d + e + 7) 0 0 [.ref a] h (qV rh)) : ∀ {x0 : Nat} {h : gH} {rh : gH}, F_X12_factor_101 n fk x0 h = some rh → G M_X12_factor (d + 10) 0 0 0 0 101 [some (.ref x0), none, none, none, none] [] h (qV rh) := by
  intro x0 h rh hf
  unfold F_X12_factor_101 at hf
  refine g_aload_n dX12_factor_101 rfl ?_
  refine g_dup dX12_factor_102 rfl ?_
  replace hf := Option.bind_eq_some_iff.mp hf
  obtain ⟨v1, q2, hf⟩ := hf
  refine g_gI f_X12_90 dX12_factor_103 q2 ?_
  refine g_iconst (v := (1 : Int32)) dX12_factor_106 (by decide) ?_
  refine g_isub dX12_factor_107 ?_
  replace hf := Option.bind_eq_some_iff.mp hf
  obtain ⟨h3, q4, hf⟩ := hf
  refine g_pF p_X12_90 dX12_factor_108 q4 (fun _ => rfl) (fun _ => rfl) ?_
  obtain rfl := Option.some.inj hf
  exact g_vret dX12_factor_111 rfl ⟨rfl, rfl⟩ (Nat.le_of_ble_eq_true rfl) (Nat.le_of_ble_eq_true rfl)
def F_X12_factor_69 (n : Nat) (fk : Nat → gH → Option (gH))  (x0 : Nat) (x1 : Int32) (y0 : Nat) (y1 : Int32) (y2 : Int32) (h : gH) : Option (gH) :=
  (pF h y0 12 5 (.int (y1 + y2))).bind fun h1 =>
  if x1 = (33 : Int32) then
  ((gO h1 x0 12).bind fun f12 =>
  (fk x0  h1).bind fun h14 =>
  (gO h14 x0 12).bind fun f16 =>
  (F_X12_emits n x0 (-1 : Int32) h14).bind fun h18 =>
  F_X12_factor_101 n fk x0 h18)
  else
  ((gO h1 x0 12).bind fun f4 =>
  (FB_X12_some n fk x0  h1).bind fun h6 =>
  (gO h6 x0 12).bind fun f8 =>
  (F_X12_must n x0 (41 : Int32) h6).bind fun h10 =>
  F_X12_factor_101 n fk x0 h10)
set_option maxRecDepth 20000 in
set_option maxHeartbeats 1600000 in
theorem g_X12_factor_69 {n d : Nat} {fk : Nat → gH → Option (gH)} (ft : ∀ {e : Nat} {a : Nat} {h rh : gH}, fk a h = some rh → T M_X12_factor (d + e + 7) 0 0 [.ref a] h (qV rh)) : ∀ {x0 : Nat} {x1 : Int32} {y0 : Nat} {y1 : Int32} {y2 : Int32} {h : gH} {rh : gH}, F_X12_factor_69 n fk x0 x1 y0 y1 y2 h = some rh → G M_X12_factor (d + 10) 0 0 0 0 69 [some (.ref x0), some (.int x1), none, none, none] [.int y2, .int y1, .ref y0] h (qV rh) := by
  intro x0 x1 y0 y1 y2 h rh hf
  unfold F_X12_factor_69 at hf
  refine g_iadd dX12_factor_69 ?_
  replace hf := Option.bind_eq_some_iff.mp hf
  obtain ⟨h1, q2, hf⟩ := hf
  refine g_pF p_X12_61 dX12_factor_70 q2 (fun _ => rfl) (fun _ => rfl) ?_
  refine g_iload_n dX12_factor_73 rfl ?_
  refine g_bipush (v := (33 : Int32)) dX12_factor_74 (by decide) ?_
  refine g_icmp_ne (tgt := 91) dX12_factor_76 (by decide) (fun c3 => ?_) (fun c3 => ?_)
  · rw [if_neg c3] at hf
    refine g_aload_n dX12_factor_91 rfl ?_
    replace hf := Option.bind_eq_some_iff.mp hf
    obtain ⟨f4, q5, hf⟩ := hf
    replace hf := Option.bind_eq_some_iff.mp hf
    obtain ⟨h6, q7, hf⟩ := hf
    refine g_callV (as := []) (mc1 := 0) (ms1 := 0) s_X12_99_X12_some_12 dX12_factor_92 (gO_of q5) rfl (Nat.le_of_ble_eq_true rfl) (Nat.le_of_ble_eq_true rfl) (Nat.le_of_ble_eq_true rfl) (tb_X12_some (d := d + 0) (@fun e => by intros; rw [Nat.add_assoc d 0 e]; exact ft (by assumption)) q7) (fun r9 h9 q9 => ?_)
    obtain ⟨rfl, rfl⟩ := q9
    refine g_stp (st2 := []) (pc2 := 95) (kc2 := 0) (kn2 := 0) rfl rfl rfl rfl ?_
    refine g_aload_n dX12_factor_95 rfl ?_
    refine g_bipush (v := (41 : Int32)) dX12_factor_96 (by decide) ?_
    replace hf := Option.bind_eq_some_iff.mp hf
    obtain ⟨f8, q9, hf⟩ := hf
    replace hf := Option.bind_eq_some_iff.mp hf
    obtain ⟨h10, q11, hf⟩ := hf
    refine g_callV (as := [.int (41 : Int32)]) (mc1 := 0) (ms1 := 0) s_X12_83_X12_must_12 dX12_factor_98 (gO_of q9) rfl (Nat.le_of_ble_eq_true rfl) (Nat.le_of_ble_eq_true rfl) (Nat.le_of_ble_eq_true rfl) (t_X12_must (d := d + 8) q11) (fun r9 h9 q9 => ?_)
    obtain ⟨rfl, rfl⟩ := q9
    refine g_stp (st2 := []) (pc2 := 101) (kc2 := 0) (kn2 := 0) rfl rfl rfl rfl ?_
    refine g_weak (lv2 := [some (.ref x0), none, none, none, none]) (And.intro rfl (trivial)) ?_
    exact g_X12_factor_101 ft hf
  · rw [if_pos c3] at hf
    refine g_aload_n dX12_factor_79 rfl ?_
    replace hf := Option.bind_eq_some_iff.mp hf
    obtain ⟨f12, q13, hf⟩ := hf
    replace hf := Option.bind_eq_some_iff.mp hf
    obtain ⟨h14, q15, hf⟩ := hf
    refine g_callV (as := []) (mc1 := 0) (ms1 := 0) s_X12_93_X12_factor_12 dX12_factor_80 (gO_of q13) rfl (Nat.le_of_ble_eq_true rfl) (Nat.le_of_ble_eq_true rfl) (Nat.le_of_ble_eq_true rfl) (ft (e := 2) q15) (fun r9 h9 q9 => ?_)
    obtain ⟨rfl, rfl⟩ := q9
    refine g_stp (st2 := []) (pc2 := 83) (kc2 := 0) (kn2 := 0) rfl rfl rfl rfl ?_
    refine g_aload_n dX12_factor_83 rfl ?_
    refine g_iconst (v := (-1 : Int32)) dX12_factor_84 (by decide) ?_
    replace hf := Option.bind_eq_some_iff.mp hf
    obtain ⟨f16, q17, hf⟩ := hf
    replace hf := Option.bind_eq_some_iff.mp hf
    obtain ⟨h18, q19, hf⟩ := hf
    refine g_callV (as := [.int (-1 : Int32)]) (mc1 := 0) (ms1 := 0) s_X12_96_X12_emits_12 dX12_factor_85 (gO_of q17) rfl (Nat.le_of_ble_eq_true rfl) (Nat.le_of_ble_eq_true rfl) (Nat.le_of_ble_eq_true rfl) (t_X12_emits (d := d + 9) q19) (fun r9 h9 q9 => ?_)
    obtain ⟨rfl, rfl⟩ := q9
    refine g_stp (st2 := []) (pc2 := 88) (kc2 := 0) (kn2 := 0) rfl rfl rfl rfl ?_
    refine g_goto (tgt := 101) dX12_factor_88 (by decide) ?_
    refine g_weak (lv2 := [some (.ref x0), none, none, none, none]) (And.intro rfl (trivial)) ?_
    exact g_X12_factor_101 ft hf
def F_X12_factor_39 (n : Nat) (fk : Nat → gH → Option (gH))  (x0 : Nat) (x1 : Int32) (y0 : Nat) (y1 : Int32) (h : gH) : Option (gH) :=
  (pZ h y0 12 7 y1).bind fun h1 =>
  (gI h1 x0 12 8).bind fun v3 =>
  (pF h1 x0 12 8 (.int (v3 + (1 : Int32)))).bind fun h5 =>
  (gI h5 x0 12 5).bind fun v7 =>
  (gI h5 x0 12 7).bind fun v9 =>
  if v9 = 0 then
  (F_X12_factor_69 n fk x0 x1 x0 v7 (1 : Int32) h5)
  else
  (F_X12_factor_69 n fk x0 x1 x0 v7 (0 : Int32) h5)
set_option maxRecDepth 20000 in
set_option maxHeartbeats 1600000 in
theorem g_X12_factor_39 {n d : Nat} {fk : Nat → gH → Option (gH)} (ft : ∀ {e : Nat} {a : Nat} {h rh : gH}, fk a h = some rh → T M_X12_factor (d + e + 7) 0 0 [.ref a] h (qV rh)) : ∀ {x0 : Nat} {x1 : Int32} {y0 : Nat} {y1 : Int32} {h : gH} {rh : gH}, F_X12_factor_39 n fk x0 x1 y0 y1 h = some rh → G M_X12_factor (d + 10) 0 0 0 0 39 [some (.ref x0), some (.int x1), none, none, none] [.int y1, .ref y0] h (qV rh) := by
  intro x0 x1 y0 y1 h rh hf
  unfold F_X12_factor_39 at hf
  replace hf := Option.bind_eq_some_iff.mp hf
  obtain ⟨h1, q2, hf⟩ := hf
  refine g_pZ p_X12_67 dX12_factor_39 q2 ?_
  refine g_aload_n dX12_factor_42 rfl ?_
  refine g_dup dX12_factor_43 rfl ?_
  replace hf := Option.bind_eq_some_iff.mp hf
  obtain ⟨v3, q4, hf⟩ := hf
  refine g_gI f_X12_90 dX12_factor_44 q4 ?_
  refine g_iconst (v := (1 : Int32)) dX12_factor_47 (by decide) ?_
  refine g_iadd dX12_factor_48 ?_
  replace hf := Option.bind_eq_some_iff.mp hf
  obtain ⟨h5, q6, hf⟩ := hf
  refine g_pF p_X12_90 dX12_factor_49 q6 (fun _ => rfl) (fun _ => rfl) ?_
  refine g_aload_n dX12_factor_52 rfl ?_
  refine g_dup dX12_factor_53 rfl ?_
  replace hf := Option.bind_eq_some_iff.mp hf
  obtain ⟨v7, q8, hf⟩ := hf
  refine g_gI f_X12_61 dX12_factor_54 q8 ?_
  refine g_aload_n dX12_factor_57 rfl ?_
  replace hf := Option.bind_eq_some_iff.mp hf
  obtain ⟨v9, q10, hf⟩ := hf
  refine g_gI f_X12_67 dX12_factor_58 q10 ?_
  refine g_if_eq (tgt := 68) dX12_factor_61 (by decide) (fun c11 => ?_) (fun c11 => ?_)
  · rw [if_pos c11] at hf
    refine g_iconst (v := (1 : Int32)) dX12_factor_68 (by decide) ?_
    exact g_X12_factor_69 ft hf
  · rw [if_neg c11] at hf
    refine g_iconst (v := (0 : Int32)) dX12_factor_64 (by decide) ?_
    refine g_goto (tgt := 69) dX12_factor_65 (by decide) ?_
    exact g_X12_factor_69 ft hf
def F_X12_factor_25 (n : Nat) (fk : Nat → gH → Option (gH))  (x0 : Nat) (x1 : Int32) (h : gH) : Option (gH) :=
  (gI h x0 12 8).bind fun v1 =>
  if v1 = (5 : Int32) then
  (F_X12_factor_39 n fk x0 x1 x0 (1 : Int32) h)
  else
  (F_X12_factor_39 n fk x0 x1 x0 (0 : Int32) h)
set_option maxRecDepth 20000 in
set_option maxHeartbeats 1600000 in
theorem g_X12_factor_25 {n d : Nat} {fk : Nat → gH → Option (gH)} (ft : ∀ {e : Nat} {a : Nat} {h rh : gH}, fk a h = some rh → T M_X12_factor (d + e + 7) 0 0 [.ref a] h (qV rh)) : ∀ {x0 : Nat} {x1 : Int32} {h : gH} {rh : gH}, F_X12_factor_25 n fk x0 x1 h = some rh → G M_X12_factor (d + 10) 0 0 0 0 25 [some (.ref x0), some (.int x1), none, none, none] [] h (qV rh) := by
  intro x0 x1 h rh hf
  unfold F_X12_factor_25 at hf
  refine g_aload_n dX12_factor_25 rfl ?_
  refine g_aload_n dX12_factor_26 rfl ?_
  replace hf := Option.bind_eq_some_iff.mp hf
  obtain ⟨v1, q2, hf⟩ := hf
  refine g_gI f_X12_90 dX12_factor_27 q2 ?_
  refine g_iconst (v := (5 : Int32)) dX12_factor_30 (by decide) ?_
  refine g_icmp_ne (tgt := 38) dX12_factor_31 (by decide) (fun c3 => ?_) (fun c3 => ?_)
  · rw [if_neg c3] at hf
    refine g_iconst (v := (0 : Int32)) dX12_factor_38 (by decide) ?_
    exact g_X12_factor_39 ft hf
  · rw [if_pos c3] at hf
    refine g_iconst (v := (1 : Int32)) dX12_factor_34 (by decide) ?_
    refine g_goto (tgt := 39) dX12_factor_35 (by decide) ?_
    exact g_X12_factor_39 ft hf
def F_X12_factor_0 (n : Nat) (fk : Nat → gH → Option (gH))  (x0 : Nat) (h : gH) : Option (gH) :=
  (gI h x0 12 7).bind fun v1 =>
  if v1 = 0 then
  ((gO h x0 12).bind fun f4 =>
  gB (F_X12_here n x0  h) fun v8 h6 =>
  if v8 = (33 : Int32) then
  (F_X12_factor_25 n fk x0 v8 h6)
  else
  (if v8 = (40 : Int32) then
  (F_X12_factor_25 n fk x0 v8 h6)
  else
  ((gO h6 x0 12).bind fun f11 =>
  gB (F_X12_among n x0 1 h6) fun v15 h13 =>
  if v15 = (-1 : Int32) then
  (F_X12_factor_130 n fk x0 v15 x0 (1 : Int32) h13)
  else
  (F_X12_factor_130 n fk x0 v15 x0 (0 : Int32) h13))))
  else
  (some h)
set_option maxRecDepth 20000 in
set_option maxHeartbeats 1600000 in
theorem g_X12_factor_0 {n d : Nat} {fk : Nat → gH → Option (gH)} (ft : ∀ {e : Nat} {a : Nat} {h rh : gH}, fk a h = some rh → T M_X12_factor (d + e + 7) 0 0 [.ref a] h (qV rh)) : ∀ {x0 : Nat} {h : gH} {rh : gH}, F_X12_factor_0 n fk x0 h = some rh → G M_X12_factor (d + 10) 0 0 0 0 0 [some (.ref x0), none, none, none, none] [] h (qV rh) := by
  intro x0 h rh hf
  unfold F_X12_factor_0 at hf
  refine g_aload_n dX12_factor_0 rfl ?_
  replace hf := Option.bind_eq_some_iff.mp hf
  obtain ⟨v1, q2, hf⟩ := hf
  refine g_gI f_X12_67 dX12_factor_1 q2 ?_
  refine g_if_eq (tgt := 8) dX12_factor_4 (by decide) (fun c3 => ?_) (fun c3 => ?_)
  · rw [if_pos c3] at hf
    refine g_aload_n dX12_factor_8 rfl ?_
    replace hf := Option.bind_eq_some_iff.mp hf
    obtain ⟨f4, q5, hf⟩ := hf
    replace hf := gB_of hf
    obtain ⟨v8, h6, q7, hf⟩ := hf
    refine g_callV (as := []) (mc1 := 0) (ms1 := 0) s_X12_71_X12_here_12 dX12_factor_9 (gO_of q5) rfl (Nat.le_of_ble_eq_true rfl) (Nat.le_of_ble_eq_true rfl) (Nat.le_of_ble_eq_true rfl) (t_X12_here (d := d + 9) q7) (fun r9 h9 q9 => ?_)
    obtain ⟨rfl, rfl⟩ := q9
    refine g_stp (st2 := [.int v8]) (pc2 := 12) (kc2 := 0) (kn2 := 0) rfl rfl rfl rfl ?_
    refine g_istore_n dX12_factor_12 (by decide) (g_lvp (lv2 := [some (.ref x0), some (.int v8), none, none, none]) (pc2 := 13) rfl rfl ?_)
    refine g_iload_n dX12_factor_13 rfl ?_
    refine g_bipush (v := (33 : Int32)) dX12_factor_14 (by decide) ?_
    refine g_icmp_eq (tgt := 25) dX12_factor_16 (by decide) (fun c9 => ?_) (fun c9 => ?_)
    · rw [if_pos c9] at hf
      exact g_X12_factor_25 ft hf
    · rw [if_neg c9] at hf
      refine g_iload_n dX12_factor_19 rfl ?_
      refine g_bipush (v := (40 : Int32)) dX12_factor_20 (by decide) ?_
      refine g_icmp_ne (tgt := 112) dX12_factor_22 (by decide) (fun c10 => ?_) (fun c10 => ?_)
      · rw [if_neg c10] at hf
        refine g_aload_n dX12_factor_112 rfl ?_
        refine g_ldcS (i := 0) (by decide +kernel) dX12_factor_113 ?_ (by decide)
        replace hf := Option.bind_eq_some_iff.mp hf
        obtain ⟨f11, q12, hf⟩ := hf
        replace hf := gB_of hf
        obtain ⟨v15, h13, q14, hf⟩ := hf
        refine g_callV (as := [.ref 1]) (mc1 := 0) (ms1 := 0) s_X12_104_X12_among_12 dX12_factor_115 (gO_of q12) rfl (Nat.le_of_ble_eq_true rfl) (Nat.le_of_ble_eq_true rfl) (Nat.le_of_ble_eq_true rfl) (t_X12_among (d := d + 2) q14) (fun r9 h9 q9 => ?_)
        obtain ⟨rfl, rfl⟩ := q9
        refine g_stp (st2 := [.int v15]) (pc2 := 118) (kc2 := 0) (kn2 := 0) rfl rfl rfl rfl ?_
        refine g_istore_n dX12_factor_118 (by decide) (g_lvp (lv2 := [some (.ref x0), some (.int v8), some (.int v15), none, none]) (pc2 := 119) rfl rfl ?_)
        refine g_aload_n dX12_factor_119 rfl ?_
        refine g_iload_n dX12_factor_120 rfl ?_
        refine g_iconst (v := (-1 : Int32)) dX12_factor_121 (by decide) ?_
        refine g_icmp_ne (tgt := 129) dX12_factor_122 (by decide) (fun c16 => ?_) (fun c16 => ?_)
        · rw [if_neg c16] at hf
          refine g_iconst (v := (0 : Int32)) dX12_factor_129 (by decide) ?_
          refine g_weak (lv2 := [some (.ref x0), none, some (.int v15), none, none]) (And.intro rfl (And.intro rfl (trivial))) ?_
          exact g_X12_factor_130 ft hf
        · rw [if_pos c16] at hf
          refine g_iconst (v := (1 : Int32)) dX12_factor_125 (by decide) ?_
          refine g_goto (tgt := 130) dX12_factor_126 (by decide) ?_
          refine g_weak (lv2 := [some (.ref x0), none, some (.int v15), none, none]) (And.intro rfl (And.intro rfl (trivial))) ?_
          exact g_X12_factor_130 ft hf
      · rw [if_pos c10] at hf
        exact g_X12_factor_25 ft hf
  · rw [if_neg c3] at hf
    obtain rfl := Option.some.inj hf
    exact g_vret dX12_factor_7 rfl ⟨rfl, rfl⟩ (Nat.le_of_ble_eq_true rfl) (Nat.le_of_ble_eq_true rfl)
def FB_X12_factor (n : Nat) (fk : Nat → gH → Option (gH)) (a : Nat) (h : gH) : Option (gH) := F_X12_factor_0 n fk  a h
theorem tb_X12_factor {n d : Nat} {fk : Nat → gH → Option (gH)} (ft : ∀ {e : Nat} {a : Nat} {h rh : gH}, fk a h = some rh → T M_X12_factor (d + e + 7) 0 0 [.ref a] h (qV rh)) {a : Nat} {h rh : gH} (hf : FB_X12_factor n fk a h = some rh) : T M_X12_factor (d + 10) 0 0 [.ref a] h (qV rh) := by
  refine T_of_G (L := 4) (by decide +kernel) rfl (Nat.le_of_ble_eq_true rfl) (g_lv (lv2 := [some (.ref a), none, none, none, none]) rfl ?_)
  exact g_X12_factor_0 ft hf
def F_X12_factor_r (n : Nat) : Nat → Nat → gH → Option (gH)
  | 0, _, _ => none
  | m + 1, a, h => FB_X12_factor n (F_X12_factor_r n m) a h
theorem tr_X12_factor {n : Nat} : ∀ {m d : Nat} {a : Nat} {h rh : gH}, F_X12_factor_r n m a h = some rh → T M_X12_factor (d + 3 * m + 7) 0 0 [.ref a] h (qV rh) := by
  intro m
  induction m with
  | zero => intro d a h rh hf; cases hf
  | succ m ih =>
    intro d a h rh hf
    have e : d + 3 * (m + 1) + 7 = d + 3 * m + 10 := by omega
    rw [e]
    refine tb_X12_factor (n := n) (fk := F_X12_factor_r n m) (d := d + 3 * m) (@fun e9 => by intros; rw [show d + 3 * m + e9 + 7 = d + e9 + 3 * m + 7 from by omega]; exact ih (by assumption)) hf
def F_X12_every (n : Nat) (a : Nat) (h : gH) : Option (gH) := FB_X12_every n (F_X12_factor_r n 12) a h
set_option maxRecDepth 20000 in
theorem t_X12_every {n d : Nat} {a : Nat} {h rh : gH} (hf : F_X12_every n a h = some rh) : T M_X12_every (d + 44) 0 0 [.ref a] h (qV rh) := by
  unfold F_X12_every at hf
  rw [show d + 44 = d + 36 + 8 from by omega]
  refine tb_X12_every (n := n) (fk := F_X12_factor_r n 12) (d := d + 36) (@fun e9 => ?_) hf
  intros
  rename_i q9
  rw [show d + 36 + e9 + 7 = d + e9 + 3 * 12 + 7 from by omega]
  exact tr_X12_factor (n := n) (m := 12) (d := d + e9) q9
def F_X12_some (n : Nat) (a : Nat) (h : gH) : Option (gH) := FB_X12_some n (F_X12_factor_r n 12) a h
set_option maxRecDepth 20000 in
theorem t_X12_some {n d : Nat} {a : Nat} {h rh : gH} (hf : F_X12_some n a h = some rh) : T M_X12_some (d + 45) 0 0 [.ref a] h (qV rh) := by
  unfold F_X12_some at hf
  rw [show d + 45 = d + 36 + 9 from by omega]
  refine tb_X12_some (n := n) (fk := F_X12_factor_r n 12) (d := d + 36) (@fun e9 => ?_) hf
  intros
  rename_i q9
  rw [show d + 36 + e9 + 7 = d + e9 + 3 * 12 + 7 from by omega]
  exact tr_X12_factor (n := n) (m := 12) (d := d + e9) q9
def F_X12_factor (n : Nat) (a : Nat) (h : gH) : Option (gH) := F_X12_factor_r n 12 a h
theorem t_X12_factor {n d : Nat} {a : Nat} {h rh : gH} (hf : F_X12_factor n a h = some rh) : T M_X12_factor (d + 43) 0 0 [.ref a] h (qV rh) := tr_X12_factor (n := n) (m := 12) (d := d) hf
def F_X12_clauseHere_135 (n : Nat)   (h : gH) : Option (gH) :=
  some h
set_option maxRecDepth 20000 in
set_option maxHeartbeats 1600000 in
theorem g_X12_clauseHere_135 {n d : Nat} : ∀  {h : gH} {rh : gH}, F_X12_clauseHere_135 n  h = some rh → G M_X12_clauseHere (d + 46) 0 0 0 0 135 [none, none] [] h (qV rh) := by
  intro  h rh hf
  unfold F_X12_clauseHere_135 at hf
  obtain rfl := Option.some.inj hf
  exact g_vret dX12_clauseHere_135 rfl ⟨rfl, rfl⟩ (Nat.le_of_ble_eq_true rfl) (Nat.le_of_ble_eq_true rfl)
def F_X12_clauseHere_0 (n : Nat)  (x0 : Nat) (h : gH) : Option (gH) :=
  (gO h x0 12).bind fun f1 =>
  gB (F_X12_here n x0  h) fun v5 h3 =>
  if v5 = (98 : Int32) then
  ((gO h3 x0 12).bind fun f7 =>
  (F_X12_clauseOfB n x0  h3).bind fun h9 =>
  F_X12_clauseHere_135 n h9)
  else if v5 = (101 : Int32) then
  ((gO h3 x0 12).bind fun f12 =>
  (F_X12_spells n x0 14 h3).bind fun h14 =>
  (gO h14 x0 12).bind fun f16 =>
  gB (F_X12_figures n x0  h14) fun v20 h18 =>
  (gO h18 x0 12).bind fun f21 =>
  (F_X12_must n x0 (32 : Int32) h18).bind fun h23 =>
  (gO h23 x0 12).bind fun f25 =>
  (F_X12_some n x0  h23).bind fun h27 =>
  (gO h27 x0 12).bind fun f29 =>
  (F_X12_emits n x0 ((-10 : Int32) - v20) h27).bind fun h31 =>
  F_X12_clauseHere_135 n h31)
  else if v5 = (104 : Int32) then
  ((gO h3 x0 12).bind fun f34 =>
  (F_X12_tellsHere n x0 (238 : Int32) 16 (10 : Int32) h3).bind fun h36 =>
  F_X12_clauseHere_135 n h36)
  else if v5 = (112 : Int32) then
  ((gO h3 x0 12).bind fun f39 =>
  (F_X12_pieceHere n x0  h3).bind fun h41 =>
  F_X12_clauseHere_135 n h41)
  else if v5 = (115 : Int32) then
  ((gO h3 x0 12).bind fun f44 =>
  (F_X12_tellsHere n x0 (228 : Int32) 15 (60 : Int32) h3).bind fun h46 =>
  F_X12_clauseHere_135 n h46)
  else ((pZ h3 x0 12 7 (1 : Int32)).bind fun h48 =>
  F_X12_clauseHere_135 n h48)
set_option maxRecDepth 20000 in
set_option maxHeartbeats 1600000 in
theorem g_X12_clauseHere_0 {n d : Nat} : ∀ {x0 : Nat} {h : gH} {rh : gH}, F_X12_clauseHere_0 n x0 h = some rh → G M_X12_clauseHere (d + 46) 0 0 0 0 0 [some (.ref x0), none] [] h (qV rh) := by
  intro x0 h rh hf
  unfold F_X12_clauseHere_0 at hf
  refine g_aload_n dX12_clauseHere_0 rfl ?_
  replace hf := Option.bind_eq_some_iff.mp hf
  obtain ⟨f1, q2, hf⟩ := hf
  replace hf := gB_of hf
  obtain ⟨v5, h3, q4, hf⟩ := hf
  refine g_callV (as := []) (mc1 := 0) (ms1 := 0) s_X12_71_X12_here_12 dX12_clauseHere_1 (gO_of q2) rfl (Nat.le_of_ble_eq_true rfl) (Nat.le_of_ble_eq_true rfl) (Nat.le_of_ble_eq_true rfl) (t_X12_here (d := d + 45) q4) (fun r9 h9 q9 => ?_)
  obtain ⟨rfl, rfl⟩ := q9
  refine g_stp (st2 := [.int v5]) (pc2 := 4) (kc2 := 0) (kn2 := 0) rfl rfl rfl rfl ?_
  by_cases c6 : v5 = (98 : Int32)
  · rw [if_pos c6] at hf
    refine g_lswK (k := (98 : Int32)) (off := 59) (tgt := 63) dX12_clauseHere_4 c6 (by decide) (by decide) (by decide) ?_
    refine g_aload_n dX12_clauseHere_63 rfl ?_
    replace hf := Option.bind_eq_some_iff.mp hf
    obtain ⟨f7, q8, hf⟩ := hf
    replace hf := Option.bind_eq_some_iff.mp hf
    obtain ⟨h9, q10, hf⟩ := hf
    refine g_callV (as := []) (mc1 := 0) (ms1 := 0) s_X12_139_X12_clauseOfB_12 dX12_clauseHere_64 (gO_of q8) rfl (Nat.le_of_ble_eq_true rfl) (Nat.le_of_ble_eq_true rfl) (Nat.le_of_ble_eq_true rfl) (t_X12_clauseOfB (d := d + 36) q10) (fun r9 h9 q9 => ?_)
    obtain ⟨rfl, rfl⟩ := q9
    refine g_stp (st2 := []) (pc2 := 67) (kc2 := 0) (kn2 := 0) rfl rfl rfl rfl ?_
    refine g_goto (tgt := 135) dX12_clauseHere_67 (by decide) ?_
    refine g_weak (lv2 := [none, none]) (trivial) ?_
    exact g_X12_clauseHere_135 hf
  rw [if_neg c6] at hf
  by_cases c11 : v5 = (101 : Int32)
  · rw [if_pos c11] at hf
    refine g_lswK (k := (101 : Int32)) (off := 66) (tgt := 70) dX12_clauseHere_4 c11 (by decide) (by decide) (by decide) ?_
    refine g_aload_n dX12_clauseHere_70 rfl ?_
    refine g_ldcS (i := 13) (by decide +kernel) dX12_clauseHere_71 ?_ (by decide)
    replace hf := Option.bind_eq_some_iff.mp hf
    obtain ⟨f12, q13, hf⟩ := hf
    replace hf := Option.bind_eq_some_iff.mp hf
    obtain ⟨h14, q15, hf⟩ := hf
    refine g_callV (as := [.ref 14]) (mc1 := 0) (ms1 := 0) s_X12_118_X12_spells_12 dX12_clauseHere_73 (gO_of q13) rfl (Nat.le_of_ble_eq_true rfl) (Nat.le_of_ble_eq_true rfl) (Nat.le_of_ble_eq_true rfl) (t_X12_spells (d := d + 38) q15) (fun r9 h9 q9 => ?_)
    obtain ⟨rfl, rfl⟩ := q9
    refine g_stp (st2 := []) (pc2 := 76) (kc2 := 0) (kn2 := 0) rfl rfl rfl rfl ?_
    refine g_aload_n dX12_clauseHere_76 rfl ?_
    replace hf := Option.bind_eq_some_iff.mp hf
    obtain ⟨f16, q17, hf⟩ := hf
    replace hf := gB_of hf
    obtain ⟨v20, h18, q19, hf⟩ := hf
    refine g_callV (as := []) (mc1 := 0) (ms1 := 0) s_X12_110_X12_figures_12 dX12_clauseHere_77 (gO_of q17) rfl (Nat.le_of_ble_eq_true rfl) (Nat.le_of_ble_eq_true rfl) (Nat.le_of_ble_eq_true rfl) (t_X12_figures (d := d + 44) q19) (fun r9 h9 q9 => ?_)
    obtain ⟨rfl, rfl⟩ := q9
    refine g_stp (st2 := [.int v20]) (pc2 := 80) (kc2 := 0) (kn2 := 0) rfl rfl rfl rfl ?_
    refine g_istore_n dX12_clauseHere_80 (by decide) (g_lvp (lv2 := [some (.ref x0), some (.int v20)]) (pc2 := 81) rfl rfl ?_)
    refine g_aload_n dX12_clauseHere_81 rfl ?_
    refine g_bipush (v := (32 : Int32)) dX12_clauseHere_82 (by decide) ?_
    replace hf := Option.bind_eq_some_iff.mp hf
    obtain ⟨f21, q22, hf⟩ := hf
    replace hf := Option.bind_eq_some_iff.mp hf
    obtain ⟨h23, q24, hf⟩ := hf
    refine g_callV (as := [.int (32 : Int32)]) (mc1 := 0) (ms1 := 0) s_X12_83_X12_must_12 dX12_clauseHere_84 (gO_of q22) rfl (Nat.le_of_ble_eq_true rfl) (Nat.le_of_ble_eq_true rfl) (Nat.le_of_ble_eq_true rfl) (t_X12_must (d := d + 44) q24) (fun r9 h9 q9 => ?_)
    obtain ⟨rfl, rfl⟩ := q9
    refine g_stp (st2 := []) (pc2 := 87) (kc2 := 0) (kn2 := 0) rfl rfl rfl rfl ?_
    refine g_aload_n dX12_clauseHere_87 rfl ?_
    replace hf := Option.bind_eq_some_iff.mp hf
    obtain ⟨f25, q26, hf⟩ := hf
    replace hf := Option.bind_eq_some_iff.mp hf
    obtain ⟨h27, q28, hf⟩ := hf
    refine g_callV (as := []) (mc1 := 0) (ms1 := 0) s_X12_99_X12_some_12 dX12_clauseHere_88 (gO_of q26) rfl (Nat.le_of_ble_eq_true rfl) (Nat.le_of_ble_eq_true rfl) (Nat.le_of_ble_eq_true rfl) (t_X12_some (d := d + 0) q28) (fun r9 h9 q9 => ?_)
    obtain ⟨rfl, rfl⟩ := q9
    refine g_stp (st2 := []) (pc2 := 91) (kc2 := 0) (kn2 := 0) rfl rfl rfl rfl ?_
    refine g_aload_n dX12_clauseHere_91 rfl ?_
    refine g_bipush (v := (-10 : Int32)) dX12_clauseHere_92 (by decide) ?_
    refine g_iload_n dX12_clauseHere_94 rfl ?_
    refine g_isub dX12_clauseHere_95 ?_
    replace hf := Option.bind_eq_some_iff.mp hf
    obtain ⟨f29, q30, hf⟩ := hf
    replace hf := Option.bind_eq_some_iff.mp hf
    obtain ⟨h31, q32, hf⟩ := hf
    refine g_callV (as := [.int ((-10 : Int32) - v20)]) (mc1 := 0) (ms1 := 0) s_X12_96_X12_emits_12 dX12_clauseHere_96 (gO_of q30) rfl (Nat.le_of_ble_eq_true rfl) (Nat.le_of_ble_eq_true rfl) (Nat.le_of_ble_eq_true rfl) (t_X12_emits (d := d + 45) q32) (fun r9 h9 q9 => ?_)
    obtain ⟨rfl, rfl⟩ := q9
    refine g_stp (st2 := []) (pc2 := 99) (kc2 := 0) (kn2 := 0) rfl rfl rfl rfl ?_
    refine g_goto (tgt := 135) dX12_clauseHere_99 (by decide) ?_
    refine g_weak (lv2 := [none, none]) (trivial) ?_
    exact g_X12_clauseHere_135 hf
  rw [if_neg c11] at hf
  by_cases c33 : v5 = (104 : Int32)
  · rw [if_pos c33] at hf
    refine g_lswK (k := (104 : Int32)) (off := 112) (tgt := 116) dX12_clauseHere_4 c33 (by decide) (by decide) (by decide) ?_
    refine g_aload_n dX12_clauseHere_116 rfl ?_
    refine g_sipush (v := (238 : Int32)) dX12_clauseHere_117 (by decide) ?_
    refine g_ldcS (i := 15) (by decide +kernel) dX12_clauseHere_120 ?_ (by decide)
    refine g_bipush (v := (10 : Int32)) dX12_clauseHere_122 (by decide) ?_
    replace hf := Option.bind_eq_some_iff.mp hf
    obtain ⟨f34, q35, hf⟩ := hf
    replace hf := Option.bind_eq_some_iff.mp hf
    obtain ⟨h36, q37, hf⟩ := hf
    refine g_callV (as := [.int (238 : Int32), .ref 16, .int (10 : Int32)]) (mc1 := 0) (ms1 := 0) s_X12_130_X12_tellsHere_12 dX12_clauseHere_124 (gO_of q35) rfl (Nat.le_of_ble_eq_true rfl) (Nat.le_of_ble_eq_true rfl) (Nat.le_of_ble_eq_true rfl) (t_X12_tellsHere (d := d + 37) q37) (fun r9 h9 q9 => ?_)
    obtain ⟨rfl, rfl⟩ := q9
    refine g_stp (st2 := []) (pc2 := 127) (kc2 := 0) (kn2 := 0) rfl rfl rfl rfl ?_
    refine g_goto (tgt := 135) dX12_clauseHere_127 (by decide) ?_
    refine g_weak (lv2 := [none, none]) (trivial) ?_
    exact g_X12_clauseHere_135 hf
  rw [if_neg c33] at hf
  by_cases c38 : v5 = (112 : Int32)
  · rw [if_pos c38] at hf
    refine g_lswK (k := (112 : Int32)) (off := 52) (tgt := 56) dX12_clauseHere_4 c38 (by decide) (by decide) (by decide) ?_
    refine g_aload_n dX12_clauseHere_56 rfl ?_
    replace hf := Option.bind_eq_some_iff.mp hf
    obtain ⟨f39, q40, hf⟩ := hf
    replace hf := Option.bind_eq_some_iff.mp hf
    obtain ⟨h41, q42, hf⟩ := hf
    refine g_callV (as := []) (mc1 := 0) (ms1 := 0) s_X12_136_X12_pieceHere_12 dX12_clauseHere_57 (gO_of q40) rfl (Nat.le_of_ble_eq_true rfl) (Nat.le_of_ble_eq_true rfl) (Nat.le_of_ble_eq_true rfl) (t_X12_pieceHere (d := d + 37) q42) (fun r9 h9 q9 => ?_)
    obtain ⟨rfl, rfl⟩ := q9
    refine g_stp (st2 := []) (pc2 := 60) (kc2 := 0) (kn2 := 0) rfl rfl rfl rfl ?_
    refine g_goto (tgt := 135) dX12_clauseHere_60 (by decide) ?_
    refine g_weak (lv2 := [none, none]) (trivial) ?_
    exact g_X12_clauseHere_135 hf
  rw [if_neg c38] at hf
  by_cases c43 : v5 = (115 : Int32)
  · rw [if_pos c43] at hf
    refine g_lswK (k := (115 : Int32)) (off := 98) (tgt := 102) dX12_clauseHere_4 c43 (by decide) (by decide) (by decide) ?_
    refine g_aload_n dX12_clauseHere_102 rfl ?_
    refine g_sipush (v := (228 : Int32)) dX12_clauseHere_103 (by decide) ?_
    refine g_ldcS (i := 14) (by decide +kernel) dX12_clauseHere_106 ?_ (by decide)
    refine g_bipush (v := (60 : Int32)) dX12_clauseHere_108 (by decide) ?_
    replace hf := Option.bind_eq_some_iff.mp hf
    obtain ⟨f44, q45, hf⟩ := hf
    replace hf := Option.bind_eq_some_iff.mp hf
    obtain ⟨h46, q47, hf⟩ := hf
    refine g_callV (as := [.int (228 : Int32), .ref 15, .int (60 : Int32)]) (mc1 := 0) (ms1 := 0) s_X12_130_X12_tellsHere_12 dX12_clauseHere_110 (gO_of q45) rfl (Nat.le_of_ble_eq_true rfl) (Nat.le_of_ble_eq_true rfl) (Nat.le_of_ble_eq_true rfl) (t_X12_tellsHere (d := d + 37) q47) (fun r9 h9 q9 => ?_)
    obtain ⟨rfl, rfl⟩ := q9
    refine g_stp (st2 := []) (pc2 := 113) (kc2 := 0) (kn2 := 0) rfl rfl rfl rfl ?_
    refine g_goto (tgt := 135) dX12_clauseHere_113 (by decide) ?_
    refine g_weak (lv2 := [none, none]) (trivial) ?_
    exact g_X12_clauseHere_135 hf
  rw [if_neg c43] at hf
  refine g_lookup (off := 126) (tgt := 130) dX12_clauseHere_4 (by decide) (by show Op.lookupswitch.offset [(98, 59), (101, 66), (104, 112), (112, 52), (115, 98)] 126 _ = _; rw [lv_osw c6 (by decide), lv_osw c11 (by decide), lv_osw c33 (by decide), lv_osw c38 (by decide), lv_osw c43 (by decide)]; rfl) (by decide) ?_
  refine g_aload_n dX12_clauseHere_130 rfl ?_
  refine g_iconst (v := (1 : Int32)) dX12_clauseHere_131 (by decide) ?_
  replace hf := Option.bind_eq_some_iff.mp hf
  obtain ⟨h48, q49, hf⟩ := hf
  refine g_pZ p_X12_67 dX12_clauseHere_132 q49 ?_
  refine g_weak (lv2 := [none, none]) (trivial) ?_
  exact g_X12_clauseHere_135 hf
def F_X12_clauseHere (n : Nat) (a : Nat) (h : gH) : Option (gH) := F_X12_clauseHere_0 n  a h
theorem t_X12_clauseHere {n d : Nat} {a : Nat} {h rh : gH} (hf : F_X12_clauseHere n a h = some rh) : T M_X12_clauseHere (d + 46) 0 0 [.ref a] h (qV rh) := by
  refine T_of_G (L := 1) (by decide +kernel) rfl (Nat.le_of_ble_eq_true rfl) (g_lv (lv2 := [some (.ref a), none]) rfl ?_)
  exact g_X12_clauseHere_0 hf
def F_X12_count_0 (n : Nat)  (x0 : Nat) (x1 : Int32) (h : gH) : Option (Int32 × gH) :=
  if x1 = (0 : Int32) then
  ((gO h x0 12).bind fun f2 =>
  gB (F_X12_pieces n x0  h) fun v6 h4 =>
  some (v6, h4))
  else if x1 = (1 : Int32) then
  ((gR h x0 12 1).bind fun v8 =>
  (aI h v8 (0 : Int32)).bind fun v10 =>
  some (v10, h))
  else if x1 = (2 : Int32) then
  ((gR h x0 12 1).bind fun v13 =>
  (aI h v13 (1 : Int32)).bind fun v15 =>
  some (v15, h))
  else if x1 = (3 : Int32) then
  ((gR h x0 12 1).bind fun v18 =>
  (aI h v18 (2 : Int32)).bind fun v20 =>
  some (v20, h))
  else if x1 = (4 : Int32) then
  ((gR h x0 12 1).bind fun v23 =>
  (aI h v23 (3 : Int32)).bind fun v25 =>
  some (v25, h))
  else if x1 = (5 : Int32) then
  ((gI h x0 12 19).bind fun v28 =>
  some (v28, h))
  else (some ((-1 : Int32), h))
set_option maxRecDepth 20000 in
set_option maxHeartbeats 1600000 in
theorem g_X12_count_0 {n d : Nat} : ∀ {x0 : Nat} {x1 : Int32} {h : gH} {rh : gH} {rv : Int32}, F_X12_count_0 n x0 x1 h = some (rv, rh) → G M_X12_count (d + 1) 0 0 0 0 0 [some (.ref x0), some (.int x1)] [] h (qI rv rh) := by
  intro x0 x1 h rh rv hf
  unfold F_X12_count_0 at hf
  refine g_iload_n dX12_count_0 rfl ?_
  by_cases c1 : x1 = (0 : Int32)
  · rw [if_pos c1] at hf
    refine g_tswK (k := (0 : Int32)) (off := 39) (tgt := 40) dX12_count_1 c1 (by decide) (by decide) (by decide) (by decide) ?_
    refine g_aload_n dX12_count_40 rfl ?_
    replace hf := Option.bind_eq_some_iff.mp hf
    obtain ⟨f2, q3, hf⟩ := hf
    replace hf := gB_of hf
    obtain ⟨v6, h4, q5, hf⟩ := hf
    refine g_callV (as := []) (mc1 := 0) (ms1 := 0) s_X12_48_X12_pieces_12 dX12_count_41 (gO_of q3) rfl (Nat.le_of_ble_eq_true rfl) (Nat.le_of_ble_eq_true rfl) (Nat.le_of_ble_eq_true rfl) (t_X12_pieces (d := d + 0) q5) (fun r9 h9 q9 => ?_)
    obtain ⟨rfl, rfl⟩ := q9
    refine g_stp (st2 := [.int v6]) (pc2 := 44) (kc2 := 0) (kn2 := 0) rfl rfl rfl rfl ?_
    obtain ⟨rfl, rfl⟩ := Prod.mk.inj (Option.some.inj hf)
    exact g_iret dX12_count_44 rfl ⟨rfl, rfl⟩ (Nat.le_of_ble_eq_true rfl) (Nat.le_of_ble_eq_true rfl)
  rw [if_neg c1] at hf
  by_cases c7 : x1 = (1 : Int32)
  · rw [if_pos c7] at hf
    refine g_tswK (k := (1 : Int32)) (off := 44) (tgt := 45) dX12_count_1 c7 (by decide) (by decide) (by decide) (by decide) ?_
    refine g_aload_n dX12_count_45 rfl ?_
    replace hf := Option.bind_eq_some_iff.mp hf
    obtain ⟨v8, q9, hf⟩ := hf
    refine g_gR f_X12_9 dX12_count_46 q9 ?_
    refine g_iconst (v := (0 : Int32)) dX12_count_49 (by decide) ?_
    replace hf := Option.bind_eq_some_iff.mp hf
    obtain ⟨v10, q11, hf⟩ := hf
    refine g_aI dX12_count_50 q11 ?_
    obtain ⟨rfl, rfl⟩ := Prod.mk.inj (Option.some.inj hf)
    exact g_iret dX12_count_51 rfl ⟨rfl, rfl⟩ (Nat.le_of_ble_eq_true rfl) (Nat.le_of_ble_eq_true rfl)
  rw [if_neg c7] at hf
  by_cases c12 : x1 = (2 : Int32)
  · rw [if_pos c12] at hf
    refine g_tswK (k := (2 : Int32)) (off := 51) (tgt := 52) dX12_count_1 c12 (by decide) (by decide) (by decide) (by decide) ?_
    refine g_aload_n dX12_count_52 rfl ?_
    replace hf := Option.bind_eq_some_iff.mp hf
    obtain ⟨v13, q14, hf⟩ := hf
    refine g_gR f_X12_9 dX12_count_53 q14 ?_
    refine g_iconst (v := (1 : Int32)) dX12_count_56 (by decide) ?_
    replace hf := Option.bind_eq_some_iff.mp hf
    obtain ⟨v15, q16, hf⟩ := hf
    refine g_aI dX12_count_57 q16 ?_
    obtain ⟨rfl, rfl⟩ := Prod.mk.inj (Option.some.inj hf)
    exact g_iret dX12_count_58 rfl ⟨rfl, rfl⟩ (Nat.le_of_ble_eq_true rfl) (Nat.le_of_ble_eq_true rfl)
  rw [if_neg c12] at hf
  by_cases c17 : x1 = (3 : Int32)
  · rw [if_pos c17] at hf
    refine g_tswK (k := (3 : Int32)) (off := 58) (tgt := 59) dX12_count_1 c17 (by decide) (by decide) (by decide) (by decide) ?_
    refine g_aload_n dX12_count_59 rfl ?_
    replace hf := Option.bind_eq_some_iff.mp hf
    obtain ⟨v18, q19, hf⟩ := hf
    refine g_gR f_X12_9 dX12_count_60 q19 ?_
    refine g_iconst (v := (2 : Int32)) dX12_count_63 (by decide) ?_
    replace hf := Option.bind_eq_some_iff.mp hf
    obtain ⟨v20, q21, hf⟩ := hf
    refine g_aI dX12_count_64 q21 ?_
    obtain ⟨rfl, rfl⟩ := Prod.mk.inj (Option.some.inj hf)
    exact g_iret dX12_count_65 rfl ⟨rfl, rfl⟩ (Nat.le_of_ble_eq_true rfl) (Nat.le_of_ble_eq_true rfl)
  rw [if_neg c17] at hf
  by_cases c22 : x1 = (4 : Int32)
  · rw [if_pos c22] at hf
    refine g_tswK (k := (4 : Int32)) (off := 65) (tgt := 66) dX12_count_1 c22 (by decide) (by decide) (by decide) (by decide) ?_
    refine g_aload_n dX12_count_66 rfl ?_
    replace hf := Option.bind_eq_some_iff.mp hf
    obtain ⟨v23, q24, hf⟩ := hf
    refine g_gR f_X12_9 dX12_count_67 q24 ?_
    refine g_iconst (v := (3 : Int32)) dX12_count_70 (by decide) ?_
    replace hf := Option.bind_eq_some_iff.mp hf
    obtain ⟨v25, q26, hf⟩ := hf
    refine g_aI dX12_count_71 q26 ?_
    obtain ⟨rfl, rfl⟩ := Prod.mk.inj (Option.some.inj hf)
    exact g_iret dX12_count_72 rfl ⟨rfl, rfl⟩ (Nat.le_of_ble_eq_true rfl) (Nat.le_of_ble_eq_true rfl)
  rw [if_neg c22] at hf
  by_cases c27 : x1 = (5 : Int32)
  · rw [if_pos c27] at hf
    refine g_tswK (k := (5 : Int32)) (off := 72) (tgt := 73) dX12_count_1 c27 (by decide) (by decide) (by decide) (by decide) ?_
    refine g_aload_n dX12_count_73 rfl ?_
    replace hf := Option.bind_eq_some_iff.mp hf
    obtain ⟨v28, q29, hf⟩ := hf
    refine g_gI f_X12_244 dX12_count_74 q29 ?_
    obtain ⟨rfl, rfl⟩ := Prod.mk.inj (Option.some.inj hf)
    exact g_iret dX12_count_77 rfl ⟨rfl, rfl⟩ (Nat.le_of_ble_eq_true rfl) (Nat.le_of_ble_eq_true rfl)
  rw [if_neg c27] at hf
  have zc1 : (x1).toInt ≠ 0 := fun e => c1 (Int32.toInt_inj.mp (e.trans (by decide)))
  have zc7 : (x1).toInt ≠ 1 := fun e => c7 (Int32.toInt_inj.mp (e.trans (by decide)))
  have zc12 : (x1).toInt ≠ 2 := fun e => c12 (Int32.toInt_inj.mp (e.trans (by decide)))
  have zc17 : (x1).toInt ≠ 3 := fun e => c17 (Int32.toInt_inj.mp (e.trans (by decide)))
  have zc22 : (x1).toInt ≠ 4 := fun e => c22 (Int32.toInt_inj.mp (e.trans (by decide)))
  have zc27 : (x1).toInt ≠ 5 := fun e => c27 (Int32.toInt_inj.mp (e.trans (by decide)))
  refine g_tableOut (tgt := 78) dX12_count_1 (by omega) (by decide) ?_
  refine g_iconst (v := (-1 : Int32)) dX12_count_78 (by decide) ?_
  obtain ⟨rfl, rfl⟩ := Prod.mk.inj (Option.some.inj hf)
  exact g_iret dX12_count_79 rfl ⟨rfl, rfl⟩ (Nat.le_of_ble_eq_true rfl) (Nat.le_of_ble_eq_true rfl)
def F_X12_count (n : Nat) (a : Nat) (p0 : Int32) (h : gH) : Option (Int32 × gH) := F_X12_count_0 n  a p0 h
theorem t_X12_count {n d : Nat} {a : Nat} {p0 : Int32} {h rh : gH} {rv : Int32} (hf : F_X12_count n a p0 h = some (rv, rh)) : T M_X12_count (d + 1) 0 0 [.ref a, .int p0] h (qI rv rh) := by
  refine T_of_G (L := 0) (by decide +kernel) rfl (Nat.le_of_ble_eq_true rfl) (g_lv (lv2 := [some (.ref a), some (.int p0)]) rfl ?_)
  exact g_X12_count_0 hf
def F_X12_count1_4 (n : Nat)  : Nat → Int32 → Int32 → Int32 → gH → Option (Int32 × gH)
  | 0, _, _, _, _ => none
  | m + 1, x0, x1, x2, h => if (10 : Int32) ≤ x2 then
  (some (x1, h))
  else
  (F_X12_count1_4 n m x0 (x1 + ((x0 >>> (x2 &&& 31)) &&& (1 : Int32))) (x2 + (1 : Int32)) h)
set_option maxRecDepth 20000 in
set_option maxHeartbeats 1600000 in
theorem g_X12_count1_4 {n d : Nat} : ∀ {m : Nat} {x0 : Int32} {x1 : Int32} {x2 : Int32} {h : gH} {rh : gH} {rv : Int32}, F_X12_count1_4 n m x0 x1 x2 h = some (rv, rh) → G M_X12_count1 d 0 0 0 0 4 [some (.int x0), some (.int x1), some (.int x2)] [] h (qI rv rh) := by
  intro m
  induction m with
  | zero => intro x0 x1 x2 h rh rv hf; cases hf
  | succ m t4 =>
    intro x0 x1 x2 h rh rv hf
    unfold F_X12_count1_4 at hf
    refine g_iload_n dX12_count1_4 rfl ?_
    refine g_bipush (v := (10 : Int32)) dX12_count1_5 (by decide) ?_
    refine g_icmp_ge (tgt := 24) dX12_count1_7 (by decide) (fun c1 => ?_) (fun c1 => ?_)
    · rw [if_pos c1] at hf
      refine g_iload_n dX12_count1_24 rfl ?_
      obtain ⟨rfl, rfl⟩ := Prod.mk.inj (Option.some.inj hf)
      exact g_iret dX12_count1_25 rfl ⟨rfl, rfl⟩ (Nat.le_of_ble_eq_true rfl) (Nat.le_of_ble_eq_true rfl)
    · rw [if_neg c1] at hf
      refine g_iload_n dX12_count1_10 rfl ?_
      refine g_iload_n dX12_count1_11 rfl ?_
      refine g_iload_n dX12_count1_12 rfl ?_
      refine g_ishr dX12_count1_13 ?_
      refine g_iconst (v := (1 : Int32)) dX12_count1_14 (by decide) ?_
      refine g_iand dX12_count1_15 ?_
      refine g_iadd dX12_count1_16 ?_
      refine g_istore_n dX12_count1_17 (by decide) (g_lvp (lv2 := [some (.int x0), some (.int (x1 + ((x0 >>> (x2 &&& 31)) &&& (1 : Int32)))), some (.int x2)]) (pc2 := 18) rfl rfl ?_)
      refine g_iinc2 (w := (1 : Int32)) dX12_count1_18 (by decide) rfl (by decide) (g_lvp (lv2 := [some (.int x0), some (.int (x1 + ((x0 >>> (x2 &&& 31)) &&& (1 : Int32)))), some (.int (x2 + (1 : Int32)))]) (pc2 := 21) rfl rfl ?_)
      refine g_goto (tgt := 4) dX12_count1_21 (by decide) ?_
      exact t4 hf
def F_X12_count1_0 (n : Nat)  (x0 : Int32) (h : gH) : Option (Int32 × gH) :=
  F_X12_count1_4 n n x0 (0 : Int32) (0 : Int32) h
set_option maxRecDepth 20000 in
set_option maxHeartbeats 1600000 in
theorem g_X12_count1_0 {n d : Nat} : ∀ {x0 : Int32} {h : gH} {rh : gH} {rv : Int32}, F_X12_count1_0 n x0 h = some (rv, rh) → G M_X12_count1 d 0 0 0 0 0 [some (.int x0), none, none] [] h (qI rv rh) := by
  intro x0 h rh rv hf
  unfold F_X12_count1_0 at hf
  refine g_iconst (v := (0 : Int32)) dX12_count1_0 (by decide) ?_
  refine g_istore_n dX12_count1_1 (by decide) (g_lvp (lv2 := [some (.int x0), some (.int (0 : Int32)), none]) (pc2 := 2) rfl rfl ?_)
  refine g_iconst (v := (0 : Int32)) dX12_count1_2 (by decide) ?_
  refine g_istore_n dX12_count1_3 (by decide) (g_lvp (lv2 := [some (.int x0), some (.int (0 : Int32)), some (.int (0 : Int32))]) (pc2 := 4) rfl rfl ?_)
  exact g_X12_count1_4 hf
def F_X12_count1 (n : Nat) (p0 : Int32) (h : gH) : Option (Int32 × gH) := F_X12_count1_0 n  p0 h
theorem t_X12_count1 {n d : Nat} {p0 : Int32} {h rh : gH} {rv : Int32} (hf : F_X12_count1 n p0 h = some (rv, rh)) : T M_X12_count1 d 0 0 [.int p0] h (qI rv rh) := by
  refine T_of_G (L := 2) (by decide +kernel) rfl (Nat.le_of_ble_eq_true rfl) (g_lv (lv2 := [some (.int p0), none, none]) rfl ?_)
  exact g_X12_count1_0 hf
def F_X12_counts_20 (n : Nat)  (y0 : Int32) (h : gH) : Option (Int32 × gH) :=
  some (y0, h)
set_option maxRecDepth 20000 in
set_option maxHeartbeats 1600000 in
theorem g_X12_counts_20 {n d : Nat} : ∀ {y0 : Int32} {h : gH} {rh : gH} {rv : Int32}, F_X12_counts_20 n y0 h = some (rv, rh) → G M_X12_counts d 0 0 0 0 20 [none, none] [.int y0] h (qI rv rh) := by
  intro y0 h rh rv hf
  unfold F_X12_counts_20 at hf
  obtain ⟨rfl, rfl⟩ := Prod.mk.inj (Option.some.inj hf)
  exact g_iret dX12_counts_20 rfl ⟨rfl, rfl⟩ (Nat.le_of_ble_eq_true rfl) (Nat.le_of_ble_eq_true rfl)
def F_X12_counts_0 (n : Nat)  (x0 : Int32) (x1 : Int32) (h : gH) : Option (Int32 × gH) :=
  if x1 = 0 then
  (F_X12_counts_20 n x0 h)
  else
  (if (2 : Int32) ≤ x0 then
  (F_X12_counts_20 n (x0 - (2 : Int32)) h)
  else
  (F_X12_counts_20 n (0 : Int32) h))
set_option maxRecDepth 20000 in
set_option maxHeartbeats 1600000 in
theorem g_X12_counts_0 {n d : Nat} : ∀ {x0 : Int32} {x1 : Int32} {h : gH} {rh : gH} {rv : Int32}, F_X12_counts_0 n x0 x1 h = some (rv, rh) → G M_X12_counts d 0 0 0 0 0 [some (.int x0), some (.int x1)] [] h (qI rv rh) := by
  intro x0 x1 h rh rv hf
  unfold F_X12_counts_0 at hf
  refine g_iload_n dX12_counts_0 rfl ?_
  refine g_if_ne (tgt := 8) dX12_counts_1 (by decide) (fun c1 => ?_) (fun c1 => ?_)
  · rw [if_neg c1] at hf
    refine g_iload_n dX12_counts_8 rfl ?_
    refine g_iconst (v := (2 : Int32)) dX12_counts_9 (by decide) ?_
    refine g_icmp_ge (tgt := 17) dX12_counts_10 (by decide) (fun c2 => ?_) (fun c2 => ?_)
    · rw [if_pos c2] at hf
      refine g_iload_n dX12_counts_17 rfl ?_
      refine g_iconst (v := (2 : Int32)) dX12_counts_18 (by decide) ?_
      refine g_isub dX12_counts_19 ?_
      refine g_weak (lv2 := [none, none]) (trivial) ?_
      exact g_X12_counts_20 hf
    · rw [if_neg c2] at hf
      refine g_iconst (v := (0 : Int32)) dX12_counts_13 (by decide) ?_
      refine g_goto (tgt := 20) dX12_counts_14 (by decide) ?_
      refine g_weak (lv2 := [none, none]) (trivial) ?_
      exact g_X12_counts_20 hf
  · rw [if_pos c1] at hf
    refine g_iload_n dX12_counts_4 rfl ?_
    refine g_goto (tgt := 20) dX12_counts_5 (by decide) ?_
    refine g_weak (lv2 := [none, none]) (trivial) ?_
    exact g_X12_counts_20 hf
def F_X12_counts (n : Nat) (p0 : Int32) (p1 : Int32) (h : gH) : Option (Int32 × gH) := F_X12_counts_0 n  p0 p1 h
theorem t_X12_counts {n d : Nat} {p0 : Int32} {p1 : Int32} {h rh : gH} {rv : Int32} (hf : F_X12_counts n p0 p1 h = some (rv, rh)) : T M_X12_counts d 0 0 [.int p0, .int p1] h (qI rv rh) := by
  refine T_of_G (L := 0) (by decide +kernel) rfl (Nat.le_of_ble_eq_true rfl) (g_lv (lv2 := [some (.int p0), some (.int p1)]) rfl ?_)
  exact g_X12_counts_0 hf
def F_X12_divisor_6 (n : Nat)  : Nat → Int64 → Int64 → gH → Option (Int64 × gH)
  | 0, _, _, _ => none
  | m + 1, x4, x6, h => if (lg_cmp x6 (0 : Int64)) = 0 then
  (some (x4, h))
  else
  (if x6 = (0 : Int64) then none else
  F_X12_divisor_6 n m x6 (x4 - x4 / x6 * x6) h)
set_option maxRecDepth 20000 in
set_option maxHeartbeats 1600000 in
theorem g_X12_divisor_6 {n d : Nat} : ∀ {m : Nat} {x4 : Int64} {x6 : Int64} {h : gH} {rh : gH} {rv : Int64}, F_X12_divisor_6 n m x4 x6 h = some (rv, rh) → G M_X12_divisor d 0 0 0 0 6 [none, none, none, none, some (.long x4), none, some (.long x6), none, none, none] [] h (qL rv rh) := by
  intro m
  induction m with
  | zero => intro x4 x6 h rh rv hf; cases hf
  | succ m t6 =>
    intro x4 x6 h rh rv hf
    unfold F_X12_divisor_6 at hf
    refine g_lload dX12_divisor_6 rfl ?_
    refine g_lconst (v := (0 : Int64)) dX12_divisor_8 (by decide) ?_
    refine g_lcmp dX12_divisor_9 ?_
    refine g_if_eq (tgt := 31) dX12_divisor_10 (by decide) (fun c1 => ?_) (fun c1 => ?_)
    · rw [if_pos c1] at hf
      refine g_lload dX12_divisor_31 rfl ?_
      obtain ⟨rfl, rfl⟩ := Prod.mk.inj (Option.some.inj hf)
      exact g_lret dX12_divisor_33 rfl ⟨rfl, rfl⟩ (Nat.le_of_ble_eq_true rfl) (Nat.le_of_ble_eq_true rfl)
    · rw [if_neg c1] at hf
      refine g_lload dX12_divisor_13 rfl ?_
      refine g_lload dX12_divisor_15 rfl ?_
      by_cases c2 : x6 = (0 : Int64)
      · rw [if_pos c2] at hf; cases hf
      rw [if_neg c2] at hf
      refine g_lrem dX12_divisor_17 c2 ?_
      refine g_lstore dX12_divisor_18 (by decide) (g_lvp (lv2 := [none, none, none, none, some (.long x4), none, some (.long x6), none, some (.long (x4 - x4 / x6 * x6)), none]) (pc2 := 20) rfl rfl ?_)
      refine g_lload dX12_divisor_20 rfl ?_
      refine g_lstore dX12_divisor_22 (by decide) (g_lvp (lv2 := [none, none, none, none, some (.long x6), none, some (.long x6), none, some (.long (x4 - x4 / x6 * x6)), none]) (pc2 := 24) rfl rfl ?_)
      refine g_lload dX12_divisor_24 rfl ?_
      refine g_lstore dX12_divisor_26 (by decide) (g_lvp (lv2 := [none, none, none, none, some (.long x6), none, some (.long (x4 - x4 / x6 * x6)), none, some (.long (x4 - x4 / x6 * x6)), none]) (pc2 := 28) rfl rfl ?_)
      refine g_goto (tgt := 6) dX12_divisor_28 (by decide) ?_
      refine g_weak (lv2 := [none, none, none, none, some (.long x6), none, some (.long (x4 - x4 / x6 * x6)), none, none, none]) (And.intro rfl (And.intro rfl (trivial))) ?_
      exact t6 hf
def F_X12_divisor_0 (n : Nat)  (x0 : Int64) (x2 : Int64) (h : gH) : Option (Int64 × gH) :=
  F_X12_divisor_6 n n x0 x2 h
set_option maxRecDepth 20000 in
set_option maxHeartbeats 1600000 in
theorem g_X12_divisor_0 {n d : Nat} : ∀ {x0 : Int64} {x2 : Int64} {h : gH} {rh : gH} {rv : Int64}, F_X12_divisor_0 n x0 x2 h = some (rv, rh) → G M_X12_divisor d 0 0 0 0 0 [some (.long x0), none, some (.long x2), none, none, none, none, none, none, none] [] h (qL rv rh) := by
  intro x0 x2 h rh rv hf
  unfold F_X12_divisor_0 at hf
  refine g_lload_n dX12_divisor_0 rfl ?_
  refine g_lstore dX12_divisor_1 (by decide) (g_lvp (lv2 := [some (.long x0), none, some (.long x2), none, some (.long x0), none, none, none, none, none]) (pc2 := 3) rfl rfl ?_)
  refine g_lload_n dX12_divisor_3 rfl ?_
  refine g_lstore dX12_divisor_4 (by decide) (g_lvp (lv2 := [some (.long x0), none, some (.long x2), none, some (.long x0), none, some (.long x2), none, none, none]) (pc2 := 6) rfl rfl ?_)
  refine g_weak (lv2 := [none, none, none, none, some (.long x0), none, some (.long x2), none, none, none]) (And.intro rfl (And.intro rfl (trivial))) ?_
  exact g_X12_divisor_6 hf
def F_X12_divisor (n : Nat) (p0 : Int64) (p1 : Int64) (h : gH) : Option (Int64 × gH) := F_X12_divisor_0 n  p0 p1 h
theorem t_X12_divisor {n d : Nat} {p0 : Int64} {p1 : Int64} {h rh : gH} {rv : Int64} (hf : F_X12_divisor n p0 p1 h = some (rv, rh)) : T M_X12_divisor d 0 0 [.long p0, .long p1] h (qL rv rh) := by
  refine T_of_G (L := 6) (by decide +kernel) rfl (Nat.le_of_ble_eq_true rfl) (g_lv (lv2 := [some (.long p0), none, some (.long p1), none, none, none, none, none, none, none]) rfl ?_)
  exact g_X12_divisor_0 hf
def F_X12_feed_34 (n : Nat)  : Nat → Nat → Int64 → Int32 → gH → Option (Int32 × gH)
  | 0, _, _, _, _ => none
  | m + 1, x0, x1, x4, h => if x4 < 0 then
  ((gR h x0 12 1).bind fun v2 =>
  (aI h v2 (3 : Int32)).bind fun v4 =>
  some (v4, h))
  else
  ((gR h x0 12 1).bind fun v6 =>
  (gR h x0 12 1).bind fun v8 =>
  (aI h v8 (3 : Int32)).bind fun v10 =>
  (sI h v6 ((10 : Int32) + v10) (((x1 >>> (((8 : Int32) * x4).toInt64 &&& 63)) &&& (255 : Int64)).toInt32)).bind fun h12 =>
  (gR h12 x0 12 1).bind fun v14 =>
  (aI h12 v14 (3 : Int32)).bind fun v16 =>
  (sI h12 v14 (3 : Int32) (v16 + (1 : Int32))).bind fun h18 =>
  F_X12_feed_34 n m x0 x1 (x4 + (-1 : Int32)) h18)
set_option maxRecDepth 20000 in
set_option maxHeartbeats 1600000 in
theorem g_X12_feed_34 {n d : Nat} : ∀ {m : Nat} {x0 : Nat} {x1 : Int64} {x4 : Int32} {h : gH} {rh : gH} {rv : Int32}, F_X12_feed_34 n m x0 x1 x4 h = some (rv, rh) → G M_X12_feed (d + 1) 0 0 0 0 34 [some (.ref x0), some (.long x1), none, none, some (.int x4)] [] h (qI rv rh) := by
  intro m
  induction m with
  | zero => intro x0 x1 x4 h rh rv hf; cases hf
  | succ m t34 =>
    intro x0 x1 x4 h rh rv hf
    unfold F_X12_feed_34 at hf
    refine g_iload dX12_feed_34 rfl ?_
    refine g_if_lt (tgt := 81) dX12_feed_36 (by decide) (fun c1 => ?_) (fun c1 => ?_)
    · rw [if_pos c1] at hf
      refine g_aload_n dX12_feed_81 rfl ?_
      replace hf := Option.bind_eq_some_iff.mp hf
      obtain ⟨v2, q3, hf⟩ := hf
      refine g_gR f_X12_9 dX12_feed_82 q3 ?_
      refine g_iconst (v := (3 : Int32)) dX12_feed_85 (by decide) ?_
      replace hf := Option.bind_eq_some_iff.mp hf
      obtain ⟨v4, q5, hf⟩ := hf
      refine g_aI dX12_feed_86 q5 ?_
      obtain ⟨rfl, rfl⟩ := Prod.mk.inj (Option.some.inj hf)
      exact g_iret dX12_feed_87 rfl ⟨rfl, rfl⟩ (Nat.le_of_ble_eq_true rfl) (Nat.le_of_ble_eq_true rfl)
    · rw [if_neg c1] at hf
      refine g_aload_n dX12_feed_39 rfl ?_
      replace hf := Option.bind_eq_some_iff.mp hf
      obtain ⟨v6, q7, hf⟩ := hf
      refine g_gR f_X12_9 dX12_feed_40 q7 ?_
      refine g_bipush (v := (10 : Int32)) dX12_feed_43 (by decide) ?_
      refine g_aload_n dX12_feed_45 rfl ?_
      replace hf := Option.bind_eq_some_iff.mp hf
      obtain ⟨v8, q9, hf⟩ := hf
      refine g_gR f_X12_9 dX12_feed_46 q9 ?_
      refine g_iconst (v := (3 : Int32)) dX12_feed_49 (by decide) ?_
      replace hf := Option.bind_eq_some_iff.mp hf
      obtain ⟨v10, q11, hf⟩ := hf
      refine g_aI dX12_feed_50 q11 ?_
      refine g_iadd dX12_feed_51 ?_
      refine g_lload_n dX12_feed_52 rfl ?_
      refine g_bipush (v := (8 : Int32)) dX12_feed_53 (by decide) ?_
      refine g_iload dX12_feed_55 rfl ?_
      refine g_imul dX12_feed_57 ?_
      refine g_lshr dX12_feed_58 rfl ?_
      refine g_ldc2 (v := (255 : Int64)) (gt_5 (List.mem_of_getElem? (i := 87) (by decide +kernel)) (by decide +kernel)) dX12_feed_59 ?_
      refine g_land dX12_feed_62 ?_
      refine g_l2i dX12_feed_63 rfl ?_
      replace hf := Option.bind_eq_some_iff.mp hf
      obtain ⟨h12, q13, hf⟩ := hf
      refine g_sI dX12_feed_64 q13 ?_
      refine g_aload_n dX12_feed_65 rfl ?_
      replace hf := Option.bind_eq_some_iff.mp hf
      obtain ⟨v14, q15, hf⟩ := hf
      refine g_gR f_X12_9 dX12_feed_66 q15 ?_
      refine g_iconst (v := (3 : Int32)) dX12_feed_69 (by decide) ?_
      refine g_dup2 dX12_feed_70 rfl rfl ?_
      replace hf := Option.bind_eq_some_iff.mp hf
      obtain ⟨v16, q17, hf⟩ := hf
      refine g_aI dX12_feed_71 q17 ?_
      refine g_iconst (v := (1 : Int32)) dX12_feed_72 (by decide) ?_
      refine g_iadd dX12_feed_73 ?_
      replace hf := Option.bind_eq_some_iff.mp hf
      obtain ⟨h18, q19, hf⟩ := hf
      refine g_sI dX12_feed_74 q19 ?_
      refine g_iinc2 (w := (-1 : Int32)) dX12_feed_75 (by decide) rfl (by decide) (g_lvp (lv2 := [some (.ref x0), some (.long x1), none, none, some (.int (x4 + (-1 : Int32)))]) (pc2 := 78) rfl rfl ?_)
      refine g_goto (tgt := 34) dX12_feed_78 (by decide) ?_
      exact t34 hf
def F_X12_feed_0 (n : Nat)  (x0 : Nat) (x1 : Int64) (x3 : Int32) (h : gH) : Option (Int32 × gH) :=
  gB (F_X12_in n x3 (1 : Int32) (8 : Int32) h) fun v3 h1 =>
  if v3 = 0 then
  (some ((-2 : Int32), h1))
  else
  ((gR h1 x0 12 1).bind fun v5 =>
  (aI h1 v5 (3 : Int32)).bind fun v7 =>
  if (v7 + x3) ≤ (120 : Int32) then
  (F_X12_feed_34 n n x0 x1 (x3 - (1 : Int32)) h1)
  else
  (some ((-4 : Int32), h1)))
set_option maxRecDepth 20000 in
set_option maxHeartbeats 1600000 in
theorem g_X12_feed_0 {n d : Nat} : ∀ {x0 : Nat} {x1 : Int64} {x3 : Int32} {h : gH} {rh : gH} {rv : Int32}, F_X12_feed_0 n x0 x1 x3 h = some (rv, rh) → G M_X12_feed (d + 1) 0 0 0 0 0 [some (.ref x0), some (.long x1), none, some (.int x3), none] [] h (qI rv rh) := by
  intro x0 x1 x3 h rh rv hf
  unfold F_X12_feed_0 at hf
  refine g_iload_n dX12_feed_0 rfl ?_
  refine g_iconst (v := (1 : Int32)) dX12_feed_1 (by decide) ?_
  refine g_bipush (v := (8 : Int32)) dX12_feed_2 (by decide) ?_
  replace hf := gB_of hf
  obtain ⟨v3, h1, q2, hf⟩ := hf
  refine g_callS (as := [.int x3, .int (1 : Int32), .int (8 : Int32)]) (mc1 := 0) (ms1 := 0) s_X12_44_X12_in dX12_feed_4 rfl (Nat.le_of_ble_eq_true rfl) (Nat.le_of_ble_eq_true rfl) (Nat.le_of_ble_eq_true rfl) (t_X12_in (d := d + 0) q2) (fun r9 h9 q9 => ?_)
  obtain ⟨rfl, rfl⟩ := q9
  refine g_stp (st2 := [.int v3]) (pc2 := 7) (kc2 := 0) (kn2 := 0) rfl rfl rfl rfl ?_
  refine g_if_ne (tgt := 13) dX12_feed_7 (by decide) (fun c4 => ?_) (fun c4 => ?_)
  · rw [if_neg c4] at hf
    refine g_aload_n dX12_feed_13 rfl ?_
    replace hf := Option.bind_eq_some_iff.mp hf
    obtain ⟨v5, q6, hf⟩ := hf
    refine g_gR f_X12_9 dX12_feed_14 q6 ?_
    refine g_iconst (v := (3 : Int32)) dX12_feed_17 (by decide) ?_
    replace hf := Option.bind_eq_some_iff.mp hf
    obtain ⟨v7, q8, hf⟩ := hf
    refine g_aI dX12_feed_18 q8 ?_
    refine g_iload_n dX12_feed_19 rfl ?_
    refine g_iadd dX12_feed_20 ?_
    refine g_bipush (v := (120 : Int32)) dX12_feed_21 (by decide) ?_
    refine g_icmp_le (tgt := 29) dX12_feed_23 (by decide) (fun c9 => ?_) (fun c9 => ?_)
    · rw [if_pos c9] at hf
      refine g_iload_n dX12_feed_29 rfl ?_
      refine g_iconst (v := (1 : Int32)) dX12_feed_30 (by decide) ?_
      refine g_isub dX12_feed_31 ?_
      refine g_istore dX12_feed_32 (by decide) (g_lvp (lv2 := [some (.ref x0), some (.long x1), none, some (.int x3), some (.int (x3 - (1 : Int32)))]) (pc2 := 34) rfl rfl ?_)
      refine g_weak (lv2 := [some (.ref x0), some (.long x1), none, none, some (.int (x3 - (1 : Int32)))]) (And.intro rfl (And.intro rfl (And.intro rfl (trivial)))) ?_
      exact g_X12_feed_34 hf
    · rw [if_neg c9] at hf
      refine g_bipush (v := (-4 : Int32)) dX12_feed_26 (by decide) ?_
      obtain ⟨rfl, rfl⟩ := Prod.mk.inj (Option.some.inj hf)
      exact g_iret dX12_feed_28 rfl ⟨rfl, rfl⟩ (Nat.le_of_ble_eq_true rfl) (Nat.le_of_ble_eq_true rfl)
  · rw [if_pos c4] at hf
    refine g_bipush (v := (-2 : Int32)) dX12_feed_10 (by decide) ?_
    obtain ⟨rfl, rfl⟩ := Prod.mk.inj (Option.some.inj hf)
    exact g_iret dX12_feed_12 rfl ⟨rfl, rfl⟩ (Nat.le_of_ble_eq_true rfl) (Nat.le_of_ble_eq_true rfl)
def F_X12_feed (n : Nat) (a : Nat) (p0 : Int64) (p1 : Int32) (h : gH) : Option (Int32 × gH) := F_X12_feed_0 n  a p0 p1 h
theorem t_X12_feed {n d : Nat} {a : Nat} {p0 : Int64} {p1 : Int32} {h rh : gH} {rv : Int32} (hf : F_X12_feed n a p0 p1 h = some (rv, rh)) : T M_X12_feed (d + 1) 0 0 [.ref a, .long p0, .int p1] h (qI rv rh) := by
  refine T_of_G (L := 1) (by decide +kernel) rfl (Nat.le_of_ble_eq_true rfl) (g_lv (lv2 := [some (.ref a), some (.long p0), none, some (.int p1), none]) rfl ?_)
  exact g_X12_feed_0 hf
def F_X12_gears_143 (n : Nat)  (y0 : Int32) (h : gH) : Option (Int32 × gH) :=
  some (y0, h)
set_option maxRecDepth 20000 in
set_option maxHeartbeats 1600000 in
theorem g_X12_gears_143 {n d : Nat} : ∀ {y0 : Int32} {h : gH} {rh : gH} {rv : Int32}, F_X12_gears_143 n y0 h = some (rv, rh) → G M_X12_gears (d + 5) 0 0 0 0 143 [none, none, none, none, none, none, none, none, none] [.int y0] h (qI rv rh) := by
  intro y0 h rh rv hf
  unfold F_X12_gears_143 at hf
  obtain ⟨rfl, rfl⟩ := Prod.mk.inj (Option.some.inj hf)
  exact g_iret dX12_gears_143 rfl ⟨rfl, rfl⟩ (Nat.le_of_ble_eq_true rfl) (Nat.le_of_ble_eq_true rfl)
def F_X12_gears_121 (n : Nat) (k50 : Nat → Int32 → Int32 → Int32 → Int32 → Int32 → Int32 → gH → Option (Int32 × gH)) (x0 : Nat) (x1 : Int32) (x2 : Int32) (x3 : Int32) (x4 : Int32) (x5 : Int32) (x6 : Int32) (h : gH) : Option (Int32 × gH) :=
  k50 x0 x1 x2 x3 x4 x5 (x6 + (2 : Int32)) h
set_option maxRecDepth 20000 in
set_option maxHeartbeats 1600000 in
theorem g_X12_gears_121 {n d : Nat} {k50 : Nat → Int32 → Int32 → Int32 → Int32 → Int32 → Int32 → gH → Option (Int32 × gH)} (t50 : ∀ {x0 : Nat} {x1 : Int32} {x2 : Int32} {x3 : Int32} {x4 : Int32} {x5 : Int32} {x6 : Int32} {h : gH} {rh : gH} {rv : Int32}, k50 x0 x1 x2 x3 x4 x5 x6 h = some (rv, rh) → G M_X12_gears (d + 5) 0 0 0 0 50 [some (.ref x0), some (.int x1), some (.int x2), some (.int x3), some (.int x4), some (.int x5), some (.int x6), none, none] [] h (qI rv rh)) : ∀ {x0 : Nat} {x1 : Int32} {x2 : Int32} {x3 : Int32} {x4 : Int32} {x5 : Int32} {x6 : Int32} {h : gH} {rh : gH} {rv : Int32}, F_X12_gears_121 n k50 x0 x1 x2 x3 x4 x5 x6 h = some (rv, rh) → G M_X12_gears (d + 5) 0 0 0 0 121 [some (.ref x0), some (.int x1), some (.int x2), some (.int x3), some (.int x4), some (.int x5), some (.int x6), none, none] [] h (qI rv rh) := by
  intro x0 x1 x2 x3 x4 x5 x6 h rh rv hf
  unfold F_X12_gears_121 at hf
  refine g_iinc2 (w := (2 : Int32)) dX12_gears_121 (by decide) rfl (by decide) (g_lvp (lv2 := [some (.ref x0), some (.int x1), some (.int x2), some (.int x3), some (.int x4), some (.int x5), some (.int (x6 + (2 : Int32))), none, none]) (pc2 := 124) rfl rfl ?_)
  refine g_goto (tgt := 50) dX12_gears_124 (by decide) ?_
  exact t50 hf
def F_X12_gears_119 (n : Nat) (k50 : Nat → Int32 → Int32 → Int32 → Int32 → Int32 → Int32 → gH → Option (Int32 × gH)) (x0 : Nat) (x1 : Int32) (x2 : Int32) (x3 : Int32) (x5 : Int32) (x6 : Int32) (y0 : Int32) (h : gH) : Option (Int32 × gH) :=
  F_X12_gears_121 n (k50) x0 x1 x2 x3 y0 x5 x6 h
set_option maxRecDepth 20000 in
set_option maxHeartbeats 1600000 in
theorem g_X12_gears_119 {n d : Nat} {k50 : Nat → Int32 → Int32 → Int32 → Int32 → Int32 → Int32 → gH → Option (Int32 × gH)} (t50 : ∀ {x0 : Nat} {x1 : Int32} {x2 : Int32} {x3 : Int32} {x4 : Int32} {x5 : Int32} {x6 : Int32} {h : gH} {rh : gH} {rv : Int32}, k50 x0 x1 x2 x3 x4 x5 x6 h = some (rv, rh) → G M_X12_gears (d + 5) 0 0 0 0 50 [some (.ref x0), some (.int x1), some (.int x2), some (.int x3), some (.int x4), some (.int x5), some (.int x6), none, none] [] h (qI rv rh)) : ∀ {x0 : Nat} {x1 : Int32} {x2 : Int32} {x3 : Int32} {x5 : Int32} {x6 : Int32} {y0 : Int32} {h : gH} {rh : gH} {rv : Int32}, F_X12_gears_119 n k50 x0 x1 x2 x3 x5 x6 y0 h = some (rv, rh) → G M_X12_gears (d + 5) 0 0 0 0 119 [some (.ref x0), some (.int x1), some (.int x2), some (.int x3), none, some (.int x5), some (.int x6), none, none] [.int y0] h (qI rv rh) := by
  intro x0 x1 x2 x3 x5 x6 y0 h rh rv hf
  unfold F_X12_gears_119 at hf
  refine g_istore dX12_gears_119 (by decide) (g_lvp (lv2 := [some (.ref x0), some (.int x1), some (.int x2), some (.int x3), some (.int y0), some (.int x5), some (.int x6), none, none]) (pc2 := 121) rfl rfl ?_)
  exact g_X12_gears_121 t50 hf
def F_X12_gears_106 (n : Nat) (k50 : Nat → Int32 → Int32 → Int32 → Int32 → Int32 → Int32 → gH → Option (Int32 × gH)) (x0 : Nat) (x1 : Int32) (x2 : Int32) (x4 : Int32) (x5 : Int32) (x6 : Int32) (x7 : Int32) (x8 : Int32) (y0 : Int32) (h : gH) : Option (Int32 × gH) :=
  if x8 = 0 then
  (F_X12_gears_119 n (k50) x0 x1 x2 y0 x5 x6 x4 h)
  else
  (F_X12_gears_119 n (k50) x0 x1 x2 y0 x5 x6 x7 h)
set_option maxRecDepth 20000 in
set_option maxHeartbeats 1600000 in
theorem g_X12_gears_106 {n d : Nat} {k50 : Nat → Int32 → Int32 → Int32 → Int32 → Int32 → Int32 → gH → Option (Int32 × gH)} (t50 : ∀ {x0 : Nat} {x1 : Int32} {x2 : Int32} {x3 : Int32} {x4 : Int32} {x5 : Int32} {x6 : Int32} {h : gH} {rh : gH} {rv : Int32}, k50 x0 x1 x2 x3 x4 x5 x6 h = some (rv, rh) → G M_X12_gears (d + 5) 0 0 0 0 50 [some (.ref x0), some (.int x1), some (.int x2), some (.int x3), some (.int x4), some (.int x5), some (.int x6), none, none] [] h (qI rv rh)) : ∀ {x0 : Nat} {x1 : Int32} {x2 : Int32} {x4 : Int32} {x5 : Int32} {x6 : Int32} {x7 : Int32} {x8 : Int32} {y0 : Int32} {h : gH} {rh : gH} {rv : Int32}, F_X12_gears_106 n k50 x0 x1 x2 x4 x5 x6 x7 x8 y0 h = some (rv, rh) → G M_X12_gears (d + 5) 0 0 0 0 106 [some (.ref x0), some (.int x1), some (.int x2), none, some (.int x4), some (.int x5), some (.int x6), some (.int x7), some (.int x8)] [.int y0] h (qI rv rh) := by
  intro x0 x1 x2 x4 x5 x6 x7 x8 y0 h rh rv hf
  unfold F_X12_gears_106 at hf
  refine g_istore_n dX12_gears_106 (by decide) (g_lvp (lv2 := [some (.ref x0), some (.int x1), some (.int x2), some (.int y0), some (.int x4), some (.int x5), some (.int x6), some (.int x7), some (.int x8)]) (pc2 := 107) rfl rfl ?_)
  refine g_iload dX12_gears_107 rfl ?_
  refine g_if_eq (tgt := 117) dX12_gears_109 (by decide) (fun c1 => ?_) (fun c1 => ?_)
  · rw [if_pos c1] at hf
    refine g_iload dX12_gears_117 rfl ?_
    refine g_weak (lv2 := [some (.ref x0), some (.int x1), some (.int x2), some (.int y0), none, some (.int x5), some (.int x6), none, none]) (And.intro rfl (And.intro rfl (And.intro rfl (And.intro rfl (And.intro rfl (And.intro rfl (trivial))))))) ?_
    exact g_X12_gears_119 t50 hf
  · rw [if_neg c1] at hf
    refine g_iload dX12_gears_112 rfl ?_
    refine g_goto (tgt := 119) dX12_gears_114 (by decide) ?_
    refine g_weak (lv2 := [some (.ref x0), some (.int x1), some (.int x2), some (.int y0), none, some (.int x5), some (.int x6), none, none]) (And.intro rfl (And.intro rfl (And.intro rfl (And.intro rfl (And.intro rfl (And.intro rfl (trivial))))))) ?_
    exact g_X12_gears_119 t50 hf
def F_X12_gears_93 (n : Nat) (k50 : Nat → Int32 → Int32 → Int32 → Int32 → Int32 → Int32 → gH → Option (Int32 × gH)) (x0 : Nat) (x1 : Int32) (x2 : Int32) (x3 : Int32) (x4 : Int32) (x5 : Int32) (x6 : Int32) (x7 : Int32) (y0 : Int32) (h : gH) : Option (Int32 × gH) :=
  if y0 = 0 then
  (F_X12_gears_106 n (k50) x0 x1 x2 x4 x5 x6 x7 y0 x3 h)
  else
  (F_X12_gears_106 n (k50) x0 x1 x2 x4 x5 x6 x7 y0 x6 h)
set_option maxRecDepth 20000 in
set_option maxHeartbeats 1600000 in
theorem g_X12_gears_93 {n d : Nat} {k50 : Nat → Int32 → Int32 → Int32 → Int32 → Int32 → Int32 → gH → Option (Int32 × gH)} (t50 : ∀ {x0 : Nat} {x1 : Int32} {x2 : Int32} {x3 : Int32} {x4 : Int32} {x5 : Int32} {x6 : Int32} {h : gH} {rh : gH} {rv : Int32}, k50 x0 x1 x2 x3 x4 x5 x6 h = some (rv, rh) → G M_X12_gears (d + 5) 0 0 0 0 50 [some (.ref x0), some (.int x1), some (.int x2), some (.int x3), some (.int x4), some (.int x5), some (.int x6), none, none] [] h (qI rv rh)) : ∀ {x0 : Nat} {x1 : Int32} {x2 : Int32} {x3 : Int32} {x4 : Int32} {x5 : Int32} {x6 : Int32} {x7 : Int32} {y0 : Int32} {h : gH} {rh : gH} {rv : Int32}, F_X12_gears_93 n k50 x0 x1 x2 x3 x4 x5 x6 x7 y0 h = some (rv, rh) → G M_X12_gears (d + 5) 0 0 0 0 93 [some (.ref x0), some (.int x1), some (.int x2), some (.int x3), some (.int x4), some (.int x5), some (.int x6), some (.int x7), none] [.int y0] h (qI rv rh) := by
  intro x0 x1 x2 x3 x4 x5 x6 x7 y0 h rh rv hf
  unfold F_X12_gears_93 at hf
  refine g_istore dX12_gears_93 (by decide) (g_lvp (lv2 := [some (.ref x0), some (.int x1), some (.int x2), some (.int x3), some (.int x4), some (.int x5), some (.int x6), some (.int x7), some (.int y0)]) (pc2 := 95) rfl rfl ?_)
  refine g_iload dX12_gears_95 rfl ?_
  refine g_if_eq (tgt := 105) dX12_gears_97 (by decide) (fun c1 => ?_) (fun c1 => ?_)
  · rw [if_pos c1] at hf
    refine g_iload_n dX12_gears_105 rfl ?_
    refine g_weak (lv2 := [some (.ref x0), some (.int x1), some (.int x2), none, some (.int x4), some (.int x5), some (.int x6), some (.int x7), some (.int y0)]) (And.intro rfl (And.intro rfl (And.intro rfl (And.intro rfl (And.intro rfl (And.intro rfl (And.intro rfl (And.intro rfl (trivial))))))))) ?_
    exact g_X12_gears_106 t50 hf
  · rw [if_neg c1] at hf
    refine g_iload dX12_gears_100 rfl ?_
    refine g_goto (tgt := 106) dX12_gears_102 (by decide) ?_
    refine g_weak (lv2 := [some (.ref x0), some (.int x1), some (.int x2), none, some (.int x4), some (.int x5), some (.int x6), some (.int x7), some (.int y0)]) (And.intro rfl (And.intro rfl (And.intro rfl (And.intro rfl (And.intro rfl (And.intro rfl (And.intro rfl (And.intro rfl (trivial))))))))) ?_
    exact g_X12_gears_106 t50 hf
def F_X12_gears_88 (n : Nat) (k50 : Nat → Int32 → Int32 → Int32 → Int32 → Int32 → Int32 → gH → Option (Int32 × gH)) (x0 : Nat) (x1 : Int32) (x2 : Int32) (x3 : Int32) (x4 : Int32) (x5 : Int32) (x6 : Int32) (x7 : Int32) (h : gH) : Option (Int32 × gH) :=
  F_X12_gears_93 n (k50) x0 x1 x2 x3 x4 x5 x6 x7 (1 : Int32) h
set_option maxRecDepth 20000 in
set_option maxHeartbeats 1600000 in
theorem g_X12_gears_88 {n d : Nat} {k50 : Nat → Int32 → Int32 → Int32 → Int32 → Int32 → Int32 → gH → Option (Int32 × gH)} (t50 : ∀ {x0 : Nat} {x1 : Int32} {x2 : Int32} {x3 : Int32} {x4 : Int32} {x5 : Int32} {x6 : Int32} {h : gH} {rh : gH} {rv : Int32}, k50 x0 x1 x2 x3 x4 x5 x6 h = some (rv, rh) → G M_X12_gears (d + 5) 0 0 0 0 50 [some (.ref x0), some (.int x1), some (.int x2), some (.int x3), some (.int x4), some (.int x5), some (.int x6), none, none] [] h (qI rv rh)) : ∀ {x0 : Nat} {x1 : Int32} {x2 : Int32} {x3 : Int32} {x4 : Int32} {x5 : Int32} {x6 : Int32} {x7 : Int32} {h : gH} {rh : gH} {rv : Int32}, F_X12_gears_88 n k50 x0 x1 x2 x3 x4 x5 x6 x7 h = some (rv, rh) → G M_X12_gears (d + 5) 0 0 0 0 88 [some (.ref x0), some (.int x1), some (.int x2), some (.int x3), some (.int x4), some (.int x5), some (.int x6), some (.int x7), none] [] h (qI rv rh) := by
  intro x0 x1 x2 x3 x4 x5 x6 x7 h rh rv hf
  unfold F_X12_gears_88 at hf
  refine g_iconst (v := (1 : Int32)) dX12_gears_88 (by decide) ?_
  refine g_goto (tgt := 93) dX12_gears_89 (by decide) ?_
  exact g_X12_gears_93 t50 hf
def F_X12_gears_50 (n : Nat) (k41 : Nat → Int32 → Int32 → Int32 → Int32 → Int32 → gH → Option (Int32 × gH)) : Nat → Nat → Int32 → Int32 → Int32 → Int32 → Int32 → Int32 → gH → Option (Int32 × gH)
  | 0, _, _, _, _, _, _, _, _ => none
  | m + 1, x0, x1, x2, x3, x4, x5, x6, h => if (1024 : Int32) ≤ x6 then
  (k41 x0 x1 x2 x3 x4 (x5 + (1 : Int32)) h)
  else
  (gB (F_X12_count1 n x6 h) fun v4 h2 =>
  if v4 = x5 then
  ((gO h2 x0 12).bind fun f6 =>
  gB (F_X12_secondsBy n x0 x6 h2) fun v10 h8 =>
  if x3 = (-1 : Int32) then
  (F_X12_gears_88 n (F_X12_gears_50 n k41 m) x0 x1 x2 x3 x4 x5 x6 v10 h8)
  else
  (if x4 ≤ v10 then
  (F_X12_gears_93 n (F_X12_gears_50 n k41 m) x0 x1 x2 x3 x4 x5 x6 v10 (0 : Int32) h8)
  else
  (F_X12_gears_88 n (F_X12_gears_50 n k41 m) x0 x1 x2 x3 x4 x5 x6 v10 h8)))
  else
  (F_X12_gears_121 n (F_X12_gears_50 n k41 m) x0 x1 x2 x3 x4 x5 x6 h2))
set_option maxRecDepth 20000 in
set_option maxHeartbeats 1600000 in
theorem g_X12_gears_50 {n d : Nat} {k41 : Nat → Int32 → Int32 → Int32 → Int32 → Int32 → gH → Option (Int32 × gH)} (t41 : ∀ {x0 : Nat} {x1 : Int32} {x2 : Int32} {x3 : Int32} {x4 : Int32} {x5 : Int32} {h : gH} {rh : gH} {rv : Int32}, k41 x0 x1 x2 x3 x4 x5 h = some (rv, rh) → G M_X12_gears (d + 5) 0 0 0 0 41 [some (.ref x0), some (.int x1), some (.int x2), some (.int x3), some (.int x4), some (.int x5), none, none, none] [] h (qI rv rh)) : ∀ {m : Nat} {x0 : Nat} {x1 : Int32} {x2 : Int32} {x3 : Int32} {x4 : Int32} {x5 : Int32} {x6 : Int32} {h : gH} {rh : gH} {rv : Int32}, F_X12_gears_50 n k41 m x0 x1 x2 x3 x4 x5 x6 h = some (rv, rh) → G M_X12_gears (d + 5) 0 0 0 0 50 [some (.ref x0), some (.int x1), some (.int x2), some (.int x3), some (.int x4), some (.int x5), some (.int x6), none, none] [] h (qI rv rh) := by
  intro m
  induction m with
  | zero => intro x0 x1 x2 x3 x4 x5 x6 h rh rv hf; cases hf
  | succ m t50 =>
    intro x0 x1 x2 x3 x4 x5 x6 h rh rv hf
    unfold F_X12_gears_50 at hf
    refine g_iload dX12_gears_50 rfl ?_
    refine g_sipush (v := (1024 : Int32)) dX12_gears_52 (by decide) ?_
    refine g_icmp_ge (tgt := 127) dX12_gears_55 (by decide) (fun c1 => ?_) (fun c1 => ?_)
    · rw [if_pos c1] at hf
      refine g_iinc2 (w := (1 : Int32)) dX12_gears_127 (by decide) rfl (by decide) (g_lvp (lv2 := [some (.ref x0), some (.int x1), some (.int x2), some (.int x3), some (.int x4), some (.int (x5 + (1 : Int32))), some (.int x6), none, none]) (pc2 := 130) rfl rfl ?_)
      refine g_goto (tgt := 41) dX12_gears_130 (by decide) ?_
      refine g_weak (lv2 := [some (.ref x0), some (.int x1), some (.int x2), some (.int x3), some (.int x4), some (.int (x5 + (1 : Int32))), none, none, none]) (And.intro rfl (And.intro rfl (And.intro rfl (And.intro rfl (And.intro rfl (And.intro rfl (trivial))))))) ?_
      exact t41 hf
    · rw [if_neg c1] at hf
      refine g_iload dX12_gears_58 rfl ?_
      replace hf := gB_of hf
      obtain ⟨v4, h2, q3, hf⟩ := hf
      refine g_callS (as := [.int x6]) (mc1 := 0) (ms1 := 0) s_X12_238_X12_count1 dX12_gears_60 rfl (Nat.le_of_ble_eq_true rfl) (Nat.le_of_ble_eq_true rfl) (Nat.le_of_ble_eq_true rfl) (t_X12_count1 (d := d + 4) q3) (fun r9 h9 q9 => ?_)
      obtain ⟨rfl, rfl⟩ := q9
      refine g_stp (st2 := [.int v4]) (pc2 := 63) (kc2 := 0) (kn2 := 0) rfl rfl rfl rfl ?_
      refine g_iload dX12_gears_63 rfl ?_
      refine g_icmp_ne (tgt := 121) dX12_gears_65 (by decide) (fun c5 => ?_) (fun c5 => ?_)
      · rw [if_neg c5] at hf
        exact g_X12_gears_121 t50 hf
      · rw [if_pos c5] at hf
        refine g_aload_n dX12_gears_68 rfl ?_
        refine g_iload dX12_gears_69 rfl ?_
        replace hf := Option.bind_eq_some_iff.mp hf
        obtain ⟨f6, q7, hf⟩ := hf
        replace hf := gB_of hf
        obtain ⟨v10, h8, q9, hf⟩ := hf
        refine g_callV (as := [.int x6]) (mc1 := 0) (ms1 := 0) s_X12_241_X12_secondsBy_12 dX12_gears_71 (gO_of q7) rfl (Nat.le_of_ble_eq_true rfl) (Nat.le_of_ble_eq_true rfl) (Nat.le_of_ble_eq_true rfl) (t_X12_secondsBy (d := d + 0) q9) (fun r9 h9 q9 => ?_)
        obtain ⟨rfl, rfl⟩ := q9
        refine g_stp (st2 := [.int v10]) (pc2 := 74) (kc2 := 0) (kn2 := 0) rfl rfl rfl rfl ?_
        refine g_istore dX12_gears_74 (by decide) (g_lvp (lv2 := [some (.ref x0), some (.int x1), some (.int x2), some (.int x3), some (.int x4), some (.int x5), some (.int x6), some (.int v10), none]) (pc2 := 76) rfl rfl ?_)
        refine g_iload_n dX12_gears_76 rfl ?_
        refine g_iconst (v := (-1 : Int32)) dX12_gears_77 (by decide) ?_
        refine g_icmp_eq (tgt := 88) dX12_gears_78 (by decide) (fun c11 => ?_) (fun c11 => ?_)
        · rw [if_pos c11] at hf
          exact g_X12_gears_88 t50 hf
        · rw [if_neg c11] at hf
          refine g_iload dX12_gears_81 rfl ?_
          refine g_iload dX12_gears_83 rfl ?_
          refine g_icmp_ge (tgt := 92) dX12_gears_85 (by decide) (fun c12 => ?_) (fun c12 => ?_)
          · rw [if_pos c12] at hf
            refine g_iconst (v := (0 : Int32)) dX12_gears_92 (by decide) ?_
            exact g_X12_gears_93 t50 hf
          · rw [if_neg c12] at hf
            exact g_X12_gears_88 t50 hf
def F_X12_gears_41 (n : Nat)  : Nat → Nat → Int32 → Int32 → Int32 → Int32 → Int32 → gH → Option (Int32 × gH)
  | 0, _, _, _, _, _, _, _ => none
  | m + 1, x0, x1, x2, x3, x4, x5, h => if x1 < x5 then
  (if x2 = 0 then
  (F_X12_gears_143 n x3 h)
  else
  (F_X12_gears_143 n x4 h))
  else
  (F_X12_gears_50 n (F_X12_gears_41 n m) n x0 x1 x2 x3 x4 x5 (1 : Int32) h)
set_option maxRecDepth 20000 in
set_option maxHeartbeats 1600000 in
theorem g_X12_gears_41 {n d : Nat} : ∀ {m : Nat} {x0 : Nat} {x1 : Int32} {x2 : Int32} {x3 : Int32} {x4 : Int32} {x5 : Int32} {h : gH} {rh : gH} {rv : Int32}, F_X12_gears_41 n m x0 x1 x2 x3 x4 x5 h = some (rv, rh) → G M_X12_gears (d + 5) 0 0 0 0 41 [some (.ref x0), some (.int x1), some (.int x2), some (.int x3), some (.int x4), some (.int x5), none, none, none] [] h (qI rv rh) := by
  intro m
  induction m with
  | zero => intro x0 x1 x2 x3 x4 x5 h rh rv hf; cases hf
  | succ m t41 =>
    intro x0 x1 x2 x3 x4 x5 h rh rv hf
    unfold F_X12_gears_41 at hf
    refine g_iload dX12_gears_41 rfl ?_
    refine g_iload_n dX12_gears_43 rfl ?_
    refine g_icmp_gt (tgt := 133) dX12_gears_44 (by decide) (fun c1 => ?_) (fun c1 => ?_)
    · rw [if_pos c1] at hf
      refine g_iload_n dX12_gears_133 rfl ?_
      refine g_if_ne (tgt := 141) dX12_gears_134 (by decide) (fun c2 => ?_) (fun c2 => ?_)
      · rw [if_neg c2] at hf
        refine g_iload dX12_gears_141 rfl ?_
        refine g_weak (lv2 := [none, none, none, none, none, none, none, none, none]) (trivial) ?_
        exact g_X12_gears_143 hf
      · rw [if_pos c2] at hf
        refine g_iload_n dX12_gears_137 rfl ?_
        refine g_goto (tgt := 143) dX12_gears_138 (by decide) ?_
        refine g_weak (lv2 := [none, none, none, none, none, none, none, none, none]) (trivial) ?_
        exact g_X12_gears_143 hf
    · rw [if_neg c1] at hf
      refine g_iconst (v := (1 : Int32)) dX12_gears_47 (by decide) ?_
      refine g_istore dX12_gears_48 (by decide) (g_lvp (lv2 := [some (.ref x0), some (.int x1), some (.int x2), some (.int x3), some (.int x4), some (.int x5), some (.int (1 : Int32)), none, none]) (pc2 := 50) rfl rfl ?_)
      exact g_X12_gears_50 t41 hf
def F_X12_gears_0 (n : Nat)  (x0 : Nat) (x1 : Int32) (x2 : Int32) (h : gH) : Option (Int32 × gH) :=
  gB (F_X12_in n x2 (0 : Int32) (1 : Int32) h) fun v3 h1 =>
  if v3 = 0 then
  (some ((-1 : Int32), h1))
  else
  (gB (F_X12_in n x1 (1 : Int32) (4 : Int32) h1) fun v7 h5 =>
  if v7 = 0 then
  (some ((-2 : Int32), h5))
  else
  ((gO h5 x0 12).bind fun f9 =>
  gB (F_X12_pieces n x0  h5) fun v13 h11 =>
  if v13 = 0 then
  (some ((-3 : Int32), h11))
  else
  (F_X12_gears_41 n n x0 x1 x2 (-1 : Int32) (0 : Int32) (1 : Int32) h11)))
set_option maxRecDepth 20000 in
set_option maxHeartbeats 1600000 in
theorem g_X12_gears_0 {n d : Nat} : ∀ {x0 : Nat} {x1 : Int32} {x2 : Int32} {h : gH} {rh : gH} {rv : Int32}, F_X12_gears_0 n x0 x1 x2 h = some (rv, rh) → G M_X12_gears (d + 5) 0 0 0 0 0 [some (.ref x0), some (.int x1), some (.int x2), none, none, none, none, none, none] [] h (qI rv rh) := by
  intro x0 x1 x2 h rh rv hf
  unfold F_X12_gears_0 at hf
  refine g_iload_n dX12_gears_0 rfl ?_
  refine g_iconst (v := (0 : Int32)) dX12_gears_1 (by decide) ?_
  refine g_iconst (v := (1 : Int32)) dX12_gears_2 (by decide) ?_
  replace hf := gB_of hf
  obtain ⟨v3, h1, q2, hf⟩ := hf
  refine g_callS (as := [.int x2, .int (0 : Int32), .int (1 : Int32)]) (mc1 := 0) (ms1 := 0) s_X12_44_X12_in dX12_gears_3 rfl (Nat.le_of_ble_eq_true rfl) (Nat.le_of_ble_eq_true rfl) (Nat.le_of_ble_eq_true rfl) (t_X12_in (d := d + 4) q2) (fun r9 h9 q9 => ?_)
  obtain ⟨rfl, rfl⟩ := q9
  refine g_stp (st2 := [.int v3]) (pc2 := 6) (kc2 := 0) (kn2 := 0) rfl rfl rfl rfl ?_
  refine g_if_ne (tgt := 11) dX12_gears_6 (by decide) (fun c4 => ?_) (fun c4 => ?_)
  · rw [if_neg c4] at hf
    refine g_iload_n dX12_gears_11 rfl ?_
    refine g_iconst (v := (1 : Int32)) dX12_gears_12 (by decide) ?_
    refine g_iconst (v := (4 : Int32)) dX12_gears_13 (by decide) ?_
    replace hf := gB_of hf
    obtain ⟨v7, h5, q6, hf⟩ := hf
    refine g_callS (as := [.int x1, .int (1 : Int32), .int (4 : Int32)]) (mc1 := 0) (ms1 := 0) s_X12_44_X12_in dX12_gears_14 rfl (Nat.le_of_ble_eq_true rfl) (Nat.le_of_ble_eq_true rfl) (Nat.le_of_ble_eq_true rfl) (t_X12_in (d := d + 4) q6) (fun r9 h9 q9 => ?_)
    obtain ⟨rfl, rfl⟩ := q9
    refine g_stp (st2 := [.int v7]) (pc2 := 17) (kc2 := 0) (kn2 := 0) rfl rfl rfl rfl ?_
    refine g_if_ne (tgt := 23) dX12_gears_17 (by decide) (fun c8 => ?_) (fun c8 => ?_)
    · rw [if_neg c8] at hf
      refine g_aload_n dX12_gears_23 rfl ?_
      replace hf := Option.bind_eq_some_iff.mp hf
      obtain ⟨f9, q10, hf⟩ := hf
      replace hf := gB_of hf
      obtain ⟨v13, h11, q12, hf⟩ := hf
      refine g_callV (as := []) (mc1 := 0) (ms1 := 0) s_X12_48_X12_pieces_12 dX12_gears_24 (gO_of q10) rfl (Nat.le_of_ble_eq_true rfl) (Nat.le_of_ble_eq_true rfl) (Nat.le_of_ble_eq_true rfl) (t_X12_pieces (d := d + 4) q12) (fun r9 h9 q9 => ?_)
      obtain ⟨rfl, rfl⟩ := q9
      refine g_stp (st2 := [.int v13]) (pc2 := 27) (kc2 := 0) (kn2 := 0) rfl rfl rfl rfl ?_
      refine g_if_ne (tgt := 33) dX12_gears_27 (by decide) (fun c14 => ?_) (fun c14 => ?_)
      · rw [if_neg c14] at hf
        refine g_iconst (v := (-1 : Int32)) dX12_gears_33 (by decide) ?_
        refine g_istore_n dX12_gears_34 (by decide) (g_lvp (lv2 := [some (.ref x0), some (.int x1), some (.int x2), some (.int (-1 : Int32)), none, none, none, none, none]) (pc2 := 35) rfl rfl ?_)
        refine g_iconst (v := (0 : Int32)) dX12_gears_35 (by decide) ?_
        refine g_istore dX12_gears_36 (by decide) (g_lvp (lv2 := [some (.ref x0), some (.int x1), some (.int x2), some (.int (-1 : Int32)), some (.int (0 : Int32)), none, none, none, none]) (pc2 := 38) rfl rfl ?_)
        refine g_iconst (v := (1 : Int32)) dX12_gears_38 (by decide) ?_
        refine g_istore dX12_gears_39 (by decide) (g_lvp (lv2 := [some (.ref x0), some (.int x1), some (.int x2), some (.int (-1 : Int32)), some (.int (0 : Int32)), some (.int (1 : Int32)), none, none, none]) (pc2 := 41) rfl rfl ?_)
        exact g_X12_gears_41 hf
      · rw [if_pos c14] at hf
        refine g_bipush (v := (-3 : Int32)) dX12_gears_30 (by decide) ?_
        obtain ⟨rfl, rfl⟩ := Prod.mk.inj (Option.some.inj hf)
        exact g_iret dX12_gears_32 rfl ⟨rfl, rfl⟩ (Nat.le_of_ble_eq_true rfl) (Nat.le_of_ble_eq_true rfl)
    · rw [if_pos c8] at hf
      refine g_bipush (v := (-2 : Int32)) dX12_gears_20 (by decide) ?_
      obtain ⟨rfl, rfl⟩ := Prod.mk.inj (Option.some.inj hf)
      exact g_iret dX12_gears_22 rfl ⟨rfl, rfl⟩ (Nat.le_of_ble_eq_true rfl) (Nat.le_of_ble_eq_true rfl)
  · rw [if_pos c4] at hf
    refine g_iconst (v := (-1 : Int32)) dX12_gears_9 (by decide) ?_
    obtain ⟨rfl, rfl⟩ := Prod.mk.inj (Option.some.inj hf)
    exact g_iret dX12_gears_10 rfl ⟨rfl, rfl⟩ (Nat.le_of_ble_eq_true rfl) (Nat.le_of_ble_eq_true rfl)
def F_X12_gears (n : Nat) (a : Nat) (p0 : Int32) (p1 : Int32) (h : gH) : Option (Int32 × gH) := F_X12_gears_0 n  a p0 p1 h
theorem t_X12_gears {n d : Nat} {a : Nat} {p0 : Int32} {p1 : Int32} {h rh : gH} {rv : Int32} (hf : F_X12_gears n a p0 p1 h = some (rv, rh)) : T M_X12_gears (d + 5) 0 0 [.ref a, .int p0, .int p1] h (qI rv rh) := by
  refine T_of_G (L := 6) (by decide +kernel) rfl (Nat.le_of_ble_eq_true rfl) (g_lv (lv2 := [some (.ref a), some (.int p0), some (.int p1), none, none, none, none, none, none]) rfl ?_)
  exact g_X12_gears_0 hf
def F_X12_sloped_26 (n : Nat)  (y0 : Int32) (y1 : Int32) (h : gH) : Option (Int32 × gH) :=
  some ((y0 + y1), h)
set_option maxRecDepth 20000 in
set_option maxHeartbeats 1600000 in
theorem g_X12_sloped_26 {n d : Nat} : ∀ {y0 : Int32} {y1 : Int32} {h : gH} {rh : gH} {rv : Int32}, F_X12_sloped_26 n y0 y1 h = some (rv, rh) → G M_X12_sloped (d + 2) 0 0 0 0 26 [none, none] [.int y1, .int y0] h (qI rv rh) := by
  intro y0 y1 h rh rv hf
  unfold F_X12_sloped_26 at hf
  refine g_iadd dX12_sloped_26 ?_
  obtain ⟨rfl, rfl⟩ := Prod.mk.inj (Option.some.inj hf)
  exact g_iret dX12_sloped_27 rfl ⟨rfl, rfl⟩ (Nat.le_of_ble_eq_true rfl) (Nat.le_of_ble_eq_true rfl)
def F_X12_sloped_0 (n : Nat)  (x0 : Nat) (x1 : Int32) (h : gH) : Option (Int32 × gH) :=
  (gO h x0 12).bind fun f1 =>
  gB (F_X12_bar n x0  h) fun v5 h3 =>
  (gO h3 x0 12).bind fun f6 =>
  gB (F_X12_slope n x0 x1 h3) fun v10 h8 =>
  (gO h8 x0 12).bind fun f11 =>
  gB (F_X12_wind n x0 x1 h8) fun v15 h13 =>
  if v15 ≤ (5 : Int32) then
  (F_X12_sloped_26 n ((v5 + v10) - (5 : Int32)) (0 : Int32) h13)
  else
  (F_X12_sloped_26 n ((v5 + v10) - (5 : Int32)) (1 : Int32) h13)
set_option maxRecDepth 20000 in
set_option maxHeartbeats 1600000 in
theorem g_X12_sloped_0 {n d : Nat} : ∀ {x0 : Nat} {x1 : Int32} {h : gH} {rh : gH} {rv : Int32}, F_X12_sloped_0 n x0 x1 h = some (rv, rh) → G M_X12_sloped (d + 2) 0 0 0 0 0 [some (.ref x0), some (.int x1)] [] h (qI rv rh) := by
  intro x0 x1 h rh rv hf
  unfold F_X12_sloped_0 at hf
  refine g_aload_n dX12_sloped_0 rfl ?_
  replace hf := Option.bind_eq_some_iff.mp hf
  obtain ⟨f1, q2, hf⟩ := hf
  replace hf := gB_of hf
  obtain ⟨v5, h3, q4, hf⟩ := hf
  refine g_callV (as := []) (mc1 := 0) (ms1 := 0) s_X12_166_X12_bar_12 dX12_sloped_1 (gO_of q2) rfl (Nat.le_of_ble_eq_true rfl) (Nat.le_of_ble_eq_true rfl) (Nat.le_of_ble_eq_true rfl) (t_X12_bar (d := d + 0) q4) (fun r9 h9 q9 => ?_)
  obtain ⟨rfl, rfl⟩ := q9
  refine g_stp (st2 := [.int v5]) (pc2 := 4) (kc2 := 0) (kn2 := 0) rfl rfl rfl rfl ?_
  refine g_aload_n dX12_sloped_4 rfl ?_
  refine g_iload_n dX12_sloped_5 rfl ?_
  replace hf := Option.bind_eq_some_iff.mp hf
  obtain ⟨f6, q7, hf⟩ := hf
  replace hf := gB_of hf
  obtain ⟨v10, h8, q9, hf⟩ := hf
  refine g_callV (as := [.int x1]) (mc1 := 0) (ms1 := 0) s_X12_157_X12_slope_12 dX12_sloped_6 (gO_of q7) rfl (Nat.le_of_ble_eq_true rfl) (Nat.le_of_ble_eq_true rfl) (Nat.le_of_ble_eq_true rfl) (t_X12_slope (d := d + 1) q9) (fun r9 h9 q9 => ?_)
  obtain ⟨rfl, rfl⟩ := q9
  refine g_stp (st2 := [.int v10, .int v5]) (pc2 := 9) (kc2 := 0) (kn2 := 0) rfl rfl rfl rfl ?_
  refine g_iadd dX12_sloped_9 ?_
  refine g_iconst (v := (5 : Int32)) dX12_sloped_10 (by decide) ?_
  refine g_isub dX12_sloped_11 ?_
  refine g_aload_n dX12_sloped_12 rfl ?_
  refine g_iload_n dX12_sloped_13 rfl ?_
  replace hf := Option.bind_eq_some_iff.mp hf
  obtain ⟨f11, q12, hf⟩ := hf
  replace hf := gB_of hf
  obtain ⟨v15, h13, q14, hf⟩ := hf
  refine g_callV (as := [.int x1]) (mc1 := 0) (ms1 := 0) s_X12_160_X12_wind_12 dX12_sloped_14 (gO_of q12) rfl (Nat.le_of_ble_eq_true rfl) (Nat.le_of_ble_eq_true rfl) (Nat.le_of_ble_eq_true rfl) (t_X12_wind (d := d + 1) q14) (fun r9 h9 q9 => ?_)
  obtain ⟨rfl, rfl⟩ := q9
  refine g_stp (st2 := [.int v15, .int ((v5 + v10) - (5 : Int32))]) (pc2 := 17) (kc2 := 0) (kn2 := 0) rfl rfl rfl rfl ?_
  refine g_iconst (v := (5 : Int32)) dX12_sloped_17 (by decide) ?_
  refine g_icmp_le (tgt := 25) dX12_sloped_18 (by decide) (fun c16 => ?_) (fun c16 => ?_)
  · rw [if_pos c16] at hf
    refine g_iconst (v := (0 : Int32)) dX12_sloped_25 (by decide) ?_
    refine g_weak (lv2 := [none, none]) (trivial) ?_
    exact g_X12_sloped_26 hf
  · rw [if_neg c16] at hf
    refine g_iconst (v := (1 : Int32)) dX12_sloped_21 (by decide) ?_
    refine g_goto (tgt := 26) dX12_sloped_22 (by decide) ?_
    refine g_weak (lv2 := [none, none]) (trivial) ?_
    exact g_X12_sloped_26 hf
def F_X12_sloped (n : Nat) (a : Nat) (p0 : Int32) (h : gH) : Option (Int32 × gH) := F_X12_sloped_0 n  a p0 h
theorem t_X12_sloped {n d : Nat} {a : Nat} {p0 : Int32} {h rh : gH} {rv : Int32} (hf : F_X12_sloped n a p0 h = some (rv, rh)) : T M_X12_sloped (d + 2) 0 0 [.ref a, .int p0] h (qI rv rh) := by
  refine T_of_G (L := 0) (by decide +kernel) rfl (Nat.le_of_ble_eq_true rfl) (g_lv (lv2 := [some (.ref a), some (.int p0)]) rfl ?_)
  exact g_X12_sloped_0 hf
def F_X12_wants_159 (n : Nat)  (y0 : Int32) (y1 : Int32) (h : gH) : Option (Int32 × gH) :=
  some ((y0 + y1), h)
set_option maxRecDepth 20000 in
set_option maxHeartbeats 1600000 in
theorem g_X12_wants_159 {n d : Nat} : ∀ {y0 : Int32} {y1 : Int32} {h : gH} {rh : gH} {rv : Int32}, F_X12_wants_159 n y0 y1 h = some (rv, rh) → G M_X12_wants (d + 3) 0 0 0 0 159 [none, none, none, none, none, none] [.int y1, .int y0] h (qI rv rh) := by
  intro y0 y1 h rh rv hf
  unfold F_X12_wants_159 at hf
  refine g_iadd dX12_wants_159 ?_
  obtain ⟨rfl, rfl⟩ := Prod.mk.inj (Option.some.inj hf)
  exact g_iret dX12_wants_160 rfl ⟨rfl, rfl⟩ (Nat.le_of_ble_eq_true rfl) (Nat.le_of_ble_eq_true rfl)
def F_X12_wants_143 (n : Nat)  (y0 : Int32) (h : gH) : Option (Int32 × gH) :=
  some (y0, h)
set_option maxRecDepth 20000 in
set_option maxHeartbeats 1600000 in
theorem g_X12_wants_143 {n d : Nat} : ∀ {y0 : Int32} {h : gH} {rh : gH} {rv : Int32}, F_X12_wants_143 n y0 h = some (rv, rh) → G M_X12_wants (d + 3) 0 0 0 0 143 [none, none, none, none, none, none] [.int y0] h (qI rv rh) := by
  intro y0 h rh rv hf
  unfold F_X12_wants_143 at hf
  obtain ⟨rfl, rfl⟩ := Prod.mk.inj (Option.some.inj hf)
  exact g_iret dX12_wants_143 rfl ⟨rfl, rfl⟩ (Nat.le_of_ble_eq_true rfl) (Nat.le_of_ble_eq_true rfl)
def F_X12_wants_126 (n : Nat)  (y0 : Int32) (h : gH) : Option (Int32 × gH) :=
  some (y0, h)
set_option maxRecDepth 20000 in
set_option maxHeartbeats 1600000 in
theorem g_X12_wants_126 {n d : Nat} : ∀ {y0 : Int32} {h : gH} {rh : gH} {rv : Int32}, F_X12_wants_126 n y0 h = some (rv, rh) → G M_X12_wants (d + 3) 0 0 0 0 126 [none, none, none, none, none, none] [.int y0] h (qI rv rh) := by
  intro y0 h rh rv hf
  unfold F_X12_wants_126 at hf
  obtain ⟨rfl, rfl⟩ := Prod.mk.inj (Option.some.inj hf)
  exact g_iret dX12_wants_126 rfl ⟨rfl, rfl⟩ (Nat.le_of_ble_eq_true rfl) (Nat.le_of_ble_eq_true rfl)
def F_X12_wants_0 (n : Nat)  (x0 : Nat) (x1 : Int32) (x2 : Int32) (x3 : Int32) (h : gH) : Option (Int32 × gH) :=
  (gR h x0 12 1).bind fun v1 =>
  (aI h v1 ((138 : Int32) + x1)).bind fun v3 =>
  (gR h x0 12 1).bind fun v5 =>
  (aI h v5 (((146 : Int32) + ((8 : Int32) * x1)) + x2)).bind fun v7 =>
  (gR h x0 12 1).bind fun v9 =>
  (aI h v9 ((130 : Int32) + x1)).bind fun v11 =>
  if v11 = (1 : Int32) then
  (some (v3, h))
  else if v11 = (2 : Int32) then
  ((gO h x0 12).bind fun f15 =>
  gB (F_X12_sloped n x0 x2 h) fun v19 h17 =>
  some (v19, h17))
  else if v11 = (3 : Int32) then
  ((gR h x0 12 13).bind fun v21 =>
  (aI h v21 (((61 : Int32) * x2) + x3)).bind fun v23 =>
  some (v23, h))
  else if v11 = (4 : Int32) then
  ((gO h x0 12).bind fun f26 =>
  gB (F_X12_pieces n x0  h) fun v30 h28 =>
  (gO h28 x0 12).bind fun f31 =>
  gB (F_X12_most n x0  h28) fun v35 h33 =>
  (gO h33 x0 12).bind fun f36 =>
  gB (F_X12_pieces n x0  h33) fun v40 h38 =>
  if (v35 * (v40 - x2)) ≤ (x3 * v30) then
  (F_X12_wants_126 n v3 h38)
  else
  ((gO h38 x0 12).bind fun f42 =>
  gB (F_X12_bar n x0  h38) fun v46 h44 =>
  F_X12_wants_126 n v46 h44))
  else if v11 = (5 : Int32) then
  (if v7 = (-1 : Int32) then
  ((gO h x0 12).bind fun f49 =>
  gB (F_X12_sloped n x0 x2 h) fun v53 h51 =>
  F_X12_wants_143 n v53 h51)
  else
  (F_X12_wants_143 n v7 h))
  else if v11 = (6 : Int32) then
  ((gO h x0 12).bind fun f55 =>
  gB (F_X12_bar n x0  h) fun v59 h57 =>
  if x2 < v3 then
  (F_X12_wants_159 n v59 (0 : Int32) h57)
  else
  (F_X12_wants_159 n v59 (2 : Int32) h57))
  else ((gO h x0 12).bind fun f61 =>
  gB (F_X12_bar n x0  h) fun v65 h63 =>
  some (v65, h63))
set_option maxRecDepth 20000 in
set_option maxHeartbeats 1600000 in
theorem g_X12_wants_0 {n d : Nat} : ∀ {x0 : Nat} {x1 : Int32} {x2 : Int32} {x3 : Int32} {h : gH} {rh : gH} {rv : Int32}, F_X12_wants_0 n x0 x1 x2 x3 h = some (rv, rh) → G M_X12_wants (d + 3) 0 0 0 0 0 [some (.ref x0), some (.int x1), some (.int x2), some (.int x3), none, none] [] h (qI rv rh) := by
  intro x0 x1 x2 x3 h rh rv hf
  unfold F_X12_wants_0 at hf
  refine g_aload_n dX12_wants_0 rfl ?_
  replace hf := Option.bind_eq_some_iff.mp hf
  obtain ⟨v1, q2, hf⟩ := hf
  refine g_gR f_X12_9 dX12_wants_1 q2 ?_
  refine g_sipush (v := (138 : Int32)) dX12_wants_4 (by decide) ?_
  refine g_iload_n dX12_wants_7 rfl ?_
  refine g_iadd dX12_wants_8 ?_
  replace hf := Option.bind_eq_some_iff.mp hf
  obtain ⟨v3, q4, hf⟩ := hf
  refine g_aI dX12_wants_9 q4 ?_
  refine g_istore dX12_wants_10 (by decide) (g_lvp (lv2 := [some (.ref x0), some (.int x1), some (.int x2), some (.int x3), some (.int v3), none]) (pc2 := 12) rfl rfl ?_)
  refine g_aload_n dX12_wants_12 rfl ?_
  replace hf := Option.bind_eq_some_iff.mp hf
  obtain ⟨v5, q6, hf⟩ := hf
  refine g_gR f_X12_9 dX12_wants_13 q6 ?_
  refine g_sipush (v := (146 : Int32)) dX12_wants_16 (by decide) ?_
  refine g_bipush (v := (8 : Int32)) dX12_wants_19 (by decide) ?_
  refine g_iload_n dX12_wants_21 rfl ?_
  refine g_imul dX12_wants_22 ?_
  refine g_iadd dX12_wants_23 ?_
  refine g_iload_n dX12_wants_24 rfl ?_
  refine g_iadd dX12_wants_25 ?_
  replace hf := Option.bind_eq_some_iff.mp hf
  obtain ⟨v7, q8, hf⟩ := hf
  refine g_aI dX12_wants_26 q8 ?_
  refine g_istore dX12_wants_27 (by decide) (g_lvp (lv2 := [some (.ref x0), some (.int x1), some (.int x2), some (.int x3), some (.int v3), some (.int v7)]) (pc2 := 29) rfl rfl ?_)
  refine g_aload_n dX12_wants_29 rfl ?_
  replace hf := Option.bind_eq_some_iff.mp hf
  obtain ⟨v9, q10, hf⟩ := hf
  refine g_gR f_X12_9 dX12_wants_30 q10 ?_
  refine g_sipush (v := (130 : Int32)) dX12_wants_33 (by decide) ?_
  refine g_iload_n dX12_wants_36 rfl ?_
  refine g_iadd dX12_wants_37 ?_
  replace hf := Option.bind_eq_some_iff.mp hf
  obtain ⟨v11, q12, hf⟩ := hf
  refine g_aI dX12_wants_38 q12 ?_
  by_cases c13 : v11 = (1 : Int32)
  · rw [if_pos c13] at hf
    refine g_tswK (k := (1 : Int32)) (off := 37) (tgt := 76) dX12_wants_39 c13 (by decide) (by decide) (by decide) (by decide) ?_
    refine g_iload dX12_wants_76 rfl ?_
    obtain ⟨rfl, rfl⟩ := Prod.mk.inj (Option.some.inj hf)
    exact g_iret dX12_wants_78 rfl ⟨rfl, rfl⟩ (Nat.le_of_ble_eq_true rfl) (Nat.le_of_ble_eq_true rfl)
  rw [if_neg c13] at hf
  by_cases c14 : v11 = (2 : Int32)
  · rw [if_pos c14] at hf
    refine g_tswK (k := (2 : Int32)) (off := 40) (tgt := 79) dX12_wants_39 c14 (by decide) (by decide) (by decide) (by decide) ?_
    refine g_aload_n dX12_wants_79 rfl ?_
    refine g_iload_n dX12_wants_80 rfl ?_
    replace hf := Option.bind_eq_some_iff.mp hf
    obtain ⟨f15, q16, hf⟩ := hf
    replace hf := gB_of hf
    obtain ⟨v19, h17, q18, hf⟩ := hf
    refine g_callV (as := [.int x2]) (mc1 := 0) (ms1 := 0) s_X12_191_X12_sloped_12 dX12_wants_81 (gO_of q16) rfl (Nat.le_of_ble_eq_true rfl) (Nat.le_of_ble_eq_true rfl) (Nat.le_of_ble_eq_true rfl) (t_X12_sloped (d := d + 0) q18) (fun r9 h9 q9 => ?_)
    obtain ⟨rfl, rfl⟩ := q9
    refine g_stp (st2 := [.int v19]) (pc2 := 84) (kc2 := 0) (kn2 := 0) rfl rfl rfl rfl ?_
    obtain ⟨rfl, rfl⟩ := Prod.mk.inj (Option.some.inj hf)
    exact g_iret dX12_wants_84 rfl ⟨rfl, rfl⟩ (Nat.le_of_ble_eq_true rfl) (Nat.le_of_ble_eq_true rfl)
  rw [if_neg c14] at hf
  by_cases c20 : v11 = (3 : Int32)
  · rw [if_pos c20] at hf
    refine g_tswK (k := (3 : Int32)) (off := 46) (tgt := 85) dX12_wants_39 c20 (by decide) (by decide) (by decide) (by decide) ?_
    refine g_aload_n dX12_wants_85 rfl ?_
    replace hf := Option.bind_eq_some_iff.mp hf
    obtain ⟨v21, q22, hf⟩ := hf
    refine g_gR f_X12_31 dX12_wants_86 q22 ?_
    refine g_bipush (v := (61 : Int32)) dX12_wants_89 (by decide) ?_
    refine g_iload_n dX12_wants_91 rfl ?_
    refine g_imul dX12_wants_92 ?_
    refine g_iload_n dX12_wants_93 rfl ?_
    refine g_iadd dX12_wants_94 ?_
    replace hf := Option.bind_eq_some_iff.mp hf
    obtain ⟨v23, q24, hf⟩ := hf
    refine g_aI dX12_wants_95 q24 ?_
    obtain ⟨rfl, rfl⟩ := Prod.mk.inj (Option.some.inj hf)
    exact g_iret dX12_wants_96 rfl ⟨rfl, rfl⟩ (Nat.le_of_ble_eq_true rfl) (Nat.le_of_ble_eq_true rfl)
  rw [if_neg c20] at hf
  by_cases c25 : v11 = (4 : Int32)
  · rw [if_pos c25] at hf
    refine g_tswK (k := (4 : Int32)) (off := 58) (tgt := 97) dX12_wants_39 c25 (by decide) (by decide) (by decide) (by decide) ?_
    refine g_iload_n dX12_wants_97 rfl ?_
    refine g_aload_n dX12_wants_98 rfl ?_
    replace hf := Option.bind_eq_some_iff.mp hf
    obtain ⟨f26, q27, hf⟩ := hf
    replace hf := gB_of hf
    obtain ⟨v30, h28, q29, hf⟩ := hf
    refine g_callV (as := []) (mc1 := 0) (ms1 := 0) s_X12_48_X12_pieces_12 dX12_wants_99 (gO_of q27) rfl (Nat.le_of_ble_eq_true rfl) (Nat.le_of_ble_eq_true rfl) (Nat.le_of_ble_eq_true rfl) (t_X12_pieces (d := d + 2) q29) (fun r9 h9 q9 => ?_)
    obtain ⟨rfl, rfl⟩ := q9
    refine g_stp (st2 := [.int v30, .int x3]) (pc2 := 102) (kc2 := 0) (kn2 := 0) rfl rfl rfl rfl ?_
    refine g_imul dX12_wants_102 ?_
    refine g_aload_n dX12_wants_103 rfl ?_
    replace hf := Option.bind_eq_some_iff.mp hf
    obtain ⟨f31, q32, hf⟩ := hf
    replace hf := gB_of hf
    obtain ⟨v35, h33, q34, hf⟩ := hf
    refine g_callV (as := []) (mc1 := 0) (ms1 := 0) s_X12_56_X12_most_12 dX12_wants_104 (gO_of q32) rfl (Nat.le_of_ble_eq_true rfl) (Nat.le_of_ble_eq_true rfl) (Nat.le_of_ble_eq_true rfl) (t_X12_most (d := d + 1) q34) (fun r9 h9 q9 => ?_)
    obtain ⟨rfl, rfl⟩ := q9
    refine g_stp (st2 := [.int v35, .int (x3 * v30)]) (pc2 := 107) (kc2 := 0) (kn2 := 0) rfl rfl rfl rfl ?_
    refine g_aload_n dX12_wants_107 rfl ?_
    replace hf := Option.bind_eq_some_iff.mp hf
    obtain ⟨f36, q37, hf⟩ := hf
    replace hf := gB_of hf
    obtain ⟨v40, h38, q39, hf⟩ := hf
    refine g_callV (as := []) (mc1 := 0) (ms1 := 0) s_X12_48_X12_pieces_12 dX12_wants_108 (gO_of q37) rfl (Nat.le_of_ble_eq_true rfl) (Nat.le_of_ble_eq_true rfl) (Nat.le_of_ble_eq_true rfl) (t_X12_pieces (d := d + 2) q39) (fun r9 h9 q9 => ?_)
    obtain ⟨rfl, rfl⟩ := q9
    refine g_stp (st2 := [.int v40, .int v35, .int (x3 * v30)]) (pc2 := 111) (kc2 := 0) (kn2 := 0) rfl rfl rfl rfl ?_
    refine g_iload_n dX12_wants_111 rfl ?_
    refine g_isub dX12_wants_112 ?_
    refine g_imul dX12_wants_113 ?_
    refine g_icmp_ge (tgt := 124) dX12_wants_114 (by decide) (fun c41 => ?_) (fun c41 => ?_)
    · rw [if_pos c41] at hf
      refine g_iload dX12_wants_124 rfl ?_
      refine g_weak (lv2 := [none, none, none, none, none, none]) (trivial) ?_
      exact g_X12_wants_126 hf
    · rw [if_neg c41] at hf
      refine g_aload_n dX12_wants_117 rfl ?_
      replace hf := Option.bind_eq_some_iff.mp hf
      obtain ⟨f42, q43, hf⟩ := hf
      replace hf := gB_of hf
      obtain ⟨v46, h44, q45, hf⟩ := hf
      refine g_callV (as := []) (mc1 := 0) (ms1 := 0) s_X12_166_X12_bar_12 dX12_wants_118 (gO_of q43) rfl (Nat.le_of_ble_eq_true rfl) (Nat.le_of_ble_eq_true rfl) (Nat.le_of_ble_eq_true rfl) (t_X12_bar (d := d + 1) q45) (fun r9 h9 q9 => ?_)
      obtain ⟨rfl, rfl⟩ := q9
      refine g_stp (st2 := [.int v46]) (pc2 := 121) (kc2 := 0) (kn2 := 0) rfl rfl rfl rfl ?_
      refine g_goto (tgt := 126) dX12_wants_121 (by decide) ?_
      refine g_weak (lv2 := [none, none, none, none, none, none]) (trivial) ?_
      exact g_X12_wants_126 hf
  rw [if_neg c25] at hf
  by_cases c47 : v11 = (5 : Int32)
  · rw [if_pos c47] at hf
    refine g_tswK (k := (5 : Int32)) (off := 88) (tgt := 127) dX12_wants_39 c47 (by decide) (by decide) (by decide) (by decide) ?_
    refine g_iload dX12_wants_127 rfl ?_
    refine g_iconst (v := (-1 : Int32)) dX12_wants_129 (by decide) ?_
    refine g_icmp_ne (tgt := 141) dX12_wants_130 (by decide) (fun c48 => ?_) (fun c48 => ?_)
    · rw [if_neg c48] at hf
      refine g_iload dX12_wants_141 rfl ?_
      refine g_weak (lv2 := [none, none, none, none, none, none]) (trivial) ?_
      exact g_X12_wants_143 hf
    · rw [if_pos c48] at hf
      refine g_aload_n dX12_wants_133 rfl ?_
      refine g_iload_n dX12_wants_134 rfl ?_
      replace hf := Option.bind_eq_some_iff.mp hf
      obtain ⟨f49, q50, hf⟩ := hf
      replace hf := gB_of hf
      obtain ⟨v53, h51, q52, hf⟩ := hf
      refine g_callV (as := [.int x2]) (mc1 := 0) (ms1 := 0) s_X12_191_X12_sloped_12 dX12_wants_135 (gO_of q50) rfl (Nat.le_of_ble_eq_true rfl) (Nat.le_of_ble_eq_true rfl) (Nat.le_of_ble_eq_true rfl) (t_X12_sloped (d := d + 0) q52) (fun r9 h9 q9 => ?_)
      obtain ⟨rfl, rfl⟩ := q9
      refine g_stp (st2 := [.int v53]) (pc2 := 138) (kc2 := 0) (kn2 := 0) rfl rfl rfl rfl ?_
      refine g_goto (tgt := 143) dX12_wants_138 (by decide) ?_
      refine g_weak (lv2 := [none, none, none, none, none, none]) (trivial) ?_
      exact g_X12_wants_143 hf
  rw [if_neg c47] at hf
  by_cases c54 : v11 = (6 : Int32)
  · rw [if_pos c54] at hf
    refine g_tswK (k := (6 : Int32)) (off := 105) (tgt := 144) dX12_wants_39 c54 (by decide) (by decide) (by decide) (by decide) ?_
    refine g_aload_n dX12_wants_144 rfl ?_
    replace hf := Option.bind_eq_some_iff.mp hf
    obtain ⟨f55, q56, hf⟩ := hf
    replace hf := gB_of hf
    obtain ⟨v59, h57, q58, hf⟩ := hf
    refine g_callV (as := []) (mc1 := 0) (ms1 := 0) s_X12_166_X12_bar_12 dX12_wants_145 (gO_of q56) rfl (Nat.le_of_ble_eq_true rfl) (Nat.le_of_ble_eq_true rfl) (Nat.le_of_ble_eq_true rfl) (t_X12_bar (d := d + 1) q58) (fun r9 h9 q9 => ?_)
    obtain ⟨rfl, rfl⟩ := q9
    refine g_stp (st2 := [.int v59]) (pc2 := 148) (kc2 := 0) (kn2 := 0) rfl rfl rfl rfl ?_
    refine g_iload_n dX12_wants_148 rfl ?_
    refine g_iload dX12_wants_149 rfl ?_
    refine g_icmp_lt (tgt := 158) dX12_wants_151 (by decide) (fun c60 => ?_) (fun c60 => ?_)
    · rw [if_pos c60] at hf
      refine g_iconst (v := (0 : Int32)) dX12_wants_158 (by decide) ?_
      refine g_weak (lv2 := [none, none, none, none, none, none]) (trivial) ?_
      exact g_X12_wants_159 hf
    · rw [if_neg c60] at hf
      refine g_iconst (v := (2 : Int32)) dX12_wants_154 (by decide) ?_
      refine g_goto (tgt := 159) dX12_wants_155 (by decide) ?_
      refine g_weak (lv2 := [none, none, none, none, none, none]) (trivial) ?_
      exact g_X12_wants_159 hf
  rw [if_neg c54] at hf
  have zc13 : (v11).toInt ≠ 1 := fun e => c13 (Int32.toInt_inj.mp (e.trans (by decide)))
  have zc14 : (v11).toInt ≠ 2 := fun e => c14 (Int32.toInt_inj.mp (e.trans (by decide)))
  have zc20 : (v11).toInt ≠ 3 := fun e => c20 (Int32.toInt_inj.mp (e.trans (by decide)))
  have zc25 : (v11).toInt ≠ 4 := fun e => c25 (Int32.toInt_inj.mp (e.trans (by decide)))
  have zc47 : (v11).toInt ≠ 5 := fun e => c47 (Int32.toInt_inj.mp (e.trans (by decide)))
  have zc54 : (v11).toInt ≠ 6 := fun e => c54 (Int32.toInt_inj.mp (e.trans (by decide)))
  refine g_tableOut (tgt := 161) dX12_wants_39 (by omega) (by decide) ?_
  refine g_aload_n dX12_wants_161 rfl ?_
  replace hf := Option.bind_eq_some_iff.mp hf
  obtain ⟨f61, q62, hf⟩ := hf
  replace hf := gB_of hf
  obtain ⟨v65, h63, q64, hf⟩ := hf
  refine g_callV (as := []) (mc1 := 0) (ms1 := 0) s_X12_166_X12_bar_12 dX12_wants_162 (gO_of q62) rfl (Nat.le_of_ble_eq_true rfl) (Nat.le_of_ble_eq_true rfl) (Nat.le_of_ble_eq_true rfl) (t_X12_bar (d := d + 1) q64) (fun r9 h9 q9 => ?_)
  obtain ⟨rfl, rfl⟩ := q9
  refine g_stp (st2 := [.int v65]) (pc2 := 165) (kc2 := 0) (kn2 := 0) rfl rfl rfl rfl ?_
  obtain ⟨rfl, rfl⟩ := Prod.mk.inj (Option.some.inj hf)
  exact g_iret dX12_wants_165 rfl ⟨rfl, rfl⟩ (Nat.le_of_ble_eq_true rfl) (Nat.le_of_ble_eq_true rfl)
def F_X12_wants (n : Nat) (a : Nat) (p0 : Int32) (p1 : Int32) (p2 : Int32) (h : gH) : Option (Int32 × gH) := F_X12_wants_0 n  a p0 p1 p2 h
theorem t_X12_wants {n d : Nat} {a : Nat} {p0 : Int32} {p1 : Int32} {p2 : Int32} {h rh : gH} {rv : Int32} (hf : F_X12_wants n a p0 p1 p2 h = some (rv, rh)) : T M_X12_wants (d + 3) 0 0 [.ref a, .int p0, .int p1, .int p2] h (qI rv rh) := by
  refine T_of_G (L := 2) (by decide +kernel) rfl (Nat.le_of_ble_eq_true rfl) (g_lv (lv2 := [some (.ref a), some (.int p0), some (.int p1), some (.int p2), none, none]) rfl ?_)
  exact g_X12_wants_0 hf
def F_X12_takesOf_34 (n : Nat)  : Nat → Nat → Int32 → Int32 → Int32 → gH → Option (Int32 × gH)
  | 0, _, _, _, _, _ => none
  | m + 1, x0, x2, x3, x4, h => (gO h x0 12).bind fun f1 =>
  gB (F_X12_behind n x0 x2 x4 x3 h) fun v5 h3 =>
  if 0 ≤ v5 then
  (some (x4, h3))
  else
  (F_X12_takesOf_34 n m x0 x2 x3 (x4 + (-1 : Int32)) h3)
set_option maxRecDepth 20000 in
set_option maxHeartbeats 1600000 in
theorem g_X12_takesOf_34 {n d : Nat} : ∀ {m : Nat} {x0 : Nat} {x2 : Int32} {x3 : Int32} {x4 : Int32} {h : gH} {rh : gH} {rv : Int32}, F_X12_takesOf_34 n m x0 x2 x3 x4 h = some (rv, rh) → G M_X12_takesOf (d + 4) 0 0 0 0 34 [some (.ref x0), none, some (.int x2), some (.int x3), some (.int x4)] [] h (qI rv rh) := by
  intro m
  induction m with
  | zero => intro x0 x2 x3 x4 h rh rv hf; cases hf
  | succ m t34 =>
    intro x0 x2 x3 x4 h rh rv hf
    unfold F_X12_takesOf_34 at hf
    refine g_aload_n dX12_takesOf_34 rfl ?_
    refine g_iload_n dX12_takesOf_35 rfl ?_
    refine g_iload dX12_takesOf_36 rfl ?_
    refine g_iload_n dX12_takesOf_38 rfl ?_
    replace hf := Option.bind_eq_some_iff.mp hf
    obtain ⟨f1, q2, hf⟩ := hf
    replace hf := gB_of hf
    obtain ⟨v5, h3, q4, hf⟩ := hf
    refine g_callV (as := [.int x2, .int x4, .int x3]) (mc1 := 0) (ms1 := 0) s_X12_182_X12_behind_12 dX12_takesOf_39 (gO_of q2) rfl (Nat.le_of_ble_eq_true rfl) (Nat.le_of_ble_eq_true rfl) (Nat.le_of_ble_eq_true rfl) (t_X12_behind (d := d + 1) q4) (fun r9 h9 q9 => ?_)
    obtain ⟨rfl, rfl⟩ := q9
    refine g_stp (st2 := [.int v5]) (pc2 := 42) (kc2 := 0) (kn2 := 0) rfl rfl rfl rfl ?_
    refine g_if_ge (tgt := 51) dX12_takesOf_42 (by decide) (fun c6 => ?_) (fun c6 => ?_)
    · rw [if_pos c6] at hf
      refine g_iload dX12_takesOf_51 rfl ?_
      obtain ⟨rfl, rfl⟩ := Prod.mk.inj (Option.some.inj hf)
      exact g_iret dX12_takesOf_53 rfl ⟨rfl, rfl⟩ (Nat.le_of_ble_eq_true rfl) (Nat.le_of_ble_eq_true rfl)
    · rw [if_neg c6] at hf
      refine g_iinc2 (w := (-1 : Int32)) dX12_takesOf_45 (by decide) rfl (by decide) (g_lvp (lv2 := [some (.ref x0), none, some (.int x2), some (.int x3), some (.int (x4 + (-1 : Int32)))]) (pc2 := 48) rfl rfl ?_)
      refine g_goto (tgt := 34) dX12_takesOf_48 (by decide) ?_
      exact t34 hf
def F_X12_takesOf_32 (n : Nat)  (x0 : Nat) (x2 : Int32) (x3 : Int32) (y0 : Int32) (h : gH) : Option (Int32 × gH) :=
  F_X12_takesOf_34 n n x0 x2 x3 y0 h
set_option maxRecDepth 20000 in
set_option maxHeartbeats 1600000 in
theorem g_X12_takesOf_32 {n d : Nat} : ∀ {x0 : Nat} {x2 : Int32} {x3 : Int32} {y0 : Int32} {h : gH} {rh : gH} {rv : Int32}, F_X12_takesOf_32 n x0 x2 x3 y0 h = some (rv, rh) → G M_X12_takesOf (d + 4) 0 0 0 0 32 [some (.ref x0), none, some (.int x2), some (.int x3), none] [.int y0] h (qI rv rh) := by
  intro x0 x2 x3 y0 h rh rv hf
  unfold F_X12_takesOf_32 at hf
  refine g_istore dX12_takesOf_32 (by decide) (g_lvp (lv2 := [some (.ref x0), none, some (.int x2), some (.int x3), some (.int y0)]) (pc2 := 34) rfl rfl ?_)
  exact g_X12_takesOf_34 hf
def F_X12_takesOf_0 (n : Nat)  (x0 : Nat) (x1 : Int32) (x2 : Int32) (x3 : Int32) (h : gH) : Option (Int32 × gH) :=
  (gO h x0 12).bind fun f1 =>
  gB (F_X12_wants n x0 x1 x2 x3 h) fun v5 h3 =>
  if 0 ≤ v5 then
  (if v5 ≤ (9 : Int32) then
  (F_X12_takesOf_32 n x0 x2 x3 v5 h3)
  else
  (F_X12_takesOf_32 n x0 x2 x3 (9 : Int32) h3))
  else
  (F_X12_takesOf_32 n x0 x2 x3 (0 : Int32) h3)
set_option maxRecDepth 20000 in
set_option maxHeartbeats 1600000 in
theorem g_X12_takesOf_0 {n d : Nat} : ∀ {x0 : Nat} {x1 : Int32} {x2 : Int32} {x3 : Int32} {h : gH} {rh : gH} {rv : Int32}, F_X12_takesOf_0 n x0 x1 x2 x3 h = some (rv, rh) → G M_X12_takesOf (d + 4) 0 0 0 0 0 [some (.ref x0), some (.int x1), some (.int x2), some (.int x3), none] [] h (qI rv rh) := by
  intro x0 x1 x2 x3 h rh rv hf
  unfold F_X12_takesOf_0 at hf
  refine g_aload_n dX12_takesOf_0 rfl ?_
  refine g_iload_n dX12_takesOf_1 rfl ?_
  refine g_iload_n dX12_takesOf_2 rfl ?_
  refine g_iload_n dX12_takesOf_3 rfl ?_
  replace hf := Option.bind_eq_some_iff.mp hf
  obtain ⟨f1, q2, hf⟩ := hf
  replace hf := gB_of hf
  obtain ⟨v5, h3, q4, hf⟩ := hf
  refine g_callV (as := [.int x1, .int x2, .int x3]) (mc1 := 0) (ms1 := 0) s_X12_194_X12_wants_12 dX12_takesOf_4 (gO_of q2) rfl (Nat.le_of_ble_eq_true rfl) (Nat.le_of_ble_eq_true rfl) (Nat.le_of_ble_eq_true rfl) (t_X12_wants (d := d + 0) q4) (fun r9 h9 q9 => ?_)
  obtain ⟨rfl, rfl⟩ := q9
  refine g_stp (st2 := [.int v5]) (pc2 := 7) (kc2 := 0) (kn2 := 0) rfl rfl rfl rfl ?_
  refine g_istore dX12_takesOf_7 (by decide) (g_lvp (lv2 := [some (.ref x0), some (.int x1), some (.int x2), some (.int x3), some (.int v5)]) (pc2 := 9) rfl rfl ?_)
  refine g_iload dX12_takesOf_9 rfl ?_
  refine g_if_ge (tgt := 18) dX12_takesOf_11 (by decide) (fun c6 => ?_) (fun c6 => ?_)
  · rw [if_pos c6] at hf
    refine g_iload dX12_takesOf_18 rfl ?_
    refine g_bipush (v := (9 : Int32)) dX12_takesOf_20 (by decide) ?_
    refine g_icmp_le (tgt := 30) dX12_takesOf_22 (by decide) (fun c7 => ?_) (fun c7 => ?_)
    · rw [if_pos c7] at hf
      refine g_iload dX12_takesOf_30 rfl ?_
      refine g_weak (lv2 := [some (.ref x0), none, some (.int x2), some (.int x3), none]) (And.intro rfl (And.intro rfl (And.intro rfl (trivial)))) ?_
      exact g_X12_takesOf_32 hf
    · rw [if_neg c7] at hf
      refine g_bipush (v := (9 : Int32)) dX12_takesOf_25 (by decide) ?_
      refine g_goto (tgt := 32) dX12_takesOf_27 (by decide) ?_
      refine g_weak (lv2 := [some (.ref x0), none, some (.int x2), some (.int x3), none]) (And.intro rfl (And.intro rfl (And.intro rfl (trivial)))) ?_
      exact g_X12_takesOf_32 hf
  · rw [if_neg c6] at hf
    refine g_iconst (v := (0 : Int32)) dX12_takesOf_14 (by decide) ?_
    refine g_goto (tgt := 32) dX12_takesOf_15 (by decide) ?_
    refine g_weak (lv2 := [some (.ref x0), none, some (.int x2), some (.int x3), none]) (And.intro rfl (And.intro rfl (And.intro rfl (trivial)))) ?_
    exact g_X12_takesOf_32 hf
def F_X12_takesOf (n : Nat) (a : Nat) (p0 : Int32) (p1 : Int32) (p2 : Int32) (h : gH) : Option (Int32 × gH) := F_X12_takesOf_0 n  a p0 p1 p2 h
theorem t_X12_takesOf {n d : Nat} {a : Nat} {p0 : Int32} {p1 : Int32} {p2 : Int32} {h rh : gH} {rv : Int32} (hf : F_X12_takesOf n a p0 p1 p2 h = some (rv, rh)) : T M_X12_takesOf (d + 4) 0 0 [.ref a, .int p0, .int p1, .int p2] h (qI rv rh) := by
  refine T_of_G (L := 1) (by decide +kernel) rfl (Nat.le_of_ble_eq_true rfl) (g_lv (lv2 := [some (.ref a), some (.int p0), some (.int p1), some (.int p2), none]) rfl ?_)
  exact g_X12_takesOf_0 hf
def F_X12_hots_195 (n : Nat) (fk : Nat → Int32 → Int32 → Int32 → Int32 → Int64 → Int32 → gH → Option (gH))   (h : gH) : Option (gH) :=
  some h
set_option maxRecDepth 20000 in
set_option maxHeartbeats 1600000 in
theorem g_X12_hots_195 {n d : Nat} {fk : Nat → Int32 → Int32 → Int32 → Int32 → Int64 → Int32 → gH → Option (gH)} (ft : ∀ {e : Nat} {a : Nat} {p0 : Int32} {p1 : Int32} {p2 : Int32} {p3 : Int32} {p4 : Int64} {p5 : Int32} {h rh : gH}, fk a p0 p1 p2 p3 p4 p5 h = some rh → T M_X12_hots (d + e + 4) 0 0 [.ref a, .int p0, .int p1, .int p2, .int p3, .long p4, .int p5] h (qV rh)) : ∀  {h : gH} {rh : gH}, F_X12_hots_195 n fk  h = some rh → G M_X12_hots (d + 5) 0 0 0 0 195 [none, none, none, none, none, none, none, none, none, none, none, none] [] h (qV rh) := by
  intro  h rh hf
  unfold F_X12_hots_195 at hf
  obtain rfl := Option.some.inj hf
  exact g_vret dX12_hots_195 rfl ⟨rfl, rfl⟩ (Nat.le_of_ble_eq_true rfl) (Nat.le_of_ble_eq_true rfl)
def F_X12_hots_183 (n : Nat) (fk : Nat → Int32 → Int32 → Int32 → Int32 → Int64 → Int32 → gH → Option (gH))  (x5 : Int64) (x7 : Int32) (x8 : Int32) (y0 : Nat) (y1 : Int32) (y2 : Int32) (y3 : Int32) (y4 : Int32) (y5 : Int32) (h : gH) : Option (gH) :=
  (gO h y0 12).bind fun f1 =>
  (fk y0 y1 y2 y3 (y4 + y5) (x5 * x8.toInt64) x7 h).bind fun h3 =>
  F_X12_hots_195 n fk h3
set_option maxRecDepth 20000 in
set_option maxHeartbeats 1600000 in
theorem g_X12_hots_183 {n d : Nat} {fk : Nat → Int32 → Int32 → Int32 → Int32 → Int64 → Int32 → gH → Option (gH)} (ft : ∀ {e : Nat} {a : Nat} {p0 : Int32} {p1 : Int32} {p2 : Int32} {p3 : Int32} {p4 : Int64} {p5 : Int32} {h rh : gH}, fk a p0 p1 p2 p3 p4 p5 h = some rh → T M_X12_hots (d + e + 4) 0 0 [.ref a, .int p0, .int p1, .int p2, .int p3, .long p4, .int p5] h (qV rh)) : ∀ {x5 : Int64} {x7 : Int32} {x8 : Int32} {y0 : Nat} {y1 : Int32} {y2 : Int32} {y3 : Int32} {y4 : Int32} {y5 : Int32} {h : gH} {rh : gH}, F_X12_hots_183 n fk x5 x7 x8 y0 y1 y2 y3 y4 y5 h = some rh → G M_X12_hots (d + 5) 0 0 0 0 183 [none, none, none, none, none, some (.long x5), none, some (.int x7), some (.int x8), none, none, none] [.int y5, .int y4, .int y3, .int y2, .int y1, .ref y0] h (qV rh) := by
  intro x5 x7 x8 y0 y1 y2 y3 y4 y5 h rh hf
  unfold F_X12_hots_183 at hf
  refine g_iadd dX12_hots_183 ?_
  refine g_lload dX12_hots_184 rfl ?_
  refine g_iload dX12_hots_186 rfl ?_
  refine g_i2l dX12_hots_188 rfl ?_
  refine g_lmul dX12_hots_189 ?_
  refine g_iload dX12_hots_190 rfl ?_
  replace hf := Option.bind_eq_some_iff.mp hf
  obtain ⟨f1, q2, hf⟩ := hf
  replace hf := Option.bind_eq_some_iff.mp hf
  obtain ⟨h3, q4, hf⟩ := hf
  refine g_callV (as := [.int y1, .int y2, .int y3, .int (y4 + y5), .long (x5 * x8.toInt64), .int x7]) (mc1 := 0) (ms1 := 0) s_X12_218_X12_hots_12 dX12_hots_192 (gO_of q2) rfl (Nat.le_of_ble_eq_true rfl) (Nat.le_of_ble_eq_true rfl) (Nat.le_of_ble_eq_true rfl) (ft (e := 0) q4) (fun r9 h9 q9 => ?_)
  obtain ⟨rfl, rfl⟩ := q9
  refine g_stp (st2 := []) (pc2 := 195) (kc2 := 0) (kn2 := 0) rfl rfl rfl rfl ?_
  refine g_weak (lv2 := [none, none, none, none, none, none, none, none, none, none, none, none]) (trivial) ?_
  exact g_X12_hots_195 ft hf
def F_X12_hots_167 (n : Nat) (fk : Nat → Int32 → Int32 → Int32 → Int32 → Int64 → Int32 → gH → Option (gH))  (x4 : Int32) (x5 : Int64) (x7 : Int32) (x8 : Int32) (x10 : Int32) (x11 : Int32) (y0 : Nat) (y1 : Int32) (y2 : Int32) (y3 : Int32) (h : gH) : Option (gH) :=
  if 0 ≤ x11 then
  (F_X12_hots_183 n fk x5 x7 x8 y0 y1 y2 y3 x4 x10 h)
  else
  (F_X12_hots_183 n fk x5 x7 x8 y0 y1 y2 y3 x4 ((2 : Int32) * x10) h)
set_option maxRecDepth 20000 in
set_option maxHeartbeats 1600000 in
theorem g_X12_hots_167 {n d : Nat} {fk : Nat → Int32 → Int32 → Int32 → Int32 → Int64 → Int32 → gH → Option (gH)} (ft : ∀ {e : Nat} {a : Nat} {p0 : Int32} {p1 : Int32} {p2 : Int32} {p3 : Int32} {p4 : Int64} {p5 : Int32} {h rh : gH}, fk a p0 p1 p2 p3 p4 p5 h = some rh → T M_X12_hots (d + e + 4) 0 0 [.ref a, .int p0, .int p1, .int p2, .int p3, .long p4, .int p5] h (qV rh)) : ∀ {x4 : Int32} {x5 : Int64} {x7 : Int32} {x8 : Int32} {x10 : Int32} {x11 : Int32} {y0 : Nat} {y1 : Int32} {y2 : Int32} {y3 : Int32} {h : gH} {rh : gH}, F_X12_hots_167 n fk x4 x5 x7 x8 x10 x11 y0 y1 y2 y3 h = some rh → G M_X12_hots (d + 5) 0 0 0 0 167 [none, none, none, none, some (.int x4), some (.long x5), none, some (.int x7), some (.int x8), none, some (.int x10), some (.int x11)] [.int y3, .int y2, .int y1, .ref y0] h (qV rh) := by
  intro x4 x5 x7 x8 x10 x11 y0 y1 y2 y3 h rh hf
  unfold F_X12_hots_167 at hf
  refine g_iload dX12_hots_167 rfl ?_
  refine g_iload dX12_hots_169 rfl ?_
  refine g_if_ge (tgt := 181) dX12_hots_171 (by decide) (fun c1 => ?_) (fun c1 => ?_)
  · rw [if_pos c1] at hf
    refine g_iload dX12_hots_181 rfl ?_
    refine g_weak (lv2 := [none, none, none, none, none, some (.long x5), none, some (.int x7), some (.int x8), none, none, none]) (And.intro rfl (And.intro rfl (And.intro rfl (trivial)))) ?_
    exact g_X12_hots_183 ft hf
  · rw [if_neg c1] at hf
    refine g_iconst (v := (2 : Int32)) dX12_hots_174 (by decide) ?_
    refine g_iload dX12_hots_175 rfl ?_
    refine g_imul dX12_hots_177 ?_
    refine g_goto (tgt := 183) dX12_hots_178 (by decide) ?_
    refine g_weak (lv2 := [none, none, none, none, none, some (.long x5), none, some (.int x7), some (.int x8), none, none, none]) (And.intro rfl (And.intro rfl (And.intro rfl (trivial)))) ?_
    exact g_X12_hots_183 ft hf
def F_X12_hots_149 (n : Nat) (fk : Nat → Int32 → Int32 → Int32 → Int32 → Int64 → Int32 → gH → Option (gH))  (x0 : Nat) (x1 : Int32) (x2 : Int32) (x4 : Int32) (x5 : Int64) (x7 : Int32) (x8 : Int32) (x10 : Int32) (y0 : Int32) (h : gH) : Option (gH) :=
  if 0 ≤ y0 then
  (F_X12_hots_167 n fk x4 x5 x7 x8 x10 y0 x0 x1 (x2 + (1 : Int32)) y0 h)
  else
  (F_X12_hots_167 n fk x4 x5 x7 x8 x10 y0 x0 x1 (x2 + (1 : Int32)) (0 : Int32) h)
set_option maxRecDepth 20000 in
set_option maxHeartbeats 1600000 in
theorem g_X12_hots_149 {n d : Nat} {fk : Nat → Int32 → Int32 → Int32 → Int32 → Int64 → Int32 → gH → Option (gH)} (ft : ∀ {e : Nat} {a : Nat} {p0 : Int32} {p1 : Int32} {p2 : Int32} {p3 : Int32} {p4 : Int64} {p5 : Int32} {h rh : gH}, fk a p0 p1 p2 p3 p4 p5 h = some rh → T M_X12_hots (d + e + 4) 0 0 [.ref a, .int p0, .int p1, .int p2, .int p3, .long p4, .int p5] h (qV rh)) : ∀ {x0 : Nat} {x1 : Int32} {x2 : Int32} {x4 : Int32} {x5 : Int64} {x7 : Int32} {x8 : Int32} {x10 : Int32} {y0 : Int32} {h : gH} {rh : gH}, F_X12_hots_149 n fk x0 x1 x2 x4 x5 x7 x8 x10 y0 h = some rh → G M_X12_hots (d + 5) 0 0 0 0 149 [some (.ref x0), some (.int x1), some (.int x2), none, some (.int x4), some (.long x5), none, some (.int x7), some (.int x8), none, some (.int x10), none] [.int y0] h (qV rh) := by
  intro x0 x1 x2 x4 x5 x7 x8 x10 y0 h rh hf
  unfold F_X12_hots_149 at hf
  refine g_istore dX12_hots_149 (by decide) (g_lvp (lv2 := [some (.ref x0), some (.int x1), some (.int x2), none, some (.int x4), some (.long x5), none, some (.int x7), some (.int x8), none, some (.int x10), some (.int y0)]) (pc2 := 151) rfl rfl ?_)
  refine g_aload_n dX12_hots_151 rfl ?_
  refine g_iload_n dX12_hots_152 rfl ?_
  refine g_iload_n dX12_hots_153 rfl ?_
  refine g_iconst (v := (1 : Int32)) dX12_hots_154 (by decide) ?_
  refine g_iadd dX12_hots_155 ?_
  refine g_iload dX12_hots_156 rfl ?_
  refine g_if_ge (tgt := 165) dX12_hots_158 (by decide) (fun c1 => ?_) (fun c1 => ?_)
  · rw [if_pos c1] at hf
    refine g_iload dX12_hots_165 rfl ?_
    refine g_weak (lv2 := [none, none, none, none, some (.int x4), some (.long x5), none, some (.int x7), some (.int x8), none, some (.int x10), some (.int y0)]) (And.intro rfl (And.intro rfl (And.intro rfl (And.intro rfl (And.intro rfl (And.intro rfl (trivial))))))) ?_
    exact g_X12_hots_167 ft hf
  · rw [if_neg c1] at hf
    refine g_iconst (v := (0 : Int32)) dX12_hots_161 (by decide) ?_
    refine g_goto (tgt := 167) dX12_hots_162 (by decide) ?_
    refine g_weak (lv2 := [none, none, none, none, some (.int x4), some (.long x5), none, some (.int x7), some (.int x8), none, some (.int x10), some (.int y0)]) (And.intro rfl (And.intro rfl (And.intro rfl (And.intro rfl (And.intro rfl (And.intro rfl (trivial))))))) ?_
    exact g_X12_hots_167 ft hf
def F_X12_hots_114 (n : Nat) (fk : Nat → Int32 → Int32 → Int32 → Int32 → Int64 → Int32 → gH → Option (gH))  (x0 : Nat) (x1 : Int32) (x2 : Int32) (x3 : Int32) (x4 : Int32) (x5 : Int64) (x7 : Int32) (x8 : Int32) (x9 : Int32) (x10 : Int32) (h : gH) : Option (gH) :=
  if x8 ≤ 0 then
  (F_X12_hots_195 n fk h)
  else
  ((gO h x0 12).bind fun f2 =>
  gB (F_X12_bar n x0  h) fun v6 h4 =>
  if x9 ≤ v6 then
  (F_X12_hots_149 n fk x0 x1 x2 x4 x5 x7 x8 x10 x3 h4)
  else
  ((gO h4 x0 12).bind fun f8 =>
  gB (F_X12_length n x0 x2 h4) fun v12 h10 =>
  (gO h10 x0 12).bind fun f13 =>
  gB (F_X12_bar n x0  h10) fun v17 h15 =>
  F_X12_hots_149 n fk x0 x1 x2 x4 x5 x7 x8 x10 (x3 - (((2 : Int32) * v12) * (x9 - v17))) h15))
set_option maxRecDepth 20000 in
set_option maxHeartbeats 1600000 in
theorem g_X12_hots_114 {n d : Nat} {fk : Nat → Int32 → Int32 → Int32 → Int32 → Int64 → Int32 → gH → Option (gH)} (ft : ∀ {e : Nat} {a : Nat} {p0 : Int32} {p1 : Int32} {p2 : Int32} {p3 : Int32} {p4 : Int64} {p5 : Int32} {h rh : gH}, fk a p0 p1 p2 p3 p4 p5 h = some rh → T M_X12_hots (d + e + 4) 0 0 [.ref a, .int p0, .int p1, .int p2, .int p3, .long p4, .int p5] h (qV rh)) : ∀ {x0 : Nat} {x1 : Int32} {x2 : Int32} {x3 : Int32} {x4 : Int32} {x5 : Int64} {x7 : Int32} {x8 : Int32} {x9 : Int32} {x10 : Int32} {h : gH} {rh : gH}, F_X12_hots_114 n fk x0 x1 x2 x3 x4 x5 x7 x8 x9 x10 h = some rh → G M_X12_hots (d + 5) 0 0 0 0 114 [some (.ref x0), some (.int x1), some (.int x2), some (.int x3), some (.int x4), some (.long x5), none, some (.int x7), some (.int x8), some (.int x9), some (.int x10), none] [] h (qV rh) := by
  intro x0 x1 x2 x3 x4 x5 x7 x8 x9 x10 h rh hf
  unfold F_X12_hots_114 at hf
  refine g_iload dX12_hots_114 rfl ?_
  refine g_if_le (tgt := 195) dX12_hots_116 (by decide) (fun c1 => ?_) (fun c1 => ?_)
  · rw [if_pos c1] at hf
    refine g_weak (lv2 := [none, none, none, none, none, none, none, none, none, none, none, none]) (trivial) ?_
    exact g_X12_hots_195 ft hf
  · rw [if_neg c1] at hf
    refine g_iload dX12_hots_119 rfl ?_
    refine g_aload_n dX12_hots_121 rfl ?_
    replace hf := Option.bind_eq_some_iff.mp hf
    obtain ⟨f2, q3, hf⟩ := hf
    replace hf := gB_of hf
    obtain ⟨v6, h4, q5, hf⟩ := hf
    refine g_callV (as := []) (mc1 := 0) (ms1 := 0) s_X12_166_X12_bar_12 dX12_hots_122 (gO_of q3) rfl (Nat.le_of_ble_eq_true rfl) (Nat.le_of_ble_eq_true rfl) (Nat.le_of_ble_eq_true rfl) (t_X12_bar (d := d + 3) q5) (fun r9 h9 q9 => ?_)
    obtain ⟨rfl, rfl⟩ := q9
    refine g_stp (st2 := [.int v6, .int x9]) (pc2 := 125) (kc2 := 0) (kn2 := 0) rfl rfl rfl rfl ?_
    refine g_icmp_le (tgt := 148) dX12_hots_125 (by decide) (fun c7 => ?_) (fun c7 => ?_)
    · rw [if_pos c7] at hf
      refine g_iload_n dX12_hots_148 rfl ?_
      refine g_weak (lv2 := [some (.ref x0), some (.int x1), some (.int x2), none, some (.int x4), some (.long x5), none, some (.int x7), some (.int x8), none, some (.int x10), none]) (And.intro rfl (And.intro rfl (And.intro rfl (And.intro rfl (And.intro rfl (And.intro rfl (And.intro rfl (And.intro rfl (trivial))))))))) ?_
      exact g_X12_hots_149 ft hf
    · rw [if_neg c7] at hf
      refine g_iload_n dX12_hots_128 rfl ?_
      refine g_iconst (v := (2 : Int32)) dX12_hots_129 (by decide) ?_
      refine g_aload_n dX12_hots_130 rfl ?_
      refine g_iload_n dX12_hots_131 rfl ?_
      replace hf := Option.bind_eq_some_iff.mp hf
      obtain ⟨f8, q9, hf⟩ := hf
      replace hf := gB_of hf
      obtain ⟨v12, h10, q11, hf⟩ := hf
      refine g_callV (as := [.int x2]) (mc1 := 0) (ms1 := 0) s_X12_155_X12_length_12 dX12_hots_132 (gO_of q9) rfl (Nat.le_of_ble_eq_true rfl) (Nat.le_of_ble_eq_true rfl) (Nat.le_of_ble_eq_true rfl) (t_X12_length (d := d + 4) q11) (fun r9 h9 q9 => ?_)
      obtain ⟨rfl, rfl⟩ := q9
      refine g_stp (st2 := [.int v12, .int (2 : Int32), .int x3]) (pc2 := 135) (kc2 := 0) (kn2 := 0) rfl rfl rfl rfl ?_
      refine g_imul dX12_hots_135 ?_
      refine g_iload dX12_hots_136 rfl ?_
      refine g_aload_n dX12_hots_138 rfl ?_
      replace hf := Option.bind_eq_some_iff.mp hf
      obtain ⟨f13, q14, hf⟩ := hf
      replace hf := gB_of hf
      obtain ⟨v17, h15, q16, hf⟩ := hf
      refine g_callV (as := []) (mc1 := 0) (ms1 := 0) s_X12_166_X12_bar_12 dX12_hots_139 (gO_of q14) rfl (Nat.le_of_ble_eq_true rfl) (Nat.le_of_ble_eq_true rfl) (Nat.le_of_ble_eq_true rfl) (t_X12_bar (d := d + 3) q16) (fun r9 h9 q9 => ?_)
      obtain ⟨rfl, rfl⟩ := q9
      refine g_stp (st2 := [.int v17, .int x9, .int ((2 : Int32) * v12), .int x3]) (pc2 := 142) (kc2 := 0) (kn2 := 0) rfl rfl rfl rfl ?_
      refine g_isub dX12_hots_142 ?_
      refine g_imul dX12_hots_143 ?_
      refine g_isub dX12_hots_144 ?_
      refine g_goto (tgt := 149) dX12_hots_145 (by decide) ?_
      refine g_weak (lv2 := [some (.ref x0), some (.int x1), some (.int x2), none, some (.int x4), some (.long x5), none, some (.int x7), some (.int x8), none, some (.int x10), none]) (And.intro rfl (And.intro rfl (And.intro rfl (And.intro rfl (And.intro rfl (And.intro rfl (And.intro rfl (And.intro rfl (trivial))))))))) ?_
      exact g_X12_hots_149 ft hf
def F_X12_hots_41 (n : Nat) (fk : Nat → Int32 → Int32 → Int32 → Int32 → Int64 → Int32 → gH → Option (gH))  (y0 : Nat) (y1 : Int64) (y2 : Int64) (h : gH) : Option (gH) :=
  (pF h y0 12 17 (.long (y1 + y2))).bind fun h1 =>
  some h1
set_option maxRecDepth 20000 in
set_option maxHeartbeats 1600000 in
theorem g_X12_hots_41 {n d : Nat} {fk : Nat → Int32 → Int32 → Int32 → Int32 → Int64 → Int32 → gH → Option (gH)} (ft : ∀ {e : Nat} {a : Nat} {p0 : Int32} {p1 : Int32} {p2 : Int32} {p3 : Int32} {p4 : Int64} {p5 : Int32} {h rh : gH}, fk a p0 p1 p2 p3 p4 p5 h = some rh → T M_X12_hots (d + e + 4) 0 0 [.ref a, .int p0, .int p1, .int p2, .int p3, .long p4, .int p5] h (qV rh)) : ∀ {y0 : Nat} {y1 : Int64} {y2 : Int64} {h : gH} {rh : gH}, F_X12_hots_41 n fk y0 y1 y2 h = some rh → G M_X12_hots (d + 5) 0 0 0 0 41 [none, none, none, none, none, none, none, none, none, none, none, none] [.long y2, .long y1, .ref y0] h (qV rh) := by
  intro y0 y1 y2 h rh hf
  unfold F_X12_hots_41 at hf
  refine g_ladd dX12_hots_41 ?_
  replace hf := Option.bind_eq_some_iff.mp hf
  obtain ⟨h1, q2, hf⟩ := hf
  refine g_pF p_X12_215 dX12_hots_42 q2 (fun _ => rfl) (fun _ => rfl) ?_
  obtain rfl := Option.some.inj hf
  exact g_vret dX12_hots_45 rfl ⟨rfl, rfl⟩ (Nat.le_of_ble_eq_true rfl) (Nat.le_of_ble_eq_true rfl)
def F_X12_hots_0 (n : Nat) (fk : Nat → Int32 → Int32 → Int32 → Int32 → Int64 → Int32 → gH → Option (gH))  (x0 : Nat) (x1 : Int32) (x2 : Int32) (x3 : Int32) (x4 : Int32) (x5 : Int64) (x7 : Int32) (h : gH) : Option (gH) :=
  (gO h x0 12).bind fun f1 =>
  gB (F_X12_pieces n x0  h) fun v5 h3 =>
  if x2 = v5 then
  ((gL h3 x0 12 16).bind fun v32 =>
  (pF h3 x0 12 16 (.long (v32 + (x5 * x4.toInt64)))).bind fun h34 =>
  (gL h34 x0 12 17).bind fun v36 =>
  if x7 < x4 then
  (F_X12_hots_41 n fk x0 v36 (0 : Int64) h34)
  else
  (F_X12_hots_41 n fk x0 v36 x5 h34))
  else
  ((gO h3 x0 12).bind fun f7 =>
  gB (F_X12_tellsOf n x0 (238 : Int32) (0 : Int32) h3) fun v11 h9 =>
  (gO h9 x0 12).bind fun f12 =>
  gB (F_X12_takesOf n x0 x1 x2 x3 h9) fun v16 h14 =>
  (gO h14 x0 12).bind fun f17 =>
  gB (F_X12_secondsOf n x0 x2 v16 x3 h14) fun v21 h19 =>
  if (10 : Int32) ≤ v11 then
  (F_X12_hots_114 n fk x0 x1 x2 x3 x4 x5 x7 v11 v16 v21 h19)
  else
  ((gO h19 x0 12).bind fun f23 =>
  gB (F_X12_behind n x0 x2 v16 x3 h19) fun v27 h25 =>
  (gO h25 x0 12).bind fun f28 =>
  (fk x0 x1 (x2 + (1 : Int32)) v27 (x4 + v21) (x5 * ((10 : Int32) - v11).toInt64) x7 h25).bind fun h30 =>
  F_X12_hots_114 n fk x0 x1 x2 x3 x4 x5 x7 v11 v16 v21 h30))
set_option maxRecDepth 20000 in
set_option maxHeartbeats 1600000 in
theorem g_X12_hots_0 {n d : Nat} {fk : Nat → Int32 → Int32 → Int32 → Int32 → Int64 → Int32 → gH → Option (gH)} (ft : ∀ {e : Nat} {a : Nat} {p0 : Int32} {p1 : Int32} {p2 : Int32} {p3 : Int32} {p4 : Int64} {p5 : Int32} {h rh : gH}, fk a p0 p1 p2 p3 p4 p5 h = some rh → T M_X12_hots (d + e + 4) 0 0 [.ref a, .int p0, .int p1, .int p2, .int p3, .long p4, .int p5] h (qV rh)) : ∀ {x0 : Nat} {x1 : Int32} {x2 : Int32} {x3 : Int32} {x4 : Int32} {x5 : Int64} {x7 : Int32} {h : gH} {rh : gH}, F_X12_hots_0 n fk x0 x1 x2 x3 x4 x5 x7 h = some rh → G M_X12_hots (d + 5) 0 0 0 0 0 [some (.ref x0), some (.int x1), some (.int x2), some (.int x3), some (.int x4), some (.long x5), none, some (.int x7), none, none, none, none] [] h (qV rh) := by
  intro x0 x1 x2 x3 x4 x5 x7 h rh hf
  unfold F_X12_hots_0 at hf
  refine g_iload_n dX12_hots_0 rfl ?_
  refine g_aload_n dX12_hots_1 rfl ?_
  replace hf := Option.bind_eq_some_iff.mp hf
  obtain ⟨f1, q2, hf⟩ := hf
  replace hf := gB_of hf
  obtain ⟨v5, h3, q4, hf⟩ := hf
  refine g_callV (as := []) (mc1 := 0) (ms1 := 0) s_X12_48_X12_pieces_12 dX12_hots_2 (gO_of q2) rfl (Nat.le_of_ble_eq_true rfl) (Nat.le_of_ble_eq_true rfl) (Nat.le_of_ble_eq_true rfl) (t_X12_pieces (d := d + 4) q4) (fun r9 h9 q9 => ?_)
  obtain ⟨rfl, rfl⟩ := q9
  refine g_stp (st2 := [.int v5, .int x2]) (pc2 := 5) (kc2 := 0) (kn2 := 0) rfl rfl rfl rfl ?_
  refine g_icmp_ne (tgt := 46) dX12_hots_5 (by decide) (fun c6 => ?_) (fun c6 => ?_)
  · rw [if_neg c6] at hf
    refine g_aload_n dX12_hots_46 rfl ?_
    refine g_sipush (v := (238 : Int32)) dX12_hots_47 (by decide) ?_
    refine g_iconst (v := (0 : Int32)) dX12_hots_50 (by decide) ?_
    replace hf := Option.bind_eq_some_iff.mp hf
    obtain ⟨f7, q8, hf⟩ := hf
    replace hf := gB_of hf
    obtain ⟨v11, h9, q10, hf⟩ := hf
    refine g_callV (as := [.int (238 : Int32), .int (0 : Int32)]) (mc1 := 0) (ms1 := 0) s_X12_52_X12_tellsOf_12 dX12_hots_51 (gO_of q8) rfl (Nat.le_of_ble_eq_true rfl) (Nat.le_of_ble_eq_true rfl) (Nat.le_of_ble_eq_true rfl) (t_X12_tellsOf (d := d + 4) q10) (fun r9 h9 q9 => ?_)
    obtain ⟨rfl, rfl⟩ := q9
    refine g_stp (st2 := [.int v11]) (pc2 := 54) (kc2 := 0) (kn2 := 0) rfl rfl rfl rfl ?_
    refine g_istore dX12_hots_54 (by decide) (g_lvp (lv2 := [some (.ref x0), some (.int x1), some (.int x2), some (.int x3), some (.int x4), some (.long x5), none, some (.int x7), some (.int v11), none, none, none]) (pc2 := 56) rfl rfl ?_)
    refine g_aload_n dX12_hots_56 rfl ?_
    refine g_iload_n dX12_hots_57 rfl ?_
    refine g_iload_n dX12_hots_58 rfl ?_
    refine g_iload_n dX12_hots_59 rfl ?_
    replace hf := Option.bind_eq_some_iff.mp hf
    obtain ⟨f12, q13, hf⟩ := hf
    replace hf := gB_of hf
    obtain ⟨v16, h14, q15, hf⟩ := hf
    refine g_callV (as := [.int x1, .int x2, .int x3]) (mc1 := 0) (ms1 := 0) s_X12_197_X12_takesOf_12 dX12_hots_60 (gO_of q13) rfl (Nat.le_of_ble_eq_true rfl) (Nat.le_of_ble_eq_true rfl) (Nat.le_of_ble_eq_true rfl) (t_X12_takesOf (d := d + 0) q15) (fun r9 h9 q9 => ?_)
    obtain ⟨rfl, rfl⟩ := q9
    refine g_stp (st2 := [.int v16]) (pc2 := 63) (kc2 := 0) (kn2 := 0) rfl rfl rfl rfl ?_
    refine g_istore dX12_hots_63 (by decide) (g_lvp (lv2 := [some (.ref x0), some (.int x1), some (.int x2), some (.int x3), some (.int x4), some (.long x5), none, some (.int x7), some (.int v11), some (.int v16), none, none]) (pc2 := 65) rfl rfl ?_)
    refine g_aload_n dX12_hots_65 rfl ?_
    refine g_iload_n dX12_hots_66 rfl ?_
    refine g_iload dX12_hots_67 rfl ?_
    refine g_iload_n dX12_hots_69 rfl ?_
    replace hf := Option.bind_eq_some_iff.mp hf
    obtain ⟨f17, q18, hf⟩ := hf
    replace hf := gB_of hf
    obtain ⟨v21, h19, q20, hf⟩ := hf
    refine g_callV (as := [.int x2, .int v16, .int x3]) (mc1 := 0) (ms1 := 0) s_X12_179_X12_secondsOf_12 dX12_hots_70 (gO_of q18) rfl (Nat.le_of_ble_eq_true rfl) (Nat.le_of_ble_eq_true rfl) (Nat.le_of_ble_eq_true rfl) (t_X12_secondsOf (d := d + 2) q20) (fun r9 h9 q9 => ?_)
    obtain ⟨rfl, rfl⟩ := q9
    refine g_stp (st2 := [.int v21]) (pc2 := 73) (kc2 := 0) (kn2 := 0) rfl rfl rfl rfl ?_
    refine g_istore dX12_hots_73 (by decide) (g_lvp (lv2 := [some (.ref x0), some (.int x1), some (.int x2), some (.int x3), some (.int x4), some (.long x5), none, some (.int x7), some (.int v11), some (.int v16), some (.int v21), none]) (pc2 := 75) rfl rfl ?_)
    refine g_iload dX12_hots_75 rfl ?_
    refine g_bipush (v := (10 : Int32)) dX12_hots_77 (by decide) ?_
    refine g_icmp_ge (tgt := 114) dX12_hots_79 (by decide) (fun c22 => ?_) (fun c22 => ?_)
    · rw [if_pos c22] at hf
      exact g_X12_hots_114 ft hf
    · rw [if_neg c22] at hf
      refine g_aload_n dX12_hots_82 rfl ?_
      refine g_iload_n dX12_hots_83 rfl ?_
      refine g_iload_n dX12_hots_84 rfl ?_
      refine g_iconst (v := (1 : Int32)) dX12_hots_85 (by decide) ?_
      refine g_iadd dX12_hots_86 ?_
      refine g_aload_n dX12_hots_87 rfl ?_
      refine g_iload_n dX12_hots_88 rfl ?_
      refine g_iload dX12_hots_89 rfl ?_
      refine g_iload_n dX12_hots_91 rfl ?_
      replace hf := Option.bind_eq_some_iff.mp hf
      obtain ⟨f23, q24, hf⟩ := hf
      replace hf := gB_of hf
      obtain ⟨v27, h25, q26, hf⟩ := hf
      refine g_callV (as := [.int x2, .int v16, .int x3]) (mc1 := 0) (ms1 := 0) s_X12_182_X12_behind_12 dX12_hots_92 (gO_of q24) rfl (Nat.le_of_ble_eq_true rfl) (Nat.le_of_ble_eq_true rfl) (Nat.le_of_ble_eq_true rfl) (t_X12_behind (d := d + 2) q26) (fun r9 h9 q9 => ?_)
      obtain ⟨rfl, rfl⟩ := q9
      refine g_stp (st2 := [.int v27, .int (x2 + (1 : Int32)), .int x1, .ref x0]) (pc2 := 95) (kc2 := 0) (kn2 := 0) rfl rfl rfl rfl ?_
      refine g_iload dX12_hots_95 rfl ?_
      refine g_iload dX12_hots_97 rfl ?_
      refine g_iadd dX12_hots_99 ?_
      refine g_lload dX12_hots_100 rfl ?_
      refine g_bipush (v := (10 : Int32)) dX12_hots_102 (by decide) ?_
      refine g_iload dX12_hots_104 rfl ?_
      refine g_isub dX12_hots_106 ?_
      refine g_i2l dX12_hots_107 rfl ?_
      refine g_lmul dX12_hots_108 ?_
      refine g_iload dX12_hots_109 rfl ?_
      replace hf := Option.bind_eq_some_iff.mp hf
      obtain ⟨f28, q29, hf⟩ := hf
      replace hf := Option.bind_eq_some_iff.mp hf
      obtain ⟨h30, q31, hf⟩ := hf
      refine g_callV (as := [.int x1, .int (x2 + (1 : Int32)), .int v27, .int (x4 + v21), .long (x5 * ((10 : Int32) - v11).toInt64), .int x7]) (mc1 := 0) (ms1 := 0) s_X12_218_X12_hots_12 dX12_hots_111 (gO_of q29) rfl (Nat.le_of_ble_eq_true rfl) (Nat.le_of_ble_eq_true rfl) (Nat.le_of_ble_eq_true rfl) (ft (e := 0) q31) (fun r9 h9 q9 => ?_)
      obtain ⟨rfl, rfl⟩ := q9
      refine g_stp (st2 := []) (pc2 := 114) (kc2 := 0) (kn2 := 0) rfl rfl rfl rfl ?_
      exact g_X12_hots_114 ft hf
  · rw [if_pos c6] at hf
    refine g_aload_n dX12_hots_8 rfl ?_
    refine g_dup dX12_hots_9 rfl ?_
    replace hf := Option.bind_eq_some_iff.mp hf
    obtain ⟨v32, q33, hf⟩ := hf
    refine g_gL f_X12_211 dX12_hots_10 q33 ?_
    refine g_lload dX12_hots_13 rfl ?_
    refine g_iload dX12_hots_15 rfl ?_
    refine g_i2l dX12_hots_17 rfl ?_
    refine g_lmul dX12_hots_18 ?_
    refine g_ladd dX12_hots_19 ?_
    replace hf := Option.bind_eq_some_iff.mp hf
    obtain ⟨h34, q35, hf⟩ := hf
    refine g_pF p_X12_211 dX12_hots_20 q35 (fun _ => rfl) (fun _ => rfl) ?_
    refine g_aload_n dX12_hots_23 rfl ?_
    refine g_dup dX12_hots_24 rfl ?_
    replace hf := Option.bind_eq_some_iff.mp hf
    obtain ⟨v36, q37, hf⟩ := hf
    refine g_gL f_X12_215 dX12_hots_25 q37 ?_
    refine g_iload dX12_hots_28 rfl ?_
    refine g_iload dX12_hots_30 rfl ?_
    refine g_icmp_gt (tgt := 40) dX12_hots_32 (by decide) (fun c38 => ?_) (fun c38 => ?_)
    · rw [if_pos c38] at hf
      refine g_lconst (v := (0 : Int64)) dX12_hots_40 (by decide) ?_
      refine g_weak (lv2 := [none, none, none, none, none, none, none, none, none, none, none, none]) (trivial) ?_
      exact g_X12_hots_41 ft hf
    · rw [if_neg c38] at hf
      refine g_lload dX12_hots_35 rfl ?_
      refine g_goto (tgt := 41) dX12_hots_37 (by decide) ?_
      refine g_weak (lv2 := [none, none, none, none, none, none, none, none, none, none, none, none]) (trivial) ?_
      exact g_X12_hots_41 ft hf
def FB_X12_hots (n : Nat) (fk : Nat → Int32 → Int32 → Int32 → Int32 → Int64 → Int32 → gH → Option (gH)) (a : Nat) (p0 : Int32) (p1 : Int32) (p2 : Int32) (p3 : Int32) (p4 : Int64) (p5 : Int32) (h : gH) : Option (gH) := F_X12_hots_0 n fk  a p0 p1 p2 p3 p4 p5 h
theorem tb_X12_hots {n d : Nat} {fk : Nat → Int32 → Int32 → Int32 → Int32 → Int64 → Int32 → gH → Option (gH)} (ft : ∀ {e : Nat} {a : Nat} {p0 : Int32} {p1 : Int32} {p2 : Int32} {p3 : Int32} {p4 : Int64} {p5 : Int32} {h rh : gH}, fk a p0 p1 p2 p3 p4 p5 h = some rh → T M_X12_hots (d + e + 4) 0 0 [.ref a, .int p0, .int p1, .int p2, .int p3, .long p4, .int p5] h (qV rh)) {a : Nat} {p0 : Int32} {p1 : Int32} {p2 : Int32} {p3 : Int32} {p4 : Int64} {p5 : Int32} {h rh : gH} (hf : FB_X12_hots n fk a p0 p1 p2 p3 p4 p5 h = some rh) : T M_X12_hots (d + 5) 0 0 [.ref a, .int p0, .int p1, .int p2, .int p3, .long p4, .int p5] h (qV rh) := by
  refine T_of_G (L := 4) (by decide +kernel) rfl (Nat.le_of_ble_eq_true rfl) (g_lv (lv2 := [some (.ref a), some (.int p0), some (.int p1), some (.int p2), some (.int p3), some (.long p4), none, some (.int p5), none, none, none, none]) rfl ?_)
  exact g_X12_hots_0 ft hf
def F_X12_hots_r (n : Nat) : Nat → Nat → Int32 → Int32 → Int32 → Int32 → Int64 → Int32 → gH → Option (gH)
  | 0, _, _, _, _, _, _, _, _ => none
  | m + 1, a, p0, p1, p2, p3, p4, p5, h => FB_X12_hots n (F_X12_hots_r n m) a p0 p1 p2 p3 p4 p5 h
theorem tr_X12_hots {n : Nat} : ∀ {m d : Nat} {a : Nat} {p0 : Int32} {p1 : Int32} {p2 : Int32} {p3 : Int32} {p4 : Int64} {p5 : Int32} {h rh : gH}, F_X12_hots_r n m a p0 p1 p2 p3 p4 p5 h = some rh → T M_X12_hots (d + 1 * m + 4) 0 0 [.ref a, .int p0, .int p1, .int p2, .int p3, .long p4, .int p5] h (qV rh) := by
  intro m
  induction m with
  | zero => intro d a p0 p1 p2 p3 p4 p5 h rh hf; cases hf
  | succ m ih =>
    intro d a p0 p1 p2 p3 p4 p5 h rh hf
    have e : d + 1 * (m + 1) + 4 = d + 1 * m + 5 := by omega
    rw [e]
    refine tb_X12_hots (n := n) (fk := F_X12_hots_r n m) (d := d + 1 * m) (@fun e9 => by intros; rw [show d + 1 * m + e9 + 4 = d + e9 + 1 * m + 4 from by omega]; exact ih (by assumption)) hf
def F_X12_hots (n : Nat) (a : Nat) (p0 : Int32) (p1 : Int32) (p2 : Int32) (p3 : Int32) (p4 : Int64) (p5 : Int32) (h : gH) : Option (gH) := F_X12_hots_r n 12 a p0 p1 p2 p3 p4 p5 h
theorem t_X12_hots {n d : Nat} {a : Nat} {p0 : Int32} {p1 : Int32} {p2 : Int32} {p3 : Int32} {p4 : Int64} {p5 : Int32} {h rh : gH} (hf : F_X12_hots n a p0 p1 p2 p3 p4 p5 h = some rh) : T M_X12_hots (d + 16) 0 0 [.ref a, .int p0, .int p1, .int p2, .int p3, .long p4, .int p5] h (qV rh) := tr_X12_hots (n := n) (m := 12) (d := d) hf
def F_X12_heats_0 (n : Nat)  (x0 : Nat) (x1 : Int32) (x2 : Int32) (h : gH) : Option (gH) :=
  (gO h x0 12).bind fun f1 =>
  (F_X12_looks n x0 (1023 : Int32) h).bind fun h3 =>
  (pF h3 x0 12 16 (.long (0 : Int64))).bind fun h5 =>
  (pF h5 x0 12 17 (.long (0 : Int64))).bind fun h7 =>
  (gO h7 x0 12).bind fun f9 =>
  gB (F_X12_most n x0  h7) fun v13 h11 =>
  (gO h11 x0 12).bind fun f14 =>
  (F_X12_hots n x0 x1 (0 : Int32) v13 (0 : Int32) (1 : Int64) x2 h11).bind fun h16 =>
  some h16
set_option maxRecDepth 20000 in
set_option maxHeartbeats 1600000 in
theorem g_X12_heats_0 {n d : Nat} : ∀ {x0 : Nat} {x1 : Int32} {x2 : Int32} {h : gH} {rh : gH}, F_X12_heats_0 n x0 x1 x2 h = some rh → G M_X12_heats (d + 17) 0 0 0 0 0 [some (.ref x0), some (.int x1), some (.int x2)] [] h (qV rh) := by
  intro x0 x1 x2 h rh hf
  unfold F_X12_heats_0 at hf
  refine g_aload_n dX12_heats_0 rfl ?_
  refine g_sipush (v := (1023 : Int32)) dX12_heats_1 (by decide) ?_
  replace hf := Option.bind_eq_some_iff.mp hf
  obtain ⟨f1, q2, hf⟩ := hf
  replace hf := Option.bind_eq_some_iff.mp hf
  obtain ⟨h3, q4, hf⟩ := hf
  refine g_callV (as := [.int (1023 : Int32)]) (mc1 := 0) (ms1 := 0) s_X12_185_X12_looks_12 dX12_heats_4 (gO_of q2) rfl (Nat.le_of_ble_eq_true rfl) (Nat.le_of_ble_eq_true rfl) (Nat.le_of_ble_eq_true rfl) (t_X12_looks (d := d + 13) q4) (fun r9 h9 q9 => ?_)
  obtain ⟨rfl, rfl⟩ := q9
  refine g_stp (st2 := []) (pc2 := 7) (kc2 := 0) (kn2 := 0) rfl rfl rfl rfl ?_
  refine g_aload_n dX12_heats_7 rfl ?_
  refine g_lconst (v := (0 : Int64)) dX12_heats_8 (by decide) ?_
  replace hf := Option.bind_eq_some_iff.mp hf
  obtain ⟨h5, q6, hf⟩ := hf
  refine g_pF p_X12_211 dX12_heats_9 q6 (fun _ => rfl) (fun _ => rfl) ?_
  refine g_aload_n dX12_heats_12 rfl ?_
  refine g_lconst (v := (0 : Int64)) dX12_heats_13 (by decide) ?_
  replace hf := Option.bind_eq_some_iff.mp hf
  obtain ⟨h7, q8, hf⟩ := hf
  refine g_pF p_X12_215 dX12_heats_14 q8 (fun _ => rfl) (fun _ => rfl) ?_
  refine g_aload_n dX12_heats_17 rfl ?_
  refine g_iload_n dX12_heats_18 rfl ?_
  refine g_iconst (v := (0 : Int32)) dX12_heats_19 (by decide) ?_
  refine g_aload_n dX12_heats_20 rfl ?_
  replace hf := Option.bind_eq_some_iff.mp hf
  obtain ⟨f9, q10, hf⟩ := hf
  replace hf := gB_of hf
  obtain ⟨v13, h11, q12, hf⟩ := hf
  refine g_callV (as := []) (mc1 := 0) (ms1 := 0) s_X12_56_X12_most_12 dX12_heats_21 (gO_of q10) rfl (Nat.le_of_ble_eq_true rfl) (Nat.le_of_ble_eq_true rfl) (Nat.le_of_ble_eq_true rfl) (t_X12_most (d := d + 15) q12) (fun r9 h9 q9 => ?_)
  obtain ⟨rfl, rfl⟩ := q9
  refine g_stp (st2 := [.int v13, .int (0 : Int32), .int x1, .ref x0]) (pc2 := 24) (kc2 := 0) (kn2 := 0) rfl rfl rfl rfl ?_
  refine g_iconst (v := (0 : Int32)) dX12_heats_24 (by decide) ?_
  refine g_lconst (v := (1 : Int64)) dX12_heats_25 (by decide) ?_
  refine g_iload_n dX12_heats_26 rfl ?_
  replace hf := Option.bind_eq_some_iff.mp hf
  obtain ⟨f14, q15, hf⟩ := hf
  replace hf := Option.bind_eq_some_iff.mp hf
  obtain ⟨h16, q17, hf⟩ := hf
  refine g_callV (as := [.int x1, .int (0 : Int32), .int v13, .int (0 : Int32), .long (1 : Int64), .int x2]) (mc1 := 0) (ms1 := 0) s_X12_218_X12_hots_12 dX12_heats_27 (gO_of q15) rfl (Nat.le_of_ble_eq_true rfl) (Nat.le_of_ble_eq_true rfl) (Nat.le_of_ble_eq_true rfl) (t_X12_hots (d := d + 0) q17) (fun r9 h9 q9 => ?_)
  obtain ⟨rfl, rfl⟩ := q9
  refine g_stp (st2 := []) (pc2 := 30) (kc2 := 0) (kn2 := 0) rfl rfl rfl rfl ?_
  obtain rfl := Option.some.inj hf
  exact g_vret dX12_heats_30 rfl ⟨rfl, rfl⟩ (Nat.le_of_ble_eq_true rfl) (Nat.le_of_ble_eq_true rfl)
def F_X12_heats (n : Nat) (a : Nat) (p0 : Int32) (p1 : Int32) (h : gH) : Option (gH) := F_X12_heats_0 n  a p0 p1 h
theorem t_X12_heats {n d : Nat} {a : Nat} {p0 : Int32} {p1 : Int32} {h rh : gH} (hf : F_X12_heats n a p0 p1 h = some rh) : T M_X12_heats (d + 17) 0 0 [.ref a, .int p0, .int p1] h (qV rh) := by
  refine T_of_G (L := 0) (by decide +kernel) rfl (Nat.le_of_ble_eq_true rfl) (g_lv (lv2 := [some (.ref a), some (.int p0), some (.int p1)]) rfl ?_)
  exact g_X12_heats_0 hf
def F_X12_image_2 (n : Nat)  : Nat → Nat → Int32 → gH → Option (Int32 × gH)
  | 0, _, _, _ => none
  | m + 1, x0, x1, h => if (1118 : Int32) ≤ x1 then
  ((pZ h x0 12 3 (1 : Int32)).bind fun h2 =>
  (gR h2 x0 12 1).bind fun v4 =>
  (aI h2 v4 (0 : Int32)).bind fun v6 =>
  some (v6, h2))
  else
  ((gR h x0 12 2).bind fun v8 =>
  (gR h x0 12 1).bind fun v10 =>
  (aI h v10 x1).bind fun v12 =>
  (sI h v8 x1 v12).bind fun h14 =>
  F_X12_image_2 n m x0 (x1 + (1 : Int32)) h14)
set_option maxRecDepth 20000 in
set_option maxHeartbeats 1600000 in
theorem g_X12_image_2 {n d : Nat} : ∀ {m : Nat} {x0 : Nat} {x1 : Int32} {h : gH} {rh : gH} {rv : Int32}, F_X12_image_2 n m x0 x1 h = some (rv, rh) → G M_X12_image d 0 0 0 0 2 [some (.ref x0), some (.int x1)] [] h (qI rv rh) := by
  intro m
  induction m with
  | zero => intro x0 x1 h rh rv hf; cases hf
  | succ m t2 =>
    intro x0 x1 h rh rv hf
    unfold F_X12_image_2 at hf
    refine g_iload_n dX12_image_2 rfl ?_
    refine g_sipush (v := (1118 : Int32)) dX12_image_3 (by decide) ?_
    refine g_icmp_ge (tgt := 27) dX12_image_6 (by decide) (fun c1 => ?_) (fun c1 => ?_)
    · rw [if_pos c1] at hf
      refine g_aload_n dX12_image_27 rfl ?_
      refine g_iconst (v := (1 : Int32)) dX12_image_28 (by decide) ?_
      replace hf := Option.bind_eq_some_iff.mp hf
      obtain ⟨h2, q3, hf⟩ := hf
      refine g_pZ p_X12_287 dX12_image_29 q3 ?_
      refine g_aload_n dX12_image_32 rfl ?_
      replace hf := Option.bind_eq_some_iff.mp hf
      obtain ⟨v4, q5, hf⟩ := hf
      refine g_gR f_X12_9 dX12_image_33 q5 ?_
      refine g_iconst (v := (0 : Int32)) dX12_image_36 (by decide) ?_
      replace hf := Option.bind_eq_some_iff.mp hf
      obtain ⟨v6, q7, hf⟩ := hf
      refine g_aI dX12_image_37 q7 ?_
      obtain ⟨rfl, rfl⟩ := Prod.mk.inj (Option.some.inj hf)
      exact g_iret dX12_image_38 rfl ⟨rfl, rfl⟩ (Nat.le_of_ble_eq_true rfl) (Nat.le_of_ble_eq_true rfl)
    · rw [if_neg c1] at hf
      refine g_aload_n dX12_image_9 rfl ?_
      replace hf := Option.bind_eq_some_iff.mp hf
      obtain ⟨v8, q9, hf⟩ := hf
      refine g_gR f_X12_15 dX12_image_10 q9 ?_
      refine g_iload_n dX12_image_13 rfl ?_
      refine g_aload_n dX12_image_14 rfl ?_
      replace hf := Option.bind_eq_some_iff.mp hf
      obtain ⟨v10, q11, hf⟩ := hf
      refine g_gR f_X12_9 dX12_image_15 q11 ?_
      refine g_iload_n dX12_image_18 rfl ?_
      replace hf := Option.bind_eq_some_iff.mp hf
      obtain ⟨v12, q13, hf⟩ := hf
      refine g_aI dX12_image_19 q13 ?_
      replace hf := Option.bind_eq_some_iff.mp hf
      obtain ⟨h14, q15, hf⟩ := hf
      refine g_sI dX12_image_20 q15 ?_
      refine g_iinc2 (w := (1 : Int32)) dX12_image_21 (by decide) rfl (by decide) (g_lvp (lv2 := [some (.ref x0), some (.int (x1 + (1 : Int32)))]) (pc2 := 24) rfl rfl ?_)
      refine g_goto (tgt := 2) dX12_image_24 (by decide) ?_
      exact t2 hf
def F_X12_image_0 (n : Nat)  (x0 : Nat) (h : gH) : Option (Int32 × gH) :=
  F_X12_image_2 n n x0 (0 : Int32) h
set_option maxRecDepth 20000 in
set_option maxHeartbeats 1600000 in
theorem g_X12_image_0 {n d : Nat} : ∀ {x0 : Nat} {h : gH} {rh : gH} {rv : Int32}, F_X12_image_0 n x0 h = some (rv, rh) → G M_X12_image d 0 0 0 0 0 [some (.ref x0), none] [] h (qI rv rh) := by
  intro x0 h rh rv hf
  unfold F_X12_image_0 at hf
  refine g_iconst (v := (0 : Int32)) dX12_image_0 (by decide) ?_
  refine g_istore_n dX12_image_1 (by decide) (g_lvp (lv2 := [some (.ref x0), some (.int (0 : Int32))]) (pc2 := 2) rfl rfl ?_)
  exact g_X12_image_2 hf
def F_X12_image (n : Nat) (a : Nat) (h : gH) : Option (Int32 × gH) := F_X12_image_0 n  a h
theorem t_X12_image {n d : Nat} {a : Nat} {h rh : gH} {rv : Int32} (hf : F_X12_image n a h = some (rv, rh)) : T M_X12_image d 0 0 [.ref a] h (qI rv rh) := by
  refine T_of_G (L := 1) (by decide +kernel) rfl (Nat.le_of_ble_eq_true rfl) (g_lv (lv2 := [some (.ref a), none]) rfl ?_)
  exact g_X12_image_0 hf
def F_X12_init_89 (n : Nat)  : Nat → Nat → Int32 → gH → Option (gH)
  | 0, _, _, _ => none
  | m + 1, x0, x1, h => if (64 : Int32) ≤ x1 then
  (some h)
  else
  ((gR h x0 12 1).bind fun v2 =>
  (sI h v2 ((146 : Int32) + x1) (-1 : Int32)).bind fun h4 =>
  F_X12_init_89 n m x0 (x1 + (1 : Int32)) h4)
set_option maxRecDepth 20000 in
set_option maxHeartbeats 1600000 in
theorem g_X12_init_89 {n d : Nat} : ∀ {m : Nat} {x0 : Nat} {x1 : Int32} {h : gH} {rh : gH}, F_X12_init_89 n m x0 x1 h = some rh → G M_X12_init (d + 1) 9 3980 9 3980 89 [some (.ref x0), some (.int x1)] [] h (qV rh) := by
  intro m
  induction m with
  | zero => intro x0 x1 h rh hf; cases hf
  | succ m t89 =>
    intro x0 x1 h rh hf
    unfold F_X12_init_89 at hf
    refine g_iload_n dX12_init_89 rfl ?_
    refine g_bipush (v := (64 : Int32)) dX12_init_90 (by decide) ?_
    refine g_icmp_ge (tgt := 112) dX12_init_92 (by decide) (fun c1 => ?_) (fun c1 => ?_)
    · rw [if_pos c1] at hf
      obtain rfl := Option.some.inj hf
      exact g_vret dX12_init_112 rfl ⟨rfl, rfl⟩ (Nat.le_of_ble_eq_true rfl) (Nat.le_of_ble_eq_true rfl)
    · rw [if_neg c1] at hf
      refine g_aload_n dX12_init_95 rfl ?_
      replace hf := Option.bind_eq_some_iff.mp hf
      obtain ⟨v2, q3, hf⟩ := hf
      refine g_gR f_X12_9 dX12_init_96 q3 ?_
      refine g_sipush (v := (146 : Int32)) dX12_init_99 (by decide) ?_
      refine g_iload_n dX12_init_102 rfl ?_
      refine g_iadd dX12_init_103 ?_
      refine g_iconst (v := (-1 : Int32)) dX12_init_104 (by decide) ?_
      replace hf := Option.bind_eq_some_iff.mp hf
      obtain ⟨h4, q5, hf⟩ := hf
      refine g_sI dX12_init_105 q5 ?_
      refine g_iinc2 (w := (1 : Int32)) dX12_init_106 (by decide) rfl (by decide) (g_lvp (lv2 := [some (.ref x0), some (.int (x1 + (1 : Int32)))]) (pc2 := 109) rfl rfl ?_)
      refine g_goto (tgt := 89) dX12_init_109 (by decide) ?_
      exact t89 hf
def F_X12_init_0 (n : Nat)  (x0 : Nat) (h : gH) : Option (gH) :=
  gB (nIa h 1118) fun a1 h2 =>
  (pF h2 x0 12 1 (.ref a1)).bind fun h4 =>
  gB (nIa h4 1118) fun a6 h7 =>
  (pF h7 x0 12 2 (.ref a6)).bind fun h9 =>
  gB (nIa h9 5) fun a11 h12 =>
  (pF h12 x0 12 9 (.ref a11)).bind fun h14 =>
  gB (nZa h14 64) fun a16 h17 =>
  (pF h17 x0 12 10 (.ref a16)).bind fun h19 =>
  gB (nIa h19 549) fun a21 h22 =>
  (pF h22 x0 12 11 (.ref a21)).bind fun h24 =>
  gB (nIa h24 549) fun a26 h27 =>
  (pF h27 x0 12 12 (.ref a26)).bind fun h29 =>
  gB (nIa h29 549) fun a31 h32 =>
  (pF h32 x0 12 13 (.ref a31)).bind fun h34 =>
  gB (nIa h34 8) fun a36 h37 =>
  (pF h37 x0 12 15 (.ref a36)).bind fun h39 =>
  gB (nIa h39 20) fun a41 h42 =>
  (pF h42 x0 12 18 (.ref a41)).bind fun h44 =>
  (gR h44 x0 12 1).bind fun v46 =>
  (sI h44 v46 (4 : Int32) (-1 : Int32)).bind fun h48 =>
  F_X12_init_89 n n x0 (0 : Int32) h48
set_option maxRecDepth 20000 in
set_option maxHeartbeats 1600000 in
theorem g_X12_init_0 {n d : Nat} : ∀ {x0 : Nat} {h : gH} {rh : gH}, F_X12_init_0 n x0 h = some rh → G M_X12_init (d + 1) 9 3980 0 0 0 [some (.ref x0), none] [] h (qV rh) := by
  intro x0 h rh hf
  unfold F_X12_init_0 at hf
  refine g_aload_n dX12_init_0 rfl ?_
  refine g_objInit (gt_5 (List.mem_of_getElem? (i := 9) (by decide +kernel)) (by decide +kernel)) ob_1 ob_2 dX12_init_1 (Nat.le_of_ble_eq_true rfl) ?_
  refine g_aload_n dX12_init_4 rfl ?_
  refine g_sipush (v := (1118 : Int32)) dX12_init_5 (by decide) ?_
  replace hf := gB_of hf
  obtain ⟨a1, h2, q3, hf⟩ := hf
  refine g_nIa (N := 1118) (gt_1 (List.mem_of_getElem? (i := 119) (by decide +kernel)) (by decide +kernel)) dX12_init_8 q3 (by decide) (by decide) (by decide) (by decide) (by decide) ?_
  replace hf := Option.bind_eq_some_iff.mp hf
  obtain ⟨h4, q5, hf⟩ := hf
  refine g_pFf p_X12_9 dX12_init_10 q5 rfl (fun _ => rfl) (fun _ => rfl) ?_
  refine g_aload_n dX12_init_13 rfl ?_
  refine g_sipush (v := (1118 : Int32)) dX12_init_14 (by decide) ?_
  replace hf := gB_of hf
  obtain ⟨a6, h7, q8, hf⟩ := hf
  refine g_nIa (N := 1118) (gt_1 (List.mem_of_getElem? (i := 119) (by decide +kernel)) (by decide +kernel)) dX12_init_17 q8 (by decide) (by decide) (by decide) (by decide) (by decide) ?_
  replace hf := Option.bind_eq_some_iff.mp hf
  obtain ⟨h9, q10, hf⟩ := hf
  refine g_pFf p_X12_15 dX12_init_19 q10 rfl (fun _ => rfl) (fun _ => rfl) ?_
  refine g_aload_n dX12_init_22 rfl ?_
  refine g_iconst (v := (5 : Int32)) dX12_init_23 (by decide) ?_
  replace hf := gB_of hf
  obtain ⟨a11, h12, q13, hf⟩ := hf
  refine g_nIa (N := 5) (gt_1 (List.mem_of_getElem? (i := 119) (by decide +kernel)) (by decide +kernel)) dX12_init_24 q13 (by decide) (by decide) (by decide) (by decide) (by decide) ?_
  replace hf := Option.bind_eq_some_iff.mp hf
  obtain ⟨h14, q15, hf⟩ := hf
  refine g_pFf p_X12_18 dX12_init_26 q15 rfl (fun _ => rfl) (fun _ => rfl) ?_
  refine g_aload_n dX12_init_29 rfl ?_
  refine g_bipush (v := (64 : Int32)) dX12_init_30 (by decide) ?_
  replace hf := gB_of hf
  obtain ⟨a16, h17, q18, hf⟩ := hf
  refine g_nZa (N := 64) (gt_5 (List.mem_of_getElem? (i := 79) (by decide +kernel)) (by decide +kernel)) dX12_init_32 q18 (by decide) (by decide) (by decide) (by decide) (by decide) ?_
  replace hf := Option.bind_eq_some_iff.mp hf
  obtain ⟨h19, q20, hf⟩ := hf
  refine g_pFf p_X12_21 dX12_init_34 q20 rfl (fun _ => rfl) (fun _ => rfl) ?_
  refine g_aload_n dX12_init_37 rfl ?_
  refine g_sipush (v := (549 : Int32)) dX12_init_38 (by decide) ?_
  replace hf := gB_of hf
  obtain ⟨a21, h22, q23, hf⟩ := hf
  refine g_nIa (N := 549) (gt_1 (List.mem_of_getElem? (i := 119) (by decide +kernel)) (by decide +kernel)) dX12_init_41 q23 (by decide) (by decide) (by decide) (by decide) (by decide) ?_
  replace hf := Option.bind_eq_some_iff.mp hf
  obtain ⟨h24, q25, hf⟩ := hf
  refine g_pFf p_X12_25 dX12_init_43 q25 rfl (fun _ => rfl) (fun _ => rfl) ?_
  refine g_aload_n dX12_init_46 rfl ?_
  refine g_sipush (v := (549 : Int32)) dX12_init_47 (by decide) ?_
  replace hf := gB_of hf
  obtain ⟨a26, h27, q28, hf⟩ := hf
  refine g_nIa (N := 549) (gt_1 (List.mem_of_getElem? (i := 119) (by decide +kernel)) (by decide +kernel)) dX12_init_50 q28 (by decide) (by decide) (by decide) (by decide) (by decide) ?_
  replace hf := Option.bind_eq_some_iff.mp hf
  obtain ⟨h29, q30, hf⟩ := hf
  refine g_pFf p_X12_28 dX12_init_52 q30 rfl (fun _ => rfl) (fun _ => rfl) ?_
  refine g_aload_n dX12_init_55 rfl ?_
  refine g_sipush (v := (549 : Int32)) dX12_init_56 (by decide) ?_
  replace hf := gB_of hf
  obtain ⟨a31, h32, q33, hf⟩ := hf
  refine g_nIa (N := 549) (gt_1 (List.mem_of_getElem? (i := 119) (by decide +kernel)) (by decide +kernel)) dX12_init_59 q33 (by decide) (by decide) (by decide) (by decide) (by decide) ?_
  replace hf := Option.bind_eq_some_iff.mp hf
  obtain ⟨h34, q35, hf⟩ := hf
  refine g_pFf p_X12_31 dX12_init_61 q35 rfl (fun _ => rfl) (fun _ => rfl) ?_
  refine g_aload_n dX12_init_64 rfl ?_
  refine g_bipush (v := (8 : Int32)) dX12_init_65 (by decide) ?_
  replace hf := gB_of hf
  obtain ⟨a36, h37, q38, hf⟩ := hf
  refine g_nIa (N := 8) (gt_1 (List.mem_of_getElem? (i := 119) (by decide +kernel)) (by decide +kernel)) dX12_init_67 q38 (by decide) (by decide) (by decide) (by decide) (by decide) ?_
  replace hf := Option.bind_eq_some_iff.mp hf
  obtain ⟨h39, q40, hf⟩ := hf
  refine g_pFf p_X12_34 dX12_init_69 q40 rfl (fun _ => rfl) (fun _ => rfl) ?_
  refine g_aload_n dX12_init_72 rfl ?_
  refine g_bipush (v := (20 : Int32)) dX12_init_73 (by decide) ?_
  replace hf := gB_of hf
  obtain ⟨a41, h42, q43, hf⟩ := hf
  refine g_nIa (N := 20) (gt_1 (List.mem_of_getElem? (i := 119) (by decide +kernel)) (by decide +kernel)) dX12_init_75 q43 (by decide) (by decide) (by decide) (by decide) (by decide) ?_
  replace hf := Option.bind_eq_some_iff.mp hf
  obtain ⟨h44, q45, hf⟩ := hf
  refine g_pFf p_X12_37 dX12_init_77 q45 rfl (fun _ => rfl) (fun _ => rfl) ?_
  refine g_aload_n dX12_init_80 rfl ?_
  replace hf := Option.bind_eq_some_iff.mp hf
  obtain ⟨v46, q47, hf⟩ := hf
  refine g_gR f_X12_9 dX12_init_81 q47 ?_
  refine g_iconst (v := (4 : Int32)) dX12_init_84 (by decide) ?_
  refine g_iconst (v := (-1 : Int32)) dX12_init_85 (by decide) ?_
  replace hf := Option.bind_eq_some_iff.mp hf
  obtain ⟨h48, q49, hf⟩ := hf
  refine g_sI dX12_init_86 q49 ?_
  refine g_iconst (v := (0 : Int32)) dX12_init_87 (by decide) ?_
  refine g_istore_n dX12_init_88 (by decide) (g_lvp (lv2 := [some (.ref x0), some (.int (0 : Int32))]) (pc2 := 89) rfl rfl ?_)
  exact g_X12_init_89 hf
def F_X12_init (n : Nat) (a : Nat) (h : gH) : Option (gH) := F_X12_init_0 n  a h
theorem t_X12_init {n d : Nat} {a : Nat} {h rh : gH} (hf : F_X12_init n a h = some rh) : T M_X12_init (d + 1) 9 3980 [.ref a] h (qV rh) := by
  refine T_of_G (L := 1) (by decide +kernel) rfl (Nat.le_of_ble_eq_true rfl) (g_lv (lv2 := [some (.ref a), none]) rfl ?_)
  exact g_X12_init_0 hf
def F_X12_isPiece_0 (n : Nat)  (x0 : Nat) (x1 : Int32) (h : gH) : Option (Int32 × gH) :=
  (gO h x0 12).bind fun f1 =>
  gB (F_X12_pieces n x0  h) fun v5 h3 =>
  gB (F_X12_in n x1 (0 : Int32) (v5 - (1 : Int32)) h3) fun v8 h6 =>
  if v8 = 0 ∨ v8 = 1 then some (v8, h6) else none
set_option maxRecDepth 20000 in
set_option maxHeartbeats 1600000 in
theorem g_X12_isPiece_0 {n d : Nat} : ∀ {x0 : Nat} {x1 : Int32} {h : gH} {rh : gH} {rv : Int32}, F_X12_isPiece_0 n x0 x1 h = some (rv, rh) → G M_X12_isPiece (d + 1) 0 0 0 0 0 [some (.ref x0), some (.int x1)] [] h (qI rv rh) := by
  intro x0 x1 h rh rv hf
  unfold F_X12_isPiece_0 at hf
  refine g_iload_n dX12_isPiece_0 rfl ?_
  refine g_iconst (v := (0 : Int32)) dX12_isPiece_1 (by decide) ?_
  refine g_aload_n dX12_isPiece_2 rfl ?_
  replace hf := Option.bind_eq_some_iff.mp hf
  obtain ⟨f1, q2, hf⟩ := hf
  replace hf := gB_of hf
  obtain ⟨v5, h3, q4, hf⟩ := hf
  refine g_callV (as := []) (mc1 := 0) (ms1 := 0) s_X12_48_X12_pieces_12 dX12_isPiece_3 (gO_of q2) rfl (Nat.le_of_ble_eq_true rfl) (Nat.le_of_ble_eq_true rfl) (Nat.le_of_ble_eq_true rfl) (t_X12_pieces (d := d + 0) q4) (fun r9 h9 q9 => ?_)
  obtain ⟨rfl, rfl⟩ := q9
  refine g_stp (st2 := [.int v5, .int (0 : Int32), .int x1]) (pc2 := 6) (kc2 := 0) (kn2 := 0) rfl rfl rfl rfl ?_
  refine g_iconst (v := (1 : Int32)) dX12_isPiece_6 (by decide) ?_
  refine g_isub dX12_isPiece_7 ?_
  replace hf := gB_of hf
  obtain ⟨v8, h6, q7, hf⟩ := hf
  refine g_callS (as := [.int x1, .int (0 : Int32), .int (v5 - (1 : Int32))]) (mc1 := 0) (ms1 := 0) s_X12_44_X12_in dX12_isPiece_8 rfl (Nat.le_of_ble_eq_true rfl) (Nat.le_of_ble_eq_true rfl) (Nat.le_of_ble_eq_true rfl) (t_X12_in (d := d + 0) q7) (fun r9 h9 q9 => ?_)
  obtain ⟨rfl, rfl⟩ := q9
  refine g_stp (st2 := [.int v8]) (pc2 := 11) (kc2 := 0) (kn2 := 0) rfl rfl rfl rfl ?_
  by_cases c9 : v8 = 0 ∨ v8 = 1
  · rw [if_pos c9] at hf
    obtain ⟨rfl, rfl⟩ := Prod.mk.inj (Option.some.inj hf)
    exact g_zret (ty := .boolean) dX12_isPiece_11 rfl (gZ_nar c9) ⟨rfl, rfl⟩ (Nat.le_of_ble_eq_true rfl) (Nat.le_of_ble_eq_true rfl)
  · rw [if_neg c9] at hf; cases hf
def F_X12_isPiece (n : Nat) (a : Nat) (p0 : Int32) (h : gH) : Option (Int32 × gH) := F_X12_isPiece_0 n  a p0 h
theorem t_X12_isPiece {n d : Nat} {a : Nat} {p0 : Int32} {h rh : gH} {rv : Int32} (hf : F_X12_isPiece n a p0 h = some (rv, rh)) : T M_X12_isPiece (d + 1) 0 0 [.ref a, .int p0] h (qI rv rh) := by
  refine T_of_G (L := 0) (by decide +kernel) rfl (Nat.le_of_ble_eq_true rfl) (g_lv (lv2 := [some (.ref a), some (.int p0)]) rfl ?_)
  exact g_X12_isPiece_0 hf
def F_X12_isStore_0 (n : Nat)  (x0 : Nat) (x1 : Int32) (h : gH) : Option (Int32 × gH) :=
  (gO h x0 12).bind fun f1 =>
  gB (F_X12_most n x0  h) fun v5 h3 =>
  gB (F_X12_in n x1 (0 : Int32) v5 h3) fun v8 h6 =>
  if v8 = 0 ∨ v8 = 1 then some (v8, h6) else none
set_option maxRecDepth 20000 in
set_option maxHeartbeats 1600000 in
theorem g_X12_isStore_0 {n d : Nat} : ∀ {x0 : Nat} {x1 : Int32} {h : gH} {rh : gH} {rv : Int32}, F_X12_isStore_0 n x0 x1 h = some (rv, rh) → G M_X12_isStore (d + 2) 0 0 0 0 0 [some (.ref x0), some (.int x1)] [] h (qI rv rh) := by
  intro x0 x1 h rh rv hf
  unfold F_X12_isStore_0 at hf
  refine g_iload_n dX12_isStore_0 rfl ?_
  refine g_iconst (v := (0 : Int32)) dX12_isStore_1 (by decide) ?_
  refine g_aload_n dX12_isStore_2 rfl ?_
  replace hf := Option.bind_eq_some_iff.mp hf
  obtain ⟨f1, q2, hf⟩ := hf
  replace hf := gB_of hf
  obtain ⟨v5, h3, q4, hf⟩ := hf
  refine g_callV (as := []) (mc1 := 0) (ms1 := 0) s_X12_56_X12_most_12 dX12_isStore_3 (gO_of q2) rfl (Nat.le_of_ble_eq_true rfl) (Nat.le_of_ble_eq_true rfl) (Nat.le_of_ble_eq_true rfl) (t_X12_most (d := d + 0) q4) (fun r9 h9 q9 => ?_)
  obtain ⟨rfl, rfl⟩ := q9
  refine g_stp (st2 := [.int v5, .int (0 : Int32), .int x1]) (pc2 := 6) (kc2 := 0) (kn2 := 0) rfl rfl rfl rfl ?_
  replace hf := gB_of hf
  obtain ⟨v8, h6, q7, hf⟩ := hf
  refine g_callS (as := [.int x1, .int (0 : Int32), .int v5]) (mc1 := 0) (ms1 := 0) s_X12_44_X12_in dX12_isStore_6 rfl (Nat.le_of_ble_eq_true rfl) (Nat.le_of_ble_eq_true rfl) (Nat.le_of_ble_eq_true rfl) (t_X12_in (d := d + 1) q7) (fun r9 h9 q9 => ?_)
  obtain ⟨rfl, rfl⟩ := q9
  refine g_stp (st2 := [.int v8]) (pc2 := 9) (kc2 := 0) (kn2 := 0) rfl rfl rfl rfl ?_
  by_cases c9 : v8 = 0 ∨ v8 = 1
  · rw [if_pos c9] at hf
    obtain ⟨rfl, rfl⟩ := Prod.mk.inj (Option.some.inj hf)
    exact g_zret (ty := .boolean) dX12_isStore_9 rfl (gZ_nar c9) ⟨rfl, rfl⟩ (Nat.le_of_ble_eq_true rfl) (Nat.le_of_ble_eq_true rfl)
  · rw [if_neg c9] at hf; cases hf
def F_X12_isStore (n : Nat) (a : Nat) (p0 : Int32) (h : gH) : Option (Int32 × gH) := F_X12_isStore_0 n  a p0 h
theorem t_X12_isStore {n d : Nat} {a : Nat} {p0 : Int32} {h rh : gH} {rv : Int32} (hf : F_X12_isStore n a p0 h = some (rv, rh)) : T M_X12_isStore (d + 2) 0 0 [.ref a, .int p0] h (qI rv rh) := by
  refine T_of_G (L := 0) (by decide +kernel) rfl (Nat.le_of_ble_eq_true rfl) (g_lv (lv2 := [some (.ref a), some (.int p0)]) rfl ?_)
  exact g_X12_isStore_0 hf
def F_X12_judged_233 (n : Nat)  (y0 : Int32) (h : gH) : Option (Int32 × gH) :=
  some (y0, h)
set_option maxRecDepth 20000 in
set_option maxHeartbeats 1600000 in
theorem g_X12_judged_233 {n d : Nat} : ∀ {y0 : Int32} {h : gH} {rh : gH} {rv : Int32}, F_X12_judged_233 n y0 h = some (rv, rh) → G M_X12_judged (d + 4) 0 0 0 0 233 [none, none, none, none, none, none, none, none, none, none, none] [.int y0] h (qI rv rh) := by
  intro y0 h rh rv hf
  unfold F_X12_judged_233 at hf
  obtain ⟨rfl, rfl⟩ := Prod.mk.inj (Option.some.inj hf)
  exact g_iret dX12_judged_233 rfl ⟨rfl, rfl⟩ (Nat.le_of_ble_eq_true rfl) (Nat.le_of_ble_eq_true rfl)
def F_X12_judged_204 (n : Nat)  (x1 : Int32) (x2 : Int32) (x3 : Int32) (x4 : Int32) (x5 : Int32) (h : gH) : Option (Int32 × gH) :=
  if x1 = 0 then
  (F_X12_judged_233 n x2 h)
  else
  (if x1 = (1 : Int32) then
  (F_X12_judged_233 n x3 h)
  else
  (if x1 = (2 : Int32) then
  (F_X12_judged_233 n x4 h)
  else
  (F_X12_judged_233 n x5 h)))
set_option maxRecDepth 20000 in
set_option maxHeartbeats 1600000 in
theorem g_X12_judged_204 {n d : Nat} : ∀ {x1 : Int32} {x2 : Int32} {x3 : Int32} {x4 : Int32} {x5 : Int32} {h : gH} {rh : gH} {rv : Int32}, F_X12_judged_204 n x1 x2 x3 x4 x5 h = some (rv, rh) → G M_X12_judged (d + 4) 0 0 0 0 204 [none, some (.int x1), some (.int x2), some (.int x3), some (.int x4), some (.int x5), none, none, none, none, none] [] h (qI rv rh) := by
  intro x1 x2 x3 x4 x5 h rh rv hf
  unfold F_X12_judged_204 at hf
  refine g_iload_n dX12_judged_204 rfl ?_
  refine g_if_ne (tgt := 212) dX12_judged_205 (by decide) (fun c1 => ?_) (fun c1 => ?_)
  · rw [if_neg c1] at hf
    refine g_iload_n dX12_judged_212 rfl ?_
    refine g_iconst (v := (1 : Int32)) dX12_judged_213 (by decide) ?_
    refine g_icmp_ne (tgt := 221) dX12_judged_214 (by decide) (fun c2 => ?_) (fun c2 => ?_)
    · rw [if_neg c2] at hf
      refine g_iload_n dX12_judged_221 rfl ?_
      refine g_iconst (v := (2 : Int32)) dX12_judged_222 (by decide) ?_
      refine g_icmp_ne (tgt := 231) dX12_judged_223 (by decide) (fun c3 => ?_) (fun c3 => ?_)
      · rw [if_neg c3] at hf
        refine g_iload dX12_judged_231 rfl ?_
        refine g_weak (lv2 := [none, none, none, none, none, none, none, none, none, none, none]) (trivial) ?_
        exact g_X12_judged_233 hf
      · rw [if_pos c3] at hf
        refine g_iload dX12_judged_226 rfl ?_
        refine g_goto (tgt := 233) dX12_judged_228 (by decide) ?_
        refine g_weak (lv2 := [none, none, none, none, none, none, none, none, none, none, none]) (trivial) ?_
        exact g_X12_judged_233 hf
    · rw [if_pos c2] at hf
      refine g_iload_n dX12_judged_217 rfl ?_
      refine g_goto (tgt := 233) dX12_judged_218 (by decide) ?_
      refine g_weak (lv2 := [none, none, none, none, none, none, none, none, none, none, none]) (trivial) ?_
      exact g_X12_judged_233 hf
  · rw [if_pos c1] at hf
    refine g_iload_n dX12_judged_208 rfl ?_
    refine g_goto (tgt := 233) dX12_judged_209 (by decide) ?_
    refine g_weak (lv2 := [none, none, none, none, none, none, none, none, none, none, none]) (trivial) ?_
    exact g_X12_judged_233 hf
def F_X12_judged_198 (n : Nat) (k40 : Nat → Int32 → Int32 → Int32 → Int32 → Int32 → Int32 → Int32 → gH → Option (Int32 × gH)) (x0 : Nat) (x1 : Int32) (x2 : Int32) (x3 : Int32) (x4 : Int32) (x5 : Int32) (x6 : Int32) (x7 : Int32) (h : gH) : Option (Int32 × gH) :=
  k40 x0 x1 x2 x3 x4 x5 x6 (x7 + (1 : Int32)) h
set_option maxRecDepth 20000 in
set_option maxHeartbeats 1600000 in
theorem g_X12_judged_198 {n d : Nat} {k40 : Nat → Int32 → Int32 → Int32 → Int32 → Int32 → Int32 → Int32 → gH → Option (Int32 × gH)} (t40 : ∀ {x0 : Nat} {x1 : Int32} {x2 : Int32} {x3 : Int32} {x4 : Int32} {x5 : Int32} {x6 : Int32} {x7 : Int32} {h : gH} {rh : gH} {rv : Int32}, k40 x0 x1 x2 x3 x4 x5 x6 x7 h = some (rv, rh) → G M_X12_judged (d + 4) 0 0 0 0 40 [some (.ref x0), some (.int x1), some (.int x2), some (.int x3), some (.int x4), some (.int x5), some (.int x6), some (.int x7), none, none, none] [] h (qI rv rh)) : ∀ {x0 : Nat} {x1 : Int32} {x2 : Int32} {x3 : Int32} {x4 : Int32} {x5 : Int32} {x6 : Int32} {x7 : Int32} {h : gH} {rh : gH} {rv : Int32}, F_X12_judged_198 n k40 x0 x1 x2 x3 x4 x5 x6 x7 h = some (rv, rh) → G M_X12_judged (d + 4) 0 0 0 0 198 [some (.ref x0), some (.int x1), some (.int x2), some (.int x3), some (.int x4), some (.int x5), some (.int x6), some (.int x7), none, none, none] [] h (qI rv rh) := by
  intro x0 x1 x2 x3 x4 x5 x6 x7 h rh rv hf
  unfold F_X12_judged_198 at hf
  refine g_iinc2 (w := (1 : Int32)) dX12_judged_198 (by decide) rfl (by decide) (g_lvp (lv2 := [some (.ref x0), some (.int x1), some (.int x2), some (.int x3), some (.int x4), some (.int x5), some (.int x6), some (.int (x7 + (1 : Int32))), none, none, none]) (pc2 := 201) rfl rfl ?_)
  refine g_goto (tgt := 40) dX12_judged_201 (by decide) ?_
  exact t40 hf
def F_X12_judged_193 (n : Nat) (k40 : Nat → Int32 → Int32 → Int32 → Int32 → Int32 → Int32 → Int32 → gH → Option (Int32 × gH)) (x0 : Nat) (x1 : Int32) (x2 : Int32) (x4 : Int32) (x5 : Int32) (x7 : Int32) (x9 : Int32) (y0 : Int32) (h : gH) : Option (Int32 × gH) :=
  F_X12_judged_198 n (k40) x0 x1 x2 y0 x4 x5 x9 x7 h
set_option maxRecDepth 20000 in
set_option maxHeartbeats 1600000 in
theorem g_X12_judged_193 {n d : Nat} {k40 : Nat → Int32 → Int32 → Int32 → Int32 → Int32 → Int32 → Int32 → gH → Option (Int32 × gH)} (t40 : ∀ {x0 : Nat} {x1 : Int32} {x2 : Int32} {x3 : Int32} {x4 : Int32} {x5 : Int32} {x6 : Int32} {x7 : Int32} {h : gH} {rh : gH} {rv : Int32}, k40 x0 x1 x2 x3 x4 x5 x6 x7 h = some (rv, rh) → G M_X12_judged (d + 4) 0 0 0 0 40 [some (.ref x0), some (.int x1), some (.int x2), some (.int x3), some (.int x4), some (.int x5), some (.int x6), some (.int x7), none, none, none] [] h (qI rv rh)) : ∀ {x0 : Nat} {x1 : Int32} {x2 : Int32} {x4 : Int32} {x5 : Int32} {x7 : Int32} {x9 : Int32} {y0 : Int32} {h : gH} {rh : gH} {rv : Int32}, F_X12_judged_193 n k40 x0 x1 x2 x4 x5 x7 x9 y0 h = some (rv, rh) → G M_X12_judged (d + 4) 0 0 0 0 193 [some (.ref x0), some (.int x1), some (.int x2), none, some (.int x4), some (.int x5), none, some (.int x7), none, some (.int x9), none] [.int y0] h (qI rv rh) := by
  intro x0 x1 x2 x4 x5 x7 x9 y0 h rh rv hf
  unfold F_X12_judged_193 at hf
  refine g_istore_n dX12_judged_193 (by decide) (g_lvp (lv2 := [some (.ref x0), some (.int x1), some (.int x2), some (.int y0), some (.int x4), some (.int x5), none, some (.int x7), none, some (.int x9), none]) (pc2 := 194) rfl rfl ?_)
  refine g_iload dX12_judged_194 rfl ?_
  refine g_istore dX12_judged_196 (by decide) (g_lvp (lv2 := [some (.ref x0), some (.int x1), some (.int x2), some (.int y0), some (.int x4), some (.int x5), some (.int x9), some (.int x7), none, some (.int x9), none]) (pc2 := 198) rfl rfl ?_)
  refine g_weak (lv2 := [some (.ref x0), some (.int x1), some (.int x2), some (.int y0), some (.int x4), some (.int x5), some (.int x9), some (.int x7), none, none, none]) (And.intro rfl (And.intro rfl (And.intro rfl (And.intro rfl (And.intro rfl (And.intro rfl (And.intro rfl (And.intro rfl (trivial))))))))) ?_
  exact g_X12_judged_198 t40 hf
def F_X12_judged_192 (n : Nat) (k40 : Nat → Int32 → Int32 → Int32 → Int32 → Int32 → Int32 → Int32 → gH → Option (Int32 × gH)) (x0 : Nat) (x1 : Int32) (x2 : Int32) (x3 : Int32) (x4 : Int32) (x5 : Int32) (x7 : Int32) (x9 : Int32) (h : gH) : Option (Int32 × gH) :=
  F_X12_judged_193 n (k40) x0 x1 x2 x4 x5 x7 x9 x3 h
set_option maxRecDepth 20000 in
set_option maxHeartbeats 1600000 in
theorem g_X12_judged_192 {n d : Nat} {k40 : Nat → Int32 → Int32 → Int32 → Int32 → Int32 → Int32 → Int32 → gH → Option (Int32 × gH)} (t40 : ∀ {x0 : Nat} {x1 : Int32} {x2 : Int32} {x3 : Int32} {x4 : Int32} {x5 : Int32} {x6 : Int32} {x7 : Int32} {h : gH} {rh : gH} {rv : Int32}, k40 x0 x1 x2 x3 x4 x5 x6 x7 h = some (rv, rh) → G M_X12_judged (d + 4) 0 0 0 0 40 [some (.ref x0), some (.int x1), some (.int x2), some (.int x3), some (.int x4), some (.int x5), some (.int x6), some (.int x7), none, none, none] [] h (qI rv rh)) : ∀ {x0 : Nat} {x1 : Int32} {x2 : Int32} {x3 : Int32} {x4 : Int32} {x5 : Int32} {x7 : Int32} {x9 : Int32} {h : gH} {rh : gH} {rv : Int32}, F_X12_judged_192 n k40 x0 x1 x2 x3 x4 x5 x7 x9 h = some (rv, rh) → G M_X12_judged (d + 4) 0 0 0 0 192 [some (.ref x0), some (.int x1), some (.int x2), some (.int x3), some (.int x4), some (.int x5), none, some (.int x7), none, some (.int x9), none] [] h (qI rv rh) := by
  intro x0 x1 x2 x3 x4 x5 x7 x9 h rh rv hf
  unfold F_X12_judged_192 at hf
  refine g_iload_n dX12_judged_192 rfl ?_
  refine g_weak (lv2 := [some (.ref x0), some (.int x1), some (.int x2), none, some (.int x4), some (.int x5), none, some (.int x7), none, some (.int x9), none]) (And.intro rfl (And.intro rfl (And.intro rfl (And.intro rfl (And.intro rfl (And.intro rfl (And.intro rfl (trivial)))))))) ?_
  exact g_X12_judged_193 t40 hf
def F_X12_judged_174 (n : Nat) (k40 : Nat → Int32 → Int32 → Int32 → Int32 → Int32 → Int32 → Int32 → gH → Option (Int32 × gH)) (x0 : Nat) (x1 : Int32) (x2 : Int32) (x3 : Int32) (x4 : Int32) (x7 : Int32) (x9 : Int32) (y0 : Int32) (h : gH) : Option (Int32 × gH) :=
  if x3 = (-5 : Int32) then
  (if x9 = 0 then
  (F_X12_judged_193 n (k40) x0 x1 x2 x4 y0 x7 x9 x7 h)
  else
  (F_X12_judged_192 n (k40) x0 x1 x2 x3 x4 y0 x7 x9 h))
  else
  (F_X12_judged_192 n (k40) x0 x1 x2 x3 x4 y0 x7 x9 h)
set_option maxRecDepth 20000 in
set_option maxHeartbeats 1600000 in
theorem g_X12_judged_174 {n d : Nat} {k40 : Nat → Int32 → Int32 → Int32 → Int32 → Int32 → Int32 → Int32 → gH → Option (Int32 × gH)} (t40 : ∀ {x0 : Nat} {x1 : Int32} {x2 : Int32} {x3 : Int32} {x4 : Int32} {x5 : Int32} {x6 : Int32} {x7 : Int32} {h : gH} {rh : gH} {rv : Int32}, k40 x0 x1 x2 x3 x4 x5 x6 x7 h = some (rv, rh) → G M_X12_judged (d + 4) 0 0 0 0 40 [some (.ref x0), some (.int x1), some (.int x2), some (.int x3), some (.int x4), some (.int x5), some (.int x6), some (.int x7), none, none, none] [] h (qI rv rh)) : ∀ {x0 : Nat} {x1 : Int32} {x2 : Int32} {x3 : Int32} {x4 : Int32} {x7 : Int32} {x9 : Int32} {y0 : Int32} {h : gH} {rh : gH} {rv : Int32}, F_X12_judged_174 n k40 x0 x1 x2 x3 x4 x7 x9 y0 h = some (rv, rh) → G M_X12_judged (d + 4) 0 0 0 0 174 [some (.ref x0), some (.int x1), some (.int x2), some (.int x3), some (.int x4), none, none, some (.int x7), none, some (.int x9), none] [.int y0] h (qI rv rh) := by
  intro x0 x1 x2 x3 x4 x7 x9 y0 h rh rv hf
  unfold F_X12_judged_174 at hf
  refine g_istore dX12_judged_174 (by decide) (g_lvp (lv2 := [some (.ref x0), some (.int x1), some (.int x2), some (.int x3), some (.int x4), some (.int y0), none, some (.int x7), none, some (.int x9), none]) (pc2 := 176) rfl rfl ?_)
  refine g_iload_n dX12_judged_176 rfl ?_
  refine g_bipush (v := (-5 : Int32)) dX12_judged_177 (by decide) ?_
  refine g_icmp_ne (tgt := 192) dX12_judged_179 (by decide) (fun c1 => ?_) (fun c1 => ?_)
  · rw [if_neg c1] at hf
    exact g_X12_judged_192 t40 hf
  · rw [if_pos c1] at hf
    refine g_iload dX12_judged_182 rfl ?_
    refine g_if_ne (tgt := 192) dX12_judged_184 (by decide) (fun c2 => ?_) (fun c2 => ?_)
    · rw [if_neg c2] at hf
      exact g_X12_judged_192 t40 hf
    · rw [if_pos c2] at hf
      refine g_iload dX12_judged_187 rfl ?_
      refine g_goto (tgt := 193) dX12_judged_189 (by decide) ?_
      refine g_weak (lv2 := [some (.ref x0), some (.int x1), some (.int x2), none, some (.int x4), some (.int y0), none, some (.int x7), none, some (.int x9), none]) (And.intro rfl (And.intro rfl (And.intro rfl (And.intro rfl (And.intro rfl (And.intro rfl (And.intro rfl (trivial)))))))) ?_
      exact g_X12_judged_193 t40 hf
def F_X12_judged_158 (n : Nat) (k40 : Nat → Int32 → Int32 → Int32 → Int32 → Int32 → Int32 → Int32 → gH → Option (Int32 × gH)) (x0 : Nat) (x1 : Int32) (x2 : Int32) (x3 : Int32) (x5 : Int32) (x7 : Int32) (x9 : Int32) (x10 : Int32) (y0 : Int32) (h : gH) : Option (Int32 × gH) :=
  if x10 ≤ x5 then
  (F_X12_judged_174 n (k40) x0 x1 x2 x3 y0 x7 x9 x5 h)
  else
  (F_X12_judged_174 n (k40) x0 x1 x2 x3 y0 x7 x9 x10 h)
set_option maxRecDepth 20000 in
set_option maxHeartbeats 1600000 in
theorem g_X12_judged_158 {n d : Nat} {k40 : Nat → Int32 → Int32 → Int32 → Int32 → Int32 → Int32 → Int32 → gH → Option (Int32 × gH)} (t40 : ∀ {x0 : Nat} {x1 : Int32} {x2 : Int32} {x3 : Int32} {x4 : Int32} {x5 : Int32} {x6 : Int32} {x7 : Int32} {h : gH} {rh : gH} {rv : Int32}, k40 x0 x1 x2 x3 x4 x5 x6 x7 h = some (rv, rh) → G M_X12_judged (d + 4) 0 0 0 0 40 [some (.ref x0), some (.int x1), some (.int x2), some (.int x3), some (.int x4), some (.int x5), some (.int x6), some (.int x7), none, none, none] [] h (qI rv rh)) : ∀ {x0 : Nat} {x1 : Int32} {x2 : Int32} {x3 : Int32} {x5 : Int32} {x7 : Int32} {x9 : Int32} {x10 : Int32} {y0 : Int32} {h : gH} {rh : gH} {rv : Int32}, F_X12_judged_158 n k40 x0 x1 x2 x3 x5 x7 x9 x10 y0 h = some (rv, rh) → G M_X12_judged (d + 4) 0 0 0 0 158 [some (.ref x0), some (.int x1), some (.int x2), some (.int x3), none, some (.int x5), none, some (.int x7), none, some (.int x9), some (.int x10)] [.int y0] h (qI rv rh) := by
  intro x0 x1 x2 x3 x5 x7 x9 x10 y0 h rh rv hf
  unfold F_X12_judged_158 at hf
  refine g_istore dX12_judged_158 (by decide) (g_lvp (lv2 := [some (.ref x0), some (.int x1), some (.int x2), some (.int x3), some (.int y0), some (.int x5), none, some (.int x7), none, some (.int x9), some (.int x10)]) (pc2 := 160) rfl rfl ?_)
  refine g_iload dX12_judged_160 rfl ?_
  refine g_iload dX12_judged_162 rfl ?_
  refine g_icmp_le (tgt := 172) dX12_judged_164 (by decide) (fun c1 => ?_) (fun c1 => ?_)
  · rw [if_pos c1] at hf
    refine g_iload dX12_judged_172 rfl ?_
    refine g_weak (lv2 := [some (.ref x0), some (.int x1), some (.int x2), some (.int x3), some (.int y0), none, none, some (.int x7), none, some (.int x9), none]) (And.intro rfl (And.intro rfl (And.intro rfl (And.intro rfl (And.intro rfl (And.intro rfl (And.intro rfl (trivial)))))))) ?_
    exact g_X12_judged_174 t40 hf
  · rw [if_neg c1] at hf
    refine g_iload dX12_judged_167 rfl ?_
    refine g_goto (tgt := 174) dX12_judged_169 (by decide) ?_
    refine g_weak (lv2 := [some (.ref x0), some (.int x1), some (.int x2), some (.int x3), some (.int y0), none, none, some (.int x7), none, some (.int x9), none]) (And.intro rfl (And.intro rfl (And.intro rfl (And.intro rfl (And.intro rfl (And.intro rfl (And.intro rfl (trivial)))))))) ?_
    exact g_X12_judged_174 t40 hf
def F_X12_judged_40 (n : Nat)  : Nat → Nat → Int32 → Int32 → Int32 → Int32 → Int32 → Int32 → Int32 → gH → Option (Int32 × gH)
  | 0, _, _, _, _, _, _, _, _, _ => none
  | m + 1, x0, x1, x2, x3, x4, x5, x6, x7, h => (gR h x0 12 1).bind fun v1 =>
  (aI h v1 (2 : Int32)).bind fun v3 =>
  if v3 ≤ x7 then
  (F_X12_judged_204 n x1 x2 x3 x4 x5 h)
  else
  ((gO h x0 12).bind fun f6 =>
  gB (F_X12_pieces n x0  h) fun v10 h8 =>
  if v10 ≤ x7 then
  (F_X12_judged_204 n x1 x2 x3 x4 x5 h8)
  else
  (if x2 = (-5 : Int32) then
  ((gR h8 x0 12 1).bind fun v13 =>
  (aI h8 v13 ((210 : Int32) + x7)).bind fun v15 =>
  (gO h8 x0 12).bind fun f17 =>
  gB (F_X12_behind n x0 x7 v15 x6 h8) fun v21 h19 =>
  if 0 ≤ v21 then
  ((gO h19 x0 12).bind fun f23 =>
  gB (F_X12_secondsOf n x0 x7 v15 x6 h19) fun v27 h25 =>
  (gR h25 x0 12 11).bind fun v28 =>
  (aI h25 v28 (((61 : Int32) * (x7 + (1 : Int32))) + v21)).bind fun v30 =>
  (gR h25 x0 12 11).bind fun v32 =>
  (aI h25 v32 (((61 : Int32) * x7) + x6)).bind fun v34 =>
  if ((v27 + v30) - v34) ≤ x5 then
  (F_X12_judged_158 n (F_X12_judged_40 n m) x0 x1 x2 x3 x5 x7 v21 ((v27 + v30) - v34) x4 h25)
  else
  (F_X12_judged_158 n (F_X12_judged_40 n m) x0 x1 x2 x3 x5 x7 v21 ((v27 + v30) - v34) x7 h25))
  else
  (F_X12_judged_198 n (F_X12_judged_40 n m) x0 x1 x7 x3 x4 x5 x6 x7 h19))
  else
  (F_X12_judged_204 n x1 x2 x3 x4 x5 h8)))
set_option maxRecDepth 20000 in
set_option maxHeartbeats 1600000 in
theorem g_X12_judged_40 {n d : Nat} : ∀ {m : Nat} {x0 : Nat} {x1 : Int32} {x2 : Int32} {x3 : Int32} {x4 : Int32} {x5 : Int32} {x6 : Int32} {x7 : Int32} {h : gH} {rh : gH} {rv : Int32}, F_X12_judged_40 n m x0 x1 x2 x3 x4 x5 x6 x7 h = some (rv, rh) → G M_X12_judged (d + 4) 0 0 0 0 40 [some (.ref x0), some (.int x1), some (.int x2), some (.int x3), some (.int x4), some (.int x5), some (.int x6), some (.int x7), none, none, none] [] h (qI rv rh) := by
  intro m
  induction m with
  | zero => intro x0 x1 x2 x3 x4 x5 x6 x7 h rh rv hf; cases hf
  | succ m t40 =>
    intro x0 x1 x2 x3 x4 x5 x6 x7 h rh rv hf
    unfold F_X12_judged_40 at hf
    refine g_iload dX12_judged_40 rfl ?_
    refine g_aload_n dX12_judged_42 rfl ?_
    replace hf := Option.bind_eq_some_iff.mp hf
    obtain ⟨v1, q2, hf⟩ := hf
    refine g_gR f_X12_9 dX12_judged_43 q2 ?_
    refine g_iconst (v := (2 : Int32)) dX12_judged_46 (by decide) ?_
    replace hf := Option.bind_eq_some_iff.mp hf
    obtain ⟨v3, q4, hf⟩ := hf
    refine g_aI dX12_judged_47 q4 ?_
    refine g_icmp_ge (tgt := 204) dX12_judged_48 (by decide) (fun c5 => ?_) (fun c5 => ?_)
    · rw [if_pos c5] at hf
      refine g_weak (lv2 := [none, some (.int x1), some (.int x2), some (.int x3), some (.int x4), some (.int x5), none, none, none, none, none]) (And.intro rfl (And.intro rfl (And.intro rfl (And.intro rfl (And.intro rfl (trivial)))))) ?_
      exact g_X12_judged_204 hf
    · rw [if_neg c5] at hf
      refine g_iload dX12_judged_51 rfl ?_
      refine g_aload_n dX12_judged_53 rfl ?_
      replace hf := Option.bind_eq_some_iff.mp hf
      obtain ⟨f6, q7, hf⟩ := hf
      replace hf := gB_of hf
      obtain ⟨v10, h8, q9, hf⟩ := hf
      refine g_callV (as := []) (mc1 := 0) (ms1 := 0) s_X12_48_X12_pieces_12 dX12_judged_54 (gO_of q7) rfl (Nat.le_of_ble_eq_true rfl) (Nat.le_of_ble_eq_true rfl) (Nat.le_of_ble_eq_true rfl) (t_X12_pieces (d := d + 3) q9) (fun r9 h9 q9 => ?_)
      obtain ⟨rfl, rfl⟩ := q9
      refine g_stp (st2 := [.int v10, .int x7]) (pc2 := 57) (kc2 := 0) (kn2 := 0) rfl rfl rfl rfl ?_
      refine g_icmp_ge (tgt := 204) dX12_judged_57 (by decide) (fun c11 => ?_) (fun c11 => ?_)
      · rw [if_pos c11] at hf
        refine g_weak (lv2 := [none, some (.int x1), some (.int x2), some (.int x3), some (.int x4), some (.int x5), none, none, none, none, none]) (And.intro rfl (And.intro rfl (And.intro rfl (And.intro rfl (And.intro rfl (trivial)))))) ?_
        exact g_X12_judged_204 hf
      · rw [if_neg c11] at hf
        refine g_iload_n dX12_judged_60 rfl ?_
        refine g_bipush (v := (-5 : Int32)) dX12_judged_61 (by decide) ?_
        refine g_icmp_ne (tgt := 204) dX12_judged_63 (by decide) (fun c12 => ?_) (fun c12 => ?_)
        · rw [if_neg c12] at hf
          refine g_weak (lv2 := [none, some (.int x1), some (.int x2), some (.int x3), some (.int x4), some (.int x5), none, none, none, none, none]) (And.intro rfl (And.intro rfl (And.intro rfl (And.intro rfl (And.intro rfl (trivial)))))) ?_
          exact g_X12_judged_204 hf
        · rw [if_pos c12] at hf
          refine g_aload_n dX12_judged_66 rfl ?_
          replace hf := Option.bind_eq_some_iff.mp hf
          obtain ⟨v13, q14, hf⟩ := hf
          refine g_gR f_X12_9 dX12_judged_67 q14 ?_
          refine g_sipush (v := (210 : Int32)) dX12_judged_70 (by decide) ?_
          refine g_iload dX12_judged_73 rfl ?_
          refine g_iadd dX12_judged_75 ?_
          replace hf := Option.bind_eq_some_iff.mp hf
          obtain ⟨v15, q16, hf⟩ := hf
          refine g_aI dX12_judged_76 q16 ?_
          refine g_istore dX12_judged_77 (by decide) (g_lvp (lv2 := [some (.ref x0), some (.int x1), some (.int x2), some (.int x3), some (.int x4), some (.int x5), some (.int x6), some (.int x7), some (.int v15), none, none]) (pc2 := 79) rfl rfl ?_)
          refine g_aload_n dX12_judged_79 rfl ?_
          refine g_iload dX12_judged_80 rfl ?_
          refine g_iload dX12_judged_82 rfl ?_
          refine g_iload dX12_judged_84 rfl ?_
          replace hf := Option.bind_eq_some_iff.mp hf
          obtain ⟨f17, q18, hf⟩ := hf
          replace hf := gB_of hf
          obtain ⟨v21, h19, q20, hf⟩ := hf
          refine g_callV (as := [.int x7, .int v15, .int x6]) (mc1 := 0) (ms1 := 0) s_X12_182_X12_behind_12 dX12_judged_86 (gO_of q18) rfl (Nat.le_of_ble_eq_true rfl) (Nat.le_of_ble_eq_true rfl) (Nat.le_of_ble_eq_true rfl) (t_X12_behind (d := d + 1) q20) (fun r9 h9 q9 => ?_)
          obtain ⟨rfl, rfl⟩ := q9
          refine g_stp (st2 := [.int v21]) (pc2 := 89) (kc2 := 0) (kn2 := 0) rfl rfl rfl rfl ?_
          refine g_istore dX12_judged_89 (by decide) (g_lvp (lv2 := [some (.ref x0), some (.int x1), some (.int x2), some (.int x3), some (.int x4), some (.int x5), some (.int x6), some (.int x7), some (.int v15), some (.int v21), none]) (pc2 := 91) rfl rfl ?_)
          refine g_iload dX12_judged_91 rfl ?_
          refine g_if_ge (tgt := 102) dX12_judged_93 (by decide) (fun c22 => ?_) (fun c22 => ?_)
          · rw [if_pos c22] at hf
            refine g_aload_n dX12_judged_102 rfl ?_
            refine g_iload dX12_judged_103 rfl ?_
            refine g_iload dX12_judged_105 rfl ?_
            refine g_iload dX12_judged_107 rfl ?_
            replace hf := Option.bind_eq_some_iff.mp hf
            obtain ⟨f23, q24, hf⟩ := hf
            replace hf := gB_of hf
            obtain ⟨v27, h25, q26, hf⟩ := hf
            refine g_callV (as := [.int x7, .int v15, .int x6]) (mc1 := 0) (ms1 := 0) s_X12_179_X12_secondsOf_12 dX12_judged_109 (gO_of q24) rfl (Nat.le_of_ble_eq_true rfl) (Nat.le_of_ble_eq_true rfl) (Nat.le_of_ble_eq_true rfl) (t_X12_secondsOf (d := d + 1) q26) (fun r9 h9 q9 => ?_)
            obtain ⟨rfl, rfl⟩ := q9
            refine g_stp (st2 := [.int v27]) (pc2 := 112) (kc2 := 0) (kn2 := 0) rfl rfl rfl rfl ?_
            refine g_aload_n dX12_judged_112 rfl ?_
            replace hf := Option.bind_eq_some_iff.mp hf
            obtain ⟨v28, q29, hf⟩ := hf
            refine g_gR f_X12_25 dX12_judged_113 q29 ?_
            refine g_bipush (v := (61 : Int32)) dX12_judged_116 (by decide) ?_
            refine g_iload dX12_judged_118 rfl ?_
            refine g_iconst (v := (1 : Int32)) dX12_judged_120 (by decide) ?_
            refine g_iadd dX12_judged_121 ?_
            refine g_imul dX12_judged_122 ?_
            refine g_iload dX12_judged_123 rfl ?_
            refine g_iadd dX12_judged_125 ?_
            replace hf := Option.bind_eq_some_iff.mp hf
            obtain ⟨v30, q31, hf⟩ := hf
            refine g_aI dX12_judged_126 q31 ?_
            refine g_iadd dX12_judged_127 ?_
            refine g_aload_n dX12_judged_128 rfl ?_
            replace hf := Option.bind_eq_some_iff.mp hf
            obtain ⟨v32, q33, hf⟩ := hf
            refine g_gR f_X12_25 dX12_judged_129 q33 ?_
            refine g_bipush (v := (61 : Int32)) dX12_judged_132 (by decide) ?_
            refine g_iload dX12_judged_134 rfl ?_
            refine g_imul dX12_judged_136 ?_
            refine g_iload dX12_judged_137 rfl ?_
            refine g_iadd dX12_judged_139 ?_
            replace hf := Option.bind_eq_some_iff.mp hf
            obtain ⟨v34, q35, hf⟩ := hf
            refine g_aI dX12_judged_140 q35 ?_
            refine g_isub dX12_judged_141 ?_
            refine g_istore dX12_judged_142 (by decide) (g_lvp (lv2 := [some (.ref x0), some (.int x1), some (.int x2), some (.int x3), some (.int x4), some (.int x5), some (.int x6), some (.int x7), some (.int v15), some (.int v21), some (.int ((v27 + v30) - v34))]) (pc2 := 144) rfl rfl ?_)
            refine g_iload dX12_judged_144 rfl ?_
            refine g_iload dX12_judged_146 rfl ?_
            refine g_icmp_le (tgt := 156) dX12_judged_148 (by decide) (fun c36 => ?_) (fun c36 => ?_)
            · rw [if_pos c36] at hf
              refine g_iload dX12_judged_156 rfl ?_
              refine g_weak (lv2 := [some (.ref x0), some (.int x1), some (.int x2), some (.int x3), none, some (.int x5), none, some (.int x7), none, some (.int v21), some (.int ((v27 + v30) - v34))]) (And.intro rfl (And.intro rfl (And.intro rfl (And.intro rfl (And.intro rfl (And.intro rfl (And.intro rfl (And.intro rfl (trivial))))))))) ?_
              exact g_X12_judged_158 t40 hf
            · rw [if_neg c36] at hf
              refine g_iload dX12_judged_151 rfl ?_
              refine g_goto (tgt := 158) dX12_judged_153 (by decide) ?_
              refine g_weak (lv2 := [some (.ref x0), some (.int x1), some (.int x2), some (.int x3), none, some (.int x5), none, some (.int x7), none, some (.int v21), some (.int ((v27 + v30) - v34))]) (And.intro rfl (And.intro rfl (And.intro rfl (And.intro rfl (And.intro rfl (And.intro rfl (And.intro rfl (And.intro rfl (trivial))))))))) ?_
              exact g_X12_judged_158 t40 hf
          · rw [if_neg c22] at hf
            refine g_iload dX12_judged_96 rfl ?_
            refine g_istore_n dX12_judged_98 (by decide) (g_lvp (lv2 := [some (.ref x0), some (.int x1), some (.int x7), some (.int x3), some (.int x4), some (.int x5), some (.int x6), some (.int x7), some (.int v15), some (.int v21), none]) (pc2 := 99) rfl rfl ?_)
            refine g_goto (tgt := 198) dX12_judged_99 (by decide) ?_
            refine g_weak (lv2 := [some (.ref x0), some (.int x1), some (.int x7), some (.int x3), some (.int x4), some (.int x5), some (.int x6), some (.int x7), none, none, none]) (And.intro rfl (And.intro rfl (And.intro rfl (And.intro rfl (And.intro rfl (And.intro rfl (And.intro rfl (And.intro rfl (trivial))))))))) ?_
            exact g_X12_judged_198 t40 hf
def F_X12_judged_0 (n : Nat)  (x0 : Nat) (x1 : Int32) (h : gH) : Option (Int32 × gH) :=
  gB (F_X12_in n x1 (0 : Int32) (3 : Int32) h) fun v3 h1 =>
  if v3 = 0 then
  (some ((-1 : Int32), h1))
  else
  ((gO h1 x0 12).bind fun f5 =>
  (F_X12_looks n x0 (1023 : Int32) h1).bind fun h7 =>
  (gO h7 x0 12).bind fun f9 =>
  gB (F_X12_most n x0  h7) fun v13 h11 =>
  F_X12_judged_40 n n x0 x1 (-5 : Int32) (-5 : Int32) (-5 : Int32) (0 : Int32) v13 (0 : Int32) h11)
set_option maxRecDepth 20000 in
set_option maxHeartbeats 1600000 in
theorem g_X12_judged_0 {n d : Nat} : ∀ {x0 : Nat} {x1 : Int32} {h : gH} {rh : gH} {rv : Int32}, F_X12_judged_0 n x0 x1 h = some (rv, rh) → G M_X12_judged (d + 4) 0 0 0 0 0 [some (.ref x0), some (.int x1), none, none, none, none, none, none, none, none, none] [] h (qI rv rh) := by
  intro x0 x1 h rh rv hf
  unfold F_X12_judged_0 at hf
  refine g_iload_n dX12_judged_0 rfl ?_
  refine g_iconst (v := (0 : Int32)) dX12_judged_1 (by decide) ?_
  refine g_iconst (v := (3 : Int32)) dX12_judged_2 (by decide) ?_
  replace hf := gB_of hf
  obtain ⟨v3, h1, q2, hf⟩ := hf
  refine g_callS (as := [.int x1, .int (0 : Int32), .int (3 : Int32)]) (mc1 := 0) (ms1 := 0) s_X12_44_X12_in dX12_judged_3 rfl (Nat.le_of_ble_eq_true rfl) (Nat.le_of_ble_eq_true rfl) (Nat.le_of_ble_eq_true rfl) (t_X12_in (d := d + 3) q2) (fun r9 h9 q9 => ?_)
  obtain ⟨rfl, rfl⟩ := q9
  refine g_stp (st2 := [.int v3]) (pc2 := 6) (kc2 := 0) (kn2 := 0) rfl rfl rfl rfl ?_
  refine g_if_ne (tgt := 11) dX12_judged_6 (by decide) (fun c4 => ?_) (fun c4 => ?_)
  · rw [if_neg c4] at hf
    refine g_aload_n dX12_judged_11 rfl ?_
    refine g_sipush (v := (1023 : Int32)) dX12_judged_12 (by decide) ?_
    replace hf := Option.bind_eq_some_iff.mp hf
    obtain ⟨f5, q6, hf⟩ := hf
    replace hf := Option.bind_eq_some_iff.mp hf
    obtain ⟨h7, q8, hf⟩ := hf
    refine g_callV (as := [.int (1023 : Int32)]) (mc1 := 0) (ms1 := 0) s_X12_185_X12_looks_12 dX12_judged_15 (gO_of q6) rfl (Nat.le_of_ble_eq_true rfl) (Nat.le_of_ble_eq_true rfl) (Nat.le_of_ble_eq_true rfl) (t_X12_looks (d := d + 0) q8) (fun r9 h9 q9 => ?_)
    obtain ⟨rfl, rfl⟩ := q9
    refine g_stp (st2 := []) (pc2 := 18) (kc2 := 0) (kn2 := 0) rfl rfl rfl rfl ?_
    refine g_bipush (v := (-5 : Int32)) dX12_judged_18 (by decide) ?_
    refine g_istore_n dX12_judged_20 (by decide) (g_lvp (lv2 := [some (.ref x0), some (.int x1), some (.int (-5 : Int32)), none, none, none, none, none, none, none, none]) (pc2 := 21) rfl rfl ?_)
    refine g_bipush (v := (-5 : Int32)) dX12_judged_21 (by decide) ?_
    refine g_istore_n dX12_judged_23 (by decide) (g_lvp (lv2 := [some (.ref x0), some (.int x1), some (.int (-5 : Int32)), some (.int (-5 : Int32)), none, none, none, none, none, none, none]) (pc2 := 24) rfl rfl ?_)
    refine g_bipush (v := (-5 : Int32)) dX12_judged_24 (by decide) ?_
    refine g_istore dX12_judged_26 (by decide) (g_lvp (lv2 := [some (.ref x0), some (.int x1), some (.int (-5 : Int32)), some (.int (-5 : Int32)), some (.int (-5 : Int32)), none, none, none, none, none, none]) (pc2 := 28) rfl rfl ?_)
    refine g_iconst (v := (0 : Int32)) dX12_judged_28 (by decide) ?_
    refine g_istore dX12_judged_29 (by decide) (g_lvp (lv2 := [some (.ref x0), some (.int x1), some (.int (-5 : Int32)), some (.int (-5 : Int32)), some (.int (-5 : Int32)), some (.int (0 : Int32)), none, none, none, none, none]) (pc2 := 31) rfl rfl ?_)
    refine g_aload_n dX12_judged_31 rfl ?_
    replace hf := Option.bind_eq_some_iff.mp hf
    obtain ⟨f9, q10, hf⟩ := hf
    replace hf := gB_of hf
    obtain ⟨v13, h11, q12, hf⟩ := hf
    refine g_callV (as := []) (mc1 := 0) (ms1 := 0) s_X12_56_X12_most_12 dX12_judged_32 (gO_of q10) rfl (Nat.le_of_ble_eq_true rfl) (Nat.le_of_ble_eq_true rfl) (Nat.le_of_ble_eq_true rfl) (t_X12_most (d := d + 2) q12) (fun r9 h9 q9 => ?_)
    obtain ⟨rfl, rfl⟩ := q9
    refine g_stp (st2 := [.int v13]) (pc2 := 35) (kc2 := 0) (kn2 := 0) rfl rfl rfl rfl ?_
    refine g_istore dX12_judged_35 (by decide) (g_lvp (lv2 := [some (.ref x0), some (.int x1), some (.int (-5 : Int32)), some (.int (-5 : Int32)), some (.int (-5 : Int32)), some (.int (0 : Int32)), some (.int v13), none, none, none, none]) (pc2 := 37) rfl rfl ?_)
    refine g_iconst (v := (0 : Int32)) dX12_judged_37 (by decide) ?_
    refine g_istore dX12_judged_38 (by decide) (g_lvp (lv2 := [some (.ref x0), some (.int x1), some (.int (-5 : Int32)), some (.int (-5 : Int32)), some (.int (-5 : Int32)), some (.int (0 : Int32)), some (.int v13), some (.int (0 : Int32)), none, none, none]) (pc2 := 40) rfl rfl ?_)
    exact g_X12_judged_40 hf
  · rw [if_pos c4] at hf
    refine g_iconst (v := (-1 : Int32)) dX12_judged_9 (by decide) ?_
    obtain ⟨rfl, rfl⟩ := Prod.mk.inj (Option.some.inj hf)
    exact g_iret dX12_judged_10 rfl ⟨rfl, rfl⟩ (Nat.le_of_ble_eq_true rfl) (Nat.le_of_ble_eq_true rfl)
def F_X12_judged (n : Nat) (a : Nat) (p0 : Int32) (h : gH) : Option (Int32 × gH) := F_X12_judged_0 n  a p0 h
theorem t_X12_judged {n d : Nat} {a : Nat} {p0 : Int32} {h rh : gH} {rv : Int32} (hf : F_X12_judged n a p0 h = some (rv, rh)) : T M_X12_judged (d + 4) 0 0 [.ref a, .int p0] h (qI rv rh) := by
  refine T_of_G (L := 9) (by decide +kernel) rfl (Nat.le_of_ble_eq_true rfl) (g_lv (lv2 := [some (.ref a), some (.int p0), none, none, none, none, none, none, none, none, none]) rfl ?_)
  exact g_X12_judged_0 hf
def F_X12_rideOf_9 (n : Nat)  : Nat → Nat → Int32 → Int32 → Int32 → Int32 → Int32 → Int32 → gH → Option (Int32 × gH)
  | 0, _, _, _, _, _, _, _, _ => none
  | m + 1, x0, x1, x3, x4, x5, x6, x7, h => (gO h x0 12).bind fun f1 =>
  gB (F_X12_pieces n x0  h) fun v5 h3 =>
  if v5 ≤ x7 then
  ((pF h3 x0 12 14 (.int x5)).bind fun h7 =>
  some (x6, h7))
  else
  (gB (F_X12_in n x7 x3 ((x3 + x4) - (1 : Int32)) h3) fun v11 h9 =>
  (gO h9 x0 12).bind fun f12 =>
  gB (F_X12_takesOf n x0 x1 x7 x5 h9) fun v16 h14 =>
  (gO h14 x0 12).bind fun f17 =>
  gB (F_X12_secondsOf n x0 x7 v16 x5 h14) fun v21 h19 =>
  gB (F_X12_counts n v16 v11 h19) fun v24 h22 =>
  (gO h22 x0 12).bind fun f25 =>
  gB (F_X12_behind n x0 x7 v24 x5 h22) fun v29 h27 =>
  (gR h27 x0 12 15).bind fun v30 =>
  (sI h27 v30 x7 v16).bind fun h32 =>
  F_X12_rideOf_9 n m x0 x1 x3 x4 v29 (x6 + v21) (x7 + (1 : Int32)) h32)
set_option maxRecDepth 20000 in
set_option maxHeartbeats 1600000 in
theorem g_X12_rideOf_9 {n d : Nat} : ∀ {m : Nat} {x0 : Nat} {x1 : Int32} {x3 : Int32} {x4 : Int32} {x5 : Int32} {x6 : Int32} {x7 : Int32} {h : gH} {rh : gH} {rv : Int32}, F_X12_rideOf_9 n m x0 x1 x3 x4 x5 x6 x7 h = some (rv, rh) → G M_X12_rideOf (d + 5) 0 0 0 0 9 [some (.ref x0), some (.int x1), none, some (.int x3), some (.int x4), some (.int x5), some (.int x6), some (.int x7), none, none] [] h (qI rv rh) := by
  intro m
  induction m with
  | zero => intro x0 x1 x3 x4 x5 x6 x7 h rh rv hf; cases hf
  | succ m t9 =>
    intro x0 x1 x3 x4 x5 x6 x7 h rh rv hf
    unfold F_X12_rideOf_9 at hf
    refine g_iload dX12_rideOf_9 rfl ?_
    refine g_aload_n dX12_rideOf_11 rfl ?_
    replace hf := Option.bind_eq_some_iff.mp hf
    obtain ⟨f1, q2, hf⟩ := hf
    replace hf := gB_of hf
    obtain ⟨v5, h3, q4, hf⟩ := hf
    refine g_callV (as := []) (mc1 := 0) (ms1 := 0) s_X12_48_X12_pieces_12 dX12_rideOf_12 (gO_of q2) rfl (Nat.le_of_ble_eq_true rfl) (Nat.le_of_ble_eq_true rfl) (Nat.le_of_ble_eq_true rfl) (t_X12_pieces (d := d + 4) q4) (fun r9 h9 q9 => ?_)
    obtain ⟨rfl, rfl⟩ := q9
    refine g_stp (st2 := [.int v5, .int x7]) (pc2 := 15) (kc2 := 0) (kn2 := 0) rfl rfl rfl rfl ?_
    refine g_icmp_ge (tgt := 90) dX12_rideOf_15 (by decide) (fun c6 => ?_) (fun c6 => ?_)
    · rw [if_pos c6] at hf
      refine g_aload_n dX12_rideOf_90 rfl ?_
      refine g_iload dX12_rideOf_91 rfl ?_
      replace hf := Option.bind_eq_some_iff.mp hf
      obtain ⟨h7, q8, hf⟩ := hf
      refine g_pF p_X12_204 dX12_rideOf_93 q8 (fun _ => rfl) (fun _ => rfl) ?_
      refine g_iload dX12_rideOf_96 rfl ?_
      obtain ⟨rfl, rfl⟩ := Prod.mk.inj (Option.some.inj hf)
      exact g_iret dX12_rideOf_98 rfl ⟨rfl, rfl⟩ (Nat.le_of_ble_eq_true rfl) (Nat.le_of_ble_eq_true rfl)
    · rw [if_neg c6] at hf
      refine g_iload dX12_rideOf_18 rfl ?_
      refine g_iload_n dX12_rideOf_20 rfl ?_
      refine g_iload_n dX12_rideOf_21 rfl ?_
      refine g_iload dX12_rideOf_22 rfl ?_
      refine g_iadd dX12_rideOf_24 ?_
      refine g_iconst (v := (1 : Int32)) dX12_rideOf_25 (by decide) ?_
      refine g_isub dX12_rideOf_26 ?_
      replace hf := gB_of hf
      obtain ⟨v11, h9, q10, hf⟩ := hf
      refine g_callS (as := [.int x7, .int x3, .int ((x3 + x4) - (1 : Int32))]) (mc1 := 0) (ms1 := 0) s_X12_44_X12_in dX12_rideOf_27 rfl (Nat.le_of_ble_eq_true rfl) (Nat.le_of_ble_eq_true rfl) (Nat.le_of_ble_eq_true rfl) (t_X12_in (d := d + 4) q10) (fun r9 h9 q9 => ?_)
      obtain ⟨rfl, rfl⟩ := q9
      refine g_stp (st2 := [.int v11]) (pc2 := 30) (kc2 := 0) (kn2 := 0) rfl rfl rfl rfl ?_
      refine g_istore dX12_rideOf_30 (by decide) (g_lvp (lv2 := [some (.ref x0), some (.int x1), none, some (.int x3), some (.int x4), some (.int x5), some (.int x6), some (.int x7), some (.int v11), none]) (pc2 := 32) rfl rfl ?_)
      refine g_aload_n dX12_rideOf_32 rfl ?_
      refine g_iload_n dX12_rideOf_33 rfl ?_
      refine g_iload dX12_rideOf_34 rfl ?_
      refine g_iload dX12_rideOf_36 rfl ?_
      replace hf := Option.bind_eq_some_iff.mp hf
      obtain ⟨f12, q13, hf⟩ := hf
      replace hf := gB_of hf
      obtain ⟨v16, h14, q15, hf⟩ := hf
      refine g_callV (as := [.int x1, .int x7, .int x5]) (mc1 := 0) (ms1 := 0) s_X12_197_X12_takesOf_12 dX12_rideOf_38 (gO_of q13) rfl (Nat.le_of_ble_eq_true rfl) (Nat.le_of_ble_eq_true rfl) (Nat.le_of_ble_eq_true rfl) (t_X12_takesOf (d := d + 0) q15) (fun r9 h9 q9 => ?_)
      obtain ⟨rfl, rfl⟩ := q9
      refine g_stp (st2 := [.int v16]) (pc2 := 41) (kc2 := 0) (kn2 := 0) rfl rfl rfl rfl ?_
      refine g_istore dX12_rideOf_41 (by decide) (g_lvp (lv2 := [some (.ref x0), some (.int x1), none, some (.int x3), some (.int x4), some (.int x5), some (.int x6), some (.int x7), some (.int v11), some (.int v16)]) (pc2 := 43) rfl rfl ?_)
      refine g_iload dX12_rideOf_43 rfl ?_
      refine g_aload_n dX12_rideOf_45 rfl ?_
      refine g_iload dX12_rideOf_46 rfl ?_
      refine g_iload dX12_rideOf_48 rfl ?_
      refine g_iload dX12_rideOf_50 rfl ?_
      replace hf := Option.bind_eq_some_iff.mp hf
      obtain ⟨f17, q18, hf⟩ := hf
      replace hf := gB_of hf
      obtain ⟨v21, h19, q20, hf⟩ := hf
      refine g_callV (as := [.int x7, .int v16, .int x5]) (mc1 := 0) (ms1 := 0) s_X12_179_X12_secondsOf_12 dX12_rideOf_52 (gO_of q18) rfl (Nat.le_of_ble_eq_true rfl) (Nat.le_of_ble_eq_true rfl) (Nat.le_of_ble_eq_true rfl) (t_X12_secondsOf (d := d + 2) q20) (fun r9 h9 q9 => ?_)
      obtain ⟨rfl, rfl⟩ := q9
      refine g_stp (st2 := [.int v21, .int x6]) (pc2 := 55) (kc2 := 0) (kn2 := 0) rfl rfl rfl rfl ?_
      refine g_iadd dX12_rideOf_55 ?_
      refine g_istore dX12_rideOf_56 (by decide) (g_lvp (lv2 := [some (.ref x0), some (.int x1), none, some (.int x3), some (.int x4), some (.int x5), some (.int (x6 + v21)), some (.int x7), some (.int v11), some (.int v16)]) (pc2 := 58) rfl rfl ?_)
      refine g_aload_n dX12_rideOf_58 rfl ?_
      refine g_iload dX12_rideOf_59 rfl ?_
      refine g_iload dX12_rideOf_61 rfl ?_
      refine g_iload dX12_rideOf_63 rfl ?_
      replace hf := gB_of hf
      obtain ⟨v24, h22, q23, hf⟩ := hf
      refine g_callS (as := [.int v16, .int v11]) (mc1 := 0) (ms1 := 0) s_X12_200_X12_counts dX12_rideOf_65 rfl (Nat.le_of_ble_eq_true rfl) (Nat.le_of_ble_eq_true rfl) (Nat.le_of_ble_eq_true rfl) (t_X12_counts (d := d + 4) q23) (fun r9 h9 q9 => ?_)
      obtain ⟨rfl, rfl⟩ := q9
      refine g_stp (st2 := [.int v24, .int x7, .ref x0]) (pc2 := 68) (kc2 := 0) (kn2 := 0) rfl rfl rfl rfl ?_
      refine g_iload dX12_rideOf_68 rfl ?_
      replace hf := Option.bind_eq_some_iff.mp hf
      obtain ⟨f25, q26, hf⟩ := hf
      replace hf := gB_of hf
      obtain ⟨v29, h27, q28, hf⟩ := hf
      refine g_callV (as := [.int x7, .int v24, .int x5]) (mc1 := 0) (ms1 := 0) s_X12_182_X12_behind_12 dX12_rideOf_70 (gO_of q26) rfl (Nat.le_of_ble_eq_true rfl) (Nat.le_of_ble_eq_true rfl) (Nat.le_of_ble_eq_true rfl) (t_X12_behind (d := d + 2) q28) (fun r9 h9 q9 => ?_)
      obtain ⟨rfl, rfl⟩ := q9
      refine g_stp (st2 := [.int v29]) (pc2 := 73) (kc2 := 0) (kn2 := 0) rfl rfl rfl rfl ?_
      refine g_istore dX12_rideOf_73 (by decide) (g_lvp (lv2 := [some (.ref x0), some (.int x1), none, some (.int x3), some (.int x4), some (.int v29), some (.int (x6 + v21)), some (.int x7), some (.int v11), some (.int v16)]) (pc2 := 75) rfl rfl ?_)
      refine g_aload_n dX12_rideOf_75 rfl ?_
      replace hf := Option.bind_eq_some_iff.mp hf
      obtain ⟨v30, q31, hf⟩ := hf
      refine g_gR f_X12_34 dX12_rideOf_76 q31 ?_
      refine g_iload dX12_rideOf_79 rfl ?_
      refine g_iload dX12_rideOf_81 rfl ?_
      replace hf := Option.bind_eq_some_iff.mp hf
      obtain ⟨h32, q33, hf⟩ := hf
      refine g_sI dX12_rideOf_83 q33 ?_
      refine g_iinc2 (w := (1 : Int32)) dX12_rideOf_84 (by decide) rfl (by decide) (g_lvp (lv2 := [some (.ref x0), some (.int x1), none, some (.int x3), some (.int x4), some (.int v29), some (.int (x6 + v21)), some (.int (x7 + (1 : Int32))), some (.int v11), some (.int v16)]) (pc2 := 87) rfl rfl ?_)
      refine g_goto (tgt := 9) dX12_rideOf_87 (by decide) ?_
      refine g_weak (lv2 := [some (.ref x0), some (.int x1), none, some (.int x3), some (.int x4), some (.int v29), some (.int (x6 + v21)), some (.int (x7 + (1 : Int32))), none, none]) (And.intro rfl (And.intro rfl (And.intro rfl (And.intro rfl (And.intro rfl (And.intro rfl (And.intro rfl (trivial)))))))) ?_
      exact t9 hf
def F_X12_rideOf_0 (n : Nat)  (x0 : Nat) (x1 : Int32) (x2 : Int32) (x3 : Int32) (x4 : Int32) (h : gH) : Option (Int32 × gH) :=
  F_X12_rideOf_9 n n x0 x1 x3 x4 x2 (0 : Int32) (0 : Int32) h
set_option maxRecDepth 20000 in
set_option maxHeartbeats 1600000 in
theorem g_X12_rideOf_0 {n d : Nat} : ∀ {x0 : Nat} {x1 : Int32} {x2 : Int32} {x3 : Int32} {x4 : Int32} {h : gH} {rh : gH} {rv : Int32}, F_X12_rideOf_0 n x0 x1 x2 x3 x4 h = some (rv, rh) → G M_X12_rideOf (d + 5) 0 0 0 0 0 [some (.ref x0), some (.int x1), some (.int x2), some (.int x3), some (.int x4), none, none, none, none, none] [] h (qI rv rh) := by
  intro x0 x1 x2 x3 x4 h rh rv hf
  unfold F_X12_rideOf_0 at hf
  refine g_iload_n dX12_rideOf_0 rfl ?_
  refine g_istore dX12_rideOf_1 (by decide) (g_lvp (lv2 := [some (.ref x0), some (.int x1), some (.int x2), some (.int x3), some (.int x4), some (.int x2), none, none, none, none]) (pc2 := 3) rfl rfl ?_)
  refine g_iconst (v := (0 : Int32)) dX12_rideOf_3 (by decide) ?_
  refine g_istore dX12_rideOf_4 (by decide) (g_lvp (lv2 := [some (.ref x0), some (.int x1), some (.int x2), some (.int x3), some (.int x4), some (.int x2), some (.int (0 : Int32)), none, none, none]) (pc2 := 6) rfl rfl ?_)
  refine g_iconst (v := (0 : Int32)) dX12_rideOf_6 (by decide) ?_
  refine g_istore dX12_rideOf_7 (by decide) (g_lvp (lv2 := [some (.ref x0), some (.int x1), some (.int x2), some (.int x3), some (.int x4), some (.int x2), some (.int (0 : Int32)), some (.int (0 : Int32)), none, none]) (pc2 := 9) rfl rfl ?_)
  refine g_weak (lv2 := [some (.ref x0), some (.int x1), none, some (.int x3), some (.int x4), some (.int x2), some (.int (0 : Int32)), some (.int (0 : Int32)), none, none]) (And.intro rfl (And.intro rfl (And.intro rfl (And.intro rfl (And.intro rfl (And.intro rfl (And.intro rfl (trivial)))))))) ?_
  exact g_X12_rideOf_9 hf
def F_X12_rideOf (n : Nat) (a : Nat) (p0 : Int32) (p1 : Int32) (p2 : Int32) (p3 : Int32) (h : gH) : Option (Int32 × gH) := F_X12_rideOf_0 n  a p0 p1 p2 p3 h
theorem t_X12_rideOf {n d : Nat} {a : Nat} {p0 : Int32} {p1 : Int32} {p2 : Int32} {p3 : Int32} {h rh : gH} {rv : Int32} (hf : F_X12_rideOf n a p0 p1 p2 p3 h = some (rv, rh)) : T M_X12_rideOf (d + 5) 0 0 [.ref a, .int p0, .int p1, .int p2, .int p3] h (qI rv rh) := by
  refine T_of_G (L := 5) (by decide +kernel) rfl (Nat.le_of_ble_eq_true rfl) (g_lv (lv2 := [some (.ref a), some (.int p0), some (.int p1), some (.int p2), some (.int p3), none, none, none, none, none]) rfl ?_)
  exact g_X12_rideOf_0 hf
def F_X12_laps_0 (n : Nat)  (x0 : Nat) (x1 : Int32) (h : gH) : Option (Int32 × gH) :=
  (gO h x0 12).bind fun f1 =>
  gB (F_X12_isWay n x0 x1 h) fun v5 h3 =>
  if v5 = 0 then
  (some ((-10001 : Int32), h3))
  else
  ((gO h3 x0 12).bind fun f7 =>
  gB (F_X12_pieces n x0  h3) fun v11 h9 =>
  if v11 = 0 then
  (some ((-10002 : Int32), h9))
  else
  ((gO h9 x0 12).bind fun f13 =>
  (F_X12_looks n x0 (1023 : Int32) h9).bind fun h15 =>
  (gO h15 x0 12).bind fun f17 =>
  gB (F_X12_most n x0  h15) fun v21 h19 =>
  (gO h19 x0 12).bind fun f22 =>
  gB (F_X12_rideOf n x0 x1 v21 (0 : Int32) (0 : Int32) h19) fun v26 h24 =>
  (gI h24 x0 12 14).bind fun v27 =>
  (gO h24 x0 12).bind fun f29 =>
  gB (F_X12_rideOf n x0 x1 v27 (0 : Int32) (0 : Int32) h24) fun v33 h31 =>
  some ((v33 - v26), h31)))
set_option maxRecDepth 20000 in
set_option maxHeartbeats 1600000 in
theorem g_X12_laps_0 {n d : Nat} : ∀ {x0 : Nat} {x1 : Int32} {h : gH} {rh : gH} {rv : Int32}, F_X12_laps_0 n x0 x1 h = some (rv, rh) → G M_X12_laps (d + 6) 0 0 0 0 0 [some (.ref x0), some (.int x1), none] [] h (qI rv rh) := by
  intro x0 x1 h rh rv hf
  unfold F_X12_laps_0 at hf
  refine g_aload_n dX12_laps_0 rfl ?_
  refine g_iload_n dX12_laps_1 rfl ?_
  replace hf := Option.bind_eq_some_iff.mp hf
  obtain ⟨f1, q2, hf⟩ := hf
  replace hf := gB_of hf
  obtain ⟨v5, h3, q4, hf⟩ := hf
  refine g_callV (as := [.int x1]) (mc1 := 0) (ms1 := 0) s_X12_188_X12_isWay_12 dX12_laps_2 (gO_of q2) rfl (Nat.le_of_ble_eq_true rfl) (Nat.le_of_ble_eq_true rfl) (Nat.le_of_ble_eq_true rfl) (t_X12_isWay (d := d + 4) q4) (fun r9 h9 q9 => ?_)
  obtain ⟨rfl, rfl⟩ := q9
  refine g_stp (st2 := [.int v5]) (pc2 := 5) (kc2 := 0) (kn2 := 0) rfl rfl rfl rfl ?_
  refine g_if_ne (tgt := 12) dX12_laps_5 (by decide) (fun c6 => ?_) (fun c6 => ?_)
  · rw [if_neg c6] at hf
    refine g_aload_n dX12_laps_12 rfl ?_
    replace hf := Option.bind_eq_some_iff.mp hf
    obtain ⟨f7, q8, hf⟩ := hf
    replace hf := gB_of hf
    obtain ⟨v11, h9, q10, hf⟩ := hf
    refine g_callV (as := []) (mc1 := 0) (ms1 := 0) s_X12_48_X12_pieces_12 dX12_laps_13 (gO_of q8) rfl (Nat.le_of_ble_eq_true rfl) (Nat.le_of_ble_eq_true rfl) (Nat.le_of_ble_eq_true rfl) (t_X12_pieces (d := d + 5) q10) (fun r9 h9 q9 => ?_)
    obtain ⟨rfl, rfl⟩ := q9
    refine g_stp (st2 := [.int v11]) (pc2 := 16) (kc2 := 0) (kn2 := 0) rfl rfl rfl rfl ?_
    refine g_if_ne (tgt := 23) dX12_laps_16 (by decide) (fun c12 => ?_) (fun c12 => ?_)
    · rw [if_neg c12] at hf
      refine g_aload_n dX12_laps_23 rfl ?_
      refine g_sipush (v := (1023 : Int32)) dX12_laps_24 (by decide) ?_
      replace hf := Option.bind_eq_some_iff.mp hf
      obtain ⟨f13, q14, hf⟩ := hf
      replace hf := Option.bind_eq_some_iff.mp hf
      obtain ⟨h15, q16, hf⟩ := hf
      refine g_callV (as := [.int (1023 : Int32)]) (mc1 := 0) (ms1 := 0) s_X12_185_X12_looks_12 dX12_laps_27 (gO_of q14) rfl (Nat.le_of_ble_eq_true rfl) (Nat.le_of_ble_eq_true rfl) (Nat.le_of_ble_eq_true rfl) (t_X12_looks (d := d + 2) q16) (fun r9 h9 q9 => ?_)
      obtain ⟨rfl, rfl⟩ := q9
      refine g_stp (st2 := []) (pc2 := 30) (kc2 := 0) (kn2 := 0) rfl rfl rfl rfl ?_
      refine g_aload_n dX12_laps_30 rfl ?_
      refine g_iload_n dX12_laps_31 rfl ?_
      refine g_aload_n dX12_laps_32 rfl ?_
      replace hf := Option.bind_eq_some_iff.mp hf
      obtain ⟨f17, q18, hf⟩ := hf
      replace hf := gB_of hf
      obtain ⟨v21, h19, q20, hf⟩ := hf
      refine g_callV (as := []) (mc1 := 0) (ms1 := 0) s_X12_56_X12_most_12 dX12_laps_33 (gO_of q18) rfl (Nat.le_of_ble_eq_true rfl) (Nat.le_of_ble_eq_true rfl) (Nat.le_of_ble_eq_true rfl) (t_X12_most (d := d + 4) q20) (fun r9 h9 q9 => ?_)
      obtain ⟨rfl, rfl⟩ := q9
      refine g_stp (st2 := [.int v21, .int x1, .ref x0]) (pc2 := 36) (kc2 := 0) (kn2 := 0) rfl rfl rfl rfl ?_
      refine g_iconst (v := (0 : Int32)) dX12_laps_36 (by decide) ?_
      refine g_iconst (v := (0 : Int32)) dX12_laps_37 (by decide) ?_
      replace hf := Option.bind_eq_some_iff.mp hf
      obtain ⟨f22, q23, hf⟩ := hf
      replace hf := gB_of hf
      obtain ⟨v26, h24, q25, hf⟩ := hf
      refine g_callV (as := [.int x1, .int v21, .int (0 : Int32), .int (0 : Int32)]) (mc1 := 0) (ms1 := 0) s_X12_207_X12_rideOf_12 dX12_laps_38 (gO_of q23) rfl (Nat.le_of_ble_eq_true rfl) (Nat.le_of_ble_eq_true rfl) (Nat.le_of_ble_eq_true rfl) (t_X12_rideOf (d := d + 0) q25) (fun r9 h9 q9 => ?_)
      obtain ⟨rfl, rfl⟩ := q9
      refine g_stp (st2 := [.int v26]) (pc2 := 41) (kc2 := 0) (kn2 := 0) rfl rfl rfl rfl ?_
      refine g_istore_n dX12_laps_41 (by decide) (g_lvp (lv2 := [some (.ref x0), some (.int x1), some (.int v26)]) (pc2 := 42) rfl rfl ?_)
      refine g_aload_n dX12_laps_42 rfl ?_
      refine g_iload_n dX12_laps_43 rfl ?_
      refine g_aload_n dX12_laps_44 rfl ?_
      replace hf := Option.bind_eq_some_iff.mp hf
      obtain ⟨v27, q28, hf⟩ := hf
      refine g_gI f_X12_204 dX12_laps_45 q28 ?_
      refine g_iconst (v := (0 : Int32)) dX12_laps_48 (by decide) ?_
      refine g_iconst (v := (0 : Int32)) dX12_laps_49 (by decide) ?_
      replace hf := Option.bind_eq_some_iff.mp hf
      obtain ⟨f29, q30, hf⟩ := hf
      replace hf := gB_of hf
      obtain ⟨v33, h31, q32, hf⟩ := hf
      refine g_callV (as := [.int x1, .int v27, .int (0 : Int32), .int (0 : Int32)]) (mc1 := 0) (ms1 := 0) s_X12_207_X12_rideOf_12 dX12_laps_50 (gO_of q30) rfl (Nat.le_of_ble_eq_true rfl) (Nat.le_of_ble_eq_true rfl) (Nat.le_of_ble_eq_true rfl) (t_X12_rideOf (d := d + 0) q32) (fun r9 h9 q9 => ?_)
      obtain ⟨rfl, rfl⟩ := q9
      refine g_stp (st2 := [.int v33]) (pc2 := 53) (kc2 := 0) (kn2 := 0) rfl rfl rfl rfl ?_
      refine g_iload_n dX12_laps_53 rfl ?_
      refine g_isub dX12_laps_54 ?_
      obtain ⟨rfl, rfl⟩ := Prod.mk.inj (Option.some.inj hf)
      exact g_iret dX12_laps_55 rfl ⟨rfl, rfl⟩ (Nat.le_of_ble_eq_true rfl) (Nat.le_of_ble_eq_true rfl)
    · rw [if_pos c12] at hf
      refine g_sipush (v := (-10002 : Int32)) dX12_laps_19 (by decide) ?_
      obtain ⟨rfl, rfl⟩ := Prod.mk.inj (Option.some.inj hf)
      exact g_iret dX12_laps_22 rfl ⟨rfl, rfl⟩ (Nat.le_of_ble_eq_true rfl) (Nat.le_of_ble_eq_true rfl)
  · rw [if_pos c6] at hf
    refine g_sipush (v := (-10001 : Int32)) dX12_laps_8 (by decide) ?_
    obtain ⟨rfl, rfl⟩ := Prod.mk.inj (Option.some.inj hf)
    exact g_iret dX12_laps_11 rfl ⟨rfl, rfl⟩ (Nat.le_of_ble_eq_true rfl) (Nat.le_of_ble_eq_true rfl)
def F_X12_laps (n : Nat) (a : Nat) (p0 : Int32) (h : gH) : Option (Int32 × gH) := F_X12_laps_0 n  a p0 h
theorem t_X12_laps {n d : Nat} {a : Nat} {p0 : Int32} {h rh : gH} {rv : Int32} (hf : F_X12_laps n a p0 h = some (rv, rh)) : T M_X12_laps (d + 6) 0 0 [.ref a, .int p0] h (qI rv rh) := by
  refine T_of_G (L := 1) (by decide +kernel) rfl (Nat.le_of_ble_eq_true rfl) (g_lv (lv2 := [some (.ref a), some (.int p0), none]) rfl ?_)
  exact g_X12_laps_0 hf
def F_X12_line_96 (n : Nat)  (y0 : Int32) (h : gH) : Option (Int32 × gH) :=
  some (y0, h)
set_option maxRecDepth 20000 in
set_option maxHeartbeats 1600000 in
theorem g_X12_line_96 {n d : Nat} : ∀ {y0 : Int32} {h : gH} {rh : gH} {rv : Int32}, F_X12_line_96 n y0 h = some (rv, rh) → G M_X12_line (d + 2) 0 0 0 0 96 [none, none, none, none, none] [.int y0] h (qI rv rh) := by
  intro y0 h rh rv hf
  unfold F_X12_line_96 at hf
  obtain ⟨rfl, rfl⟩ := Prod.mk.inj (Option.some.inj hf)
  exact g_iret dX12_line_96 rfl ⟨rfl, rfl⟩ (Nat.le_of_ble_eq_true rfl) (Nat.le_of_ble_eq_true rfl)
def F_X12_line_18 (n : Nat)   (h : gH) : Option (Int32 × gH) :=
  some ((-1 : Int32), h)
set_option maxRecDepth 20000 in
set_option maxHeartbeats 1600000 in
theorem g_X12_line_18 {n d : Nat} : ∀  {h : gH} {rh : gH} {rv : Int32}, F_X12_line_18 n  h = some (rv, rh) → G M_X12_line (d + 2) 0 0 0 0 18 [none, none, none, none, none] [] h (qI rv rh) := by
  intro  h rh rv hf
  unfold F_X12_line_18 at hf
  refine g_iconst (v := (-1 : Int32)) dX12_line_18 (by decide) ?_
  obtain ⟨rfl, rfl⟩ := Prod.mk.inj (Option.some.inj hf)
  exact g_iret dX12_line_19 rfl ⟨rfl, rfl⟩ (Nat.le_of_ble_eq_true rfl) (Nat.le_of_ble_eq_true rfl)
def F_X12_line_0 (n : Nat)  (x0 : Nat) (x1 : Int32) (x2 : Int32) (x3 : Int32) (h : gH) : Option (Int32 × gH) :=
  (gO h x0 12).bind fun f1 =>
  gB (F_X12_isWay n x0 x1 h) fun v5 h3 =>
  if v5 = 0 then
  (F_X12_line_18 n h3)
  else
  (gB (F_X12_in n x2 (0 : Int32) (7 : Int32) h3) fun v9 h7 =>
  if v9 = 0 then
  (F_X12_line_18 n h7)
  else
  (gB (F_X12_in n x3 (-1 : Int32) (9 : Int32) h7) fun v13 h11 =>
  if v13 = 0 then
  (some ((-2 : Int32), h11))
  else
  ((gR h11 x0 12 1).bind fun v15 =>
  (aI h11 v15 ((130 : Int32) + x1)).bind fun v17 =>
  if v17 = (5 : Int32) then
  ((gR h11 x0 12 1).bind fun v20 =>
  (aI h11 v20 (((146 : Int32) + ((8 : Int32) * x1)) + x2)).bind fun v22 =>
  (gR h11 x0 12 1).bind fun v24 =>
  (sI h11 v24 (((146 : Int32) + ((8 : Int32) * x1)) + x2) x3).bind fun h26 =>
  if v22 = (-1 : Int32) then
  (F_X12_line_96 n (-5 : Int32) h26)
  else
  (F_X12_line_96 n v22 h26))
  else
  (some ((-3 : Int32), h11)))))
set_option maxRecDepth 20000 in
set_option maxHeartbeats 1600000 in
theorem g_X12_line_0 {n d : Nat} : ∀ {x0 : Nat} {x1 : Int32} {x2 : Int32} {x3 : Int32} {h : gH} {rh : gH} {rv : Int32}, F_X12_line_0 n x0 x1 x2 x3 h = some (rv, rh) → G M_X12_line (d + 2) 0 0 0 0 0 [some (.ref x0), some (.int x1), some (.int x2), some (.int x3), none] [] h (qI rv rh) := by
  intro x0 x1 x2 x3 h rh rv hf
  unfold F_X12_line_0 at hf
  refine g_aload_n dX12_line_0 rfl ?_
  refine g_iload_n dX12_line_1 rfl ?_
  replace hf := Option.bind_eq_some_iff.mp hf
  obtain ⟨f1, q2, hf⟩ := hf
  replace hf := gB_of hf
  obtain ⟨v5, h3, q4, hf⟩ := hf
  refine g_callV (as := [.int x1]) (mc1 := 0) (ms1 := 0) s_X12_188_X12_isWay_12 dX12_line_2 (gO_of q2) rfl (Nat.le_of_ble_eq_true rfl) (Nat.le_of_ble_eq_true rfl) (Nat.le_of_ble_eq_true rfl) (t_X12_isWay (d := d + 0) q4) (fun r9 h9 q9 => ?_)
  obtain ⟨rfl, rfl⟩ := q9
  refine g_stp (st2 := [.int v5]) (pc2 := 5) (kc2 := 0) (kn2 := 0) rfl rfl rfl rfl ?_
  refine g_if_eq (tgt := 18) dX12_line_5 (by decide) (fun c6 => ?_) (fun c6 => ?_)
  · rw [if_pos c6] at hf
    refine g_weak (lv2 := [none, none, none, none, none]) (trivial) ?_
    exact g_X12_line_18 hf
  · rw [if_neg c6] at hf
    refine g_iload_n dX12_line_8 rfl ?_
    refine g_iconst (v := (0 : Int32)) dX12_line_9 (by decide) ?_
    refine g_bipush (v := (7 : Int32)) dX12_line_10 (by decide) ?_
    replace hf := gB_of hf
    obtain ⟨v9, h7, q8, hf⟩ := hf
    refine g_callS (as := [.int x2, .int (0 : Int32), .int (7 : Int32)]) (mc1 := 0) (ms1 := 0) s_X12_44_X12_in dX12_line_12 rfl (Nat.le_of_ble_eq_true rfl) (Nat.le_of_ble_eq_true rfl) (Nat.le_of_ble_eq_true rfl) (t_X12_in (d := d + 1) q8) (fun r9 h9 q9 => ?_)
    obtain ⟨rfl, rfl⟩ := q9
    refine g_stp (st2 := [.int v9]) (pc2 := 15) (kc2 := 0) (kn2 := 0) rfl rfl rfl rfl ?_
    refine g_if_ne (tgt := 20) dX12_line_15 (by decide) (fun c10 => ?_) (fun c10 => ?_)
    · rw [if_neg c10] at hf
      refine g_iload_n dX12_line_20 rfl ?_
      refine g_iconst (v := (-1 : Int32)) dX12_line_21 (by decide) ?_
      refine g_bipush (v := (9 : Int32)) dX12_line_22 (by decide) ?_
      replace hf := gB_of hf
      obtain ⟨v13, h11, q12, hf⟩ := hf
      refine g_callS (as := [.int x3, .int (-1 : Int32), .int (9 : Int32)]) (mc1 := 0) (ms1 := 0) s_X12_44_X12_in dX12_line_24 rfl (Nat.le_of_ble_eq_true rfl) (Nat.le_of_ble_eq_true rfl) (Nat.le_of_ble_eq_true rfl) (t_X12_in (d := d + 1) q12) (fun r9 h9 q9 => ?_)
      obtain ⟨rfl, rfl⟩ := q9
      refine g_stp (st2 := [.int v13]) (pc2 := 27) (kc2 := 0) (kn2 := 0) rfl rfl rfl rfl ?_
      refine g_if_ne (tgt := 33) dX12_line_27 (by decide) (fun c14 => ?_) (fun c14 => ?_)
      · rw [if_neg c14] at hf
        refine g_aload_n dX12_line_33 rfl ?_
        replace hf := Option.bind_eq_some_iff.mp hf
        obtain ⟨v15, q16, hf⟩ := hf
        refine g_gR f_X12_9 dX12_line_34 q16 ?_
        refine g_sipush (v := (130 : Int32)) dX12_line_37 (by decide) ?_
        refine g_iload_n dX12_line_40 rfl ?_
        refine g_iadd dX12_line_41 ?_
        replace hf := Option.bind_eq_some_iff.mp hf
        obtain ⟨v17, q18, hf⟩ := hf
        refine g_aI dX12_line_42 q18 ?_
        refine g_iconst (v := (5 : Int32)) dX12_line_43 (by decide) ?_
        refine g_icmp_eq (tgt := 50) dX12_line_44 (by decide) (fun c19 => ?_) (fun c19 => ?_)
        · rw [if_pos c19] at hf
          refine g_aload_n dX12_line_50 rfl ?_
          replace hf := Option.bind_eq_some_iff.mp hf
          obtain ⟨v20, q21, hf⟩ := hf
          refine g_gR f_X12_9 dX12_line_51 q21 ?_
          refine g_sipush (v := (146 : Int32)) dX12_line_54 (by decide) ?_
          refine g_bipush (v := (8 : Int32)) dX12_line_57 (by decide) ?_
          refine g_iload_n dX12_line_59 rfl ?_
          refine g_imul dX12_line_60 ?_
          refine g_iadd dX12_line_61 ?_
          refine g_iload_n dX12_line_62 rfl ?_
          refine g_iadd dX12_line_63 ?_
          replace hf := Option.bind_eq_some_iff.mp hf
          obtain ⟨v22, q23, hf⟩ := hf
          refine g_aI dX12_line_64 q23 ?_
          refine g_istore dX12_line_65 (by decide) (g_lvp (lv2 := [some (.ref x0), some (.int x1), some (.int x2), some (.int x3), some (.int v22)]) (pc2 := 67) rfl rfl ?_)
          refine g_aload_n dX12_line_67 rfl ?_
          replace hf := Option.bind_eq_some_iff.mp hf
          obtain ⟨v24, q25, hf⟩ := hf
          refine g_gR f_X12_9 dX12_line_68 q25 ?_
          refine g_sipush (v := (146 : Int32)) dX12_line_71 (by decide) ?_
          refine g_bipush (v := (8 : Int32)) dX12_line_74 (by decide) ?_
          refine g_iload_n dX12_line_76 rfl ?_
          refine g_imul dX12_line_77 ?_
          refine g_iadd dX12_line_78 ?_
          refine g_iload_n dX12_line_79 rfl ?_
          refine g_iadd dX12_line_80 ?_
          refine g_iload_n dX12_line_81 rfl ?_
          replace hf := Option.bind_eq_some_iff.mp hf
          obtain ⟨h26, q27, hf⟩ := hf
          refine g_sI dX12_line_82 q27 ?_
          refine g_iload dX12_line_83 rfl ?_
          refine g_iconst (v := (-1 : Int32)) dX12_line_85 (by decide) ?_
          refine g_icmp_ne (tgt := 94) dX12_line_86 (by decide) (fun c28 => ?_) (fun c28 => ?_)
          · rw [if_neg c28] at hf
            refine g_iload dX12_line_94 rfl ?_
            refine g_weak (lv2 := [none, none, none, none, none]) (trivial) ?_
            exact g_X12_line_96 hf
          · rw [if_pos c28] at hf
            refine g_bipush (v := (-5 : Int32)) dX12_line_89 (by decide) ?_
            refine g_goto (tgt := 96) dX12_line_91 (by decide) ?_
            refine g_weak (lv2 := [none, none, none, none, none]) (trivial) ?_
            exact g_X12_line_96 hf
        · rw [if_neg c19] at hf
          refine g_bipush (v := (-3 : Int32)) dX12_line_47 (by decide) ?_
          obtain ⟨rfl, rfl⟩ := Prod.mk.inj (Option.some.inj hf)
          exact g_iret dX12_line_49 rfl ⟨rfl, rfl⟩ (Nat.le_of_ble_eq_true rfl) (Nat.le_of_ble_eq_true rfl)
      · rw [if_pos c14] at hf
        refine g_bipush (v := (-2 : Int32)) dX12_line_30 (by decide) ?_
        obtain ⟨rfl, rfl⟩ := Prod.mk.inj (Option.some.inj hf)
        exact g_iret dX12_line_32 rfl ⟨rfl, rfl⟩ (Nat.le_of_ble_eq_true rfl) (Nat.le_of_ble_eq_true rfl)
    · rw [if_pos c10] at hf
      refine g_weak (lv2 := [none, none, none, none, none]) (trivial) ?_
      exact g_X12_line_18 hf
def F_X12_line (n : Nat) (a : Nat) (p0 : Int32) (p1 : Int32) (p2 : Int32) (h : gH) : Option (Int32 × gH) := F_X12_line_0 n  a p0 p1 p2 h
theorem t_X12_line {n d : Nat} {a : Nat} {p0 : Int32} {p1 : Int32} {p2 : Int32} {h rh : gH} {rv : Int32} (hf : F_X12_line n a p0 p1 p2 h = some (rv, rh)) : T M_X12_line (d + 2) 0 0 [.ref a, .int p0, .int p1, .int p2] h (qI rv rh) := by
  refine T_of_G (L := 1) (by decide +kernel) rfl (Nat.le_of_ble_eq_true rfl) (g_lv (lv2 := [some (.ref a), some (.int p0), some (.int p1), some (.int p2), none]) rfl ?_)
  exact g_X12_line_0 hf
def F_X12_loses_0 (n : Nat)  (x0 : Nat) (x1 : Int32) (h : gH) : Option (Int32 × gH) :=
  (gO h x0 12).bind fun f1 =>
  gB (F_X12_isWay n x0 x1 h) fun v5 h3 =>
  if v5 = 0 then
  (some ((-1 : Int32), h3))
  else
  ((gO h3 x0 12).bind fun f7 =>
  gB (F_X12_pieces n x0  h3) fun v11 h9 =>
  if v11 = 0 then
  (some ((-3 : Int32), h9))
  else
  ((gO h9 x0 12).bind fun f13 =>
  (F_X12_looks n x0 (1023 : Int32) h9).bind fun h15 =>
  (gO h15 x0 12).bind fun f17 =>
  gB (F_X12_most n x0  h15) fun v21 h19 =>
  (gO h19 x0 12).bind fun f22 =>
  gB (F_X12_rideOf n x0 x1 v21 (0 : Int32) (0 : Int32) h19) fun v26 h24 =>
  (gR h24 x0 12 11).bind fun v27 =>
  (gO h24 x0 12).bind fun f29 =>
  gB (F_X12_most n x0  h24) fun v33 h31 =>
  (aI h31 v27 v33).bind fun v34 =>
  some ((v26 - v34), h31)))
set_option maxRecDepth 20000 in
set_option maxHeartbeats 1600000 in
theorem g_X12_loses_0 {n d : Nat} : ∀ {x0 : Nat} {x1 : Int32} {h : gH} {rh : gH} {rv : Int32}, F_X12_loses_0 n x0 x1 h = some (rv, rh) → G M_X12_loses (d + 6) 0 0 0 0 0 [some (.ref x0), some (.int x1)] [] h (qI rv rh) := by
  intro x0 x1 h rh rv hf
  unfold F_X12_loses_0 at hf
  refine g_aload_n dX12_loses_0 rfl ?_
  refine g_iload_n dX12_loses_1 rfl ?_
  replace hf := Option.bind_eq_some_iff.mp hf
  obtain ⟨f1, q2, hf⟩ := hf
  replace hf := gB_of hf
  obtain ⟨v5, h3, q4, hf⟩ := hf
  refine g_callV (as := [.int x1]) (mc1 := 0) (ms1 := 0) s_X12_188_X12_isWay_12 dX12_loses_2 (gO_of q2) rfl (Nat.le_of_ble_eq_true rfl) (Nat.le_of_ble_eq_true rfl) (Nat.le_of_ble_eq_true rfl) (t_X12_isWay (d := d + 4) q4) (fun r9 h9 q9 => ?_)
  obtain ⟨rfl, rfl⟩ := q9
  refine g_stp (st2 := [.int v5]) (pc2 := 5) (kc2 := 0) (kn2 := 0) rfl rfl rfl rfl ?_
  refine g_if_ne (tgt := 10) dX12_loses_5 (by decide) (fun c6 => ?_) (fun c6 => ?_)
  · rw [if_neg c6] at hf
    refine g_aload_n dX12_loses_10 rfl ?_
    replace hf := Option.bind_eq_some_iff.mp hf
    obtain ⟨f7, q8, hf⟩ := hf
    replace hf := gB_of hf
    obtain ⟨v11, h9, q10, hf⟩ := hf
    refine g_callV (as := []) (mc1 := 0) (ms1 := 0) s_X12_48_X12_pieces_12 dX12_loses_11 (gO_of q8) rfl (Nat.le_of_ble_eq_true rfl) (Nat.le_of_ble_eq_true rfl) (Nat.le_of_ble_eq_true rfl) (t_X12_pieces (d := d + 5) q10) (fun r9 h9 q9 => ?_)
    obtain ⟨rfl, rfl⟩ := q9
    refine g_stp (st2 := [.int v11]) (pc2 := 14) (kc2 := 0) (kn2 := 0) rfl rfl rfl rfl ?_
    refine g_if_ne (tgt := 20) dX12_loses_14 (by decide) (fun c12 => ?_) (fun c12 => ?_)
    · rw [if_neg c12] at hf
      refine g_aload_n dX12_loses_20 rfl ?_
      refine g_sipush (v := (1023 : Int32)) dX12_loses_21 (by decide) ?_
      replace hf := Option.bind_eq_some_iff.mp hf
      obtain ⟨f13, q14, hf⟩ := hf
      replace hf := Option.bind_eq_some_iff.mp hf
      obtain ⟨h15, q16, hf⟩ := hf
      refine g_callV (as := [.int (1023 : Int32)]) (mc1 := 0) (ms1 := 0) s_X12_185_X12_looks_12 dX12_loses_24 (gO_of q14) rfl (Nat.le_of_ble_eq_true rfl) (Nat.le_of_ble_eq_true rfl) (Nat.le_of_ble_eq_true rfl) (t_X12_looks (d := d + 2) q16) (fun r9 h9 q9 => ?_)
      obtain ⟨rfl, rfl⟩ := q9
      refine g_stp (st2 := []) (pc2 := 27) (kc2 := 0) (kn2 := 0) rfl rfl rfl rfl ?_
      refine g_aload_n dX12_loses_27 rfl ?_
      refine g_iload_n dX12_loses_28 rfl ?_
      refine g_aload_n dX12_loses_29 rfl ?_
      replace hf := Option.bind_eq_some_iff.mp hf
      obtain ⟨f17, q18, hf⟩ := hf
      replace hf := gB_of hf
      obtain ⟨v21, h19, q20, hf⟩ := hf
      refine g_callV (as := []) (mc1 := 0) (ms1 := 0) s_X12_56_X12_most_12 dX12_loses_30 (gO_of q18) rfl (Nat.le_of_ble_eq_true rfl) (Nat.le_of_ble_eq_true rfl) (Nat.le_of_ble_eq_true rfl) (t_X12_most (d := d + 4) q20) (fun r9 h9 q9 => ?_)
      obtain ⟨rfl, rfl⟩ := q9
      refine g_stp (st2 := [.int v21, .int x1, .ref x0]) (pc2 := 33) (kc2 := 0) (kn2 := 0) rfl rfl rfl rfl ?_
      refine g_iconst (v := (0 : Int32)) dX12_loses_33 (by decide) ?_
      refine g_iconst (v := (0 : Int32)) dX12_loses_34 (by decide) ?_
      replace hf := Option.bind_eq_some_iff.mp hf
      obtain ⟨f22, q23, hf⟩ := hf
      replace hf := gB_of hf
      obtain ⟨v26, h24, q25, hf⟩ := hf
      refine g_callV (as := [.int x1, .int v21, .int (0 : Int32), .int (0 : Int32)]) (mc1 := 0) (ms1 := 0) s_X12_207_X12_rideOf_12 dX12_loses_35 (gO_of q23) rfl (Nat.le_of_ble_eq_true rfl) (Nat.le_of_ble_eq_true rfl) (Nat.le_of_ble_eq_true rfl) (t_X12_rideOf (d := d + 0) q25) (fun r9 h9 q9 => ?_)
      obtain ⟨rfl, rfl⟩ := q9
      refine g_stp (st2 := [.int v26]) (pc2 := 38) (kc2 := 0) (kn2 := 0) rfl rfl rfl rfl ?_
      refine g_aload_n dX12_loses_38 rfl ?_
      replace hf := Option.bind_eq_some_iff.mp hf
      obtain ⟨v27, q28, hf⟩ := hf
      refine g_gR f_X12_25 dX12_loses_39 q28 ?_
      refine g_aload_n dX12_loses_42 rfl ?_
      replace hf := Option.bind_eq_some_iff.mp hf
      obtain ⟨f29, q30, hf⟩ := hf
      replace hf := gB_of hf
      obtain ⟨v33, h31, q32, hf⟩ := hf
      refine g_callV (as := []) (mc1 := 0) (ms1 := 0) s_X12_56_X12_most_12 dX12_loses_43 (gO_of q30) rfl (Nat.le_of_ble_eq_true rfl) (Nat.le_of_ble_eq_true rfl) (Nat.le_of_ble_eq_true rfl) (t_X12_most (d := d + 4) q32) (fun r9 h9 q9 => ?_)
      obtain ⟨rfl, rfl⟩ := q9
      refine g_stp (st2 := [.int v33, .ref v27, .int v26]) (pc2 := 46) (kc2 := 0) (kn2 := 0) rfl rfl rfl rfl ?_
      replace hf := Option.bind_eq_some_iff.mp hf
      obtain ⟨v34, q35, hf⟩ := hf
      refine g_aI dX12_loses_46 q35 ?_
      refine g_isub dX12_loses_47 ?_
      obtain ⟨rfl, rfl⟩ := Prod.mk.inj (Option.some.inj hf)
      exact g_iret dX12_loses_48 rfl ⟨rfl, rfl⟩ (Nat.le_of_ble_eq_true rfl) (Nat.le_of_ble_eq_true rfl)
    · rw [if_pos c12] at hf
      refine g_bipush (v := (-3 : Int32)) dX12_loses_17 (by decide) ?_
      obtain ⟨rfl, rfl⟩ := Prod.mk.inj (Option.some.inj hf)
      exact g_iret dX12_loses_19 rfl ⟨rfl, rfl⟩ (Nat.le_of_ble_eq_true rfl) (Nat.le_of_ble_eq_true rfl)
  · rw [if_pos c6] at hf
    refine g_iconst (v := (-1 : Int32)) dX12_loses_8 (by decide) ?_
    obtain ⟨rfl, rfl⟩ := Prod.mk.inj (Option.some.inj hf)
    exact g_iret dX12_loses_9 rfl ⟨rfl, rfl⟩ (Nat.le_of_ble_eq_true rfl) (Nat.le_of_ble_eq_true rfl)
def F_X12_loses (n : Nat) (a : Nat) (p0 : Int32) (h : gH) : Option (Int32 × gH) := F_X12_loses_0 n  a p0 h
theorem t_X12_loses {n d : Nat} {a : Nat} {p0 : Int32} {h rh : gH} {rv : Int32} (hf : F_X12_loses n a p0 h = some (rv, rh)) : T M_X12_loses (d + 6) 0 0 [.ref a, .int p0] h (qI rv rh) := by
  refine T_of_G (L := 0) (by decide +kernel) rfl (Nat.le_of_ble_eq_true rfl) (g_lv (lv2 := [some (.ref a), some (.int p0)]) rfl ?_)
  exact g_X12_loses_0 hf
def F_X12_lowest_39 (n : Nat)  (x1 : Int64) (x4 : Int64) (y0 : Int64) (h : gH) : Option (Int64 × gH) :=
  gB (F_X12_divisor n x1 x4 h) fun v3 h1 =>
  if v3 = (0 : Int64) then none else
  some ((y0 / v3), h1)
set_option maxRecDepth 20000 in
set_option maxHeartbeats 1600000 in
theorem g_X12_lowest_39 {n d : Nat} : ∀ {x1 : Int64} {x4 : Int64} {y0 : Int64} {h : gH} {rh : gH} {rv : Int64}, F_X12_lowest_39 n x1 x4 y0 h = some (rv, rh) → G M_X12_lowest (d + 1) 0 0 0 0 39 [none, some (.long x1), none, none, some (.long x4), none, none] [.long y0] h (qL rv rh) := by
  intro x1 x4 y0 h rh rv hf
  unfold F_X12_lowest_39 at hf
  refine g_lload_n dX12_lowest_39 rfl ?_
  refine g_lload dX12_lowest_40 rfl ?_
  replace hf := gB_of hf
  obtain ⟨v3, h1, q2, hf⟩ := hf
  refine g_callS (as := [.long x1, .long x4]) (mc1 := 0) (ms1 := 0) s_X12_224_X12_divisor dX12_lowest_42 rfl (Nat.le_of_ble_eq_true rfl) (Nat.le_of_ble_eq_true rfl) (Nat.le_of_ble_eq_true rfl) (t_X12_divisor (d := d + 0) q2) (fun r9 h9 q9 => ?_)
  obtain ⟨rfl, rfl⟩ := q9
  refine g_stp (st2 := [.long v3, .long y0]) (pc2 := 45) (kc2 := 0) (kn2 := 0) rfl rfl rfl rfl ?_
  by_cases c4 : v3 = (0 : Int64)
  · rw [if_pos c4] at hf; cases hf
  rw [if_neg c4] at hf
  refine g_ldiv dX12_lowest_45 c4 ?_
  obtain ⟨rfl, rfl⟩ := Prod.mk.inj (Option.some.inj hf)
  exact g_lret dX12_lowest_46 rfl ⟨rfl, rfl⟩ (Nat.le_of_ble_eq_true rfl) (Nat.le_of_ble_eq_true rfl)
def F_X12_lowest_6 (n : Nat)  : Nat → Nat → Int64 → Int32 → Int64 → Int32 → gH → Option (Int64 × gH)
  | 0, _, _, _, _, _, _ => none
  | m + 1, x0, x1, x3, x4, x6, h => (gO h x0 12).bind fun f1 =>
  gB (F_X12_pieces n x0  h) fun v5 h3 =>
  if v5 ≤ x6 then
  (if x3 = 0 then
  (F_X12_lowest_39 n x1 x4 x1 h3)
  else
  (F_X12_lowest_39 n x1 x4 x4 h3))
  else
  (F_X12_lowest_6 n m x0 x1 x3 (x4 * (10 : Int64)) (x6 + (1 : Int32)) h3)
set_option maxRecDepth 20000 in
set_option maxHeartbeats 1600000 in
theorem g_X12_lowest_6 {n d : Nat} : ∀ {m : Nat} {x0 : Nat} {x1 : Int64} {x3 : Int32} {x4 : Int64} {x6 : Int32} {h : gH} {rh : gH} {rv : Int64}, F_X12_lowest_6 n m x0 x1 x3 x4 x6 h = some (rv, rh) → G M_X12_lowest (d + 1) 0 0 0 0 6 [some (.ref x0), some (.long x1), none, some (.int x3), some (.long x4), none, some (.int x6)] [] h (qL rv rh) := by
  intro m
  induction m with
  | zero => intro x0 x1 x3 x4 x6 h rh rv hf; cases hf
  | succ m t6 =>
    intro x0 x1 x3 x4 x6 h rh rv hf
    unfold F_X12_lowest_6 at hf
    refine g_iload dX12_lowest_6 rfl ?_
    refine g_aload_n dX12_lowest_8 rfl ?_
    replace hf := Option.bind_eq_some_iff.mp hf
    obtain ⟨f1, q2, hf⟩ := hf
    replace hf := gB_of hf
    obtain ⟨v5, h3, q4, hf⟩ := hf
    refine g_callV (as := []) (mc1 := 0) (ms1 := 0) s_X12_48_X12_pieces_12 dX12_lowest_9 (gO_of q2) rfl (Nat.le_of_ble_eq_true rfl) (Nat.le_of_ble_eq_true rfl) (Nat.le_of_ble_eq_true rfl) (t_X12_pieces (d := d + 0) q4) (fun r9 h9 q9 => ?_)
    obtain ⟨rfl, rfl⟩ := q9
    refine g_stp (st2 := [.int v5, .int x6]) (pc2 := 12) (kc2 := 0) (kn2 := 0) rfl rfl rfl rfl ?_
    refine g_icmp_ge (tgt := 29) dX12_lowest_12 (by decide) (fun c6 => ?_) (fun c6 => ?_)
    · rw [if_pos c6] at hf
      refine g_iload_n dX12_lowest_29 rfl ?_
      refine g_if_ne (tgt := 37) dX12_lowest_30 (by decide) (fun c7 => ?_) (fun c7 => ?_)
      · rw [if_neg c7] at hf
        refine g_lload dX12_lowest_37 rfl ?_
        refine g_weak (lv2 := [none, some (.long x1), none, none, some (.long x4), none, none]) (And.intro rfl (And.intro rfl (trivial))) ?_
        exact g_X12_lowest_39 hf
      · rw [if_pos c7] at hf
        refine g_lload_n dX12_lowest_33 rfl ?_
        refine g_goto (tgt := 39) dX12_lowest_34 (by decide) ?_
        refine g_weak (lv2 := [none, some (.long x1), none, none, some (.long x4), none, none]) (And.intro rfl (And.intro rfl (trivial))) ?_
        exact g_X12_lowest_39 hf
    · rw [if_neg c6] at hf
      refine g_lload dX12_lowest_15 rfl ?_
      refine g_ldc2 (v := (10 : Int64)) (gt_6 (List.mem_of_getElem? (i := 67) (by decide +kernel)) (by decide +kernel)) dX12_lowest_17 ?_
      refine g_lmul dX12_lowest_20 ?_
      refine g_lstore dX12_lowest_21 (by decide) (g_lvp (lv2 := [some (.ref x0), some (.long x1), none, some (.int x3), some (.long (x4 * (10 : Int64))), none, some (.int x6)]) (pc2 := 23) rfl rfl ?_)
      refine g_iinc2 (w := (1 : Int32)) dX12_lowest_23 (by decide) rfl (by decide) (g_lvp (lv2 := [some (.ref x0), some (.long x1), none, some (.int x3), some (.long (x4 * (10 : Int64))), none, some (.int (x6 + (1 : Int32)))]) (pc2 := 26) rfl rfl ?_)
      refine g_goto (tgt := 6) dX12_lowest_26 (by decide) ?_
      exact t6 hf
def F_X12_lowest_0 (n : Nat)  (x0 : Nat) (x1 : Int64) (x3 : Int32) (h : gH) : Option (Int64 × gH) :=
  F_X12_lowest_6 n n x0 x1 x3 (1 : Int64) (0 : Int32) h
set_option maxRecDepth 20000 in
set_option maxHeartbeats 1600000 in
theorem g_X12_lowest_0 {n d : Nat} : ∀ {x0 : Nat} {x1 : Int64} {x3 : Int32} {h : gH} {rh : gH} {rv : Int64}, F_X12_lowest_0 n x0 x1 x3 h = some (rv, rh) → G M_X12_lowest (d + 1) 0 0 0 0 0 [some (.ref x0), some (.long x1), none, some (.int x3), none, none, none] [] h (qL rv rh) := by
  intro x0 x1 x3 h rh rv hf
  unfold F_X12_lowest_0 at hf
  refine g_lconst (v := (1 : Int64)) dX12_lowest_0 (by decide) ?_
  refine g_lstore dX12_lowest_1 (by decide) (g_lvp (lv2 := [some (.ref x0), some (.long x1), none, some (.int x3), some (.long (1 : Int64)), none, none]) (pc2 := 3) rfl rfl ?_)
  refine g_iconst (v := (0 : Int32)) dX12_lowest_3 (by decide) ?_
  refine g_istore dX12_lowest_4 (by decide) (g_lvp (lv2 := [some (.ref x0), some (.long x1), none, some (.int x3), some (.long (1 : Int64)), none, some (.int (0 : Int32))]) (pc2 := 6) rfl rfl ?_)
  exact g_X12_lowest_6 hf
def F_X12_lowest (n : Nat) (a : Nat) (p0 : Int64) (p1 : Int32) (h : gH) : Option (Int64 × gH) := F_X12_lowest_0 n  a p0 p1 h
theorem t_X12_lowest {n d : Nat} {a : Nat} {p0 : Int64} {p1 : Int32} {h rh : gH} {rv : Int64} (hf : F_X12_lowest n a p0 p1 h = some (rv, rh)) : T M_X12_lowest (d + 1) 0 0 [.ref a, .long p0, .int p1] h (qL rv rh) := by
  refine T_of_G (L := 3) (by decide +kernel) rfl (Nat.le_of_ble_eq_true rfl) (g_lv (lv2 := [some (.ref a), some (.long p0), none, some (.int p1), none, none, none]) rfl ?_)
  exact g_X12_lowest_0 hf
def F_X12_mean_24 (n : Nat)   (h : gH) : Option (Int64 × gH) :=
  some ((-9223372036854775808 : Int64), h)
set_option maxRecDepth 20000 in
set_option maxHeartbeats 1600000 in
theorem g_X12_mean_24 {n d : Nat} : ∀  {h : gH} {rh : gH} {rv : Int64}, F_X12_mean_24 n  h = some (rv, rh) → G M_X12_mean (d + 18) 0 0 0 0 24 [none, none, none] [] h (qL rv rh) := by
  intro  h rh rv hf
  unfold F_X12_mean_24 at hf
  refine g_ldc2 (v := (-9223372036854775808 : Int64)) (gt_6 (List.mem_of_getElem? (i := 54) (by decide +kernel)) (by decide +kernel)) dX12_mean_24 ?_
  obtain ⟨rfl, rfl⟩ := Prod.mk.inj (Option.some.inj hf)
  exact g_lret dX12_mean_27 rfl ⟨rfl, rfl⟩ (Nat.le_of_ble_eq_true rfl) (Nat.le_of_ble_eq_true rfl)
def F_X12_mean_0 (n : Nat)  (x0 : Nat) (x1 : Int32) (x2 : Int32) (h : gH) : Option (Int64 × gH) :=
  (gO h x0 12).bind fun f1 =>
  gB (F_X12_isWay n x0 x1 h) fun v5 h3 =>
  if v5 = 0 then
  (F_X12_mean_24 n h3)
  else
  (gB (F_X12_in n x2 (0 : Int32) (1 : Int32) h3) fun v9 h7 =>
  if v9 = 0 then
  (F_X12_mean_24 n h7)
  else
  ((gO h7 x0 12).bind fun f11 =>
  gB (F_X12_pieces n x0  h7) fun v15 h13 =>
  if v15 = 0 then
  (F_X12_mean_24 n h13)
  else
  ((gO h13 x0 12).bind fun f17 =>
  (F_X12_heats n x0 x1 (0 : Int32) h13).bind fun h19 =>
  (gL h19 x0 12 16).bind fun v21 =>
  (gO h19 x0 12).bind fun f23 =>
  gB (F_X12_lowest n x0 v21 x2 h19) fun v27 h25 =>
  some (v27, h25))))
set_option maxRecDepth 20000 in
set_option maxHeartbeats 1600000 in
theorem g_X12_mean_0 {n d : Nat} : ∀ {x0 : Nat} {x1 : Int32} {x2 : Int32} {h : gH} {rh : gH} {rv : Int64}, F_X12_mean_0 n x0 x1 x2 h = some (rv, rh) → G M_X12_mean (d + 18) 0 0 0 0 0 [some (.ref x0), some (.int x1), some (.int x2)] [] h (qL rv rh) := by
  intro x0 x1 x2 h rh rv hf
  unfold F_X12_mean_0 at hf
  refine g_aload_n dX12_mean_0 rfl ?_
  refine g_iload_n dX12_mean_1 rfl ?_
  replace hf := Option.bind_eq_some_iff.mp hf
  obtain ⟨f1, q2, hf⟩ := hf
  replace hf := gB_of hf
  obtain ⟨v5, h3, q4, hf⟩ := hf
  refine g_callV (as := [.int x1]) (mc1 := 0) (ms1 := 0) s_X12_188_X12_isWay_12 dX12_mean_2 (gO_of q2) rfl (Nat.le_of_ble_eq_true rfl) (Nat.le_of_ble_eq_true rfl) (Nat.le_of_ble_eq_true rfl) (t_X12_isWay (d := d + 16) q4) (fun r9 h9 q9 => ?_)
  obtain ⟨rfl, rfl⟩ := q9
  refine g_stp (st2 := [.int v5]) (pc2 := 5) (kc2 := 0) (kn2 := 0) rfl rfl rfl rfl ?_
  refine g_if_eq (tgt := 24) dX12_mean_5 (by decide) (fun c6 => ?_) (fun c6 => ?_)
  · rw [if_pos c6] at hf
    refine g_weak (lv2 := [none, none, none]) (trivial) ?_
    exact g_X12_mean_24 hf
  · rw [if_neg c6] at hf
    refine g_iload_n dX12_mean_8 rfl ?_
    refine g_iconst (v := (0 : Int32)) dX12_mean_9 (by decide) ?_
    refine g_iconst (v := (1 : Int32)) dX12_mean_10 (by decide) ?_
    replace hf := gB_of hf
    obtain ⟨v9, h7, q8, hf⟩ := hf
    refine g_callS (as := [.int x2, .int (0 : Int32), .int (1 : Int32)]) (mc1 := 0) (ms1 := 0) s_X12_44_X12_in dX12_mean_11 rfl (Nat.le_of_ble_eq_true rfl) (Nat.le_of_ble_eq_true rfl) (Nat.le_of_ble_eq_true rfl) (t_X12_in (d := d + 17) q8) (fun r9 h9 q9 => ?_)
    obtain ⟨rfl, rfl⟩ := q9
    refine g_stp (st2 := [.int v9]) (pc2 := 14) (kc2 := 0) (kn2 := 0) rfl rfl rfl rfl ?_
    refine g_if_eq (tgt := 24) dX12_mean_14 (by decide) (fun c10 => ?_) (fun c10 => ?_)
    · rw [if_pos c10] at hf
      refine g_weak (lv2 := [none, none, none]) (trivial) ?_
      exact g_X12_mean_24 hf
    · rw [if_neg c10] at hf
      refine g_aload_n dX12_mean_17 rfl ?_
      replace hf := Option.bind_eq_some_iff.mp hf
      obtain ⟨f11, q12, hf⟩ := hf
      replace hf := gB_of hf
      obtain ⟨v15, h13, q14, hf⟩ := hf
      refine g_callV (as := []) (mc1 := 0) (ms1 := 0) s_X12_48_X12_pieces_12 dX12_mean_18 (gO_of q12) rfl (Nat.le_of_ble_eq_true rfl) (Nat.le_of_ble_eq_true rfl) (Nat.le_of_ble_eq_true rfl) (t_X12_pieces (d := d + 17) q14) (fun r9 h9 q9 => ?_)
      obtain ⟨rfl, rfl⟩ := q9
      refine g_stp (st2 := [.int v15]) (pc2 := 21) (kc2 := 0) (kn2 := 0) rfl rfl rfl rfl ?_
      refine g_if_ne (tgt := 28) dX12_mean_21 (by decide) (fun c16 => ?_) (fun c16 => ?_)
      · rw [if_neg c16] at hf
        refine g_aload_n dX12_mean_28 rfl ?_
        refine g_iload_n dX12_mean_29 rfl ?_
        refine g_iconst (v := (0 : Int32)) dX12_mean_30 (by decide) ?_
        replace hf := Option.bind_eq_some_iff.mp hf
        obtain ⟨f17, q18, hf⟩ := hf
        replace hf := Option.bind_eq_some_iff.mp hf
        obtain ⟨h19, q20, hf⟩ := hf
        refine g_callV (as := [.int x1, .int (0 : Int32)]) (mc1 := 0) (ms1 := 0) s_X12_230_X12_heats_12 dX12_mean_31 (gO_of q18) rfl (Nat.le_of_ble_eq_true rfl) (Nat.le_of_ble_eq_true rfl) (Nat.le_of_ble_eq_true rfl) (t_X12_heats (d := d + 0) q20) (fun r9 h9 q9 => ?_)
        obtain ⟨rfl, rfl⟩ := q9
        refine g_stp (st2 := []) (pc2 := 34) (kc2 := 0) (kn2 := 0) rfl rfl rfl rfl ?_
        refine g_aload_n dX12_mean_34 rfl ?_
        refine g_aload_n dX12_mean_35 rfl ?_
        replace hf := Option.bind_eq_some_iff.mp hf
        obtain ⟨v21, q22, hf⟩ := hf
        refine g_gL f_X12_211 dX12_mean_36 q22 ?_
        refine g_iload_n dX12_mean_39 rfl ?_
        replace hf := Option.bind_eq_some_iff.mp hf
        obtain ⟨f23, q24, hf⟩ := hf
        replace hf := gB_of hf
        obtain ⟨v27, h25, q26, hf⟩ := hf
        refine g_callV (as := [.long v21, .int x2]) (mc1 := 0) (ms1 := 0) s_X12_234_X12_lowest_12 dX12_mean_40 (gO_of q24) rfl (Nat.le_of_ble_eq_true rfl) (Nat.le_of_ble_eq_true rfl) (Nat.le_of_ble_eq_true rfl) (t_X12_lowest (d := d + 16) q26) (fun r9 h9 q9 => ?_)
        obtain ⟨rfl, rfl⟩ := q9
        refine g_stp (st2 := [.long v27]) (pc2 := 43) (kc2 := 0) (kn2 := 0) rfl rfl rfl rfl ?_
        obtain ⟨rfl, rfl⟩ := Prod.mk.inj (Option.some.inj hf)
        exact g_lret dX12_mean_43 rfl ⟨rfl, rfl⟩ (Nat.le_of_ble_eq_true rfl) (Nat.le_of_ble_eq_true rfl)
      · rw [if_pos c16] at hf
        refine g_weak (lv2 := [none, none, none]) (trivial) ?_
        exact g_X12_mean_24 hf
def F_X12_mean (n : Nat) (a : Nat) (p0 : Int32) (p1 : Int32) (h : gH) : Option (Int64 × gH) := F_X12_mean_0 n  a p0 p1 h
theorem t_X12_mean {n d : Nat} {a : Nat} {p0 : Int32} {p1 : Int32} {h rh : gH} {rv : Int64} (hf : F_X12_mean n a p0 p1 h = some (rv, rh)) : T M_X12_mean (d + 18) 0 0 [.ref a, .int p0, .int p1] h (qL rv rh) := by
  refine T_of_G (L := 0) (by decide +kernel) rfl (Nat.le_of_ble_eq_true rfl) (g_lv (lv2 := [some (.ref a), some (.int p0), some (.int p1)]) rfl ?_)
  exact g_X12_mean_0 hf
def F_X12_of_0 (n : Nat)  (x0 : Nat) (x1 : Int32) (x2 : Int32) (h : gH) : Option (Int32 × gH) :=
  (gO h x0 12).bind fun f1 =>
  gB (F_X12_isPiece n x0 x1 h) fun v5 h3 =>
  if v5 = 0 then
  (some ((-1 : Int32), h3))
  else
  (if x2 = (0 : Int32) then
  ((gO h3 x0 12).bind fun f8 =>
  gB (F_X12_length n x0 x1 h3) fun v12 h10 =>
  some (v12, h10))
  else if x2 = (1 : Int32) then
  ((gO h3 x0 12).bind fun f14 =>
  gB (F_X12_slope n x0 x1 h3) fun v18 h16 =>
  some (v18, h16))
  else if x2 = (2 : Int32) then
  ((gO h3 x0 12).bind fun f20 =>
  gB (F_X12_wind n x0 x1 h3) fun v24 h22 =>
  some (v24, h22))
  else if x2 = (3 : Int32) then
  ((gO h3 x0 12).bind fun f26 =>
  gB (F_X12_bend n x0 x1 h3) fun v30 h28 =>
  some (v30, h28))
  else (some ((-1 : Int32), h3)))
set_option maxRecDepth 20000 in
set_option maxHeartbeats 1600000 in
theorem g_X12_of_0 {n d : Nat} : ∀ {x0 : Nat} {x1 : Int32} {x2 : Int32} {h : gH} {rh : gH} {rv : Int32}, F_X12_of_0 n x0 x1 x2 h = some (rv, rh) → G M_X12_of (d + 2) 0 0 0 0 0 [some (.ref x0), some (.int x1), some (.int x2)] [] h (qI rv rh) := by
  intro x0 x1 x2 h rh rv hf
  unfold F_X12_of_0 at hf
  refine g_aload_n dX12_of_0 rfl ?_
  refine g_iload_n dX12_of_1 rfl ?_
  replace hf := Option.bind_eq_some_iff.mp hf
  obtain ⟨f1, q2, hf⟩ := hf
  replace hf := gB_of hf
  obtain ⟨v5, h3, q4, hf⟩ := hf
  refine g_callV (as := [.int x1]) (mc1 := 0) (ms1 := 0) s_X12_151_X12_isPiece_12 dX12_of_2 (gO_of q2) rfl (Nat.le_of_ble_eq_true rfl) (Nat.le_of_ble_eq_true rfl) (Nat.le_of_ble_eq_true rfl) (t_X12_isPiece (d := d + 0) q4) (fun r9 h9 q9 => ?_)
  obtain ⟨rfl, rfl⟩ := q9
  refine g_stp (st2 := [.int v5]) (pc2 := 5) (kc2 := 0) (kn2 := 0) rfl rfl rfl rfl ?_
  refine g_if_ne (tgt := 10) dX12_of_5 (by decide) (fun c6 => ?_) (fun c6 => ?_)
  · rw [if_neg c6] at hf
    refine g_iload_n dX12_of_10 rfl ?_
    by_cases c7 : x2 = (0 : Int32)
    · rw [if_pos c7] at hf
      refine g_tswK (k := (0 : Int32)) (off := 29) (tgt := 40) dX12_of_11 c7 (by decide) (by decide) (by decide) (by decide) ?_
      refine g_aload_n dX12_of_40 rfl ?_
      refine g_iload_n dX12_of_41 rfl ?_
      replace hf := Option.bind_eq_some_iff.mp hf
      obtain ⟨f8, q9, hf⟩ := hf
      replace hf := gB_of hf
      obtain ⟨v12, h10, q11, hf⟩ := hf
      refine g_callV (as := [.int x1]) (mc1 := 0) (ms1 := 0) s_X12_155_X12_length_12 dX12_of_42 (gO_of q9) rfl (Nat.le_of_ble_eq_true rfl) (Nat.le_of_ble_eq_true rfl) (Nat.le_of_ble_eq_true rfl) (t_X12_length (d := d + 1) q11) (fun r9 h9 q9 => ?_)
      obtain ⟨rfl, rfl⟩ := q9
      refine g_stp (st2 := [.int v12]) (pc2 := 45) (kc2 := 0) (kn2 := 0) rfl rfl rfl rfl ?_
      obtain ⟨rfl, rfl⟩ := Prod.mk.inj (Option.some.inj hf)
      exact g_iret dX12_of_45 rfl ⟨rfl, rfl⟩ (Nat.le_of_ble_eq_true rfl) (Nat.le_of_ble_eq_true rfl)
    rw [if_neg c7] at hf
    by_cases c13 : x2 = (1 : Int32)
    · rw [if_pos c13] at hf
      refine g_tswK (k := (1 : Int32)) (off := 35) (tgt := 46) dX12_of_11 c13 (by decide) (by decide) (by decide) (by decide) ?_
      refine g_aload_n dX12_of_46 rfl ?_
      refine g_iload_n dX12_of_47 rfl ?_
      replace hf := Option.bind_eq_some_iff.mp hf
      obtain ⟨f14, q15, hf⟩ := hf
      replace hf := gB_of hf
      obtain ⟨v18, h16, q17, hf⟩ := hf
      refine g_callV (as := [.int x1]) (mc1 := 0) (ms1 := 0) s_X12_157_X12_slope_12 dX12_of_48 (gO_of q15) rfl (Nat.le_of_ble_eq_true rfl) (Nat.le_of_ble_eq_true rfl) (Nat.le_of_ble_eq_true rfl) (t_X12_slope (d := d + 1) q17) (fun r9 h9 q9 => ?_)
      obtain ⟨rfl, rfl⟩ := q9
      refine g_stp (st2 := [.int v18]) (pc2 := 51) (kc2 := 0) (kn2 := 0) rfl rfl rfl rfl ?_
      obtain ⟨rfl, rfl⟩ := Prod.mk.inj (Option.some.inj hf)
      exact g_iret dX12_of_51 rfl ⟨rfl, rfl⟩ (Nat.le_of_ble_eq_true rfl) (Nat.le_of_ble_eq_true rfl)
    rw [if_neg c13] at hf
    by_cases c19 : x2 = (2 : Int32)
    · rw [if_pos c19] at hf
      refine g_tswK (k := (2 : Int32)) (off := 41) (tgt := 52) dX12_of_11 c19 (by decide) (by decide) (by decide) (by decide) ?_
      refine g_aload_n dX12_of_52 rfl ?_
      refine g_iload_n dX12_of_53 rfl ?_
      replace hf := Option.bind_eq_some_iff.mp hf
      obtain ⟨f20, q21, hf⟩ := hf
      replace hf := gB_of hf
      obtain ⟨v24, h22, q23, hf⟩ := hf
      refine g_callV (as := [.int x1]) (mc1 := 0) (ms1 := 0) s_X12_160_X12_wind_12 dX12_of_54 (gO_of q21) rfl (Nat.le_of_ble_eq_true rfl) (Nat.le_of_ble_eq_true rfl) (Nat.le_of_ble_eq_true rfl) (t_X12_wind (d := d + 1) q23) (fun r9 h9 q9 => ?_)
      obtain ⟨rfl, rfl⟩ := q9
      refine g_stp (st2 := [.int v24]) (pc2 := 57) (kc2 := 0) (kn2 := 0) rfl rfl rfl rfl ?_
      obtain ⟨rfl, rfl⟩ := Prod.mk.inj (Option.some.inj hf)
      exact g_iret dX12_of_57 rfl ⟨rfl, rfl⟩ (Nat.le_of_ble_eq_true rfl) (Nat.le_of_ble_eq_true rfl)
    rw [if_neg c19] at hf
    by_cases c25 : x2 = (3 : Int32)
    · rw [if_pos c25] at hf
      refine g_tswK (k := (3 : Int32)) (off := 47) (tgt := 58) dX12_of_11 c25 (by decide) (by decide) (by decide) (by decide) ?_
      refine g_aload_n dX12_of_58 rfl ?_
      refine g_iload_n dX12_of_59 rfl ?_
      replace hf := Option.bind_eq_some_iff.mp hf
      obtain ⟨f26, q27, hf⟩ := hf
      replace hf := gB_of hf
      obtain ⟨v30, h28, q29, hf⟩ := hf
      refine g_callV (as := [.int x1]) (mc1 := 0) (ms1 := 0) s_X12_163_X12_bend_12 dX12_of_60 (gO_of q27) rfl (Nat.le_of_ble_eq_true rfl) (Nat.le_of_ble_eq_true rfl) (Nat.le_of_ble_eq_true rfl) (t_X12_bend (d := d + 1) q29) (fun r9 h9 q9 => ?_)
      obtain ⟨rfl, rfl⟩ := q9
      refine g_stp (st2 := [.int v30]) (pc2 := 63) (kc2 := 0) (kn2 := 0) rfl rfl rfl rfl ?_
      obtain ⟨rfl, rfl⟩ := Prod.mk.inj (Option.some.inj hf)
      exact g_iret dX12_of_63 rfl ⟨rfl, rfl⟩ (Nat.le_of_ble_eq_true rfl) (Nat.le_of_ble_eq_true rfl)
    rw [if_neg c25] at hf
    have zc7 : (x2).toInt ≠ 0 := fun e => c7 (Int32.toInt_inj.mp (e.trans (by decide)))
    have zc13 : (x2).toInt ≠ 1 := fun e => c13 (Int32.toInt_inj.mp (e.trans (by decide)))
    have zc19 : (x2).toInt ≠ 2 := fun e => c19 (Int32.toInt_inj.mp (e.trans (by decide)))
    have zc25 : (x2).toInt ≠ 3 := fun e => c25 (Int32.toInt_inj.mp (e.trans (by decide)))
    refine g_tableOut (tgt := 64) dX12_of_11 (by omega) (by decide) ?_
    refine g_iconst (v := (-1 : Int32)) dX12_of_64 (by decide) ?_
    obtain ⟨rfl, rfl⟩ := Prod.mk.inj (Option.some.inj hf)
    exact g_iret dX12_of_65 rfl ⟨rfl, rfl⟩ (Nat.le_of_ble_eq_true rfl) (Nat.le_of_ble_eq_true rfl)
  · rw [if_pos c6] at hf
    refine g_iconst (v := (-1 : Int32)) dX12_of_8 (by decide) ?_
    obtain ⟨rfl, rfl⟩ := Prod.mk.inj (Option.some.inj hf)
    exact g_iret dX12_of_9 rfl ⟨rfl, rfl⟩ (Nat.le_of_ble_eq_true rfl) (Nat.le_of_ble_eq_true rfl)
def F_X12_of (n : Nat) (a : Nat) (p0 : Int32) (p1 : Int32) (h : gH) : Option (Int32 × gH) := F_X12_of_0 n  a p0 p1 h
theorem t_X12_of {n d : Nat} {a : Nat} {p0 : Int32} {p1 : Int32} {h rh : gH} {rv : Int32} (hf : F_X12_of n a p0 p1 h = some (rv, rh)) : T M_X12_of (d + 2) 0 0 [.ref a, .int p0, .int p1] h (qI rv rh) := by
  refine T_of_G (L := 0) (by decide +kernel) rfl (Nat.le_of_ble_eq_true rfl) (g_lv (lv2 := [some (.ref a), some (.int p0), some (.int p1)]) rfl ?_)
  exact g_X12_of_0 hf
def F_X12_price_23 (n : Nat)   (h : gH) : Option (Int32 × gH) :=
  some ((-2 : Int32), h)
set_option maxRecDepth 20000 in
set_option maxHeartbeats 1600000 in
theorem g_X12_price_23 {n d : Nat} : ∀  {h : gH} {rh : gH} {rv : Int32}, F_X12_price_23 n  h = some (rv, rh) → G M_X12_price (d + 4) 0 0 0 0 23 [none, none, none] [] h (qI rv rh) := by
  intro  h rh rv hf
  unfold F_X12_price_23 at hf
  refine g_bipush (v := (-2 : Int32)) dX12_price_23 (by decide) ?_
  obtain ⟨rfl, rfl⟩ := Prod.mk.inj (Option.some.inj hf)
  exact g_iret dX12_price_25 rfl ⟨rfl, rfl⟩ (Nat.le_of_ble_eq_true rfl) (Nat.le_of_ble_eq_true rfl)
def F_X12_price_0 (n : Nat)  (x0 : Nat) (x1 : Int32) (x2 : Int32) (h : gH) : Option (Int32 × gH) :=
  (gO h x0 12).bind fun f1 =>
  gB (F_X12_isPiece n x0 x1 h) fun v5 h3 =>
  if v5 = 0 then
  (some ((-1 : Int32), h3))
  else
  (if x2 < (1 : Int32) then
  (F_X12_price_23 n h3)
  else
  ((gO h3 x0 12).bind fun f8 =>
  gB (F_X12_isStore n x0 x2 h3) fun v12 h10 =>
  if v12 = 0 then
  (F_X12_price_23 n h10)
  else
  ((gO h10 x0 12).bind fun f14 =>
  (F_X12_looks n x0 (1023 : Int32) h10).bind fun h16 =>
  (gR h16 x0 12 11).bind fun v18 =>
  (aI h16 v18 ((((61 : Int32) * x1) + x2) - (1 : Int32))).bind fun v20 =>
  (gR h16 x0 12 11).bind fun v22 =>
  (aI h16 v22 (((61 : Int32) * x1) + x2)).bind fun v24 =>
  some ((v20 - v24), h16))))
set_option maxRecDepth 20000 in
set_option maxHeartbeats 1600000 in
theorem g_X12_price_0 {n d : Nat} : ∀ {x0 : Nat} {x1 : Int32} {x2 : Int32} {h : gH} {rh : gH} {rv : Int32}, F_X12_price_0 n x0 x1 x2 h = some (rv, rh) → G M_X12_price (d + 4) 0 0 0 0 0 [some (.ref x0), some (.int x1), some (.int x2)] [] h (qI rv rh) := by
  intro x0 x1 x2 h rh rv hf
  unfold F_X12_price_0 at hf
  refine g_aload_n dX12_price_0 rfl ?_
  refine g_iload_n dX12_price_1 rfl ?_
  replace hf := Option.bind_eq_some_iff.mp hf
  obtain ⟨f1, q2, hf⟩ := hf
  replace hf := gB_of hf
  obtain ⟨v5, h3, q4, hf⟩ := hf
  refine g_callV (as := [.int x1]) (mc1 := 0) (ms1 := 0) s_X12_151_X12_isPiece_12 dX12_price_2 (gO_of q2) rfl (Nat.le_of_ble_eq_true rfl) (Nat.le_of_ble_eq_true rfl) (Nat.le_of_ble_eq_true rfl) (t_X12_isPiece (d := d + 2) q4) (fun r9 h9 q9 => ?_)
  obtain ⟨rfl, rfl⟩ := q9
  refine g_stp (st2 := [.int v5]) (pc2 := 5) (kc2 := 0) (kn2 := 0) rfl rfl rfl rfl ?_
  refine g_if_ne (tgt := 10) dX12_price_5 (by decide) (fun c6 => ?_) (fun c6 => ?_)
  · rw [if_neg c6] at hf
    refine g_iload_n dX12_price_10 rfl ?_
    refine g_iconst (v := (1 : Int32)) dX12_price_11 (by decide) ?_
    refine g_icmp_lt (tgt := 23) dX12_price_12 (by decide) (fun c7 => ?_) (fun c7 => ?_)
    · rw [if_pos c7] at hf
      refine g_weak (lv2 := [none, none, none]) (trivial) ?_
      exact g_X12_price_23 hf
    · rw [if_neg c7] at hf
      refine g_aload_n dX12_price_15 rfl ?_
      refine g_iload_n dX12_price_16 rfl ?_
      replace hf := Option.bind_eq_some_iff.mp hf
      obtain ⟨f8, q9, hf⟩ := hf
      replace hf := gB_of hf
      obtain ⟨v12, h10, q11, hf⟩ := hf
      refine g_callV (as := [.int x2]) (mc1 := 0) (ms1 := 0) s_X12_176_X12_isStore_12 dX12_price_17 (gO_of q9) rfl (Nat.le_of_ble_eq_true rfl) (Nat.le_of_ble_eq_true rfl) (Nat.le_of_ble_eq_true rfl) (t_X12_isStore (d := d + 1) q11) (fun r9 h9 q9 => ?_)
      obtain ⟨rfl, rfl⟩ := q9
      refine g_stp (st2 := [.int v12]) (pc2 := 20) (kc2 := 0) (kn2 := 0) rfl rfl rfl rfl ?_
      refine g_if_ne (tgt := 26) dX12_price_20 (by decide) (fun c13 => ?_) (fun c13 => ?_)
      · rw [if_neg c13] at hf
        refine g_aload_n dX12_price_26 rfl ?_
        refine g_sipush (v := (1023 : Int32)) dX12_price_27 (by decide) ?_
        replace hf := Option.bind_eq_some_iff.mp hf
        obtain ⟨f14, q15, hf⟩ := hf
        replace hf := Option.bind_eq_some_iff.mp hf
        obtain ⟨h16, q17, hf⟩ := hf
        refine g_callV (as := [.int (1023 : Int32)]) (mc1 := 0) (ms1 := 0) s_X12_185_X12_looks_12 dX12_price_30 (gO_of q15) rfl (Nat.le_of_ble_eq_true rfl) (Nat.le_of_ble_eq_true rfl) (Nat.le_of_ble_eq_true rfl) (t_X12_looks (d := d + 0) q17) (fun r9 h9 q9 => ?_)
        obtain ⟨rfl, rfl⟩ := q9
        refine g_stp (st2 := []) (pc2 := 33) (kc2 := 0) (kn2 := 0) rfl rfl rfl rfl ?_
        refine g_aload_n dX12_price_33 rfl ?_
        replace hf := Option.bind_eq_some_iff.mp hf
        obtain ⟨v18, q19, hf⟩ := hf
        refine g_gR f_X12_25 dX12_price_34 q19 ?_
        refine g_bipush (v := (61 : Int32)) dX12_price_37 (by decide) ?_
        refine g_iload_n dX12_price_39 rfl ?_
        refine g_imul dX12_price_40 ?_
        refine g_iload_n dX12_price_41 rfl ?_
        refine g_iadd dX12_price_42 ?_
        refine g_iconst (v := (1 : Int32)) dX12_price_43 (by decide) ?_
        refine g_isub dX12_price_44 ?_
        replace hf := Option.bind_eq_some_iff.mp hf
        obtain ⟨v20, q21, hf⟩ := hf
        refine g_aI dX12_price_45 q21 ?_
        refine g_aload_n dX12_price_46 rfl ?_
        replace hf := Option.bind_eq_some_iff.mp hf
        obtain ⟨v22, q23, hf⟩ := hf
        refine g_gR f_X12_25 dX12_price_47 q23 ?_
        refine g_bipush (v := (61 : Int32)) dX12_price_50 (by decide) ?_
        refine g_iload_n dX12_price_52 rfl ?_
        refine g_imul dX12_price_53 ?_
        refine g_iload_n dX12_price_54 rfl ?_
        refine g_iadd dX12_price_55 ?_
        replace hf := Option.bind_eq_some_iff.mp hf
        obtain ⟨v24, q25, hf⟩ := hf
        refine g_aI dX12_price_56 q25 ?_
        refine g_isub dX12_price_57 ?_
        obtain ⟨rfl, rfl⟩ := Prod.mk.inj (Option.some.inj hf)
        exact g_iret dX12_price_58 rfl ⟨rfl, rfl⟩ (Nat.le_of_ble_eq_true rfl) (Nat.le_of_ble_eq_true rfl)
      · rw [if_pos c13] at hf
        refine g_weak (lv2 := [none, none, none]) (trivial) ?_
        exact g_X12_price_23 hf
  · rw [if_pos c6] at hf
    refine g_iconst (v := (-1 : Int32)) dX12_price_8 (by decide) ?_
    obtain ⟨rfl, rfl⟩ := Prod.mk.inj (Option.some.inj hf)
    exact g_iret dX12_price_9 rfl ⟨rfl, rfl⟩ (Nat.le_of_ble_eq_true rfl) (Nat.le_of_ble_eq_true rfl)
def F_X12_price (n : Nat) (a : Nat) (p0 : Int32) (p1 : Int32) (h : gH) : Option (Int32 × gH) := F_X12_price_0 n  a p0 p1 h
theorem t_X12_price {n d : Nat} {a : Nat} {p0 : Int32} {p1 : Int32} {h rh : gH} {rv : Int32} (hf : F_X12_price n a p0 p1 h = some (rv, rh)) : T M_X12_price (d + 4) 0 0 [.ref a, .int p0, .int p1] h (qI rv rh) := by
  refine T_of_G (L := 0) (by decide +kernel) rfl (Nat.le_of_ble_eq_true rfl) (g_lv (lv2 := [some (.ref a), some (.int p0), some (.int p1)]) rfl ?_)
  exact g_X12_price_0 hf
def F_X12_ride_94 (n : Nat)  (y0 : Int32) (h : gH) : Option (Int32 × gH) :=
  some (y0, h)
set_option maxRecDepth 20000 in
set_option maxHeartbeats 1600000 in
theorem g_X12_ride_94 {n d : Nat} : ∀ {y0 : Int32} {h : gH} {rh : gH} {rv : Int32}, F_X12_ride_94 n y0 h = some (rv, rh) → G M_X12_ride (d + 6) 0 0 0 0 94 [none, none, none, none] [.int y0] h (qI rv rh) := by
  intro y0 h rh rv hf
  unfold F_X12_ride_94 at hf
  obtain ⟨rfl, rfl⟩ := Prod.mk.inj (Option.some.inj hf)
  exact g_iret dX12_ride_94 rfl ⟨rfl, rfl⟩ (Nat.le_of_ble_eq_true rfl) (Nat.le_of_ble_eq_true rfl)
def F_X12_ride_36 (n : Nat)  (x0 : Nat) (x1 : Int32) (x2 : Int32) (h : gH) : Option (Int32 × gH) :=
  (gO h x0 12).bind fun f1 =>
  gB (F_X12_pieces n x0  h) fun v5 h3 =>
  if v5 = 0 then
  (some ((-3 : Int32), h3))
  else
  ((gO h3 x0 12).bind fun f7 =>
  (F_X12_looks n x0 (1023 : Int32) h3).bind fun h9 =>
  (gO h9 x0 12).bind fun f11 =>
  gB (F_X12_most n x0  h9) fun v15 h13 =>
  (gO h13 x0 12).bind fun f16 =>
  gB (F_X12_rideOf n x0 x1 v15 (0 : Int32) (0 : Int32) h13) fun v20 h18 =>
  if x2 = 0 then
  (F_X12_ride_94 n v20 h18)
  else
  (if x2 = (1 : Int32) then
  ((gI h18 x0 12 14).bind fun v27 =>
  F_X12_ride_94 n v27 h18)
  else
  ((gR h18 x0 12 15).bind fun v23 =>
  (aI h18 v23 (x2 - (10 : Int32))).bind fun v25 =>
  F_X12_ride_94 n v25 h18)))
set_option maxRecDepth 20000 in
set_option maxHeartbeats 1600000 in
theorem g_X12_ride_36 {n d : Nat} : ∀ {x0 : Nat} {x1 : Int32} {x2 : Int32} {h : gH} {rh : gH} {rv : Int32}, F_X12_ride_36 n x0 x1 x2 h = some (rv, rh) → G M_X12_ride (d + 6) 0 0 0 0 36 [some (.ref x0), some (.int x1), some (.int x2), none] [] h (qI rv rh) := by
  intro x0 x1 x2 h rh rv hf
  unfold F_X12_ride_36 at hf
  refine g_aload_n dX12_ride_36 rfl ?_
  replace hf := Option.bind_eq_some_iff.mp hf
  obtain ⟨f1, q2, hf⟩ := hf
  replace hf := gB_of hf
  obtain ⟨v5, h3, q4, hf⟩ := hf
  refine g_callV (as := []) (mc1 := 0) (ms1 := 0) s_X12_48_X12_pieces_12 dX12_ride_37 (gO_of q2) rfl (Nat.le_of_ble_eq_true rfl) (Nat.le_of_ble_eq_true rfl) (Nat.le_of_ble_eq_true rfl) (t_X12_pieces (d := d + 5) q4) (fun r9 h9 q9 => ?_)
  obtain ⟨rfl, rfl⟩ := q9
  refine g_stp (st2 := [.int v5]) (pc2 := 40) (kc2 := 0) (kn2 := 0) rfl rfl rfl rfl ?_
  refine g_if_ne (tgt := 46) dX12_ride_40 (by decide) (fun c6 => ?_) (fun c6 => ?_)
  · rw [if_neg c6] at hf
    refine g_aload_n dX12_ride_46 rfl ?_
    refine g_sipush (v := (1023 : Int32)) dX12_ride_47 (by decide) ?_
    replace hf := Option.bind_eq_some_iff.mp hf
    obtain ⟨f7, q8, hf⟩ := hf
    replace hf := Option.bind_eq_some_iff.mp hf
    obtain ⟨h9, q10, hf⟩ := hf
    refine g_callV (as := [.int (1023 : Int32)]) (mc1 := 0) (ms1 := 0) s_X12_185_X12_looks_12 dX12_ride_50 (gO_of q8) rfl (Nat.le_of_ble_eq_true rfl) (Nat.le_of_ble_eq_true rfl) (Nat.le_of_ble_eq_true rfl) (t_X12_looks (d := d + 2) q10) (fun r9 h9 q9 => ?_)
    obtain ⟨rfl, rfl⟩ := q9
    refine g_stp (st2 := []) (pc2 := 53) (kc2 := 0) (kn2 := 0) rfl rfl rfl rfl ?_
    refine g_aload_n dX12_ride_53 rfl ?_
    refine g_iload_n dX12_ride_54 rfl ?_
    refine g_aload_n dX12_ride_55 rfl ?_
    replace hf := Option.bind_eq_some_iff.mp hf
    obtain ⟨f11, q12, hf⟩ := hf
    replace hf := gB_of hf
    obtain ⟨v15, h13, q14, hf⟩ := hf
    refine g_callV (as := []) (mc1 := 0) (ms1 := 0) s_X12_56_X12_most_12 dX12_ride_56 (gO_of q12) rfl (Nat.le_of_ble_eq_true rfl) (Nat.le_of_ble_eq_true rfl) (Nat.le_of_ble_eq_true rfl) (t_X12_most (d := d + 4) q14) (fun r9 h9 q9 => ?_)
    obtain ⟨rfl, rfl⟩ := q9
    refine g_stp (st2 := [.int v15, .int x1, .ref x0]) (pc2 := 59) (kc2 := 0) (kn2 := 0) rfl rfl rfl rfl ?_
    refine g_iconst (v := (0 : Int32)) dX12_ride_59 (by decide) ?_
    refine g_iconst (v := (0 : Int32)) dX12_ride_60 (by decide) ?_
    replace hf := Option.bind_eq_some_iff.mp hf
    obtain ⟨f16, q17, hf⟩ := hf
    replace hf := gB_of hf
    obtain ⟨v20, h18, q19, hf⟩ := hf
    refine g_callV (as := [.int x1, .int v15, .int (0 : Int32), .int (0 : Int32)]) (mc1 := 0) (ms1 := 0) s_X12_207_X12_rideOf_12 dX12_ride_61 (gO_of q17) rfl (Nat.le_of_ble_eq_true rfl) (Nat.le_of_ble_eq_true rfl) (Nat.le_of_ble_eq_true rfl) (t_X12_rideOf (d := d + 0) q19) (fun r9 h9 q9 => ?_)
    obtain ⟨rfl, rfl⟩ := q9
    refine g_stp (st2 := [.int v20]) (pc2 := 64) (kc2 := 0) (kn2 := 0) rfl rfl rfl rfl ?_
    refine g_istore_n dX12_ride_64 (by decide) (g_lvp (lv2 := [some (.ref x0), some (.int x1), some (.int x2), some (.int v20)]) (pc2 := 65) rfl rfl ?_)
    refine g_iload_n dX12_ride_65 rfl ?_
    refine g_if_ne (tgt := 73) dX12_ride_66 (by decide) (fun c21 => ?_) (fun c21 => ?_)
    · rw [if_neg c21] at hf
      refine g_iload_n dX12_ride_73 rfl ?_
      refine g_iconst (v := (1 : Int32)) dX12_ride_74 (by decide) ?_
      refine g_icmp_ne (tgt := 85) dX12_ride_75 (by decide) (fun c22 => ?_) (fun c22 => ?_)
      · rw [if_neg c22] at hf
        refine g_aload_n dX12_ride_85 rfl ?_
        replace hf := Option.bind_eq_some_iff.mp hf
        obtain ⟨v23, q24, hf⟩ := hf
        refine g_gR f_X12_34 dX12_ride_86 q24 ?_
        refine g_iload_n dX12_ride_89 rfl ?_
        refine g_bipush (v := (10 : Int32)) dX12_ride_90 (by decide) ?_
        refine g_isub dX12_ride_92 ?_
        replace hf := Option.bind_eq_some_iff.mp hf
        obtain ⟨v25, q26, hf⟩ := hf
        refine g_aI dX12_ride_93 q26 ?_
        refine g_weak (lv2 := [none, none, none, none]) (trivial) ?_
        exact g_X12_ride_94 hf
      · rw [if_pos c22] at hf
        refine g_aload_n dX12_ride_78 rfl ?_
        replace hf := Option.bind_eq_some_iff.mp hf
        obtain ⟨v27, q28, hf⟩ := hf
        refine g_gI f_X12_204 dX12_ride_79 q28 ?_
        refine g_goto (tgt := 94) dX12_ride_82 (by decide) ?_
        refine g_weak (lv2 := [none, none, none, none]) (trivial) ?_
        exact g_X12_ride_94 hf
    · rw [if_pos c21] at hf
      refine g_iload_n dX12_ride_69 rfl ?_
      refine g_goto (tgt := 94) dX12_ride_70 (by decide) ?_
      refine g_weak (lv2 := [none, none, none, none]) (trivial) ?_
      exact g_X12_ride_94 hf
  · rw [if_pos c6] at hf
    refine g_bipush (v := (-3 : Int32)) dX12_ride_43 (by decide) ?_
    obtain ⟨rfl, rfl⟩ := Prod.mk.inj (Option.some.inj hf)
    exact g_iret dX12_ride_45 rfl ⟨rfl, rfl⟩ (Nat.le_of_ble_eq_true rfl) (Nat.le_of_ble_eq_true rfl)
def F_X12_ride_34 (n : Nat)   (h : gH) : Option (Int32 × gH) :=
  some ((-1 : Int32), h)
set_option maxRecDepth 20000 in
set_option maxHeartbeats 1600000 in
theorem g_X12_ride_34 {n d : Nat} : ∀  {h : gH} {rh : gH} {rv : Int32}, F_X12_ride_34 n  h = some (rv, rh) → G M_X12_ride (d + 6) 0 0 0 0 34 [none, none, none, none] [] h (qI rv rh) := by
  intro  h rh rv hf
  unfold F_X12_ride_34 at hf
  refine g_iconst (v := (-1 : Int32)) dX12_ride_34 (by decide) ?_
  obtain ⟨rfl, rfl⟩ := Prod.mk.inj (Option.some.inj hf)
  exact g_iret dX12_ride_35 rfl ⟨rfl, rfl⟩ (Nat.le_of_ble_eq_true rfl) (Nat.le_of_ble_eq_true rfl)
def F_X12_ride_0 (n : Nat)  (x0 : Nat) (x1 : Int32) (x2 : Int32) (h : gH) : Option (Int32 × gH) :=
  (gO h x0 12).bind fun f1 =>
  gB (F_X12_isWay n x0 x1 h) fun v5 h3 =>
  if v5 = 0 then
  (F_X12_ride_34 n h3)
  else
  (gB (F_X12_in n x2 (0 : Int32) (1 : Int32) h3) fun v9 h7 =>
  if v9 = 0 then
  (if x2 < (10 : Int32) then
  (F_X12_ride_34 n h7)
  else
  ((gO h7 x0 12).bind fun f12 =>
  gB (F_X12_isPiece n x0 (x2 - (10 : Int32)) h7) fun v16 h14 =>
  if v16 = 0 then
  (F_X12_ride_34 n h14)
  else
  (F_X12_ride_36 n x0 x1 x2 h14)))
  else
  (F_X12_ride_36 n x0 x1 x2 h7))
set_option maxRecDepth 20000 in
set_option maxHeartbeats 1600000 in
theorem g_X12_ride_0 {n d : Nat} : ∀ {x0 : Nat} {x1 : Int32} {x2 : Int32} {h : gH} {rh : gH} {rv : Int32}, F_X12_ride_0 n x0 x1 x2 h = some (rv, rh) → G M_X12_ride (d + 6) 0 0 0 0 0 [some (.ref x0), some (.int x1), some (.int x2), none] [] h (qI rv rh) := by
  intro x0 x1 x2 h rh rv hf
  unfold F_X12_ride_0 at hf
  refine g_aload_n dX12_ride_0 rfl ?_
  refine g_iload_n dX12_ride_1 rfl ?_
  replace hf := Option.bind_eq_some_iff.mp hf
  obtain ⟨f1, q2, hf⟩ := hf
  replace hf := gB_of hf
  obtain ⟨v5, h3, q4, hf⟩ := hf
  refine g_callV (as := [.int x1]) (mc1 := 0) (ms1 := 0) s_X12_188_X12_isWay_12 dX12_ride_2 (gO_of q2) rfl (Nat.le_of_ble_eq_true rfl) (Nat.le_of_ble_eq_true rfl) (Nat.le_of_ble_eq_true rfl) (t_X12_isWay (d := d + 4) q4) (fun r9 h9 q9 => ?_)
  obtain ⟨rfl, rfl⟩ := q9
  refine g_stp (st2 := [.int v5]) (pc2 := 5) (kc2 := 0) (kn2 := 0) rfl rfl rfl rfl ?_
  refine g_if_eq (tgt := 34) dX12_ride_5 (by decide) (fun c6 => ?_) (fun c6 => ?_)
  · rw [if_pos c6] at hf
    refine g_weak (lv2 := [none, none, none, none]) (trivial) ?_
    exact g_X12_ride_34 hf
  · rw [if_neg c6] at hf
    refine g_iload_n dX12_ride_8 rfl ?_
    refine g_iconst (v := (0 : Int32)) dX12_ride_9 (by decide) ?_
    refine g_iconst (v := (1 : Int32)) dX12_ride_10 (by decide) ?_
    replace hf := gB_of hf
    obtain ⟨v9, h7, q8, hf⟩ := hf
    refine g_callS (as := [.int x2, .int (0 : Int32), .int (1 : Int32)]) (mc1 := 0) (ms1 := 0) s_X12_44_X12_in dX12_ride_11 rfl (Nat.le_of_ble_eq_true rfl) (Nat.le_of_ble_eq_true rfl) (Nat.le_of_ble_eq_true rfl) (t_X12_in (d := d + 5) q8) (fun r9 h9 q9 => ?_)
    obtain ⟨rfl, rfl⟩ := q9
    refine g_stp (st2 := [.int v9]) (pc2 := 14) (kc2 := 0) (kn2 := 0) rfl rfl rfl rfl ?_
    refine g_if_ne (tgt := 36) dX12_ride_14 (by decide) (fun c10 => ?_) (fun c10 => ?_)
    · rw [if_neg c10] at hf
      exact g_X12_ride_36 hf
    · rw [if_pos c10] at hf
      refine g_iload_n dX12_ride_17 rfl ?_
      refine g_bipush (v := (10 : Int32)) dX12_ride_18 (by decide) ?_
      refine g_icmp_lt (tgt := 34) dX12_ride_20 (by decide) (fun c11 => ?_) (fun c11 => ?_)
      · rw [if_pos c11] at hf
        refine g_weak (lv2 := [none, none, none, none]) (trivial) ?_
        exact g_X12_ride_34 hf
      · rw [if_neg c11] at hf
        refine g_aload_n dX12_ride_23 rfl ?_
        refine g_iload_n dX12_ride_24 rfl ?_
        refine g_bipush (v := (10 : Int32)) dX12_ride_25 (by decide) ?_
        refine g_isub dX12_ride_27 ?_
        replace hf := Option.bind_eq_some_iff.mp hf
        obtain ⟨f12, q13, hf⟩ := hf
        replace hf := gB_of hf
        obtain ⟨v16, h14, q15, hf⟩ := hf
        refine g_callV (as := [.int (x2 - (10 : Int32))]) (mc1 := 0) (ms1 := 0) s_X12_151_X12_isPiece_12 dX12_ride_28 (gO_of q13) rfl (Nat.le_of_ble_eq_true rfl) (Nat.le_of_ble_eq_true rfl) (Nat.le_of_ble_eq_true rfl) (t_X12_isPiece (d := d + 4) q15) (fun r9 h9 q9 => ?_)
        obtain ⟨rfl, rfl⟩ := q9
        refine g_stp (st2 := [.int v16]) (pc2 := 31) (kc2 := 0) (kn2 := 0) rfl rfl rfl rfl ?_
        refine g_if_ne (tgt := 36) dX12_ride_31 (by decide) (fun c17 => ?_) (fun c17 => ?_)
        · rw [if_neg c17] at hf
          exact g_X12_ride_36 hf
        · rw [if_pos c17] at hf
          refine g_weak (lv2 := [none, none, none, none]) (trivial) ?_
          exact g_X12_ride_34 hf
def F_X12_ride (n : Nat) (a : Nat) (p0 : Int32) (p1 : Int32) (h : gH) : Option (Int32 × gH) := F_X12_ride_0 n  a p0 p1 h
theorem t_X12_ride {n d : Nat} {a : Nat} {p0 : Int32} {p1 : Int32} {h rh : gH} {rv : Int32} (hf : F_X12_ride n a p0 p1 h = some (rv, rh)) : T M_X12_ride (d + 6) 0 0 [.ref a, .int p0, .int p1] h (qI rv rh) := by
  refine T_of_G (L := 1) (by decide +kernel) rfl (Nat.le_of_ble_eq_true rfl) (g_lv (lv2 := [some (.ref a), some (.int p0), some (.int p1), none]) rfl ?_)
  exact g_X12_ride_0 hf
def F_X12_rides_91 (n : Nat)  (y0 : Int32) (h : gH) : Option (Int32 × gH) :=
  some (y0, h)
set_option maxRecDepth 20000 in
set_option maxHeartbeats 1600000 in
theorem g_X12_rides_91 {n d : Nat} : ∀ {y0 : Int32} {h : gH} {rh : gH} {rv : Int32}, F_X12_rides_91 n y0 h = some (rv, rh) → G M_X12_rides (d + 3) 0 0 0 0 91 [none, none, none, none, none, none] [.int y0] h (qI rv rh) := by
  intro y0 h rh rv hf
  unfold F_X12_rides_91 at hf
  obtain ⟨rfl, rfl⟩ := Prod.mk.inj (Option.some.inj hf)
  exact g_iret dX12_rides_91 rfl ⟨rfl, rfl⟩ (Nat.le_of_ble_eq_true rfl) (Nat.le_of_ble_eq_true rfl)
def F_X12_rides_69 (n : Nat)  (y0 : Int32) (h : gH) : Option (Int32 × gH) :=
  some (y0, h)
set_option maxRecDepth 20000 in
set_option maxHeartbeats 1600000 in
theorem g_X12_rides_69 {n d : Nat} : ∀ {y0 : Int32} {h : gH} {rh : gH} {rv : Int32}, F_X12_rides_69 n y0 h = some (rv, rh) → G M_X12_rides (d + 3) 0 0 0 0 69 [none, none, none, none, none, none] [.int y0] h (qI rv rh) := by
  intro y0 h rh rv hf
  unfold F_X12_rides_69 at hf
  obtain ⟨rfl, rfl⟩ := Prod.mk.inj (Option.some.inj hf)
  exact g_iret dX12_rides_69 rfl ⟨rfl, rfl⟩ (Nat.le_of_ble_eq_true rfl) (Nat.le_of_ble_eq_true rfl)
def F_X12_rides_38 (n : Nat)   (h : gH) : Option (Int32 × gH) :=
  some ((-2 : Int32), h)
set_option maxRecDepth 20000 in
set_option maxHeartbeats 1600000 in
theorem g_X12_rides_38 {n d : Nat} : ∀  {h : gH} {rh : gH} {rv : Int32}, F_X12_rides_38 n  h = some (rv, rh) → G M_X12_rides (d + 3) 0 0 0 0 38 [none, none, none, none, none, none] [] h (qI rv rh) := by
  intro  h rh rv hf
  unfold F_X12_rides_38 at hf
  refine g_bipush (v := (-2 : Int32)) dX12_rides_38 (by decide) ?_
  obtain ⟨rfl, rfl⟩ := Prod.mk.inj (Option.some.inj hf)
  exact g_iret dX12_rides_40 rfl ⟨rfl, rfl⟩ (Nat.le_of_ble_eq_true rfl) (Nat.le_of_ble_eq_true rfl)
def F_X12_rides_18 (n : Nat)   (h : gH) : Option (Int32 × gH) :=
  some ((-1 : Int32), h)
set_option maxRecDepth 20000 in
set_option maxHeartbeats 1600000 in
theorem g_X12_rides_18 {n d : Nat} : ∀  {h : gH} {rh : gH} {rv : Int32}, F_X12_rides_18 n  h = some (rv, rh) → G M_X12_rides (d + 3) 0 0 0 0 18 [none, none, none, none, none, none] [] h (qI rv rh) := by
  intro  h rh rv hf
  unfold F_X12_rides_18 at hf
  refine g_iconst (v := (-1 : Int32)) dX12_rides_18 (by decide) ?_
  obtain ⟨rfl, rfl⟩ := Prod.mk.inj (Option.some.inj hf)
  exact g_iret dX12_rides_19 rfl ⟨rfl, rfl⟩ (Nat.le_of_ble_eq_true rfl) (Nat.le_of_ble_eq_true rfl)
def F_X12_rides_0 (n : Nat)  (x0 : Nat) (x1 : Int32) (x2 : Int32) (x3 : Int32) (x4 : Int32) (h : gH) : Option (Int32 × gH) :=
  (gO h x0 12).bind fun f1 =>
  gB (F_X12_isPiece n x0 x1 h) fun v5 h3 =>
  if v5 = 0 then
  (F_X12_rides_18 n h3)
  else
  (gB (F_X12_in n x4 (0 : Int32) (2 : Int32) h3) fun v9 h7 =>
  if v9 = 0 then
  (F_X12_rides_18 n h7)
  else
  (gB (F_X12_in n x2 (0 : Int32) (9 : Int32) h7) fun v13 h11 =>
  if v13 = 0 then
  (F_X12_rides_38 n h11)
  else
  ((gO h11 x0 12).bind fun f15 =>
  gB (F_X12_isStore n x0 x3 h11) fun v19 h17 =>
  if v19 = 0 then
  (F_X12_rides_38 n h17)
  else
  (if (2 : Int32) ≤ x4 then
  ((gO h17 x0 12).bind fun f22 =>
  gB (F_X12_behind n x0 x1 x2 x3 h17) fun v26 h24 =>
  if 0 ≤ v26 then
  (F_X12_rides_91 n v26 h24)
  else
  (F_X12_rides_91 n (-5 : Int32) h24))
  else
  (if x4 = 0 then
  ((gO h17 x0 12).bind fun f34 =>
  gB (F_X12_speedOf n x0 x1 x2 x3 h17) fun v38 h36 =>
  F_X12_rides_69 n v38 h36)
  else
  ((gO h17 x0 12).bind fun f29 =>
  gB (F_X12_secondsOf n x0 x1 x2 x3 h17) fun v33 h31 =>
  F_X12_rides_69 n v33 h31))))))
set_option maxRecDepth 20000 in
set_option maxHeartbeats 1600000 in
theorem g_X12_rides_0 {n d : Nat} : ∀ {x0 : Nat} {x1 : Int32} {x2 : Int32} {x3 : Int32} {x4 : Int32} {h : gH} {rh : gH} {rv : Int32}, F_X12_rides_0 n x0 x1 x2 x3 x4 h = some (rv, rh) → G M_X12_rides (d + 3) 0 0 0 0 0 [some (.ref x0), some (.int x1), some (.int x2), some (.int x3), some (.int x4), none] [] h (qI rv rh) := by
  intro x0 x1 x2 x3 x4 h rh rv hf
  unfold F_X12_rides_0 at hf
  refine g_aload_n dX12_rides_0 rfl ?_
  refine g_iload_n dX12_rides_1 rfl ?_
  replace hf := Option.bind_eq_some_iff.mp hf
  obtain ⟨f1, q2, hf⟩ := hf
  replace hf := gB_of hf
  obtain ⟨v5, h3, q4, hf⟩ := hf
  refine g_callV (as := [.int x1]) (mc1 := 0) (ms1 := 0) s_X12_151_X12_isPiece_12 dX12_rides_2 (gO_of q2) rfl (Nat.le_of_ble_eq_true rfl) (Nat.le_of_ble_eq_true rfl) (Nat.le_of_ble_eq_true rfl) (t_X12_isPiece (d := d + 1) q4) (fun r9 h9 q9 => ?_)
  obtain ⟨rfl, rfl⟩ := q9
  refine g_stp (st2 := [.int v5]) (pc2 := 5) (kc2 := 0) (kn2 := 0) rfl rfl rfl rfl ?_
  refine g_if_eq (tgt := 18) dX12_rides_5 (by decide) (fun c6 => ?_) (fun c6 => ?_)
  · rw [if_pos c6] at hf
    refine g_weak (lv2 := [none, none, none, none, none, none]) (trivial) ?_
    exact g_X12_rides_18 hf
  · rw [if_neg c6] at hf
    refine g_iload dX12_rides_8 rfl ?_
    refine g_iconst (v := (0 : Int32)) dX12_rides_10 (by decide) ?_
    refine g_iconst (v := (2 : Int32)) dX12_rides_11 (by decide) ?_
    replace hf := gB_of hf
    obtain ⟨v9, h7, q8, hf⟩ := hf
    refine g_callS (as := [.int x4, .int (0 : Int32), .int (2 : Int32)]) (mc1 := 0) (ms1 := 0) s_X12_44_X12_in dX12_rides_12 rfl (Nat.le_of_ble_eq_true rfl) (Nat.le_of_ble_eq_true rfl) (Nat.le_of_ble_eq_true rfl) (t_X12_in (d := d + 2) q8) (fun r9 h9 q9 => ?_)
    obtain ⟨rfl, rfl⟩ := q9
    refine g_stp (st2 := [.int v9]) (pc2 := 15) (kc2 := 0) (kn2 := 0) rfl rfl rfl rfl ?_
    refine g_if_ne (tgt := 20) dX12_rides_15 (by decide) (fun c10 => ?_) (fun c10 => ?_)
    · rw [if_neg c10] at hf
      refine g_iload_n dX12_rides_20 rfl ?_
      refine g_iconst (v := (0 : Int32)) dX12_rides_21 (by decide) ?_
      refine g_bipush (v := (9 : Int32)) dX12_rides_22 (by decide) ?_
      replace hf := gB_of hf
      obtain ⟨v13, h11, q12, hf⟩ := hf
      refine g_callS (as := [.int x2, .int (0 : Int32), .int (9 : Int32)]) (mc1 := 0) (ms1 := 0) s_X12_44_X12_in dX12_rides_24 rfl (Nat.le_of_ble_eq_true rfl) (Nat.le_of_ble_eq_true rfl) (Nat.le_of_ble_eq_true rfl) (t_X12_in (d := d + 2) q12) (fun r9 h9 q9 => ?_)
      obtain ⟨rfl, rfl⟩ := q9
      refine g_stp (st2 := [.int v13]) (pc2 := 27) (kc2 := 0) (kn2 := 0) rfl rfl rfl rfl ?_
      refine g_if_eq (tgt := 38) dX12_rides_27 (by decide) (fun c14 => ?_) (fun c14 => ?_)
      · rw [if_pos c14] at hf
        refine g_weak (lv2 := [none, none, none, none, none, none]) (trivial) ?_
        exact g_X12_rides_38 hf
      · rw [if_neg c14] at hf
        refine g_aload_n dX12_rides_30 rfl ?_
        refine g_iload_n dX12_rides_31 rfl ?_
        replace hf := Option.bind_eq_some_iff.mp hf
        obtain ⟨f15, q16, hf⟩ := hf
        replace hf := gB_of hf
        obtain ⟨v19, h17, q18, hf⟩ := hf
        refine g_callV (as := [.int x3]) (mc1 := 0) (ms1 := 0) s_X12_176_X12_isStore_12 dX12_rides_32 (gO_of q16) rfl (Nat.le_of_ble_eq_true rfl) (Nat.le_of_ble_eq_true rfl) (Nat.le_of_ble_eq_true rfl) (t_X12_isStore (d := d + 0) q18) (fun r9 h9 q9 => ?_)
        obtain ⟨rfl, rfl⟩ := q9
        refine g_stp (st2 := [.int v19]) (pc2 := 35) (kc2 := 0) (kn2 := 0) rfl rfl rfl rfl ?_
        refine g_if_ne (tgt := 41) dX12_rides_35 (by decide) (fun c20 => ?_) (fun c20 => ?_)
        · rw [if_neg c20] at hf
          refine g_iload dX12_rides_41 rfl ?_
          refine g_iconst (v := (2 : Int32)) dX12_rides_43 (by decide) ?_
          refine g_icmp_ge (tgt := 70) dX12_rides_44 (by decide) (fun c21 => ?_) (fun c21 => ?_)
          · rw [if_pos c21] at hf
            refine g_aload_n dX12_rides_70 rfl ?_
            refine g_iload_n dX12_rides_71 rfl ?_
            refine g_iload_n dX12_rides_72 rfl ?_
            refine g_iload_n dX12_rides_73 rfl ?_
            replace hf := Option.bind_eq_some_iff.mp hf
            obtain ⟨f22, q23, hf⟩ := hf
            replace hf := gB_of hf
            obtain ⟨v26, h24, q25, hf⟩ := hf
            refine g_callV (as := [.int x1, .int x2, .int x3]) (mc1 := 0) (ms1 := 0) s_X12_182_X12_behind_12 dX12_rides_74 (gO_of q23) rfl (Nat.le_of_ble_eq_true rfl) (Nat.le_of_ble_eq_true rfl) (Nat.le_of_ble_eq_true rfl) (t_X12_behind (d := d + 0) q25) (fun r9 h9 q9 => ?_)
            obtain ⟨rfl, rfl⟩ := q9
            refine g_stp (st2 := [.int v26]) (pc2 := 77) (kc2 := 0) (kn2 := 0) rfl rfl rfl rfl ?_
            refine g_istore dX12_rides_77 (by decide) (g_lvp (lv2 := [some (.ref x0), some (.int x1), some (.int x2), some (.int x3), some (.int x4), some (.int v26)]) (pc2 := 79) rfl rfl ?_)
            refine g_iload dX12_rides_79 rfl ?_
            refine g_if_ge (tgt := 89) dX12_rides_81 (by decide) (fun c27 => ?_) (fun c27 => ?_)
            · rw [if_pos c27] at hf
              refine g_iload dX12_rides_89 rfl ?_
              refine g_weak (lv2 := [none, none, none, none, none, none]) (trivial) ?_
              exact g_X12_rides_91 hf
            · rw [if_neg c27] at hf
              refine g_bipush (v := (-5 : Int32)) dX12_rides_84 (by decide) ?_
              refine g_goto (tgt := 91) dX12_rides_86 (by decide) ?_
              refine g_weak (lv2 := [none, none, none, none, none, none]) (trivial) ?_
              exact g_X12_rides_91 hf
          · rw [if_neg c21] at hf
            refine g_iload dX12_rides_47 rfl ?_
            refine g_if_ne (tgt := 62) dX12_rides_49 (by decide) (fun c28 => ?_) (fun c28 => ?_)
            · rw [if_neg c28] at hf
              refine g_aload_n dX12_rides_62 rfl ?_
              refine g_iload_n dX12_rides_63 rfl ?_
              refine g_iload_n dX12_rides_64 rfl ?_
              refine g_iload_n dX12_rides_65 rfl ?_
              replace hf := Option.bind_eq_some_iff.mp hf
              obtain ⟨f29, q30, hf⟩ := hf
              replace hf := gB_of hf
              obtain ⟨v33, h31, q32, hf⟩ := hf
              refine g_callV (as := [.int x1, .int x2, .int x3]) (mc1 := 0) (ms1 := 0) s_X12_179_X12_secondsOf_12 dX12_rides_66 (gO_of q30) rfl (Nat.le_of_ble_eq_true rfl) (Nat.le_of_ble_eq_true rfl) (Nat.le_of_ble_eq_true rfl) (t_X12_secondsOf (d := d + 0) q32) (fun r9 h9 q9 => ?_)
              obtain ⟨rfl, rfl⟩ := q9
              refine g_stp (st2 := [.int v33]) (pc2 := 69) (kc2 := 0) (kn2 := 0) rfl rfl rfl rfl ?_
              refine g_weak (lv2 := [none, none, none, none, none, none]) (trivial) ?_
              exact g_X12_rides_69 hf
            · rw [if_pos c28] at hf
              refine g_aload_n dX12_rides_52 rfl ?_
              refine g_iload_n dX12_rides_53 rfl ?_
              refine g_iload_n dX12_rides_54 rfl ?_
              refine g_iload_n dX12_rides_55 rfl ?_
              replace hf := Option.bind_eq_some_iff.mp hf
              obtain ⟨f34, q35, hf⟩ := hf
              replace hf := gB_of hf
              obtain ⟨v38, h36, q37, hf⟩ := hf
              refine g_callV (as := [.int x1, .int x2, .int x3]) (mc1 := 0) (ms1 := 0) s_X12_172_X12_speedOf_12 dX12_rides_56 (gO_of q35) rfl (Nat.le_of_ble_eq_true rfl) (Nat.le_of_ble_eq_true rfl) (Nat.le_of_ble_eq_true rfl) (t_X12_speedOf (d := d + 1) q37) (fun r9 h9 q9 => ?_)
              obtain ⟨rfl, rfl⟩ := q9
              refine g_stp (st2 := [.int v38]) (pc2 := 59) (kc2 := 0) (kn2 := 0) rfl rfl rfl rfl ?_
              refine g_goto (tgt := 69) dX12_rides_59 (by decide) ?_
              refine g_weak (lv2 := [none, none, none, none, none, none]) (trivial) ?_
              exact g_X12_rides_69 hf
        · rw [if_pos c20] at hf
          refine g_weak (lv2 := [none, none, none, none, none, none]) (trivial) ?_
          exact g_X12_rides_38 hf
    · rw [if_pos c10] at hf
      refine g_weak (lv2 := [none, none, none, none, none, none]) (trivial) ?_
      exact g_X12_rides_18 hf
def F_X12_rides (n : Nat) (a : Nat) (p0 : Int32) (p1 : Int32) (p2 : Int32) (p3 : Int32) (h : gH) : Option (Int32 × gH) := F_X12_rides_0 n  a p0 p1 p2 p3 h
theorem t_X12_rides {n d : Nat} {a : Nat} {p0 : Int32} {p1 : Int32} {p2 : Int32} {p3 : Int32} {h rh : gH} {rv : Int32} (hf : F_X12_rides n a p0 p1 p2 p3 h = some (rv, rh)) : T M_X12_rides (d + 3) 0 0 [.ref a, .int p0, .int p1, .int p2, .int p3] h (qI rv rh) := by
  refine T_of_G (L := 1) (by decide +kernel) rfl (Nat.le_of_ble_eq_true rfl) (g_lv (lv2 := [some (.ref a), some (.int p0), some (.int p1), some (.int p2), some (.int p3), none]) rfl ?_)
  exact g_X12_rides_0 hf
def F_X12_road_256 (n : Nat)  (x0 : Nat) (h : gH) : Option (Int32 × gH) :=
  (gI h x0 12 5).bind fun v1 =>
  some (((-10 : Int32) - v1), h)
set_option maxRecDepth 20000 in
set_option maxHeartbeats 1600000 in
theorem g_X12_road_256 {n d : Nat} : ∀ {x0 : Nat} {h : gH} {rh : gH} {rv : Int32}, F_X12_road_256 n x0 h = some (rv, rh) → G M_X12_road (d + 47) 0 0 0 0 256 [some (.ref x0), none] [] h (qI rv rh) := by
  intro x0 h rh rv hf
  unfold F_X12_road_256 at hf
  refine g_bipush (v := (-10 : Int32)) dX12_road_256 (by decide) ?_
  refine g_aload_n dX12_road_258 rfl ?_
  replace hf := Option.bind_eq_some_iff.mp hf
  obtain ⟨v1, q2, hf⟩ := hf
  refine g_gI f_X12_61 dX12_road_259 q2 ?_
  refine g_isub dX12_road_262 ?_
  obtain ⟨rfl, rfl⟩ := Prod.mk.inj (Option.some.inj hf)
  exact g_iret dX12_road_263 rfl ⟨rfl, rfl⟩ (Nat.le_of_ble_eq_true rfl) (Nat.le_of_ble_eq_true rfl)
def F_X12_road_222 (n : Nat)  (x0 : Nat) (h : gH) : Option (Int32 × gH) :=
  (gI h x0 12 7).bind fun v1 =>
  if v1 = 0 then
  ((gI h x0 12 5).bind fun v4 =>
  (gI h x0 12 6).bind fun v6 =>
  if v4 = v6 then
  ((gR h x0 12 1).bind fun v9 =>
  (gI h x0 12 4).bind fun v11 =>
  (aI h v9 ((218 : Int32) + v11)).bind fun v13 =>
  if v13 = 0 then
  (F_X12_road_256 n x0 h)
  else
  ((gR h x0 12 1).bind fun v16 =>
  (aI h v16 (1 : Int32)).bind fun v18 =>
  (sI h v16 (1 : Int32) (v18 + (1 : Int32))).bind fun h20 =>
  (gR h20 x0 12 1).bind fun v22 =>
  (gI h20 x0 12 4).bind fun v24 =>
  (sI h20 v22 (4 : Int32) v24).bind fun h26 =>
  (gI h26 x0 12 4).bind fun v28 =>
  some (v28, h26)))
  else
  (F_X12_road_256 n x0 h))
  else
  (F_X12_road_256 n x0 h)
set_option maxRecDepth 20000 in
set_option maxHeartbeats 1600000 in
theorem g_X12_road_222 {n d : Nat} : ∀ {x0 : Nat} {h : gH} {rh : gH} {rv : Int32}, F_X12_road_222 n x0 h = some (rv, rh) → G M_X12_road (d + 47) 0 0 0 0 222 [some (.ref x0), none] [] h (qI rv rh) := by
  intro x0 h rh rv hf
  unfold F_X12_road_222 at hf
  refine g_aload_n dX12_road_222 rfl ?_
  replace hf := Option.bind_eq_some_iff.mp hf
  obtain ⟨v1, q2, hf⟩ := hf
  refine g_gI f_X12_67 dX12_road_223 q2 ?_
  refine g_if_ne (tgt := 256) dX12_road_226 (by decide) (fun c3 => ?_) (fun c3 => ?_)
  · rw [if_neg c3] at hf
    exact g_X12_road_256 hf
  · rw [if_pos c3] at hf
    refine g_aload_n dX12_road_229 rfl ?_
    replace hf := Option.bind_eq_some_iff.mp hf
    obtain ⟨v4, q5, hf⟩ := hf
    refine g_gI f_X12_61 dX12_road_230 q5 ?_
    refine g_aload_n dX12_road_233 rfl ?_
    replace hf := Option.bind_eq_some_iff.mp hf
    obtain ⟨v6, q7, hf⟩ := hf
    refine g_gI f_X12_64 dX12_road_234 q7 ?_
    refine g_icmp_ne (tgt := 256) dX12_road_237 (by decide) (fun c8 => ?_) (fun c8 => ?_)
    · rw [if_neg c8] at hf
      exact g_X12_road_256 hf
    · rw [if_pos c8] at hf
      refine g_aload_n dX12_road_240 rfl ?_
      replace hf := Option.bind_eq_some_iff.mp hf
      obtain ⟨v9, q10, hf⟩ := hf
      refine g_gR f_X12_9 dX12_road_241 q10 ?_
      refine g_sipush (v := (218 : Int32)) dX12_road_244 (by decide) ?_
      refine g_aload_n dX12_road_247 rfl ?_
      replace hf := Option.bind_eq_some_iff.mp hf
      obtain ⟨v11, q12, hf⟩ := hf
      refine g_gI f_X12_87 dX12_road_248 q12 ?_
      refine g_iadd dX12_road_251 ?_
      replace hf := Option.bind_eq_some_iff.mp hf
      obtain ⟨v13, q14, hf⟩ := hf
      refine g_aI dX12_road_252 q14 ?_
      refine g_if_ne (tgt := 264) dX12_road_253 (by decide) (fun c15 => ?_) (fun c15 => ?_)
      · rw [if_neg c15] at hf
        refine g_aload_n dX12_road_264 rfl ?_
        replace hf := Option.bind_eq_some_iff.mp hf
        obtain ⟨v16, q17, hf⟩ := hf
        refine g_gR f_X12_9 dX12_road_265 q17 ?_
        refine g_iconst (v := (1 : Int32)) dX12_road_268 (by decide) ?_
        refine g_dup2 dX12_road_269 rfl rfl ?_
        replace hf := Option.bind_eq_some_iff.mp hf
        obtain ⟨v18, q19, hf⟩ := hf
        refine g_aI dX12_road_270 q19 ?_
        refine g_iconst (v := (1 : Int32)) dX12_road_271 (by decide) ?_
        refine g_iadd dX12_road_272 ?_
        replace hf := Option.bind_eq_some_iff.mp hf
        obtain ⟨h20, q21, hf⟩ := hf
        refine g_sI dX12_road_273 q21 ?_
        refine g_aload_n dX12_road_274 rfl ?_
        replace hf := Option.bind_eq_some_iff.mp hf
        obtain ⟨v22, q23, hf⟩ := hf
        refine g_gR f_X12_9 dX12_road_275 q23 ?_
        refine g_iconst (v := (4 : Int32)) dX12_road_278 (by decide) ?_
        refine g_aload_n dX12_road_279 rfl ?_
        replace hf := Option.bind_eq_some_iff.mp hf
        obtain ⟨v24, q25, hf⟩ := hf
        refine g_gI f_X12_87 dX12_road_280 q25 ?_
        replace hf := Option.bind_eq_some_iff.mp hf
        obtain ⟨h26, q27, hf⟩ := hf
        refine g_sI dX12_road_283 q27 ?_
        refine g_aload_n dX12_road_284 rfl ?_
        replace hf := Option.bind_eq_some_iff.mp hf
        obtain ⟨v28, q29, hf⟩ := hf
        refine g_gI f_X12_87 dX12_road_285 q29 ?_
        obtain ⟨rfl, rfl⟩ := Prod.mk.inj (Option.some.inj hf)
        exact g_iret dX12_road_288 rfl ⟨rfl, rfl⟩ (Nat.le_of_ble_eq_true rfl) (Nat.le_of_ble_eq_true rfl)
      · rw [if_pos c15] at hf
        exact g_X12_road_256 hf
def F_X12_road_180 (n : Nat)  : Nat → Nat → Int32 → gH → Option (Int32 × gH)
  | 0, _, _, _ => none
  | m + 1, x0, x1, h => (gI h x0 12 7).bind fun v1 =>
  if v1 = 0 then
  (if (14 : Int32) ≤ x1 then
  (F_X12_road_222 n x0 h)
  else
  ((gO h x0 12).bind fun f5 =>
  gB (F_X12_here n x0  h) fun v9 h7 =>
  if v9 = (59 : Int32) then
  ((gI h7 x0 12 5).bind fun v11 =>
  (pF h7 x0 12 5 (.int (v11 + (1 : Int32)))).bind fun h13 =>
  (gO h13 x0 12).bind fun f15 =>
  (F_X12_clauseHere n x0  h13).bind fun h17 =>
  F_X12_road_180 n m x0 (x1 + (1 : Int32)) h17)
  else
  (F_X12_road_222 n x0 h7)))
  else
  (F_X12_road_222 n x0 h)
set_option maxRecDepth 20000 in
set_option maxHeartbeats 1600000 in
theorem g_X12_road_180 {n d : Nat} : ∀ {m : Nat} {x0 : Nat} {x1 : Int32} {h : gH} {rh : gH} {rv : Int32}, F_X12_road_180 n m x0 x1 h = some (rv, rh) → G M_X12_road (d + 47) 0 0 0 0 180 [some (.ref x0), some (.int x1)] [] h (qI rv rh) := by
  intro m
  induction m with
  | zero => intro x0 x1 h rh rv hf; cases hf
  | succ m t180 =>
    intro x0 x1 h rh rv hf
    unfold F_X12_road_180 at hf
    refine g_aload_n dX12_road_180 rfl ?_
    replace hf := Option.bind_eq_some_iff.mp hf
    obtain ⟨v1, q2, hf⟩ := hf
    refine g_gI f_X12_67 dX12_road_181 q2 ?_
    refine g_if_ne (tgt := 222) dX12_road_184 (by decide) (fun c3 => ?_) (fun c3 => ?_)
    · rw [if_neg c3] at hf
      refine g_weak (lv2 := [some (.ref x0), none]) (And.intro rfl (trivial)) ?_
      exact g_X12_road_222 hf
    · rw [if_pos c3] at hf
      refine g_iload_n dX12_road_187 rfl ?_
      refine g_bipush (v := (14 : Int32)) dX12_road_188 (by decide) ?_
      refine g_icmp_ge (tgt := 222) dX12_road_190 (by decide) (fun c4 => ?_) (fun c4 => ?_)
      · rw [if_pos c4] at hf
        refine g_weak (lv2 := [some (.ref x0), none]) (And.intro rfl (trivial)) ?_
        exact g_X12_road_222 hf
      · rw [if_neg c4] at hf
        refine g_aload_n dX12_road_193 rfl ?_
        replace hf := Option.bind_eq_some_iff.mp hf
        obtain ⟨f5, q6, hf⟩ := hf
        replace hf := gB_of hf
        obtain ⟨v9, h7, q8, hf⟩ := hf
        refine g_callV (as := []) (mc1 := 0) (ms1 := 0) s_X12_71_X12_here_12 dX12_road_194 (gO_of q6) rfl (Nat.le_of_ble_eq_true rfl) (Nat.le_of_ble_eq_true rfl) (Nat.le_of_ble_eq_true rfl) (t_X12_here (d := d + 46) q8) (fun r9 h9 q9 => ?_)
        obtain ⟨rfl, rfl⟩ := q9
        refine g_stp (st2 := [.int v9]) (pc2 := 197) (kc2 := 0) (kn2 := 0) rfl rfl rfl rfl ?_
        refine g_bipush (v := (59 : Int32)) dX12_road_197 (by decide) ?_
        refine g_icmp_ne (tgt := 222) dX12_road_199 (by decide) (fun c10 => ?_) (fun c10 => ?_)
        · rw [if_neg c10] at hf
          refine g_weak (lv2 := [some (.ref x0), none]) (And.intro rfl (trivial)) ?_
          exact g_X12_road_222 hf
        · rw [if_pos c10] at hf
          refine g_aload_n dX12_road_202 rfl ?_
          refine g_dup dX12_road_203 rfl ?_
          replace hf := Option.bind_eq_some_iff.mp hf
          obtain ⟨v11, q12, hf⟩ := hf
          refine g_gI f_X12_61 dX12_road_204 q12 ?_
          refine g_iconst (v := (1 : Int32)) dX12_road_207 (by decide) ?_
          refine g_iadd dX12_road_208 ?_
          replace hf := Option.bind_eq_some_iff.mp hf
          obtain ⟨h13, q14, hf⟩ := hf
          refine g_pF p_X12_61 dX12_road_209 q14 (fun _ => rfl) (fun _ => rfl) ?_
          refine g_aload_n dX12_road_212 rfl ?_
          replace hf := Option.bind_eq_some_iff.mp hf
          obtain ⟨f15, q16, hf⟩ := hf
          replace hf := Option.bind_eq_some_iff.mp hf
          obtain ⟨h17, q18, hf⟩ := hf
          refine g_callV (as := []) (mc1 := 0) (ms1 := 0) s_X12_148_X12_clauseHere_12 dX12_road_213 (gO_of q16) rfl (Nat.le_of_ble_eq_true rfl) (Nat.le_of_ble_eq_true rfl) (Nat.le_of_ble_eq_true rfl) (t_X12_clauseHere (d := d + 0) q18) (fun r9 h9 q9 => ?_)
          obtain ⟨rfl, rfl⟩ := q9
          refine g_stp (st2 := []) (pc2 := 216) (kc2 := 0) (kn2 := 0) rfl rfl rfl rfl ?_
          refine g_iinc2 (w := (1 : Int32)) dX12_road_216 (by decide) rfl (by decide) (g_lvp (lv2 := [some (.ref x0), some (.int (x1 + (1 : Int32)))]) (pc2 := 219) rfl rfl ?_)
          refine g_goto (tgt := 180) dX12_road_219 (by decide) ?_
          exact t180 hf
def F_X12_road_127 (n : Nat)  : Nat → Nat → Int32 → gH → Option (Int32 × gH)
  | 0, _, _, _ => none
  | m + 1, x0, x1, h => if (10 : Int32) ≤ x1 then
  ((pF h x0 12 5 (.int (0 : Int32))).bind fun h2 =>
  (pZ h2 x0 12 7 (0 : Int32)).bind fun h4 =>
  (pF h4 x0 12 8 (.int (0 : Int32))).bind fun h6 =>
  (gO h6 x0 12).bind fun f8 =>
  (F_X12_clauseHere n x0  h6).bind fun h10 =>
  F_X12_road_180 n n x0 (1 : Int32) h10)
  else
  ((gR h x0 12 1).bind fun v12 =>
  (gI h x0 12 4).bind fun v14 =>
  (sI h v12 (((363 : Int32) + ((10 : Int32) * v14)) + x1) (99 : Int32)).bind fun h16 =>
  F_X12_road_127 n m x0 (x1 + (1 : Int32)) h16)
set_option maxRecDepth 20000 in
set_option maxHeartbeats 1600000 in
theorem g_X12_road_127 {n d : Nat} : ∀ {m : Nat} {x0 : Nat} {x1 : Int32} {h : gH} {rh : gH} {rv : Int32}, F_X12_road_127 n m x0 x1 h = some (rv, rh) → G M_X12_road (d + 47) 0 0 0 0 127 [some (.ref x0), some (.int x1)] [] h (qI rv rh) := by
  intro m
  induction m with
  | zero => intro x0 x1 h rh rv hf; cases hf
  | succ m t127 =>
    intro x0 x1 h rh rv hf
    unfold F_X12_road_127 at hf
    refine g_iload_n dX12_road_127 rfl ?_
    refine g_bipush (v := (10 : Int32)) dX12_road_128 (by decide) ?_
    refine g_icmp_ge (tgt := 159) dX12_road_130 (by decide) (fun c1 => ?_) (fun c1 => ?_)
    · rw [if_pos c1] at hf
      refine g_aload_n dX12_road_159 rfl ?_
      refine g_iconst (v := (0 : Int32)) dX12_road_160 (by decide) ?_
      replace hf := Option.bind_eq_some_iff.mp hf
      obtain ⟨h2, q3, hf⟩ := hf
      refine g_pF p_X12_61 dX12_road_161 q3 (fun _ => rfl) (fun _ => rfl) ?_
      refine g_aload_n dX12_road_164 rfl ?_
      refine g_iconst (v := (0 : Int32)) dX12_road_165 (by decide) ?_
      replace hf := Option.bind_eq_some_iff.mp hf
      obtain ⟨h4, q5, hf⟩ := hf
      refine g_pZ p_X12_67 dX12_road_166 q5 ?_
      refine g_aload_n dX12_road_169 rfl ?_
      refine g_iconst (v := (0 : Int32)) dX12_road_170 (by decide) ?_
      replace hf := Option.bind_eq_some_iff.mp hf
      obtain ⟨h6, q7, hf⟩ := hf
      refine g_pF p_X12_90 dX12_road_171 q7 (fun _ => rfl) (fun _ => rfl) ?_
      refine g_iconst (v := (1 : Int32)) dX12_road_174 (by decide) ?_
      refine g_istore_n dX12_road_175 (by decide) (g_lvp (lv2 := [some (.ref x0), some (.int (1 : Int32))]) (pc2 := 176) rfl rfl ?_)
      refine g_aload_n dX12_road_176 rfl ?_
      replace hf := Option.bind_eq_some_iff.mp hf
      obtain ⟨f8, q9, hf⟩ := hf
      replace hf := Option.bind_eq_some_iff.mp hf
      obtain ⟨h10, q11, hf⟩ := hf
      refine g_callV (as := []) (mc1 := 0) (ms1 := 0) s_X12_148_X12_clauseHere_12 dX12_road_177 (gO_of q9) rfl (Nat.le_of_ble_eq_true rfl) (Nat.le_of_ble_eq_true rfl) (Nat.le_of_ble_eq_true rfl) (t_X12_clauseHere (d := d + 0) q11) (fun r9 h9 q9 => ?_)
      obtain ⟨rfl, rfl⟩ := q9
      refine g_stp (st2 := []) (pc2 := 180) (kc2 := 0) (kn2 := 0) rfl rfl rfl rfl ?_
      exact g_X12_road_180 hf
    · rw [if_neg c1] at hf
      refine g_aload_n dX12_road_133 rfl ?_
      replace hf := Option.bind_eq_some_iff.mp hf
      obtain ⟨v12, q13, hf⟩ := hf
      refine g_gR f_X12_9 dX12_road_134 q13 ?_
      refine g_sipush (v := (363 : Int32)) dX12_road_137 (by decide) ?_
      refine g_bipush (v := (10 : Int32)) dX12_road_140 (by decide) ?_
      refine g_aload_n dX12_road_142 rfl ?_
      replace hf := Option.bind_eq_some_iff.mp hf
      obtain ⟨v14, q15, hf⟩ := hf
      refine g_gI f_X12_87 dX12_road_143 q15 ?_
      refine g_imul dX12_road_146 ?_
      refine g_iadd dX12_road_147 ?_
      refine g_iload_n dX12_road_148 rfl ?_
      refine g_iadd dX12_road_149 ?_
      refine g_bipush (v := (99 : Int32)) dX12_road_150 (by decide) ?_
      replace hf := Option.bind_eq_some_iff.mp hf
      obtain ⟨h16, q17, hf⟩ := hf
      refine g_sI dX12_road_152 q17 ?_
      refine g_iinc2 (w := (1 : Int32)) dX12_road_153 (by decide) rfl (by decide) (g_lvp (lv2 := [some (.ref x0), some (.int (x1 + (1 : Int32)))]) (pc2 := 156) rfl rfl ?_)
      refine g_goto (tgt := 127) dX12_road_156 (by decide) ?_
      exact t127 hf
def F_X12_road_0 (n : Nat)  (x0 : Nat) (h : gH) : Option (Int32 × gH) :=
  (gR h x0 12 1).bind fun v1 =>
  (aI h v1 (1 : Int32)).bind fun v3 =>
  if v3 = (5 : Int32) then
  (some ((-4 : Int32), h))
  else
  ((gR h x0 12 1).bind fun v6 =>
  (aI h v6 (1 : Int32)).bind fun v8 =>
  (pF h x0 12 4 (.int v8)).bind fun h10 =>
  (gR h10 x0 12 1).bind fun v12 =>
  (aI h10 v12 (3 : Int32)).bind fun v14 =>
  (pF h10 x0 12 6 (.int v14)).bind fun h16 =>
  (gR h16 x0 12 1).bind fun v18 =>
  (sI h16 v18 (3 : Int32) (0 : Int32)).bind fun h20 =>
  (gR h20 x0 12 1).bind fun v22 =>
  (gI h20 x0 12 4).bind fun v24 =>
  (sI h20 v22 ((218 : Int32) + v24) (0 : Int32)).bind fun h26 =>
  (gR h26 x0 12 1).bind fun v28 =>
  (gI h26 x0 12 4).bind fun v30 =>
  (sI h26 v28 ((223 : Int32) + v30) (4 : Int32)).bind fun h32 =>
  (gR h32 x0 12 1).bind fun v34 =>
  (gI h32 x0 12 4).bind fun v36 =>
  (sI h32 v34 ((228 : Int32) + v36) (20 : Int32)).bind fun h38 =>
  (gR h38 x0 12 1).bind fun v40 =>
  (gI h38 x0 12 4).bind fun v42 =>
  (sI h38 v40 ((233 : Int32) + v42) (5 : Int32)).bind fun h44 =>
  (gR h44 x0 12 1).bind fun v46 =>
  (gI h44 x0 12 4).bind fun v48 =>
  (sI h44 v46 ((238 : Int32) + v48) (0 : Int32)).bind fun h50 =>
  (gR h50 x0 12 1).bind fun v52 =>
  (gI h50 x0 12 4).bind fun v54 =>
  (sI h50 v52 ((413 : Int32) + v54) (0 : Int32)).bind fun h56 =>
  F_X12_road_127 n n x0 (0 : Int32) h56)
set_option maxRecDepth 20000 in
set_option maxHeartbeats 1600000 in
theorem g_X12_road_0 {n d : Nat} : ∀ {x0 : Nat} {h : gH} {rh : gH} {rv : Int32}, F_X12_road_0 n x0 h = some (rv, rh) → G M_X12_road (d + 47) 0 0 0 0 0 [some (.ref x0), none] [] h (qI rv rh) := by
  intro x0 h rh rv hf
  unfold F_X12_road_0 at hf
  refine g_aload_n dX12_road_0 rfl ?_
  replace hf := Option.bind_eq_some_iff.mp hf
  obtain ⟨v1, q2, hf⟩ := hf
  refine g_gR f_X12_9 dX12_road_1 q2 ?_
  refine g_iconst (v := (1 : Int32)) dX12_road_4 (by decide) ?_
  replace hf := Option.bind_eq_some_iff.mp hf
  obtain ⟨v3, q4, hf⟩ := hf
  refine g_aI dX12_road_5 q4 ?_
  refine g_iconst (v := (5 : Int32)) dX12_road_6 (by decide) ?_
  refine g_icmp_ne (tgt := 13) dX12_road_7 (by decide) (fun c5 => ?_) (fun c5 => ?_)
  · rw [if_neg c5] at hf
    refine g_aload_n dX12_road_13 rfl ?_
    refine g_aload_n dX12_road_14 rfl ?_
    replace hf := Option.bind_eq_some_iff.mp hf
    obtain ⟨v6, q7, hf⟩ := hf
    refine g_gR f_X12_9 dX12_road_15 q7 ?_
    refine g_iconst (v := (1 : Int32)) dX12_road_18 (by decide) ?_
    replace hf := Option.bind_eq_some_iff.mp hf
    obtain ⟨v8, q9, hf⟩ := hf
    refine g_aI dX12_road_19 q9 ?_
    replace hf := Option.bind_eq_some_iff.mp hf
    obtain ⟨h10, q11, hf⟩ := hf
    refine g_pF p_X12_87 dX12_road_20 q11 (fun _ => rfl) (fun _ => rfl) ?_
    refine g_aload_n dX12_road_23 rfl ?_
    refine g_aload_n dX12_road_24 rfl ?_
    replace hf := Option.bind_eq_some_iff.mp hf
    obtain ⟨v12, q13, hf⟩ := hf
    refine g_gR f_X12_9 dX12_road_25 q13 ?_
    refine g_iconst (v := (3 : Int32)) dX12_road_28 (by decide) ?_
    replace hf := Option.bind_eq_some_iff.mp hf
    obtain ⟨v14, q15, hf⟩ := hf
    refine g_aI dX12_road_29 q15 ?_
    replace hf := Option.bind_eq_some_iff.mp hf
    obtain ⟨h16, q17, hf⟩ := hf
    refine g_pF p_X12_64 dX12_road_30 q17 (fun _ => rfl) (fun _ => rfl) ?_
    refine g_aload_n dX12_road_33 rfl ?_
    replace hf := Option.bind_eq_some_iff.mp hf
    obtain ⟨v18, q19, hf⟩ := hf
    refine g_gR f_X12_9 dX12_road_34 q19 ?_
    refine g_iconst (v := (3 : Int32)) dX12_road_37 (by decide) ?_
    refine g_iconst (v := (0 : Int32)) dX12_road_38 (by decide) ?_
    replace hf := Option.bind_eq_some_iff.mp hf
    obtain ⟨h20, q21, hf⟩ := hf
    refine g_sI dX12_road_39 q21 ?_
    refine g_aload_n dX12_road_40 rfl ?_
    replace hf := Option.bind_eq_some_iff.mp hf
    obtain ⟨v22, q23, hf⟩ := hf
    refine g_gR f_X12_9 dX12_road_41 q23 ?_
    refine g_sipush (v := (218 : Int32)) dX12_road_44 (by decide) ?_
    refine g_aload_n dX12_road_47 rfl ?_
    replace hf := Option.bind_eq_some_iff.mp hf
    obtain ⟨v24, q25, hf⟩ := hf
    refine g_gI f_X12_87 dX12_road_48 q25 ?_
    refine g_iadd dX12_road_51 ?_
    refine g_iconst (v := (0 : Int32)) dX12_road_52 (by decide) ?_
    replace hf := Option.bind_eq_some_iff.mp hf
    obtain ⟨h26, q27, hf⟩ := hf
    refine g_sI dX12_road_53 q27 ?_
    refine g_aload_n dX12_road_54 rfl ?_
    replace hf := Option.bind_eq_some_iff.mp hf
    obtain ⟨v28, q29, hf⟩ := hf
    refine g_gR f_X12_9 dX12_road_55 q29 ?_
    refine g_sipush (v := (223 : Int32)) dX12_road_58 (by decide) ?_
    refine g_aload_n dX12_road_61 rfl ?_
    replace hf := Option.bind_eq_some_iff.mp hf
    obtain ⟨v30, q31, hf⟩ := hf
    refine g_gI f_X12_87 dX12_road_62 q31 ?_
    refine g_iadd dX12_road_65 ?_
    refine g_iconst (v := (4 : Int32)) dX12_road_66 (by decide) ?_
    replace hf := Option.bind_eq_some_iff.mp hf
    obtain ⟨h32, q33, hf⟩ := hf
    refine g_sI dX12_road_67 q33 ?_
    refine g_aload_n dX12_road_68 rfl ?_
    replace hf := Option.bind_eq_some_iff.mp hf
    obtain ⟨v34, q35, hf⟩ := hf
    refine g_gR f_X12_9 dX12_road_69 q35 ?_
    refine g_sipush (v := (228 : Int32)) dX12_road_72 (by decide) ?_
    refine g_aload_n dX12_road_75 rfl ?_
    replace hf := Option.bind_eq_some_iff.mp hf
    obtain ⟨v36, q37, hf⟩ := hf
    refine g_gI f_X12_87 dX12_road_76 q37 ?_
    refine g_iadd dX12_road_79 ?_
    refine g_bipush (v := (20 : Int32)) dX12_road_80 (by decide) ?_
    replace hf := Option.bind_eq_some_iff.mp hf
    obtain ⟨h38, q39, hf⟩ := hf
    refine g_sI dX12_road_82 q39 ?_
    refine g_aload_n dX12_road_83 rfl ?_
    replace hf := Option.bind_eq_some_iff.mp hf
    obtain ⟨v40, q41, hf⟩ := hf
    refine g_gR f_X12_9 dX12_road_84 q41 ?_
    refine g_sipush (v := (233 : Int32)) dX12_road_87 (by decide) ?_
    refine g_aload_n dX12_road_90 rfl ?_
    replace hf := Option.bind_eq_some_iff.mp hf
    obtain ⟨v42, q43, hf⟩ := hf
    refine g_gI f_X12_87 dX12_road_91 q43 ?_
    refine g_iadd dX12_road_94 ?_
    refine g_iconst (v := (5 : Int32)) dX12_road_95 (by decide) ?_
    replace hf := Option.bind_eq_some_iff.mp hf
    obtain ⟨h44, q45, hf⟩ := hf
    refine g_sI dX12_road_96 q45 ?_
    refine g_aload_n dX12_road_97 rfl ?_
    replace hf := Option.bind_eq_some_iff.mp hf
    obtain ⟨v46, q47, hf⟩ := hf
    refine g_gR f_X12_9 dX12_road_98 q47 ?_
    refine g_sipush (v := (238 : Int32)) dX12_road_101 (by decide) ?_
    refine g_aload_n dX12_road_104 rfl ?_
    replace hf := Option.bind_eq_some_iff.mp hf
    obtain ⟨v48, q49, hf⟩ := hf
    refine g_gI f_X12_87 dX12_road_105 q49 ?_
    refine g_iadd dX12_road_108 ?_
    refine g_iconst (v := (0 : Int32)) dX12_road_109 (by decide) ?_
    replace hf := Option.bind_eq_some_iff.mp hf
    obtain ⟨h50, q51, hf⟩ := hf
    refine g_sI dX12_road_110 q51 ?_
    refine g_aload_n dX12_road_111 rfl ?_
    replace hf := Option.bind_eq_some_iff.mp hf
    obtain ⟨v52, q53, hf⟩ := hf
    refine g_gR f_X12_9 dX12_road_112 q53 ?_
    refine g_sipush (v := (413 : Int32)) dX12_road_115 (by decide) ?_
    refine g_aload_n dX12_road_118 rfl ?_
    replace hf := Option.bind_eq_some_iff.mp hf
    obtain ⟨v54, q55, hf⟩ := hf
    refine g_gI f_X12_87 dX12_road_119 q55 ?_
    refine g_iadd dX12_road_122 ?_
    refine g_iconst (v := (0 : Int32)) dX12_road_123 (by decide) ?_
    replace hf := Option.bind_eq_some_iff.mp hf
    obtain ⟨h56, q57, hf⟩ := hf
    refine g_sI dX12_road_124 q57 ?_
    refine g_iconst (v := (0 : Int32)) dX12_road_125 (by decide) ?_
    refine g_istore_n dX12_road_126 (by decide) (g_lvp (lv2 := [some (.ref x0), some (.int (0 : Int32))]) (pc2 := 127) rfl rfl ?_)
    exact g_X12_road_127 hf
  · rw [if_pos c5] at hf
    refine g_bipush (v := (-4 : Int32)) dX12_road_10 (by decide) ?_
    obtain ⟨rfl, rfl⟩ := Prod.mk.inj (Option.some.inj hf)
    exact g_iret dX12_road_12 rfl ⟨rfl, rfl⟩ (Nat.le_of_ble_eq_true rfl) (Nat.le_of_ble_eq_true rfl)
def F_X12_road (n : Nat) (a : Nat) (h : gH) : Option (Int32 × gH) := F_X12_road_0 n  a h
theorem t_X12_road {n d : Nat} {a : Nat} {h rh : gH} {rv : Int32} (hf : F_X12_road n a h = some (rv, rh)) : T M_X12_road (d + 47) 0 0 [.ref a] h (qI rv rh) := by
  refine T_of_G (L := 1) (by decide +kernel) rfl (Nat.le_of_ble_eq_true rfl) (g_lv (lv2 := [some (.ref a), none]) rfl ?_)
  exact g_X12_road_0 hf
def F_X12_row_0 (n : Nat)  (x0 : Nat) (x1 : Int32) (h : gH) : Option (Int32 × gH) :=
  if x1 = (-1 : Int32) then
  ((gR h x0 12 1).bind fun v29 =>
  (sI h v29 (2 : Int32) (0 : Int32)).bind fun h31 =>
  some ((0 : Int32), h31))
  else
  (gB (F_X12_in n x1 (0 : Int32) (9 : Int32) h) fun v4 h2 =>
  if v4 = 0 then
  (some ((-2 : Int32), h2))
  else
  ((gR h2 x0 12 1).bind fun v6 =>
  (aI h2 v6 (2 : Int32)).bind fun v8 =>
  if v8 = (8 : Int32) then
  (some ((-4 : Int32), h2))
  else
  ((gR h2 x0 12 1).bind fun v11 =>
  (gR h2 x0 12 1).bind fun v13 =>
  (aI h2 v13 (2 : Int32)).bind fun v15 =>
  (sI h2 v11 ((210 : Int32) + v15) x1).bind fun h17 =>
  (gR h17 x0 12 1).bind fun v19 =>
  (aI h17 v19 (2 : Int32)).bind fun v21 =>
  (sI h17 v19 (2 : Int32) (v21 + (1 : Int32))).bind fun h23 =>
  (gR h23 x0 12 1).bind fun v25 =>
  (aI h23 v25 (2 : Int32)).bind fun v27 =>
  some (v27, h23))))
set_option maxRecDepth 20000 in
set_option maxHeartbeats 1600000 in
theorem g_X12_row_0 {n d : Nat} : ∀ {x0 : Nat} {x1 : Int32} {h : gH} {rh : gH} {rv : Int32}, F_X12_row_0 n x0 x1 h = some (rv, rh) → G M_X12_row (d + 1) 0 0 0 0 0 [some (.ref x0), some (.int x1)] [] h (qI rv rh) := by
  intro x0 x1 h rh rv hf
  unfold F_X12_row_0 at hf
  refine g_iload_n dX12_row_0 rfl ?_
  refine g_iconst (v := (-1 : Int32)) dX12_row_1 (by decide) ?_
  refine g_icmp_ne (tgt := 14) dX12_row_2 (by decide) (fun c1 => ?_) (fun c1 => ?_)
  · rw [if_neg c1] at hf
    refine g_iload_n dX12_row_14 rfl ?_
    refine g_iconst (v := (0 : Int32)) dX12_row_15 (by decide) ?_
    refine g_bipush (v := (9 : Int32)) dX12_row_16 (by decide) ?_
    replace hf := gB_of hf
    obtain ⟨v4, h2, q3, hf⟩ := hf
    refine g_callS (as := [.int x1, .int (0 : Int32), .int (9 : Int32)]) (mc1 := 0) (ms1 := 0) s_X12_44_X12_in dX12_row_18 rfl (Nat.le_of_ble_eq_true rfl) (Nat.le_of_ble_eq_true rfl) (Nat.le_of_ble_eq_true rfl) (t_X12_in (d := d + 0) q3) (fun r9 h9 q9 => ?_)
    obtain ⟨rfl, rfl⟩ := q9
    refine g_stp (st2 := [.int v4]) (pc2 := 21) (kc2 := 0) (kn2 := 0) rfl rfl rfl rfl ?_
    refine g_if_ne (tgt := 27) dX12_row_21 (by decide) (fun c5 => ?_) (fun c5 => ?_)
    · rw [if_neg c5] at hf
      refine g_aload_n dX12_row_27 rfl ?_
      replace hf := Option.bind_eq_some_iff.mp hf
      obtain ⟨v6, q7, hf⟩ := hf
      refine g_gR f_X12_9 dX12_row_28 q7 ?_
      refine g_iconst (v := (2 : Int32)) dX12_row_31 (by decide) ?_
      replace hf := Option.bind_eq_some_iff.mp hf
      obtain ⟨v8, q9, hf⟩ := hf
      refine g_aI dX12_row_32 q9 ?_
      refine g_bipush (v := (8 : Int32)) dX12_row_33 (by decide) ?_
      refine g_icmp_ne (tgt := 41) dX12_row_35 (by decide) (fun c10 => ?_) (fun c10 => ?_)
      · rw [if_neg c10] at hf
        refine g_aload_n dX12_row_41 rfl ?_
        replace hf := Option.bind_eq_some_iff.mp hf
        obtain ⟨v11, q12, hf⟩ := hf
        refine g_gR f_X12_9 dX12_row_42 q12 ?_
        refine g_sipush (v := (210 : Int32)) dX12_row_45 (by decide) ?_
        refine g_aload_n dX12_row_48 rfl ?_
        replace hf := Option.bind_eq_some_iff.mp hf
        obtain ⟨v13, q14, hf⟩ := hf
        refine g_gR f_X12_9 dX12_row_49 q14 ?_
        refine g_iconst (v := (2 : Int32)) dX12_row_52 (by decide) ?_
        replace hf := Option.bind_eq_some_iff.mp hf
        obtain ⟨v15, q16, hf⟩ := hf
        refine g_aI dX12_row_53 q16 ?_
        refine g_iadd dX12_row_54 ?_
        refine g_iload_n dX12_row_55 rfl ?_
        replace hf := Option.bind_eq_some_iff.mp hf
        obtain ⟨h17, q18, hf⟩ := hf
        refine g_sI dX12_row_56 q18 ?_
        refine g_aload_n dX12_row_57 rfl ?_
        replace hf := Option.bind_eq_some_iff.mp hf
        obtain ⟨v19, q20, hf⟩ := hf
        refine g_gR f_X12_9 dX12_row_58 q20 ?_
        refine g_iconst (v := (2 : Int32)) dX12_row_61 (by decide) ?_
        refine g_dup2 dX12_row_62 rfl rfl ?_
        replace hf := Option.bind_eq_some_iff.mp hf
        obtain ⟨v21, q22, hf⟩ := hf
        refine g_aI dX12_row_63 q22 ?_
        refine g_iconst (v := (1 : Int32)) dX12_row_64 (by decide) ?_
        refine g_iadd dX12_row_65 ?_
        replace hf := Option.bind_eq_some_iff.mp hf
        obtain ⟨h23, q24, hf⟩ := hf
        refine g_sI dX12_row_66 q24 ?_
        refine g_aload_n dX12_row_67 rfl ?_
        replace hf := Option.bind_eq_some_iff.mp hf
        obtain ⟨v25, q26, hf⟩ := hf
        refine g_gR f_X12_9 dX12_row_68 q26 ?_
        refine g_iconst (v := (2 : Int32)) dX12_row_71 (by decide) ?_
        replace hf := Option.bind_eq_some_iff.mp hf
        obtain ⟨v27, q28, hf⟩ := hf
        refine g_aI dX12_row_72 q28 ?_
        obtain ⟨rfl, rfl⟩ := Prod.mk.inj (Option.some.inj hf)
        exact g_iret dX12_row_73 rfl ⟨rfl, rfl⟩ (Nat.le_of_ble_eq_true rfl) (Nat.le_of_ble_eq_true rfl)
      · rw [if_pos c10] at hf
        refine g_bipush (v := (-4 : Int32)) dX12_row_38 (by decide) ?_
        obtain ⟨rfl, rfl⟩ := Prod.mk.inj (Option.some.inj hf)
        exact g_iret dX12_row_40 rfl ⟨rfl, rfl⟩ (Nat.le_of_ble_eq_true rfl) (Nat.le_of_ble_eq_true rfl)
    · rw [if_pos c5] at hf
      refine g_bipush (v := (-2 : Int32)) dX12_row_24 (by decide) ?_
      obtain ⟨rfl, rfl⟩ := Prod.mk.inj (Option.some.inj hf)
      exact g_iret dX12_row_26 rfl ⟨rfl, rfl⟩ (Nat.le_of_ble_eq_true rfl) (Nat.le_of_ble_eq_true rfl)
  · rw [if_pos c1] at hf
    refine g_aload_n dX12_row_5 rfl ?_
    replace hf := Option.bind_eq_some_iff.mp hf
    obtain ⟨v29, q30, hf⟩ := hf
    refine g_gR f_X12_9 dX12_row_6 q30 ?_
    refine g_iconst (v := (2 : Int32)) dX12_row_9 (by decide) ?_
    refine g_iconst (v := (0 : Int32)) dX12_row_10 (by decide) ?_
    replace hf := Option.bind_eq_some_iff.mp hf
    obtain ⟨h31, q32, hf⟩ := hf
    refine g_sI dX12_row_11 q32 ?_
    refine g_iconst (v := (0 : Int32)) dX12_row_12 (by decide) ?_
    obtain ⟨rfl, rfl⟩ := Prod.mk.inj (Option.some.inj hf)
    exact g_iret dX12_row_13 rfl ⟨rfl, rfl⟩ (Nat.le_of_ble_eq_true rfl) (Nat.le_of_ble_eq_true rfl)
def F_X12_row (n : Nat) (a : Nat) (p0 : Int32) (h : gH) : Option (Int32 × gH) := F_X12_row_0 n  a p0 h
theorem t_X12_row {n d : Nat} {a : Nat} {p0 : Int32} {h rh : gH} {rv : Int32} (hf : F_X12_row n a p0 h = some (rv, rh)) : T M_X12_row (d + 1) 0 0 [.ref a, .int p0] h (qI rv rh) := by
  refine T_of_G (L := 0) (by decide +kernel) rfl (Nat.le_of_ble_eq_true rfl) (g_lv (lv2 := [some (.ref a), some (.int p0)]) rfl ?_)
  exact g_X12_row_0 hf
def F_X12_soonest_96 (n : Nat)  : Nat → Nat → Int32 → Int32 → Int32 → gH → Option (Int32 × gH)
  | 0, _, _, _, _, _ => none
  | m + 1, x0, x3, x4, x5, h => if (x3 - (10 : Int32)) ≤ x5 then
  ((gR h x0 12 13).bind fun v2 =>
  (aI h v2 (((61 : Int32) * (x3 - (10 : Int32))) + x4)).bind fun v4 =>
  some (v4, h))
  else
  ((gR h x0 12 13).bind fun v6 =>
  (aI h v6 (((61 : Int32) * x5) + x4)).bind fun v8 =>
  (gO h x0 12).bind fun f10 =>
  gB (F_X12_behind n x0 x5 v8 x4 h) fun v14 h12 =>
  F_X12_soonest_96 n m x0 x3 v14 (x5 + (1 : Int32)) h12)
set_option maxRecDepth 20000 in
set_option maxHeartbeats 1600000 in
theorem g_X12_soonest_96 {n d : Nat} : ∀ {m : Nat} {x0 : Nat} {x3 : Int32} {x4 : Int32} {x5 : Int32} {h : gH} {rh : gH} {rv : Int32}, F_X12_soonest_96 n m x0 x3 x4 x5 h = some (rv, rh) → G M_X12_soonest (d + 4) 0 0 0 0 96 [some (.ref x0), none, none, some (.int x3), some (.int x4), some (.int x5)] [] h (qI rv rh) := by
  intro m
  induction m with
  | zero => intro x0 x3 x4 x5 h rh rv hf; cases hf
  | succ m t96 =>
    intro x0 x3 x4 x5 h rh rv hf
    unfold F_X12_soonest_96 at hf
    refine g_iload dX12_soonest_96 rfl ?_
    refine g_iload_n dX12_soonest_98 rfl ?_
    refine g_bipush (v := (10 : Int32)) dX12_soonest_99 (by decide) ?_
    refine g_isub dX12_soonest_101 ?_
    refine g_icmp_ge (tgt := 134) dX12_soonest_102 (by decide) (fun c1 => ?_) (fun c1 => ?_)
    · rw [if_pos c1] at hf
      refine g_aload_n dX12_soonest_134 rfl ?_
      replace hf := Option.bind_eq_some_iff.mp hf
      obtain ⟨v2, q3, hf⟩ := hf
      refine g_gR f_X12_31 dX12_soonest_135 q3 ?_
      refine g_bipush (v := (61 : Int32)) dX12_soonest_138 (by decide) ?_
      refine g_iload_n dX12_soonest_140 rfl ?_
      refine g_bipush (v := (10 : Int32)) dX12_soonest_141 (by decide) ?_
      refine g_isub dX12_soonest_143 ?_
      refine g_imul dX12_soonest_144 ?_
      refine g_iload dX12_soonest_145 rfl ?_
      refine g_iadd dX12_soonest_147 ?_
      replace hf := Option.bind_eq_some_iff.mp hf
      obtain ⟨v4, q5, hf⟩ := hf
      refine g_aI dX12_soonest_148 q5 ?_
      obtain ⟨rfl, rfl⟩ := Prod.mk.inj (Option.some.inj hf)
      exact g_iret dX12_soonest_149 rfl ⟨rfl, rfl⟩ (Nat.le_of_ble_eq_true rfl) (Nat.le_of_ble_eq_true rfl)
    · rw [if_neg c1] at hf
      refine g_aload_n dX12_soonest_105 rfl ?_
      refine g_iload dX12_soonest_106 rfl ?_
      refine g_aload_n dX12_soonest_108 rfl ?_
      replace hf := Option.bind_eq_some_iff.mp hf
      obtain ⟨v6, q7, hf⟩ := hf
      refine g_gR f_X12_31 dX12_soonest_109 q7 ?_
      refine g_bipush (v := (61 : Int32)) dX12_soonest_112 (by decide) ?_
      refine g_iload dX12_soonest_114 rfl ?_
      refine g_imul dX12_soonest_116 ?_
      refine g_iload dX12_soonest_117 rfl ?_
      refine g_iadd dX12_soonest_119 ?_
      replace hf := Option.bind_eq_some_iff.mp hf
      obtain ⟨v8, q9, hf⟩ := hf
      refine g_aI dX12_soonest_120 q9 ?_
      refine g_iload dX12_soonest_121 rfl ?_
      replace hf := Option.bind_eq_some_iff.mp hf
      obtain ⟨f10, q11, hf⟩ := hf
      replace hf := gB_of hf
      obtain ⟨v14, h12, q13, hf⟩ := hf
      refine g_callV (as := [.int x5, .int v8, .int x4]) (mc1 := 0) (ms1 := 0) s_X12_182_X12_behind_12 dX12_soonest_123 (gO_of q11) rfl (Nat.le_of_ble_eq_true rfl) (Nat.le_of_ble_eq_true rfl) (Nat.le_of_ble_eq_true rfl) (t_X12_behind (d := d + 1) q13) (fun r9 h9 q9 => ?_)
      obtain ⟨rfl, rfl⟩ := q9
      refine g_stp (st2 := [.int v14]) (pc2 := 126) (kc2 := 0) (kn2 := 0) rfl rfl rfl rfl ?_
      refine g_istore dX12_soonest_126 (by decide) (g_lvp (lv2 := [some (.ref x0), none, none, some (.int x3), some (.int v14), some (.int x5)]) (pc2 := 128) rfl rfl ?_)
      refine g_iinc2 (w := (1 : Int32)) dX12_soonest_128 (by decide) rfl (by decide) (g_lvp (lv2 := [some (.ref x0), none, none, some (.int x3), some (.int v14), some (.int (x5 + (1 : Int32)))]) (pc2 := 131) rfl rfl ?_)
      refine g_goto (tgt := 96) dX12_soonest_131 (by decide) ?_
      exact t96 hf
def F_X12_soonest_89 (n : Nat)  (y0 : Int32) (h : gH) : Option (Int32 × gH) :=
  some (y0, h)
set_option maxRecDepth 20000 in
set_option maxHeartbeats 1600000 in
theorem g_X12_soonest_89 {n d : Nat} : ∀ {y0 : Int32} {h : gH} {rh : gH} {rv : Int32}, F_X12_soonest_89 n y0 h = some (rv, rh) → G M_X12_soonest (d + 4) 0 0 0 0 89 [none, none, none, none, none, none] [.int y0] h (qI rv rh) := by
  intro y0 h rh rv hf
  unfold F_X12_soonest_89 at hf
  obtain ⟨rfl, rfl⟩ := Prod.mk.inj (Option.some.inj hf)
  exact g_iret dX12_soonest_89 rfl ⟨rfl, rfl⟩ (Nat.le_of_ble_eq_true rfl) (Nat.le_of_ble_eq_true rfl)
def F_X12_soonest_37 (n : Nat)  (x0 : Nat) (x1 : Int32) (x2 : Int32) (x3 : Int32) (h : gH) : Option (Int32 × gH) :=
  (gO h x0 12).bind fun f1 =>
  gB (F_X12_isStore n x0 x2 h) fun v5 h3 =>
  if v5 = 0 then
  (some ((-2 : Int32), h3))
  else
  ((gO h3 x0 12).bind fun f7 =>
  (F_X12_looks n x0 (1023 : Int32) h3).bind fun h9 =>
  if (2 : Int32) ≤ x3 then
  (F_X12_soonest_96 n n x0 x3 x2 x1 h9)
  else
  (if x3 = 0 then
  ((gR h9 x0 12 11).bind fun v17 =>
  (aI h9 v17 (((61 : Int32) * x1) + x2)).bind fun v19 =>
  F_X12_soonest_89 n v19 h9)
  else
  ((gR h9 x0 12 12).bind fun v13 =>
  (aI h9 v13 (((61 : Int32) * x1) + x2)).bind fun v15 =>
  F_X12_soonest_89 n v15 h9)))
set_option maxRecDepth 20000 in
set_option maxHeartbeats 1600000 in
theorem g_X12_soonest_37 {n d : Nat} : ∀ {x0 : Nat} {x1 : Int32} {x2 : Int32} {x3 : Int32} {h : gH} {rh : gH} {rv : Int32}, F_X12_soonest_37 n x0 x1 x2 x3 h = some (rv, rh) → G M_X12_soonest (d + 4) 0 0 0 0 37 [some (.ref x0), some (.int x1), some (.int x2), some (.int x3), none, none] [] h (qI rv rh) := by
  intro x0 x1 x2 x3 h rh rv hf
  unfold F_X12_soonest_37 at hf
  refine g_aload_n dX12_soonest_37 rfl ?_
  refine g_iload_n dX12_soonest_38 rfl ?_
  replace hf := Option.bind_eq_some_iff.mp hf
  obtain ⟨f1, q2, hf⟩ := hf
  replace hf := gB_of hf
  obtain ⟨v5, h3, q4, hf⟩ := hf
  refine g_callV (as := [.int x2]) (mc1 := 0) (ms1 := 0) s_X12_176_X12_isStore_12 dX12_soonest_39 (gO_of q2) rfl (Nat.le_of_ble_eq_true rfl) (Nat.le_of_ble_eq_true rfl) (Nat.le_of_ble_eq_true rfl) (t_X12_isStore (d := d + 1) q4) (fun r9 h9 q9 => ?_)
  obtain ⟨rfl, rfl⟩ := q9
  refine g_stp (st2 := [.int v5]) (pc2 := 42) (kc2 := 0) (kn2 := 0) rfl rfl rfl rfl ?_
  refine g_if_ne (tgt := 48) dX12_soonest_42 (by decide) (fun c6 => ?_) (fun c6 => ?_)
  · rw [if_neg c6] at hf
    refine g_aload_n dX12_soonest_48 rfl ?_
    refine g_sipush (v := (1023 : Int32)) dX12_soonest_49 (by decide) ?_
    replace hf := Option.bind_eq_some_iff.mp hf
    obtain ⟨f7, q8, hf⟩ := hf
    replace hf := Option.bind_eq_some_iff.mp hf
    obtain ⟨h9, q10, hf⟩ := hf
    refine g_callV (as := [.int (1023 : Int32)]) (mc1 := 0) (ms1 := 0) s_X12_185_X12_looks_12 dX12_soonest_52 (gO_of q8) rfl (Nat.le_of_ble_eq_true rfl) (Nat.le_of_ble_eq_true rfl) (Nat.le_of_ble_eq_true rfl) (t_X12_looks (d := d + 0) q10) (fun r9 h9 q9 => ?_)
    obtain ⟨rfl, rfl⟩ := q9
    refine g_stp (st2 := []) (pc2 := 55) (kc2 := 0) (kn2 := 0) rfl rfl rfl rfl ?_
    refine g_iload_n dX12_soonest_55 rfl ?_
    refine g_iconst (v := (2 : Int32)) dX12_soonest_56 (by decide) ?_
    refine g_icmp_ge (tgt := 90) dX12_soonest_57 (by decide) (fun c11 => ?_) (fun c11 => ?_)
    · rw [if_pos c11] at hf
      refine g_iload_n dX12_soonest_90 rfl ?_
      refine g_istore dX12_soonest_91 (by decide) (g_lvp (lv2 := [some (.ref x0), some (.int x1), some (.int x2), some (.int x3), some (.int x2), none]) (pc2 := 93) rfl rfl ?_)
      refine g_iload_n dX12_soonest_93 rfl ?_
      refine g_istore dX12_soonest_94 (by decide) (g_lvp (lv2 := [some (.ref x0), some (.int x1), some (.int x2), some (.int x3), some (.int x2), some (.int x1)]) (pc2 := 96) rfl rfl ?_)
      refine g_weak (lv2 := [some (.ref x0), none, none, some (.int x3), some (.int x2), some (.int x1)]) (And.intro rfl (And.intro rfl (And.intro rfl (And.intro rfl (trivial))))) ?_
      exact g_X12_soonest_96 hf
    · rw [if_neg c11] at hf
      refine g_iload_n dX12_soonest_60 rfl ?_
      refine g_if_ne (tgt := 78) dX12_soonest_61 (by decide) (fun c12 => ?_) (fun c12 => ?_)
      · rw [if_neg c12] at hf
        refine g_aload_n dX12_soonest_78 rfl ?_
        replace hf := Option.bind_eq_some_iff.mp hf
        obtain ⟨v13, q14, hf⟩ := hf
        refine g_gR f_X12_28 dX12_soonest_79 q14 ?_
        refine g_bipush (v := (61 : Int32)) dX12_soonest_82 (by decide) ?_
        refine g_iload_n dX12_soonest_84 rfl ?_
        refine g_imul dX12_soonest_85 ?_
        refine g_iload_n dX12_soonest_86 rfl ?_
        refine g_iadd dX12_soonest_87 ?_
        replace hf := Option.bind_eq_some_iff.mp hf
        obtain ⟨v15, q16, hf⟩ := hf
        refine g_aI dX12_soonest_88 q16 ?_
        refine g_weak (lv2 := [none, none, none, none, none, none]) (trivial) ?_
        exact g_X12_soonest_89 hf
      · rw [if_pos c12] at hf
        refine g_aload_n dX12_soonest_64 rfl ?_
        replace hf := Option.bind_eq_some_iff.mp hf
        obtain ⟨v17, q18, hf⟩ := hf
        refine g_gR f_X12_25 dX12_soonest_65 q18 ?_
        refine g_bipush (v := (61 : Int32)) dX12_soonest_68 (by decide) ?_
        refine g_iload_n dX12_soonest_70 rfl ?_
        refine g_imul dX12_soonest_71 ?_
        refine g_iload_n dX12_soonest_72 rfl ?_
        refine g_iadd dX12_soonest_73 ?_
        replace hf := Option.bind_eq_some_iff.mp hf
        obtain ⟨v19, q20, hf⟩ := hf
        refine g_aI dX12_soonest_74 q20 ?_
        refine g_goto (tgt := 89) dX12_soonest_75 (by decide) ?_
        refine g_weak (lv2 := [none, none, none, none, none, none]) (trivial) ?_
        exact g_X12_soonest_89 hf
  · rw [if_pos c6] at hf
    refine g_bipush (v := (-2 : Int32)) dX12_soonest_45 (by decide) ?_
    obtain ⟨rfl, rfl⟩ := Prod.mk.inj (Option.some.inj hf)
    exact g_iret dX12_soonest_47 rfl ⟨rfl, rfl⟩ (Nat.le_of_ble_eq_true rfl) (Nat.le_of_ble_eq_true rfl)
def F_X12_soonest_35 (n : Nat)   (h : gH) : Option (Int32 × gH) :=
  some ((-1 : Int32), h)
set_option maxRecDepth 20000 in
set_option maxHeartbeats 1600000 in
theorem g_X12_soonest_35 {n d : Nat} : ∀  {h : gH} {rh : gH} {rv : Int32}, F_X12_soonest_35 n  h = some (rv, rh) → G M_X12_soonest (d + 4) 0 0 0 0 35 [none, none, none, none, none, none] [] h (qI rv rh) := by
  intro  h rh rv hf
  unfold F_X12_soonest_35 at hf
  refine g_iconst (v := (-1 : Int32)) dX12_soonest_35 (by decide) ?_
  obtain ⟨rfl, rfl⟩ := Prod.mk.inj (Option.some.inj hf)
  exact g_iret dX12_soonest_36 rfl ⟨rfl, rfl⟩ (Nat.le_of_ble_eq_true rfl) (Nat.le_of_ble_eq_true rfl)
def F_X12_soonest_0 (n : Nat)  (x0 : Nat) (x1 : Int32) (x2 : Int32) (x3 : Int32) (h : gH) : Option (Int32 × gH) :=
  (gO h x0 12).bind fun f1 =>
  gB (F_X12_isPiece n x0 x1 h) fun v5 h3 =>
  if v5 = 0 then
  (F_X12_soonest_35 n h3)
  else
  (gB (F_X12_in n x3 (0 : Int32) (1 : Int32) h3) fun v9 h7 =>
  if v9 = 0 then
  ((gO h7 x0 12).bind fun f11 =>
  gB (F_X12_pieces n x0  h7) fun v15 h13 =>
  gB (F_X12_in n x3 ((10 : Int32) + x1) ((9 : Int32) + v15) h13) fun v18 h16 =>
  if v18 = 0 then
  (F_X12_soonest_35 n h16)
  else
  (F_X12_soonest_37 n x0 x1 x2 x3 h16))
  else
  (F_X12_soonest_37 n x0 x1 x2 x3 h7))
set_option maxRecDepth 20000 in
set_option maxHeartbeats 1600000 in
theorem g_X12_soonest_0 {n d : Nat} : ∀ {x0 : Nat} {x1 : Int32} {x2 : Int32} {x3 : Int32} {h : gH} {rh : gH} {rv : Int32}, F_X12_soonest_0 n x0 x1 x2 x3 h = some (rv, rh) → G M_X12_soonest (d + 4) 0 0 0 0 0 [some (.ref x0), some (.int x1), some (.int x2), some (.int x3), none, none] [] h (qI rv rh) := by
  intro x0 x1 x2 x3 h rh rv hf
  unfold F_X12_soonest_0 at hf
  refine g_aload_n dX12_soonest_0 rfl ?_
  refine g_iload_n dX12_soonest_1 rfl ?_
  replace hf := Option.bind_eq_some_iff.mp hf
  obtain ⟨f1, q2, hf⟩ := hf
  replace hf := gB_of hf
  obtain ⟨v5, h3, q4, hf⟩ := hf
  refine g_callV (as := [.int x1]) (mc1 := 0) (ms1 := 0) s_X12_151_X12_isPiece_12 dX12_soonest_2 (gO_of q2) rfl (Nat.le_of_ble_eq_true rfl) (Nat.le_of_ble_eq_true rfl) (Nat.le_of_ble_eq_true rfl) (t_X12_isPiece (d := d + 2) q4) (fun r9 h9 q9 => ?_)
  obtain ⟨rfl, rfl⟩ := q9
  refine g_stp (st2 := [.int v5]) (pc2 := 5) (kc2 := 0) (kn2 := 0) rfl rfl rfl rfl ?_
  refine g_if_eq (tgt := 35) dX12_soonest_5 (by decide) (fun c6 => ?_) (fun c6 => ?_)
  · rw [if_pos c6] at hf
    refine g_weak (lv2 := [none, none, none, none, none, none]) (trivial) ?_
    exact g_X12_soonest_35 hf
  · rw [if_neg c6] at hf
    refine g_iload_n dX12_soonest_8 rfl ?_
    refine g_iconst (v := (0 : Int32)) dX12_soonest_9 (by decide) ?_
    refine g_iconst (v := (1 : Int32)) dX12_soonest_10 (by decide) ?_
    replace hf := gB_of hf
    obtain ⟨v9, h7, q8, hf⟩ := hf
    refine g_callS (as := [.int x3, .int (0 : Int32), .int (1 : Int32)]) (mc1 := 0) (ms1 := 0) s_X12_44_X12_in dX12_soonest_11 rfl (Nat.le_of_ble_eq_true rfl) (Nat.le_of_ble_eq_true rfl) (Nat.le_of_ble_eq_true rfl) (t_X12_in (d := d + 3) q8) (fun r9 h9 q9 => ?_)
    obtain ⟨rfl, rfl⟩ := q9
    refine g_stp (st2 := [.int v9]) (pc2 := 14) (kc2 := 0) (kn2 := 0) rfl rfl rfl rfl ?_
    refine g_if_ne (tgt := 37) dX12_soonest_14 (by decide) (fun c10 => ?_) (fun c10 => ?_)
    · rw [if_neg c10] at hf
      exact g_X12_soonest_37 hf
    · rw [if_pos c10] at hf
      refine g_iload_n dX12_soonest_17 rfl ?_
      refine g_bipush (v := (10 : Int32)) dX12_soonest_18 (by decide) ?_
      refine g_iload_n dX12_soonest_20 rfl ?_
      refine g_iadd dX12_soonest_21 ?_
      refine g_bipush (v := (9 : Int32)) dX12_soonest_22 (by decide) ?_
      refine g_aload_n dX12_soonest_24 rfl ?_
      replace hf := Option.bind_eq_some_iff.mp hf
      obtain ⟨f11, q12, hf⟩ := hf
      replace hf := gB_of hf
      obtain ⟨v15, h13, q14, hf⟩ := hf
      refine g_callV (as := []) (mc1 := 0) (ms1 := 0) s_X12_48_X12_pieces_12 dX12_soonest_25 (gO_of q12) rfl (Nat.le_of_ble_eq_true rfl) (Nat.le_of_ble_eq_true rfl) (Nat.le_of_ble_eq_true rfl) (t_X12_pieces (d := d + 3) q14) (fun r9 h9 q9 => ?_)
      obtain ⟨rfl, rfl⟩ := q9
      refine g_stp (st2 := [.int v15, .int (9 : Int32), .int ((10 : Int32) + x1), .int x3]) (pc2 := 28) (kc2 := 0) (kn2 := 0) rfl rfl rfl rfl ?_
      refine g_iadd dX12_soonest_28 ?_
      replace hf := gB_of hf
      obtain ⟨v18, h16, q17, hf⟩ := hf
      refine g_callS (as := [.int x3, .int ((10 : Int32) + x1), .int ((9 : Int32) + v15)]) (mc1 := 0) (ms1 := 0) s_X12_44_X12_in dX12_soonest_29 rfl (Nat.le_of_ble_eq_true rfl) (Nat.le_of_ble_eq_true rfl) (Nat.le_of_ble_eq_true rfl) (t_X12_in (d := d + 3) q17) (fun r9 h9 q9 => ?_)
      obtain ⟨rfl, rfl⟩ := q9
      refine g_stp (st2 := [.int v18]) (pc2 := 32) (kc2 := 0) (kn2 := 0) rfl rfl rfl rfl ?_
      refine g_if_ne (tgt := 37) dX12_soonest_32 (by decide) (fun c19 => ?_) (fun c19 => ?_)
      · rw [if_neg c19] at hf
        exact g_X12_soonest_37 hf
      · rw [if_pos c19] at hf
        refine g_weak (lv2 := [none, none, none, none, none, none]) (trivial) ?_
        exact g_X12_soonest_35 hf
def F_X12_soonest (n : Nat) (a : Nat) (p0 : Int32) (p1 : Int32) (p2 : Int32) (h : gH) : Option (Int32 × gH) := F_X12_soonest_0 n  a p0 p1 p2 h
theorem t_X12_soonest {n d : Nat} {a : Nat} {p0 : Int32} {p1 : Int32} {p2 : Int32} {h rh : gH} {rv : Int32} (hf : F_X12_soonest n a p0 p1 p2 h = some (rv, rh)) : T M_X12_soonest (d + 4) 0 0 [.ref a, .int p0, .int p1, .int p2] h (qI rv rh) := by
  refine T_of_G (L := 2) (by decide +kernel) rfl (Nat.le_of_ble_eq_true rfl) (g_lv (lv2 := [some (.ref a), some (.int p0), some (.int p1), some (.int p2), none, none]) rfl ?_)
  exact g_X12_soonest_0 hf
def F_X12_sure_35 (n : Nat)   (h : gH) : Option (Int64 × gH) :=
  some ((-9223372036854775808 : Int64), h)
set_option maxRecDepth 20000 in
set_option maxHeartbeats 1600000 in
theorem g_X12_sure_35 {n d : Nat} : ∀  {h : gH} {rh : gH} {rv : Int64}, F_X12_sure_35 n  h = some (rv, rh) → G M_X12_sure (d + 18) 0 0 0 0 35 [none, none, none, none] [] h (qL rv rh) := by
  intro  h rh rv hf
  unfold F_X12_sure_35 at hf
  refine g_ldc2 (v := (-9223372036854775808 : Int64)) (gt_6 (List.mem_of_getElem? (i := 54) (by decide +kernel)) (by decide +kernel)) dX12_sure_35 ?_
  obtain ⟨rfl, rfl⟩ := Prod.mk.inj (Option.some.inj hf)
  exact g_lret dX12_sure_38 rfl ⟨rfl, rfl⟩ (Nat.le_of_ble_eq_true rfl) (Nat.le_of_ble_eq_true rfl)
def F_X12_sure_0 (n : Nat)  (x0 : Nat) (x1 : Int32) (x2 : Int32) (x3 : Int32) (h : gH) : Option (Int64 × gH) :=
  (gO h x0 12).bind fun f1 =>
  gB (F_X12_isWay n x0 x1 h) fun v5 h3 =>
  if v5 = 0 then
  (F_X12_sure_35 n h3)
  else
  (gB (F_X12_in n x2 (0 : Int32) (9999 : Int32) h3) fun v9 h7 =>
  if v9 = 0 then
  (F_X12_sure_35 n h7)
  else
  (gB (F_X12_in n x3 (0 : Int32) (1 : Int32) h7) fun v13 h11 =>
  if v13 = 0 then
  (F_X12_sure_35 n h11)
  else
  ((gO h11 x0 12).bind fun f15 =>
  gB (F_X12_pieces n x0  h11) fun v19 h17 =>
  if v19 = 0 then
  (F_X12_sure_35 n h17)
  else
  ((gO h17 x0 12).bind fun f21 =>
  (F_X12_heats n x0 x1 x2 h17).bind fun h23 =>
  (gL h23 x0 12 17).bind fun v25 =>
  (gO h23 x0 12).bind fun f27 =>
  gB (F_X12_lowest n x0 v25 x3 h23) fun v31 h29 =>
  some (v31, h29)))))
set_option maxRecDepth 20000 in
set_option maxHeartbeats 1600000 in
theorem g_X12_sure_0 {n d : Nat} : ∀ {x0 : Nat} {x1 : Int32} {x2 : Int32} {x3 : Int32} {h : gH} {rh : gH} {rv : Int64}, F_X12_sure_0 n x0 x1 x2 x3 h = some (rv, rh) → G M_X12_sure (d + 18) 0 0 0 0 0 [some (.ref x0), some (.int x1), some (.int x2), some (.int x3)] [] h (qL rv rh) := by
  intro x0 x1 x2 x3 h rh rv hf
  unfold F_X12_sure_0 at hf
  refine g_aload_n dX12_sure_0 rfl ?_
  refine g_iload_n dX12_sure_1 rfl ?_
  replace hf := Option.bind_eq_some_iff.mp hf
  obtain ⟨f1, q2, hf⟩ := hf
  replace hf := gB_of hf
  obtain ⟨v5, h3, q4, hf⟩ := hf
  refine g_callV (as := [.int x1]) (mc1 := 0) (ms1 := 0) s_X12_188_X12_isWay_12 dX12_sure_2 (gO_of q2) rfl (Nat.le_of_ble_eq_true rfl) (Nat.le_of_ble_eq_true rfl) (Nat.le_of_ble_eq_true rfl) (t_X12_isWay (d := d + 16) q4) (fun r9 h9 q9 => ?_)
  obtain ⟨rfl, rfl⟩ := q9
  refine g_stp (st2 := [.int v5]) (pc2 := 5) (kc2 := 0) (kn2 := 0) rfl rfl rfl rfl ?_
  refine g_if_eq (tgt := 35) dX12_sure_5 (by decide) (fun c6 => ?_) (fun c6 => ?_)
  · rw [if_pos c6] at hf
    refine g_weak (lv2 := [none, none, none, none]) (trivial) ?_
    exact g_X12_sure_35 hf
  · rw [if_neg c6] at hf
    refine g_iload_n dX12_sure_8 rfl ?_
    refine g_iconst (v := (0 : Int32)) dX12_sure_9 (by decide) ?_
    refine g_sipush (v := (9999 : Int32)) dX12_sure_10 (by decide) ?_
    replace hf := gB_of hf
    obtain ⟨v9, h7, q8, hf⟩ := hf
    refine g_callS (as := [.int x2, .int (0 : Int32), .int (9999 : Int32)]) (mc1 := 0) (ms1 := 0) s_X12_44_X12_in dX12_sure_13 rfl (Nat.le_of_ble_eq_true rfl) (Nat.le_of_ble_eq_true rfl) (Nat.le_of_ble_eq_true rfl) (t_X12_in (d := d + 17) q8) (fun r9 h9 q9 => ?_)
    obtain ⟨rfl, rfl⟩ := q9
    refine g_stp (st2 := [.int v9]) (pc2 := 16) (kc2 := 0) (kn2 := 0) rfl rfl rfl rfl ?_
    refine g_if_eq (tgt := 35) dX12_sure_16 (by decide) (fun c10 => ?_) (fun c10 => ?_)
    · rw [if_pos c10] at hf
      refine g_weak (lv2 := [none, none, none, none]) (trivial) ?_
      exact g_X12_sure_35 hf
    · rw [if_neg c10] at hf
      refine g_iload_n dX12_sure_19 rfl ?_
      refine g_iconst (v := (0 : Int32)) dX12_sure_20 (by decide) ?_
      refine g_iconst (v := (1 : Int32)) dX12_sure_21 (by decide) ?_
      replace hf := gB_of hf
      obtain ⟨v13, h11, q12, hf⟩ := hf
      refine g_callS (as := [.int x3, .int (0 : Int32), .int (1 : Int32)]) (mc1 := 0) (ms1 := 0) s_X12_44_X12_in dX12_sure_22 rfl (Nat.le_of_ble_eq_true rfl) (Nat.le_of_ble_eq_true rfl) (Nat.le_of_ble_eq_true rfl) (t_X12_in (d := d + 17) q12) (fun r9 h9 q9 => ?_)
      obtain ⟨rfl, rfl⟩ := q9
      refine g_stp (st2 := [.int v13]) (pc2 := 25) (kc2 := 0) (kn2 := 0) rfl rfl rfl rfl ?_
      refine g_if_eq (tgt := 35) dX12_sure_25 (by decide) (fun c14 => ?_) (fun c14 => ?_)
      · rw [if_pos c14] at hf
        refine g_weak (lv2 := [none, none, none, none]) (trivial) ?_
        exact g_X12_sure_35 hf
      · rw [if_neg c14] at hf
        refine g_aload_n dX12_sure_28 rfl ?_
        replace hf := Option.bind_eq_some_iff.mp hf
        obtain ⟨f15, q16, hf⟩ := hf
        replace hf := gB_of hf
        obtain ⟨v19, h17, q18, hf⟩ := hf
        refine g_callV (as := []) (mc1 := 0) (ms1 := 0) s_X12_48_X12_pieces_12 dX12_sure_29 (gO_of q16) rfl (Nat.le_of_ble_eq_true rfl) (Nat.le_of_ble_eq_true rfl) (Nat.le_of_ble_eq_true rfl) (t_X12_pieces (d := d + 17) q18) (fun r9 h9 q9 => ?_)
        obtain ⟨rfl, rfl⟩ := q9
        refine g_stp (st2 := [.int v19]) (pc2 := 32) (kc2 := 0) (kn2 := 0) rfl rfl rfl rfl ?_
        refine g_if_ne (tgt := 39) dX12_sure_32 (by decide) (fun c20 => ?_) (fun c20 => ?_)
        · rw [if_neg c20] at hf
          refine g_aload_n dX12_sure_39 rfl ?_
          refine g_iload_n dX12_sure_40 rfl ?_
          refine g_iload_n dX12_sure_41 rfl ?_
          replace hf := Option.bind_eq_some_iff.mp hf
          obtain ⟨f21, q22, hf⟩ := hf
          replace hf := Option.bind_eq_some_iff.mp hf
          obtain ⟨h23, q24, hf⟩ := hf
          refine g_callV (as := [.int x1, .int x2]) (mc1 := 0) (ms1 := 0) s_X12_230_X12_heats_12 dX12_sure_42 (gO_of q22) rfl (Nat.le_of_ble_eq_true rfl) (Nat.le_of_ble_eq_true rfl) (Nat.le_of_ble_eq_true rfl) (t_X12_heats (d := d + 0) q24) (fun r9 h9 q9 => ?_)
          obtain ⟨rfl, rfl⟩ := q9
          refine g_stp (st2 := []) (pc2 := 45) (kc2 := 0) (kn2 := 0) rfl rfl rfl rfl ?_
          refine g_aload_n dX12_sure_45 rfl ?_
          refine g_aload_n dX12_sure_46 rfl ?_
          replace hf := Option.bind_eq_some_iff.mp hf
          obtain ⟨v25, q26, hf⟩ := hf
          refine g_gL f_X12_215 dX12_sure_47 q26 ?_
          refine g_iload_n dX12_sure_50 rfl ?_
          replace hf := Option.bind_eq_some_iff.mp hf
          obtain ⟨f27, q28, hf⟩ := hf
          replace hf := gB_of hf
          obtain ⟨v31, h29, q30, hf⟩ := hf
          refine g_callV (as := [.long v25, .int x3]) (mc1 := 0) (ms1 := 0) s_X12_234_X12_lowest_12 dX12_sure_51 (gO_of q28) rfl (Nat.le_of_ble_eq_true rfl) (Nat.le_of_ble_eq_true rfl) (Nat.le_of_ble_eq_true rfl) (t_X12_lowest (d := d + 16) q30) (fun r9 h9 q9 => ?_)
          obtain ⟨rfl, rfl⟩ := q9
          refine g_stp (st2 := [.long v31]) (pc2 := 54) (kc2 := 0) (kn2 := 0) rfl rfl rfl rfl ?_
          obtain ⟨rfl, rfl⟩ := Prod.mk.inj (Option.some.inj hf)
          exact g_lret dX12_sure_54 rfl ⟨rfl, rfl⟩ (Nat.le_of_ble_eq_true rfl) (Nat.le_of_ble_eq_true rfl)
        · rw [if_pos c20] at hf
          refine g_weak (lv2 := [none, none, none, none]) (trivial) ?_
          exact g_X12_sure_35 hf
def F_X12_sure (n : Nat) (a : Nat) (p0 : Int32) (p1 : Int32) (p2 : Int32) (h : gH) : Option (Int64 × gH) := F_X12_sure_0 n  a p0 p1 p2 h
theorem t_X12_sure {n d : Nat} {a : Nat} {p0 : Int32} {p1 : Int32} {p2 : Int32} {h rh : gH} {rv : Int64} (hf : F_X12_sure n a p0 p1 p2 h = some (rv, rh)) : T M_X12_sure (d + 18) 0 0 [.ref a, .int p0, .int p1, .int p2] h (qL rv rh) := by
  refine T_of_G (L := 0) (by decide +kernel) rfl (Nat.le_of_ble_eq_true rfl) (g_lv (lv2 := [some (.ref a), some (.int p0), some (.int p1), some (.int p2)]) rfl ?_)
  exact g_X12_sure_0 hf
def F_X12_takes_16 (n : Nat)   (h : gH) : Option (Int32 × gH) :=
  some ((-1 : Int32), h)
set_option maxRecDepth 20000 in
set_option maxHeartbeats 1600000 in
theorem g_X12_takes_16 {n d : Nat} : ∀  {h : gH} {rh : gH} {rv : Int32}, F_X12_takes_16 n  h = some (rv, rh) → G M_X12_takes (d + 5) 0 0 0 0 16 [none, none, none, none] [] h (qI rv rh) := by
  intro  h rh rv hf
  unfold F_X12_takes_16 at hf
  refine g_iconst (v := (-1 : Int32)) dX12_takes_16 (by decide) ?_
  obtain ⟨rfl, rfl⟩ := Prod.mk.inj (Option.some.inj hf)
  exact g_iret dX12_takes_17 rfl ⟨rfl, rfl⟩ (Nat.le_of_ble_eq_true rfl) (Nat.le_of_ble_eq_true rfl)
def F_X12_takes_0 (n : Nat)  (x0 : Nat) (x1 : Int32) (x2 : Int32) (x3 : Int32) (h : gH) : Option (Int32 × gH) :=
  (gO h x0 12).bind fun f1 =>
  gB (F_X12_isWay n x0 x1 h) fun v5 h3 =>
  if v5 = 0 then
  (F_X12_takes_16 n h3)
  else
  ((gO h3 x0 12).bind fun f7 =>
  gB (F_X12_isPiece n x0 x2 h3) fun v11 h9 =>
  if v11 = 0 then
  (F_X12_takes_16 n h9)
  else
  ((gO h9 x0 12).bind fun f13 =>
  gB (F_X12_isStore n x0 x3 h9) fun v17 h15 =>
  if v17 = 0 then
  (some ((-2 : Int32), h15))
  else
  ((gO h15 x0 12).bind fun f19 =>
  (F_X12_looks n x0 (1023 : Int32) h15).bind fun h21 =>
  (gO h21 x0 12).bind fun f23 =>
  gB (F_X12_takesOf n x0 x1 x2 x3 h21) fun v27 h25 =>
  some (v27, h25))))
set_option maxRecDepth 20000 in
set_option maxHeartbeats 1600000 in
theorem g_X12_takes_0 {n d : Nat} : ∀ {x0 : Nat} {x1 : Int32} {x2 : Int32} {x3 : Int32} {h : gH} {rh : gH} {rv : Int32}, F_X12_takes_0 n x0 x1 x2 x3 h = some (rv, rh) → G M_X12_takes (d + 5) 0 0 0 0 0 [some (.ref x0), some (.int x1), some (.int x2), some (.int x3)] [] h (qI rv rh) := by
  intro x0 x1 x2 x3 h rh rv hf
  unfold F_X12_takes_0 at hf
  refine g_aload_n dX12_takes_0 rfl ?_
  refine g_iload_n dX12_takes_1 rfl ?_
  replace hf := Option.bind_eq_some_iff.mp hf
  obtain ⟨f1, q2, hf⟩ := hf
  replace hf := gB_of hf
  obtain ⟨v5, h3, q4, hf⟩ := hf
  refine g_callV (as := [.int x1]) (mc1 := 0) (ms1 := 0) s_X12_188_X12_isWay_12 dX12_takes_2 (gO_of q2) rfl (Nat.le_of_ble_eq_true rfl) (Nat.le_of_ble_eq_true rfl) (Nat.le_of_ble_eq_true rfl) (t_X12_isWay (d := d + 3) q4) (fun r9 h9 q9 => ?_)
  obtain ⟨rfl, rfl⟩ := q9
  refine g_stp (st2 := [.int v5]) (pc2 := 5) (kc2 := 0) (kn2 := 0) rfl rfl rfl rfl ?_
  refine g_if_eq (tgt := 16) dX12_takes_5 (by decide) (fun c6 => ?_) (fun c6 => ?_)
  · rw [if_pos c6] at hf
    refine g_weak (lv2 := [none, none, none, none]) (trivial) ?_
    exact g_X12_takes_16 hf
  · rw [if_neg c6] at hf
    refine g_aload_n dX12_takes_8 rfl ?_
    refine g_iload_n dX12_takes_9 rfl ?_
    replace hf := Option.bind_eq_some_iff.mp hf
    obtain ⟨f7, q8, hf⟩ := hf
    replace hf := gB_of hf
    obtain ⟨v11, h9, q10, hf⟩ := hf
    refine g_callV (as := [.int x2]) (mc1 := 0) (ms1 := 0) s_X12_151_X12_isPiece_12 dX12_takes_10 (gO_of q8) rfl (Nat.le_of_ble_eq_true rfl) (Nat.le_of_ble_eq_true rfl) (Nat.le_of_ble_eq_true rfl) (t_X12_isPiece (d := d + 3) q10) (fun r9 h9 q9 => ?_)
    obtain ⟨rfl, rfl⟩ := q9
    refine g_stp (st2 := [.int v11]) (pc2 := 13) (kc2 := 0) (kn2 := 0) rfl rfl rfl rfl ?_
    refine g_if_ne (tgt := 18) dX12_takes_13 (by decide) (fun c12 => ?_) (fun c12 => ?_)
    · rw [if_neg c12] at hf
      refine g_aload_n dX12_takes_18 rfl ?_
      refine g_iload_n dX12_takes_19 rfl ?_
      replace hf := Option.bind_eq_some_iff.mp hf
      obtain ⟨f13, q14, hf⟩ := hf
      replace hf := gB_of hf
      obtain ⟨v17, h15, q16, hf⟩ := hf
      refine g_callV (as := [.int x3]) (mc1 := 0) (ms1 := 0) s_X12_176_X12_isStore_12 dX12_takes_20 (gO_of q14) rfl (Nat.le_of_ble_eq_true rfl) (Nat.le_of_ble_eq_true rfl) (Nat.le_of_ble_eq_true rfl) (t_X12_isStore (d := d + 2) q16) (fun r9 h9 q9 => ?_)
      obtain ⟨rfl, rfl⟩ := q9
      refine g_stp (st2 := [.int v17]) (pc2 := 23) (kc2 := 0) (kn2 := 0) rfl rfl rfl rfl ?_
      refine g_if_ne (tgt := 29) dX12_takes_23 (by decide) (fun c18 => ?_) (fun c18 => ?_)
      · rw [if_neg c18] at hf
        refine g_aload_n dX12_takes_29 rfl ?_
        refine g_sipush (v := (1023 : Int32)) dX12_takes_30 (by decide) ?_
        replace hf := Option.bind_eq_some_iff.mp hf
        obtain ⟨f19, q20, hf⟩ := hf
        replace hf := Option.bind_eq_some_iff.mp hf
        obtain ⟨h21, q22, hf⟩ := hf
        refine g_callV (as := [.int (1023 : Int32)]) (mc1 := 0) (ms1 := 0) s_X12_185_X12_looks_12 dX12_takes_33 (gO_of q20) rfl (Nat.le_of_ble_eq_true rfl) (Nat.le_of_ble_eq_true rfl) (Nat.le_of_ble_eq_true rfl) (t_X12_looks (d := d + 1) q22) (fun r9 h9 q9 => ?_)
        obtain ⟨rfl, rfl⟩ := q9
        refine g_stp (st2 := []) (pc2 := 36) (kc2 := 0) (kn2 := 0) rfl rfl rfl rfl ?_
        refine g_aload_n dX12_takes_36 rfl ?_
        refine g_iload_n dX12_takes_37 rfl ?_
        refine g_iload_n dX12_takes_38 rfl ?_
        refine g_iload_n dX12_takes_39 rfl ?_
        replace hf := Option.bind_eq_some_iff.mp hf
        obtain ⟨f23, q24, hf⟩ := hf
        replace hf := gB_of hf
        obtain ⟨v27, h25, q26, hf⟩ := hf
        refine g_callV (as := [.int x1, .int x2, .int x3]) (mc1 := 0) (ms1 := 0) s_X12_197_X12_takesOf_12 dX12_takes_40 (gO_of q24) rfl (Nat.le_of_ble_eq_true rfl) (Nat.le_of_ble_eq_true rfl) (Nat.le_of_ble_eq_true rfl) (t_X12_takesOf (d := d + 0) q26) (fun r9 h9 q9 => ?_)
        obtain ⟨rfl, rfl⟩ := q9
        refine g_stp (st2 := [.int v27]) (pc2 := 43) (kc2 := 0) (kn2 := 0) rfl rfl rfl rfl ?_
        obtain ⟨rfl, rfl⟩ := Prod.mk.inj (Option.some.inj hf)
        exact g_iret dX12_takes_43 rfl ⟨rfl, rfl⟩ (Nat.le_of_ble_eq_true rfl) (Nat.le_of_ble_eq_true rfl)
      · rw [if_pos c18] at hf
        refine g_bipush (v := (-2 : Int32)) dX12_takes_26 (by decide) ?_
        obtain ⟨rfl, rfl⟩ := Prod.mk.inj (Option.some.inj hf)
        exact g_iret dX12_takes_28 rfl ⟨rfl, rfl⟩ (Nat.le_of_ble_eq_true rfl) (Nat.le_of_ble_eq_true rfl)
    · rw [if_pos c12] at hf
      refine g_weak (lv2 := [none, none, none, none]) (trivial) ?_
      exact g_X12_takes_16 hf
def F_X12_takes (n : Nat) (a : Nat) (p0 : Int32) (p1 : Int32) (p2 : Int32) (h : gH) : Option (Int32 × gH) := F_X12_takes_0 n  a p0 p1 p2 h
theorem t_X12_takes {n d : Nat} {a : Nat} {p0 : Int32} {p1 : Int32} {p2 : Int32} {h rh : gH} {rv : Int32} (hf : F_X12_takes n a p0 p1 p2 h = some (rv, rh)) : T M_X12_takes (d + 5) 0 0 [.ref a, .int p0, .int p1, .int p2] h (qI rv rh) := by
  refine T_of_G (L := 0) (by decide +kernel) rfl (Nat.le_of_ble_eq_true rfl) (g_lv (lv2 := [some (.ref a), some (.int p0), some (.int p1), some (.int p2)]) rfl ?_)
  exact g_X12_takes_0 hf
def F_X12_told_0 (n : Nat)  (x0 : Nat) (x1 : Int32) (h : gH) : Option (Int32 × gH) :=
  if x1 = (0 : Int32) then
  ((gO h x0 12).bind fun f2 =>
  gB (F_X12_pieces n x0  h) fun v6 h4 =>
  some (v6, h4))
  else if x1 = (1 : Int32) then
  ((gO h x0 12).bind fun f8 =>
  gB (F_X12_bar n x0  h) fun v12 h10 =>
  some (v12, h10))
  else if x1 = (2 : Int32) then
  ((gO h x0 12).bind fun f14 =>
  gB (F_X12_most n x0  h) fun v18 h16 =>
  some (v18, h16))
  else if x1 = (3 : Int32) then
  ((gO h x0 12).bind fun f20 =>
  gB (F_X12_tellsOf n x0 (233 : Int32) (5 : Int32) h) fun v24 h22 =>
  some (v24, h22))
  else if x1 = (4 : Int32) then
  ((gO h x0 12).bind fun f26 =>
  gB (F_X12_tellsOf n x0 (238 : Int32) (0 : Int32) h) fun v30 h28 =>
  some (v30, h28))
  else (some ((-1 : Int32), h))
set_option maxRecDepth 20000 in
set_option maxHeartbeats 1600000 in
theorem g_X12_told_0 {n d : Nat} : ∀ {x0 : Nat} {x1 : Int32} {h : gH} {rh : gH} {rv : Int32}, F_X12_told_0 n x0 x1 h = some (rv, rh) → G M_X12_told (d + 2) 0 0 0 0 0 [some (.ref x0), some (.int x1)] [] h (qI rv rh) := by
  intro x0 x1 h rh rv hf
  unfold F_X12_told_0 at hf
  refine g_iload_n dX12_told_0 rfl ?_
  by_cases c1 : x1 = (0 : Int32)
  · rw [if_pos c1] at hf
    refine g_tswK (k := (0 : Int32)) (off := 35) (tgt := 36) dX12_told_1 c1 (by decide) (by decide) (by decide) (by decide) ?_
    refine g_aload_n dX12_told_36 rfl ?_
    replace hf := Option.bind_eq_some_iff.mp hf
    obtain ⟨f2, q3, hf⟩ := hf
    replace hf := gB_of hf
    obtain ⟨v6, h4, q5, hf⟩ := hf
    refine g_callV (as := []) (mc1 := 0) (ms1 := 0) s_X12_48_X12_pieces_12 dX12_told_37 (gO_of q3) rfl (Nat.le_of_ble_eq_true rfl) (Nat.le_of_ble_eq_true rfl) (Nat.le_of_ble_eq_true rfl) (t_X12_pieces (d := d + 1) q5) (fun r9 h9 q9 => ?_)
    obtain ⟨rfl, rfl⟩ := q9
    refine g_stp (st2 := [.int v6]) (pc2 := 40) (kc2 := 0) (kn2 := 0) rfl rfl rfl rfl ?_
    obtain ⟨rfl, rfl⟩ := Prod.mk.inj (Option.some.inj hf)
    exact g_iret dX12_told_40 rfl ⟨rfl, rfl⟩ (Nat.le_of_ble_eq_true rfl) (Nat.le_of_ble_eq_true rfl)
  rw [if_neg c1] at hf
  by_cases c7 : x1 = (1 : Int32)
  · rw [if_pos c7] at hf
    refine g_tswK (k := (1 : Int32)) (off := 40) (tgt := 41) dX12_told_1 c7 (by decide) (by decide) (by decide) (by decide) ?_
    refine g_aload_n dX12_told_41 rfl ?_
    replace hf := Option.bind_eq_some_iff.mp hf
    obtain ⟨f8, q9, hf⟩ := hf
    replace hf := gB_of hf
    obtain ⟨v12, h10, q11, hf⟩ := hf
    refine g_callV (as := []) (mc1 := 0) (ms1 := 0) s_X12_166_X12_bar_12 dX12_told_42 (gO_of q9) rfl (Nat.le_of_ble_eq_true rfl) (Nat.le_of_ble_eq_true rfl) (Nat.le_of_ble_eq_true rfl) (t_X12_bar (d := d + 0) q11) (fun r9 h9 q9 => ?_)
    obtain ⟨rfl, rfl⟩ := q9
    refine g_stp (st2 := [.int v12]) (pc2 := 45) (kc2 := 0) (kn2 := 0) rfl rfl rfl rfl ?_
    obtain ⟨rfl, rfl⟩ := Prod.mk.inj (Option.some.inj hf)
    exact g_iret dX12_told_45 rfl ⟨rfl, rfl⟩ (Nat.le_of_ble_eq_true rfl) (Nat.le_of_ble_eq_true rfl)
  rw [if_neg c7] at hf
  by_cases c13 : x1 = (2 : Int32)
  · rw [if_pos c13] at hf
    refine g_tswK (k := (2 : Int32)) (off := 45) (tgt := 46) dX12_told_1 c13 (by decide) (by decide) (by decide) (by decide) ?_
    refine g_aload_n dX12_told_46 rfl ?_
    replace hf := Option.bind_eq_some_iff.mp hf
    obtain ⟨f14, q15, hf⟩ := hf
    replace hf := gB_of hf
    obtain ⟨v18, h16, q17, hf⟩ := hf
    refine g_callV (as := []) (mc1 := 0) (ms1 := 0) s_X12_56_X12_most_12 dX12_told_47 (gO_of q15) rfl (Nat.le_of_ble_eq_true rfl) (Nat.le_of_ble_eq_true rfl) (Nat.le_of_ble_eq_true rfl) (t_X12_most (d := d + 0) q17) (fun r9 h9 q9 => ?_)
    obtain ⟨rfl, rfl⟩ := q9
    refine g_stp (st2 := [.int v18]) (pc2 := 50) (kc2 := 0) (kn2 := 0) rfl rfl rfl rfl ?_
    obtain ⟨rfl, rfl⟩ := Prod.mk.inj (Option.some.inj hf)
    exact g_iret dX12_told_50 rfl ⟨rfl, rfl⟩ (Nat.le_of_ble_eq_true rfl) (Nat.le_of_ble_eq_true rfl)
  rw [if_neg c13] at hf
  by_cases c19 : x1 = (3 : Int32)
  · rw [if_pos c19] at hf
    refine g_tswK (k := (3 : Int32)) (off := 50) (tgt := 51) dX12_told_1 c19 (by decide) (by decide) (by decide) (by decide) ?_
    refine g_aload_n dX12_told_51 rfl ?_
    refine g_sipush (v := (233 : Int32)) dX12_told_52 (by decide) ?_
    refine g_iconst (v := (5 : Int32)) dX12_told_55 (by decide) ?_
    replace hf := Option.bind_eq_some_iff.mp hf
    obtain ⟨f20, q21, hf⟩ := hf
    replace hf := gB_of hf
    obtain ⟨v24, h22, q23, hf⟩ := hf
    refine g_callV (as := [.int (233 : Int32), .int (5 : Int32)]) (mc1 := 0) (ms1 := 0) s_X12_52_X12_tellsOf_12 dX12_told_56 (gO_of q21) rfl (Nat.le_of_ble_eq_true rfl) (Nat.le_of_ble_eq_true rfl) (Nat.le_of_ble_eq_true rfl) (t_X12_tellsOf (d := d + 1) q23) (fun r9 h9 q9 => ?_)
    obtain ⟨rfl, rfl⟩ := q9
    refine g_stp (st2 := [.int v24]) (pc2 := 59) (kc2 := 0) (kn2 := 0) rfl rfl rfl rfl ?_
    obtain ⟨rfl, rfl⟩ := Prod.mk.inj (Option.some.inj hf)
    exact g_iret dX12_told_59 rfl ⟨rfl, rfl⟩ (Nat.le_of_ble_eq_true rfl) (Nat.le_of_ble_eq_true rfl)
  rw [if_neg c19] at hf
  by_cases c25 : x1 = (4 : Int32)
  · rw [if_pos c25] at hf
    refine g_tswK (k := (4 : Int32)) (off := 59) (tgt := 60) dX12_told_1 c25 (by decide) (by decide) (by decide) (by decide) ?_
    refine g_aload_n dX12_told_60 rfl ?_
    refine g_sipush (v := (238 : Int32)) dX12_told_61 (by decide) ?_
    refine g_iconst (v := (0 : Int32)) dX12_told_64 (by decide) ?_
    replace hf := Option.bind_eq_some_iff.mp hf
    obtain ⟨f26, q27, hf⟩ := hf
    replace hf := gB_of hf
    obtain ⟨v30, h28, q29, hf⟩ := hf
    refine g_callV (as := [.int (238 : Int32), .int (0 : Int32)]) (mc1 := 0) (ms1 := 0) s_X12_52_X12_tellsOf_12 dX12_told_65 (gO_of q27) rfl (Nat.le_of_ble_eq_true rfl) (Nat.le_of_ble_eq_true rfl) (Nat.le_of_ble_eq_true rfl) (t_X12_tellsOf (d := d + 1) q29) (fun r9 h9 q9 => ?_)
    obtain ⟨rfl, rfl⟩ := q9
    refine g_stp (st2 := [.int v30]) (pc2 := 68) (kc2 := 0) (kn2 := 0) rfl rfl rfl rfl ?_
    obtain ⟨rfl, rfl⟩ := Prod.mk.inj (Option.some.inj hf)
    exact g_iret dX12_told_68 rfl ⟨rfl, rfl⟩ (Nat.le_of_ble_eq_true rfl) (Nat.le_of_ble_eq_true rfl)
  rw [if_neg c25] at hf
  have zc1 : (x1).toInt ≠ 0 := fun e => c1 (Int32.toInt_inj.mp (e.trans (by decide)))
  have zc7 : (x1).toInt ≠ 1 := fun e => c7 (Int32.toInt_inj.mp (e.trans (by decide)))
  have zc13 : (x1).toInt ≠ 2 := fun e => c13 (Int32.toInt_inj.mp (e.trans (by decide)))
  have zc19 : (x1).toInt ≠ 3 := fun e => c19 (Int32.toInt_inj.mp (e.trans (by decide)))
  have zc25 : (x1).toInt ≠ 4 := fun e => c25 (Int32.toInt_inj.mp (e.trans (by decide)))
  refine g_tableOut (tgt := 69) dX12_told_1 (by omega) (by decide) ?_
  refine g_iconst (v := (-1 : Int32)) dX12_told_69 (by decide) ?_
  obtain ⟨rfl, rfl⟩ := Prod.mk.inj (Option.some.inj hf)
  exact g_iret dX12_told_70 rfl ⟨rfl, rfl⟩ (Nat.le_of_ble_eq_true rfl) (Nat.le_of_ble_eq_true rfl)
def F_X12_told (n : Nat) (a : Nat) (p0 : Int32) (h : gH) : Option (Int32 × gH) := F_X12_told_0 n  a p0 h
theorem t_X12_told {n d : Nat} {a : Nat} {p0 : Int32} {h rh : gH} {rv : Int32} (hf : F_X12_told n a p0 h = some (rv, rh)) : T M_X12_told (d + 2) 0 0 [.ref a, .int p0] h (qI rv rh) := by
  refine T_of_G (L := 0) (by decide +kernel) rfl (Nat.le_of_ble_eq_true rfl) (g_lv (lv2 := [some (.ref a), some (.int p0)]) rfl ?_)
  exact g_X12_told_0 hf
def F_X12_trace_38 (n : Nat)  (y0 : Int32) (h : gH) : Option (Int32 × gH) :=
  some (y0, h)
set_option maxRecDepth 20000 in
set_option maxHeartbeats 1600000 in
theorem g_X12_trace_38 {n d : Nat} : ∀ {y0 : Int32} {h : gH} {rh : gH} {rv : Int32}, F_X12_trace_38 n y0 h = some (rv, rh) → G M_X12_trace (d + 1) 0 0 0 0 38 [none, none] [.int y0] h (qI rv rh) := by
  intro y0 h rh rv hf
  unfold F_X12_trace_38 at hf
  obtain ⟨rfl, rfl⟩ := Prod.mk.inj (Option.some.inj hf)
  exact g_iret dX12_trace_38 rfl ⟨rfl, rfl⟩ (Nat.le_of_ble_eq_true rfl) (Nat.le_of_ble_eq_true rfl)
def F_X12_trace_20 (n : Nat)  (x0 : Nat) (x1 : Int32) (y0 : Int32) (y1 : Int32) (y2 : Int32) (h : gH) : Option (Int32 × gH) :=
  gB (F_X12_in n y0 y1 (y2 - (1 : Int32)) h) fun v3 h1 =>
  if v3 = 0 then
  (F_X12_trace_38 n (-1 : Int32) h1)
  else
  ((gR h1 x0 12 18).bind fun v5 =>
  (aI h1 v5 x1).bind fun v7 =>
  F_X12_trace_38 n v7 h1)
set_option maxRecDepth 20000 in
set_option maxHeartbeats 1600000 in
theorem g_X12_trace_20 {n d : Nat} : ∀ {x0 : Nat} {x1 : Int32} {y0 : Int32} {y1 : Int32} {y2 : Int32} {h : gH} {rh : gH} {rv : Int32}, F_X12_trace_20 n x0 x1 y0 y1 y2 h = some (rv, rh) → G M_X12_trace (d + 1) 0 0 0 0 20 [some (.ref x0), some (.int x1)] [.int y2, .int y1, .int y0] h (qI rv rh) := by
  intro x0 x1 y0 y1 y2 h rh rv hf
  unfold F_X12_trace_20 at hf
  refine g_iconst (v := (1 : Int32)) dX12_trace_20 (by decide) ?_
  refine g_isub dX12_trace_21 ?_
  replace hf := gB_of hf
  obtain ⟨v3, h1, q2, hf⟩ := hf
  refine g_callS (as := [.int y0, .int y1, .int (y2 - (1 : Int32))]) (mc1 := 0) (ms1 := 0) s_X12_44_X12_in dX12_trace_22 rfl (Nat.le_of_ble_eq_true rfl) (Nat.le_of_ble_eq_true rfl) (Nat.le_of_ble_eq_true rfl) (t_X12_in (d := d + 0) q2) (fun r9 h9 q9 => ?_)
  obtain ⟨rfl, rfl⟩ := q9
  refine g_stp (st2 := [.int v3]) (pc2 := 25) (kc2 := 0) (kn2 := 0) rfl rfl rfl rfl ?_
  refine g_if_eq (tgt := 37) dX12_trace_25 (by decide) (fun c4 => ?_) (fun c4 => ?_)
  · rw [if_pos c4] at hf
    refine g_iconst (v := (-1 : Int32)) dX12_trace_37 (by decide) ?_
    refine g_weak (lv2 := [none, none]) (trivial) ?_
    exact g_X12_trace_38 hf
  · rw [if_neg c4] at hf
    refine g_aload_n dX12_trace_28 rfl ?_
    replace hf := Option.bind_eq_some_iff.mp hf
    obtain ⟨v5, q6, hf⟩ := hf
    refine g_gR f_X12_37 dX12_trace_29 q6 ?_
    refine g_iload_n dX12_trace_32 rfl ?_
    replace hf := Option.bind_eq_some_iff.mp hf
    obtain ⟨v7, q8, hf⟩ := hf
    refine g_aI dX12_trace_33 q8 ?_
    refine g_goto (tgt := 38) dX12_trace_34 (by decide) ?_
    refine g_weak (lv2 := [none, none]) (trivial) ?_
    exact g_X12_trace_38 hf
def F_X12_trace_0 (n : Nat)  (x0 : Nat) (x1 : Int32) (h : gH) : Option (Int32 × gH) :=
  (gI h x0 12 19).bind fun v1 =>
  if (20 : Int32) ≤ v1 then
  (F_X12_trace_20 n x0 x1 x1 (0 : Int32) (20 : Int32) h)
  else
  ((gI h x0 12 19).bind fun v4 =>
  F_X12_trace_20 n x0 x1 x1 (0 : Int32) v4 h)
set_option maxRecDepth 20000 in
set_option maxHeartbeats 1600000 in
theorem g_X12_trace_0 {n d : Nat} : ∀ {x0 : Nat} {x1 : Int32} {h : gH} {rh : gH} {rv : Int32}, F_X12_trace_0 n x0 x1 h = some (rv, rh) → G M_X12_trace (d + 1) 0 0 0 0 0 [some (.ref x0), some (.int x1)] [] h (qI rv rh) := by
  intro x0 x1 h rh rv hf
  unfold F_X12_trace_0 at hf
  refine g_iload_n dX12_trace_0 rfl ?_
  refine g_iconst (v := (0 : Int32)) dX12_trace_1 (by decide) ?_
  refine g_aload_n dX12_trace_2 rfl ?_
  replace hf := Option.bind_eq_some_iff.mp hf
  obtain ⟨v1, q2, hf⟩ := hf
  refine g_gI f_X12_244 dX12_trace_3 q2 ?_
  refine g_bipush (v := (20 : Int32)) dX12_trace_6 (by decide) ?_
  refine g_icmp_ge (tgt := 18) dX12_trace_8 (by decide) (fun c3 => ?_) (fun c3 => ?_)
  · rw [if_pos c3] at hf
    refine g_bipush (v := (20 : Int32)) dX12_trace_18 (by decide) ?_
    exact g_X12_trace_20 hf
  · rw [if_neg c3] at hf
    refine g_aload_n dX12_trace_11 rfl ?_
    replace hf := Option.bind_eq_some_iff.mp hf
    obtain ⟨v4, q5, hf⟩ := hf
    refine g_gI f_X12_244 dX12_trace_12 q5 ?_
    refine g_goto (tgt := 20) dX12_trace_15 (by decide) ?_
    exact g_X12_trace_20 hf
def F_X12_trace (n : Nat) (a : Nat) (p0 : Int32) (h : gH) : Option (Int32 × gH) := F_X12_trace_0 n  a p0 h
theorem t_X12_trace {n d : Nat} {a : Nat} {p0 : Int32} {h rh : gH} {rv : Int32} (hf : F_X12_trace n a p0 h = some (rv, rh)) : T M_X12_trace (d + 1) 0 0 [.ref a, .int p0] h (qI rv rh) := by
  refine T_of_G (L := 0) (by decide +kernel) rfl (Nat.le_of_ble_eq_true rfl) (g_lv (lv2 := [some (.ref a), some (.int p0)]) rfl ?_)
  exact g_X12_trace_0 hf
def F_X12_undo_12 (n : Nat)  : Nat → Nat → Int32 → gH → Option (Int32 × gH)
  | 0, _, _, _ => none
  | m + 1, x0, x1, h => if (1118 : Int32) ≤ x1 then
  ((gR h x0 12 1).bind fun v2 =>
  (aI h v2 (0 : Int32)).bind fun v4 =>
  some (v4, h))
  else
  ((gR h x0 12 1).bind fun v6 =>
  (gR h x0 12 2).bind fun v8 =>
  (aI h v8 x1).bind fun v10 =>
  (sI h v6 x1 v10).bind fun h12 =>
  F_X12_undo_12 n m x0 (x1 + (1 : Int32)) h12)
set_option maxRecDepth 20000 in
set_option maxHeartbeats 1600000 in
theorem g_X12_undo_12 {n d : Nat} : ∀ {m : Nat} {x0 : Nat} {x1 : Int32} {h : gH} {rh : gH} {rv : Int32}, F_X12_undo_12 n m x0 x1 h = some (rv, rh) → G M_X12_undo d 0 0 0 0 12 [some (.ref x0), some (.int x1)] [] h (qI rv rh) := by
  intro m
  induction m with
  | zero => intro x0 x1 h rh rv hf; cases hf
  | succ m t12 =>
    intro x0 x1 h rh rv hf
    unfold F_X12_undo_12 at hf
    refine g_iload_n dX12_undo_12 rfl ?_
    refine g_sipush (v := (1118 : Int32)) dX12_undo_13 (by decide) ?_
    refine g_icmp_ge (tgt := 37) dX12_undo_16 (by decide) (fun c1 => ?_) (fun c1 => ?_)
    · rw [if_pos c1] at hf
      refine g_aload_n dX12_undo_37 rfl ?_
      replace hf := Option.bind_eq_some_iff.mp hf
      obtain ⟨v2, q3, hf⟩ := hf
      refine g_gR f_X12_9 dX12_undo_38 q3 ?_
      refine g_iconst (v := (0 : Int32)) dX12_undo_41 (by decide) ?_
      replace hf := Option.bind_eq_some_iff.mp hf
      obtain ⟨v4, q5, hf⟩ := hf
      refine g_aI dX12_undo_42 q5 ?_
      obtain ⟨rfl, rfl⟩ := Prod.mk.inj (Option.some.inj hf)
      exact g_iret dX12_undo_43 rfl ⟨rfl, rfl⟩ (Nat.le_of_ble_eq_true rfl) (Nat.le_of_ble_eq_true rfl)
    · rw [if_neg c1] at hf
      refine g_aload_n dX12_undo_19 rfl ?_
      replace hf := Option.bind_eq_some_iff.mp hf
      obtain ⟨v6, q7, hf⟩ := hf
      refine g_gR f_X12_9 dX12_undo_20 q7 ?_
      refine g_iload_n dX12_undo_23 rfl ?_
      refine g_aload_n dX12_undo_24 rfl ?_
      replace hf := Option.bind_eq_some_iff.mp hf
      obtain ⟨v8, q9, hf⟩ := hf
      refine g_gR f_X12_15 dX12_undo_25 q9 ?_
      refine g_iload_n dX12_undo_28 rfl ?_
      replace hf := Option.bind_eq_some_iff.mp hf
      obtain ⟨v10, q11, hf⟩ := hf
      refine g_aI dX12_undo_29 q11 ?_
      replace hf := Option.bind_eq_some_iff.mp hf
      obtain ⟨h12, q13, hf⟩ := hf
      refine g_sI dX12_undo_30 q13 ?_
      refine g_iinc2 (w := (1 : Int32)) dX12_undo_31 (by decide) rfl (by decide) (g_lvp (lv2 := [some (.ref x0), some (.int (x1 + (1 : Int32)))]) (pc2 := 34) rfl rfl ?_)
      refine g_goto (tgt := 12) dX12_undo_34 (by decide) ?_
      exact t12 hf
def F_X12_undo_0 (n : Nat)  (x0 : Nat) (h : gH) : Option (Int32 × gH) :=
  (gI h x0 12 3).bind fun v1 =>
  if v1 = 0 then
  (some ((-3 : Int32), h))
  else
  (F_X12_undo_12 n n x0 (0 : Int32) h)
set_option maxRecDepth 20000 in
set_option maxHeartbeats 1600000 in
theorem g_X12_undo_0 {n d : Nat} : ∀ {x0 : Nat} {h : gH} {rh : gH} {rv : Int32}, F_X12_undo_0 n x0 h = some (rv, rh) → G M_X12_undo d 0 0 0 0 0 [some (.ref x0), none] [] h (qI rv rh) := by
  intro x0 h rh rv hf
  unfold F_X12_undo_0 at hf
  refine g_aload_n dX12_undo_0 rfl ?_
  replace hf := Option.bind_eq_some_iff.mp hf
  obtain ⟨v1, q2, hf⟩ := hf
  refine g_gI f_X12_287 dX12_undo_1 q2 ?_
  refine g_if_ne (tgt := 10) dX12_undo_4 (by decide) (fun c3 => ?_) (fun c3 => ?_)
  · rw [if_neg c3] at hf
    refine g_iconst (v := (0 : Int32)) dX12_undo_10 (by decide) ?_
    refine g_istore_n dX12_undo_11 (by decide) (g_lvp (lv2 := [some (.ref x0), some (.int (0 : Int32))]) (pc2 := 12) rfl rfl ?_)
    exact g_X12_undo_12 hf
  · rw [if_pos c3] at hf
    refine g_bipush (v := (-3 : Int32)) dX12_undo_7 (by decide) ?_
    obtain ⟨rfl, rfl⟩ := Prod.mk.inj (Option.some.inj hf)
    exact g_iret dX12_undo_9 rfl ⟨rfl, rfl⟩ (Nat.le_of_ble_eq_true rfl) (Nat.le_of_ble_eq_true rfl)
def F_X12_undo (n : Nat) (a : Nat) (h : gH) : Option (Int32 × gH) := F_X12_undo_0 n  a h
theorem t_X12_undo {n d : Nat} {a : Nat} {h rh : gH} {rv : Int32} (hf : F_X12_undo n a h = some (rv, rh)) : T M_X12_undo d 0 0 [.ref a] h (qI rv rh) := by
  refine T_of_G (L := 1) (by decide +kernel) rfl (Nat.le_of_ble_eq_true rfl) (g_lv (lv2 := [some (.ref a), none]) rfl ?_)
  exact g_X12_undo_0 hf
def F_X12_way_71 (n : Nat)  : Nat → Nat → Int32 → Int32 → gH → Option (Int32 × gH)
  | 0, _, _, _, _ => none
  | m + 1, x0, x3, x4, h => if (8 : Int32) ≤ x4 then
  ((gR h x0 12 1).bind fun v2 =>
  (aI h v2 (0 : Int32)).bind fun v4 =>
  (sI h v2 (0 : Int32) (v4 + (1 : Int32))).bind fun h6 =>
  some (x3, h6))
  else
  ((gR h x0 12 1).bind fun v8 =>
  (sI h v8 (((146 : Int32) + ((8 : Int32) * x3)) + x4) (-1 : Int32)).bind fun h10 =>
  F_X12_way_71 n m x0 x3 (x4 + (1 : Int32)) h10)
set_option maxRecDepth 20000 in
set_option maxHeartbeats 1600000 in
theorem g_X12_way_71 {n d : Nat} : ∀ {m : Nat} {x0 : Nat} {x3 : Int32} {x4 : Int32} {h : gH} {rh : gH} {rv : Int32}, F_X12_way_71 n m x0 x3 x4 h = some (rv, rh) → G M_X12_way (d + 1) 0 0 0 0 71 [some (.ref x0), none, none, some (.int x3), some (.int x4)] [] h (qI rv rh) := by
  intro m
  induction m with
  | zero => intro x0 x3 x4 h rh rv hf; cases hf
  | succ m t71 =>
    intro x0 x3 x4 h rh rv hf
    unfold F_X12_way_71 at hf
    refine g_iload dX12_way_71 rfl ?_
    refine g_bipush (v := (8 : Int32)) dX12_way_73 (by decide) ?_
    refine g_icmp_ge (tgt := 101) dX12_way_75 (by decide) (fun c1 => ?_) (fun c1 => ?_)
    · rw [if_pos c1] at hf
      refine g_aload_n dX12_way_101 rfl ?_
      replace hf := Option.bind_eq_some_iff.mp hf
      obtain ⟨v2, q3, hf⟩ := hf
      refine g_gR f_X12_9 dX12_way_102 q3 ?_
      refine g_iconst (v := (0 : Int32)) dX12_way_105 (by decide) ?_
      refine g_dup2 dX12_way_106 rfl rfl ?_
      replace hf := Option.bind_eq_some_iff.mp hf
      obtain ⟨v4, q5, hf⟩ := hf
      refine g_aI dX12_way_107 q5 ?_
      refine g_iconst (v := (1 : Int32)) dX12_way_108 (by decide) ?_
      refine g_iadd dX12_way_109 ?_
      replace hf := Option.bind_eq_some_iff.mp hf
      obtain ⟨h6, q7, hf⟩ := hf
      refine g_sI dX12_way_110 q7 ?_
      refine g_iload_n dX12_way_111 rfl ?_
      obtain ⟨rfl, rfl⟩ := Prod.mk.inj (Option.some.inj hf)
      exact g_iret dX12_way_112 rfl ⟨rfl, rfl⟩ (Nat.le_of_ble_eq_true rfl) (Nat.le_of_ble_eq_true rfl)
    · rw [if_neg c1] at hf
      refine g_aload_n dX12_way_78 rfl ?_
      replace hf := Option.bind_eq_some_iff.mp hf
      obtain ⟨v8, q9, hf⟩ := hf
      refine g_gR f_X12_9 dX12_way_79 q9 ?_
      refine g_sipush (v := (146 : Int32)) dX12_way_82 (by decide) ?_
      refine g_bipush (v := (8 : Int32)) dX12_way_85 (by decide) ?_
      refine g_iload_n dX12_way_87 rfl ?_
      refine g_imul dX12_way_88 ?_
      refine g_iadd dX12_way_89 ?_
      refine g_iload dX12_way_90 rfl ?_
      refine g_iadd dX12_way_92 ?_
      refine g_iconst (v := (-1 : Int32)) dX12_way_93 (by decide) ?_
      replace hf := Option.bind_eq_some_iff.mp hf
      obtain ⟨h10, q11, hf⟩ := hf
      refine g_sI dX12_way_94 q11 ?_
      refine g_iinc2 (w := (1 : Int32)) dX12_way_95 (by decide) rfl (by decide) (g_lvp (lv2 := [some (.ref x0), none, none, some (.int x3), some (.int (x4 + (1 : Int32)))]) (pc2 := 98) rfl rfl ?_)
      refine g_goto (tgt := 71) dX12_way_98 (by decide) ?_
      exact t71 hf
def F_X12_way_0 (n : Nat)  (x0 : Nat) (x1 : Int32) (x2 : Int32) (h : gH) : Option (Int32 × gH) :=
  gB (F_X12_in n x1 (0 : Int32) (6 : Int32) h) fun v3 h1 =>
  if v3 = 0 then
  (some ((-1 : Int32), h1))
  else
  (gB (F_X12_in n x2 (0 : Int32) (9 : Int32) h1) fun v7 h5 =>
  if v7 = 0 then
  (some ((-2 : Int32), h5))
  else
  ((gR h5 x0 12 1).bind fun v9 =>
  (aI h5 v9 (0 : Int32)).bind fun v11 =>
  if v11 = (8 : Int32) then
  (some ((-4 : Int32), h5))
  else
  ((gR h5 x0 12 1).bind fun v14 =>
  (aI h5 v14 (0 : Int32)).bind fun v16 =>
  (gR h5 x0 12 1).bind fun v18 =>
  (sI h5 v18 ((130 : Int32) + v16) x1).bind fun h20 =>
  (gR h20 x0 12 1).bind fun v22 =>
  (sI h20 v22 ((138 : Int32) + v16) x2).bind fun h24 =>
  F_X12_way_71 n n x0 v16 (0 : Int32) h24)))
set_option maxRecDepth 20000 in
set_option maxHeartbeats 1600000 in
theorem g_X12_way_0 {n d : Nat} : ∀ {x0 : Nat} {x1 : Int32} {x2 : Int32} {h : gH} {rh : gH} {rv : Int32}, F_X12_way_0 n x0 x1 x2 h = some (rv, rh) → G M_X12_way (d + 1) 0 0 0 0 0 [some (.ref x0), some (.int x1), some (.int x2), none, none] [] h (qI rv rh) := by
  intro x0 x1 x2 h rh rv hf
  unfold F_X12_way_0 at hf
  refine g_iload_n dX12_way_0 rfl ?_
  refine g_iconst (v := (0 : Int32)) dX12_way_1 (by decide) ?_
  refine g_bipush (v := (6 : Int32)) dX12_way_2 (by decide) ?_
  replace hf := gB_of hf
  obtain ⟨v3, h1, q2, hf⟩ := hf
  refine g_callS (as := [.int x1, .int (0 : Int32), .int (6 : Int32)]) (mc1 := 0) (ms1 := 0) s_X12_44_X12_in dX12_way_4 rfl (Nat.le_of_ble_eq_true rfl) (Nat.le_of_ble_eq_true rfl) (Nat.le_of_ble_eq_true rfl) (t_X12_in (d := d + 0) q2) (fun r9 h9 q9 => ?_)
  obtain ⟨rfl, rfl⟩ := q9
  refine g_stp (st2 := [.int v3]) (pc2 := 7) (kc2 := 0) (kn2 := 0) rfl rfl rfl rfl ?_
  refine g_if_ne (tgt := 12) dX12_way_7 (by decide) (fun c4 => ?_) (fun c4 => ?_)
  · rw [if_neg c4] at hf
    refine g_iload_n dX12_way_12 rfl ?_
    refine g_iconst (v := (0 : Int32)) dX12_way_13 (by decide) ?_
    refine g_bipush (v := (9 : Int32)) dX12_way_14 (by decide) ?_
    replace hf := gB_of hf
    obtain ⟨v7, h5, q6, hf⟩ := hf
    refine g_callS (as := [.int x2, .int (0 : Int32), .int (9 : Int32)]) (mc1 := 0) (ms1 := 0) s_X12_44_X12_in dX12_way_16 rfl (Nat.le_of_ble_eq_true rfl) (Nat.le_of_ble_eq_true rfl) (Nat.le_of_ble_eq_true rfl) (t_X12_in (d := d + 0) q6) (fun r9 h9 q9 => ?_)
    obtain ⟨rfl, rfl⟩ := q9
    refine g_stp (st2 := [.int v7]) (pc2 := 19) (kc2 := 0) (kn2 := 0) rfl rfl rfl rfl ?_
    refine g_if_ne (tgt := 25) dX12_way_19 (by decide) (fun c8 => ?_) (fun c8 => ?_)
    · rw [if_neg c8] at hf
      refine g_aload_n dX12_way_25 rfl ?_
      replace hf := Option.bind_eq_some_iff.mp hf
      obtain ⟨v9, q10, hf⟩ := hf
      refine g_gR f_X12_9 dX12_way_26 q10 ?_
      refine g_iconst (v := (0 : Int32)) dX12_way_29 (by decide) ?_
      replace hf := Option.bind_eq_some_iff.mp hf
      obtain ⟨v11, q12, hf⟩ := hf
      refine g_aI dX12_way_30 q12 ?_
      refine g_bipush (v := (8 : Int32)) dX12_way_31 (by decide) ?_
      refine g_icmp_ne (tgt := 39) dX12_way_33 (by decide) (fun c13 => ?_) (fun c13 => ?_)
      · rw [if_neg c13] at hf
        refine g_aload_n dX12_way_39 rfl ?_
        replace hf := Option.bind_eq_some_iff.mp hf
        obtain ⟨v14, q15, hf⟩ := hf
        refine g_gR f_X12_9 dX12_way_40 q15 ?_
        refine g_iconst (v := (0 : Int32)) dX12_way_43 (by decide) ?_
        replace hf := Option.bind_eq_some_iff.mp hf
        obtain ⟨v16, q17, hf⟩ := hf
        refine g_aI dX12_way_44 q17 ?_
        refine g_istore_n dX12_way_45 (by decide) (g_lvp (lv2 := [some (.ref x0), some (.int x1), some (.int x2), some (.int v16), none]) (pc2 := 46) rfl rfl ?_)
        refine g_aload_n dX12_way_46 rfl ?_
        replace hf := Option.bind_eq_some_iff.mp hf
        obtain ⟨v18, q19, hf⟩ := hf
        refine g_gR f_X12_9 dX12_way_47 q19 ?_
        refine g_sipush (v := (130 : Int32)) dX12_way_50 (by decide) ?_
        refine g_iload_n dX12_way_53 rfl ?_
        refine g_iadd dX12_way_54 ?_
        refine g_iload_n dX12_way_55 rfl ?_
        replace hf := Option.bind_eq_some_iff.mp hf
        obtain ⟨h20, q21, hf⟩ := hf
        refine g_sI dX12_way_56 q21 ?_
        refine g_aload_n dX12_way_57 rfl ?_
        replace hf := Option.bind_eq_some_iff.mp hf
        obtain ⟨v22, q23, hf⟩ := hf
        refine g_gR f_X12_9 dX12_way_58 q23 ?_
        refine g_sipush (v := (138 : Int32)) dX12_way_61 (by decide) ?_
        refine g_iload_n dX12_way_64 rfl ?_
        refine g_iadd dX12_way_65 ?_
        refine g_iload_n dX12_way_66 rfl ?_
        replace hf := Option.bind_eq_some_iff.mp hf
        obtain ⟨h24, q25, hf⟩ := hf
        refine g_sI dX12_way_67 q25 ?_
        refine g_iconst (v := (0 : Int32)) dX12_way_68 (by decide) ?_
        refine g_istore dX12_way_69 (by decide) (g_lvp (lv2 := [some (.ref x0), some (.int x1), some (.int x2), some (.int v16), some (.int (0 : Int32))]) (pc2 := 71) rfl rfl ?_)
        refine g_weak (lv2 := [some (.ref x0), none, none, some (.int v16), some (.int (0 : Int32))]) (And.intro rfl (And.intro rfl (And.intro rfl (trivial)))) ?_
        exact g_X12_way_71 hf
      · rw [if_pos c13] at hf
        refine g_bipush (v := (-4 : Int32)) dX12_way_36 (by decide) ?_
        obtain ⟨rfl, rfl⟩ := Prod.mk.inj (Option.some.inj hf)
        exact g_iret dX12_way_38 rfl ⟨rfl, rfl⟩ (Nat.le_of_ble_eq_true rfl) (Nat.le_of_ble_eq_true rfl)
    · rw [if_pos c8] at hf
      refine g_bipush (v := (-2 : Int32)) dX12_way_22 (by decide) ?_
      obtain ⟨rfl, rfl⟩ := Prod.mk.inj (Option.some.inj hf)
      exact g_iret dX12_way_24 rfl ⟨rfl, rfl⟩ (Nat.le_of_ble_eq_true rfl) (Nat.le_of_ble_eq_true rfl)
  · rw [if_pos c4] at hf
    refine g_iconst (v := (-1 : Int32)) dX12_way_10 (by decide) ?_
    obtain ⟨rfl, rfl⟩ := Prod.mk.inj (Option.some.inj hf)
    exact g_iret dX12_way_11 rfl ⟨rfl, rfl⟩ (Nat.le_of_ble_eq_true rfl) (Nat.le_of_ble_eq_true rfl)
def F_X12_way (n : Nat) (a : Nat) (p0 : Int32) (p1 : Int32) (h : gH) : Option (Int32 × gH) := F_X12_way_0 n  a p0 p1 h
theorem t_X12_way {n d : Nat} {a : Nat} {p0 : Int32} {p1 : Int32} {h rh : gH} {rv : Int32} (hf : F_X12_way n a p0 p1 h = some (rv, rh)) : T M_X12_way (d + 1) 0 0 [.ref a, .int p0, .int p1] h (qI rv rh) := by
  refine T_of_G (L := 2) (by decide +kernel) rfl (Nat.le_of_ble_eq_true rfl) (g_lv (lv2 := [some (.ref a), some (.int p0), some (.int p1), none, none]) rfl ?_)
  exact g_X12_way_0 hf
def F_X12_wheel_175 (n : Nat)  (y0 : Int32) (h : gH) : Option (Int32 × gH) :=
  some (y0, h)
set_option maxRecDepth 20000 in
set_option maxHeartbeats 1600000 in
theorem g_X12_wheel_175 {n d : Nat} : ∀ {y0 : Int32} {h : gH} {rh : gH} {rv : Int32}, F_X12_wheel_175 n y0 h = some (rv, rh) → G M_X12_wheel (d + 6) 0 0 0 0 175 [none, none, none, none, none, none, none, none, none, none] [.int y0] h (qI rv rh) := by
  intro y0 h rh rv hf
  unfold F_X12_wheel_175 at hf
  obtain ⟨rfl, rfl⟩ := Prod.mk.inj (Option.some.inj hf)
  exact g_iret dX12_wheel_175 rfl ⟨rfl, rfl⟩ (Nat.le_of_ble_eq_true rfl) (Nat.le_of_ble_eq_true rfl)
def F_X12_wheel_153 (n : Nat) (k82 : Nat → Int32 → Int32 → Int32 → Int32 → Int32 → Int32 → Int32 → gH → Option (Int32 × gH)) (x0 : Nat) (x1 : Int32) (x2 : Int32) (x3 : Int32) (x4 : Int32) (x5 : Int32) (x7 : Int32) (y0 : Int32) (h : gH) : Option (Int32 × gH) :=
  k82 x0 x1 x2 x3 x4 x5 y0 (x7 + (1 : Int32)) h
set_option maxRecDepth 20000 in
set_option maxHeartbeats 1600000 in
theorem g_X12_wheel_153 {n d : Nat} {k82 : Nat → Int32 → Int32 → Int32 → Int32 → Int32 → Int32 → Int32 → gH → Option (Int32 × gH)} (t82 : ∀ {x0 : Nat} {x1 : Int32} {x2 : Int32} {x3 : Int32} {x4 : Int32} {x5 : Int32} {x6 : Int32} {x7 : Int32} {h : gH} {rh : gH} {rv : Int32}, k82 x0 x1 x2 x3 x4 x5 x6 x7 h = some (rv, rh) → G M_X12_wheel (d + 6) 0 0 0 0 82 [some (.ref x0), some (.int x1), some (.int x2), some (.int x3), some (.int x4), some (.int x5), some (.int x6), some (.int x7), none, none] [] h (qI rv rh)) : ∀ {x0 : Nat} {x1 : Int32} {x2 : Int32} {x3 : Int32} {x4 : Int32} {x5 : Int32} {x7 : Int32} {y0 : Int32} {h : gH} {rh : gH} {rv : Int32}, F_X12_wheel_153 n k82 x0 x1 x2 x3 x4 x5 x7 y0 h = some (rv, rh) → G M_X12_wheel (d + 6) 0 0 0 0 153 [some (.ref x0), some (.int x1), some (.int x2), some (.int x3), some (.int x4), some (.int x5), none, some (.int x7), none, none] [.int y0] h (qI rv rh) := by
  intro x0 x1 x2 x3 x4 x5 x7 y0 h rh rv hf
  unfold F_X12_wheel_153 at hf
  refine g_istore dX12_wheel_153 (by decide) (g_lvp (lv2 := [some (.ref x0), some (.int x1), some (.int x2), some (.int x3), some (.int x4), some (.int x5), some (.int y0), some (.int x7), none, none]) (pc2 := 155) rfl rfl ?_)
  refine g_iinc2 (w := (1 : Int32)) dX12_wheel_155 (by decide) rfl (by decide) (g_lvp (lv2 := [some (.ref x0), some (.int x1), some (.int x2), some (.int x3), some (.int x4), some (.int x5), some (.int y0), some (.int (x7 + (1 : Int32))), none, none]) (pc2 := 158) rfl rfl ?_)
  refine g_goto (tgt := 82) dX12_wheel_158 (by decide) ?_
  exact t82 hf
def F_X12_wheel_139 (n : Nat) (k82 : Nat → Int32 → Int32 → Int32 → Int32 → Int32 → Int32 → Int32 → gH → Option (Int32 × gH)) (x0 : Nat) (x1 : Int32) (x2 : Int32) (x3 : Int32) (x4 : Int32) (x6 : Int32) (x7 : Int32) (x8 : Int32) (x9 : Int32) (y0 : Int32) (h : gH) : Option (Int32 × gH) :=
  if x9 = 0 then
  (F_X12_wheel_153 n (k82) x0 x1 x2 x3 x4 y0 x7 x6 h)
  else
  (F_X12_wheel_153 n (k82) x0 x1 x2 x3 x4 y0 x7 x8 h)
set_option maxRecDepth 20000 in
set_option maxHeartbeats 1600000 in
theorem g_X12_wheel_139 {n d : Nat} {k82 : Nat → Int32 → Int32 → Int32 → Int32 → Int32 → Int32 → Int32 → gH → Option (Int32 × gH)} (t82 : ∀ {x0 : Nat} {x1 : Int32} {x2 : Int32} {x3 : Int32} {x4 : Int32} {x5 : Int32} {x6 : Int32} {x7 : Int32} {h : gH} {rh : gH} {rv : Int32}, k82 x0 x1 x2 x3 x4 x5 x6 x7 h = some (rv, rh) → G M_X12_wheel (d + 6) 0 0 0 0 82 [some (.ref x0), some (.int x1), some (.int x2), some (.int x3), some (.int x4), some (.int x5), some (.int x6), some (.int x7), none, none] [] h (qI rv rh)) : ∀ {x0 : Nat} {x1 : Int32} {x2 : Int32} {x3 : Int32} {x4 : Int32} {x6 : Int32} {x7 : Int32} {x8 : Int32} {x9 : Int32} {y0 : Int32} {h : gH} {rh : gH} {rv : Int32}, F_X12_wheel_139 n k82 x0 x1 x2 x3 x4 x6 x7 x8 x9 y0 h = some (rv, rh) → G M_X12_wheel (d + 6) 0 0 0 0 139 [some (.ref x0), some (.int x1), some (.int x2), some (.int x3), some (.int x4), none, some (.int x6), some (.int x7), some (.int x8), some (.int x9)] [.int y0] h (qI rv rh) := by
  intro x0 x1 x2 x3 x4 x6 x7 x8 x9 y0 h rh rv hf
  unfold F_X12_wheel_139 at hf
  refine g_istore dX12_wheel_139 (by decide) (g_lvp (lv2 := [some (.ref x0), some (.int x1), some (.int x2), some (.int x3), some (.int x4), some (.int y0), some (.int x6), some (.int x7), some (.int x8), some (.int x9)]) (pc2 := 141) rfl rfl ?_)
  refine g_iload dX12_wheel_141 rfl ?_
  refine g_if_eq (tgt := 151) dX12_wheel_143 (by decide) (fun c1 => ?_) (fun c1 => ?_)
  · rw [if_pos c1] at hf
    refine g_iload dX12_wheel_151 rfl ?_
    refine g_weak (lv2 := [some (.ref x0), some (.int x1), some (.int x2), some (.int x3), some (.int x4), some (.int y0), none, some (.int x7), none, none]) (And.intro rfl (And.intro rfl (And.intro rfl (And.intro rfl (And.intro rfl (And.intro rfl (And.intro rfl (trivial)))))))) ?_
    exact g_X12_wheel_153 t82 hf
  · rw [if_neg c1] at hf
    refine g_iload dX12_wheel_146 rfl ?_
    refine g_goto (tgt := 153) dX12_wheel_148 (by decide) ?_
    refine g_weak (lv2 := [some (.ref x0), some (.int x1), some (.int x2), some (.int x3), some (.int x4), some (.int y0), none, some (.int x7), none, none]) (And.intro rfl (And.intro rfl (And.intro rfl (And.intro rfl (And.intro rfl (And.intro rfl (And.intro rfl (trivial)))))))) ?_
    exact g_X12_wheel_153 t82 hf
def F_X12_wheel_125 (n : Nat) (k82 : Nat → Int32 → Int32 → Int32 → Int32 → Int32 → Int32 → Int32 → gH → Option (Int32 × gH)) (x0 : Nat) (x1 : Int32) (x2 : Int32) (x3 : Int32) (x4 : Int32) (x5 : Int32) (x6 : Int32) (x7 : Int32) (x8 : Int32) (y0 : Int32) (h : gH) : Option (Int32 × gH) :=
  if y0 = 0 then
  (F_X12_wheel_139 n (k82) x0 x1 x2 x3 x4 x6 x7 x8 y0 x5 h)
  else
  (F_X12_wheel_139 n (k82) x0 x1 x2 x3 x4 x6 x7 x8 y0 x7 h)
set_option maxRecDepth 20000 in
set_option maxHeartbeats 1600000 in
theorem g_X12_wheel_125 {n d : Nat} {k82 : Nat → Int32 → Int32 → Int32 → Int32 → Int32 → Int32 → Int32 → gH → Option (Int32 × gH)} (t82 : ∀ {x0 : Nat} {x1 : Int32} {x2 : Int32} {x3 : Int32} {x4 : Int32} {x5 : Int32} {x6 : Int32} {x7 : Int32} {h : gH} {rh : gH} {rv : Int32}, k82 x0 x1 x2 x3 x4 x5 x6 x7 h = some (rv, rh) → G M_X12_wheel (d + 6) 0 0 0 0 82 [some (.ref x0), some (.int x1), some (.int x2), some (.int x3), some (.int x4), some (.int x5), some (.int x6), some (.int x7), none, none] [] h (qI rv rh)) : ∀ {x0 : Nat} {x1 : Int32} {x2 : Int32} {x3 : Int32} {x4 : Int32} {x5 : Int32} {x6 : Int32} {x7 : Int32} {x8 : Int32} {y0 : Int32} {h : gH} {rh : gH} {rv : Int32}, F_X12_wheel_125 n k82 x0 x1 x2 x3 x4 x5 x6 x7 x8 y0 h = some (rv, rh) → G M_X12_wheel (d + 6) 0 0 0 0 125 [some (.ref x0), some (.int x1), some (.int x2), some (.int x3), some (.int x4), some (.int x5), some (.int x6), some (.int x7), some (.int x8), none] [.int y0] h (qI rv rh) := by
  intro x0 x1 x2 x3 x4 x5 x6 x7 x8 y0 h rh rv hf
  unfold F_X12_wheel_125 at hf
  refine g_istore dX12_wheel_125 (by decide) (g_lvp (lv2 := [some (.ref x0), some (.int x1), some (.int x2), some (.int x3), some (.int x4), some (.int x5), some (.int x6), some (.int x7), some (.int x8), some (.int y0)]) (pc2 := 127) rfl rfl ?_)
  refine g_iload dX12_wheel_127 rfl ?_
  refine g_if_eq (tgt := 137) dX12_wheel_129 (by decide) (fun c1 => ?_) (fun c1 => ?_)
  · rw [if_pos c1] at hf
    refine g_iload dX12_wheel_137 rfl ?_
    refine g_weak (lv2 := [some (.ref x0), some (.int x1), some (.int x2), some (.int x3), some (.int x4), none, some (.int x6), some (.int x7), some (.int x8), some (.int y0)]) (And.intro rfl (And.intro rfl (And.intro rfl (And.intro rfl (And.intro rfl (And.intro rfl (And.intro rfl (And.intro rfl (And.intro rfl (trivial)))))))))) ?_
    exact g_X12_wheel_139 t82 hf
  · rw [if_neg c1] at hf
    refine g_iload dX12_wheel_132 rfl ?_
    refine g_goto (tgt := 139) dX12_wheel_134 (by decide) ?_
    refine g_weak (lv2 := [some (.ref x0), some (.int x1), some (.int x2), some (.int x3), some (.int x4), none, some (.int x6), some (.int x7), some (.int x8), some (.int y0)]) (And.intro rfl (And.intro rfl (And.intro rfl (And.intro rfl (And.intro rfl (And.intro rfl (And.intro rfl (And.intro rfl (And.intro rfl (trivial)))))))))) ?_
    exact g_X12_wheel_139 t82 hf
def F_X12_wheel_120 (n : Nat) (k82 : Nat → Int32 → Int32 → Int32 → Int32 → Int32 → Int32 → Int32 → gH → Option (Int32 × gH)) (x0 : Nat) (x1 : Int32) (x2 : Int32) (x3 : Int32) (x4 : Int32) (x5 : Int32) (x6 : Int32) (x7 : Int32) (x8 : Int32) (h : gH) : Option (Int32 × gH) :=
  F_X12_wheel_125 n (k82) x0 x1 x2 x3 x4 x5 x6 x7 x8 (1 : Int32) h
set_option maxRecDepth 20000 in
set_option maxHeartbeats 1600000 in
theorem g_X12_wheel_120 {n d : Nat} {k82 : Nat → Int32 → Int32 → Int32 → Int32 → Int32 → Int32 → Int32 → gH → Option (Int32 × gH)} (t82 : ∀ {x0 : Nat} {x1 : Int32} {x2 : Int32} {x3 : Int32} {x4 : Int32} {x5 : Int32} {x6 : Int32} {x7 : Int32} {h : gH} {rh : gH} {rv : Int32}, k82 x0 x1 x2 x3 x4 x5 x6 x7 h = some (rv, rh) → G M_X12_wheel (d + 6) 0 0 0 0 82 [some (.ref x0), some (.int x1), some (.int x2), some (.int x3), some (.int x4), some (.int x5), some (.int x6), some (.int x7), none, none] [] h (qI rv rh)) : ∀ {x0 : Nat} {x1 : Int32} {x2 : Int32} {x3 : Int32} {x4 : Int32} {x5 : Int32} {x6 : Int32} {x7 : Int32} {x8 : Int32} {h : gH} {rh : gH} {rv : Int32}, F_X12_wheel_120 n k82 x0 x1 x2 x3 x4 x5 x6 x7 x8 h = some (rv, rh) → G M_X12_wheel (d + 6) 0 0 0 0 120 [some (.ref x0), some (.int x1), some (.int x2), some (.int x3), some (.int x4), some (.int x5), some (.int x6), some (.int x7), some (.int x8), none] [] h (qI rv rh) := by
  intro x0 x1 x2 x3 x4 x5 x6 x7 x8 h rh rv hf
  unfold F_X12_wheel_120 at hf
  refine g_iconst (v := (1 : Int32)) dX12_wheel_120 (by decide) ?_
  refine g_goto (tgt := 125) dX12_wheel_121 (by decide) ?_
  exact g_X12_wheel_125 t82 hf
def F_X12_wheel_82 (n : Nat)  : Nat → Nat → Int32 → Int32 → Int32 → Int32 → Int32 → Int32 → Int32 → gH → Option (Int32 × gH)
  | 0, _, _, _, _, _, _, _, _, _ => none
  | m + 1, x0, x1, x2, x3, x4, x5, x6, x7, h => (gO h x0 12).bind fun f1 =>
  gB (F_X12_pieces n x0  h) fun v5 h3 =>
  if v5 < (x7 + x2) then
  (if x3 = 0 then
  (F_X12_wheel_175 n x5 h3)
  else
  (F_X12_wheel_175 n (x4 - x6) h3))
  else
  ((gO h3 x0 12).bind fun f8 =>
  gB (F_X12_most n x0  h3) fun v12 h10 =>
  (gO h10 x0 12).bind fun f13 =>
  gB (F_X12_rideOf n x0 x1 v12 x7 x2 h10) fun v17 h15 =>
  if x5 = (-1 : Int32) then
  (F_X12_wheel_120 n (F_X12_wheel_82 n m) x0 x1 x2 x3 x4 x5 x6 x7 v17 h15)
  else
  (if x6 ≤ v17 then
  (F_X12_wheel_125 n (F_X12_wheel_82 n m) x0 x1 x2 x3 x4 x5 x6 x7 v17 (0 : Int32) h15)
  else
  (F_X12_wheel_120 n (F_X12_wheel_82 n m) x0 x1 x2 x3 x4 x5 x6 x7 v17 h15)))
set_option maxRecDepth 20000 in
set_option maxHeartbeats 1600000 in
theorem g_X12_wheel_82 {n d : Nat} : ∀ {m : Nat} {x0 : Nat} {x1 : Int32} {x2 : Int32} {x3 : Int32} {x4 : Int32} {x5 : Int32} {x6 : Int32} {x7 : Int32} {h : gH} {rh : gH} {rv : Int32}, F_X12_wheel_82 n m x0 x1 x2 x3 x4 x5 x6 x7 h = some (rv, rh) → G M_X12_wheel (d + 6) 0 0 0 0 82 [some (.ref x0), some (.int x1), some (.int x2), some (.int x3), some (.int x4), some (.int x5), some (.int x6), some (.int x7), none, none] [] h (qI rv rh) := by
  intro m
  induction m with
  | zero => intro x0 x1 x2 x3 x4 x5 x6 x7 h rh rv hf; cases hf
  | succ m t82 =>
    intro x0 x1 x2 x3 x4 x5 x6 x7 h rh rv hf
    unfold F_X12_wheel_82 at hf
    refine g_iload dX12_wheel_82 rfl ?_
    refine g_iload_n dX12_wheel_84 rfl ?_
    refine g_iadd dX12_wheel_85 ?_
    refine g_aload_n dX12_wheel_86 rfl ?_
    replace hf := Option.bind_eq_some_iff.mp hf
    obtain ⟨f1, q2, hf⟩ := hf
    replace hf := gB_of hf
    obtain ⟨v5, h3, q4, hf⟩ := hf
    refine g_callV (as := []) (mc1 := 0) (ms1 := 0) s_X12_48_X12_pieces_12 dX12_wheel_87 (gO_of q2) rfl (Nat.le_of_ble_eq_true rfl) (Nat.le_of_ble_eq_true rfl) (Nat.le_of_ble_eq_true rfl) (t_X12_pieces (d := d + 5) q4) (fun r9 h9 q9 => ?_)
    obtain ⟨rfl, rfl⟩ := q9
    refine g_stp (st2 := [.int v5, .int (x7 + x2)]) (pc2 := 90) (kc2 := 0) (kn2 := 0) rfl rfl rfl rfl ?_
    refine g_icmp_gt (tgt := 161) dX12_wheel_90 (by decide) (fun c6 => ?_) (fun c6 => ?_)
    · rw [if_pos c6] at hf
      refine g_iload_n dX12_wheel_161 rfl ?_
      refine g_if_ne (tgt := 170) dX12_wheel_162 (by decide) (fun c7 => ?_) (fun c7 => ?_)
      · rw [if_neg c7] at hf
        refine g_iload dX12_wheel_170 rfl ?_
        refine g_iload dX12_wheel_172 rfl ?_
        refine g_isub dX12_wheel_174 ?_
        refine g_weak (lv2 := [none, none, none, none, none, none, none, none, none, none]) (trivial) ?_
        exact g_X12_wheel_175 hf
      · rw [if_pos c7] at hf
        refine g_iload dX12_wheel_165 rfl ?_
        refine g_goto (tgt := 175) dX12_wheel_167 (by decide) ?_
        refine g_weak (lv2 := [none, none, none, none, none, none, none, none, none, none]) (trivial) ?_
        exact g_X12_wheel_175 hf
    · rw [if_neg c6] at hf
      refine g_aload_n dX12_wheel_93 rfl ?_
      refine g_iload_n dX12_wheel_94 rfl ?_
      refine g_aload_n dX12_wheel_95 rfl ?_
      replace hf := Option.bind_eq_some_iff.mp hf
      obtain ⟨f8, q9, hf⟩ := hf
      replace hf := gB_of hf
      obtain ⟨v12, h10, q11, hf⟩ := hf
      refine g_callV (as := []) (mc1 := 0) (ms1 := 0) s_X12_56_X12_most_12 dX12_wheel_96 (gO_of q9) rfl (Nat.le_of_ble_eq_true rfl) (Nat.le_of_ble_eq_true rfl) (Nat.le_of_ble_eq_true rfl) (t_X12_most (d := d + 4) q11) (fun r9 h9 q9 => ?_)
      obtain ⟨rfl, rfl⟩ := q9
      refine g_stp (st2 := [.int v12, .int x1, .ref x0]) (pc2 := 99) (kc2 := 0) (kn2 := 0) rfl rfl rfl rfl ?_
      refine g_iload dX12_wheel_99 rfl ?_
      refine g_iload_n dX12_wheel_101 rfl ?_
      replace hf := Option.bind_eq_some_iff.mp hf
      obtain ⟨f13, q14, hf⟩ := hf
      replace hf := gB_of hf
      obtain ⟨v17, h15, q16, hf⟩ := hf
      refine g_callV (as := [.int x1, .int v12, .int x7, .int x2]) (mc1 := 0) (ms1 := 0) s_X12_207_X12_rideOf_12 dX12_wheel_102 (gO_of q14) rfl (Nat.le_of_ble_eq_true rfl) (Nat.le_of_ble_eq_true rfl) (Nat.le_of_ble_eq_true rfl) (t_X12_rideOf (d := d + 0) q16) (fun r9 h9 q9 => ?_)
      obtain ⟨rfl, rfl⟩ := q9
      refine g_stp (st2 := [.int v17]) (pc2 := 105) (kc2 := 0) (kn2 := 0) rfl rfl rfl rfl ?_
      refine g_istore dX12_wheel_105 (by decide) (g_lvp (lv2 := [some (.ref x0), some (.int x1), some (.int x2), some (.int x3), some (.int x4), some (.int x5), some (.int x6), some (.int x7), some (.int v17), none]) (pc2 := 107) rfl rfl ?_)
      refine g_iload dX12_wheel_107 rfl ?_
      refine g_iconst (v := (-1 : Int32)) dX12_wheel_109 (by decide) ?_
      refine g_icmp_eq (tgt := 120) dX12_wheel_110 (by decide) (fun c18 => ?_) (fun c18 => ?_)
      · rw [if_pos c18] at hf
        exact g_X12_wheel_120 t82 hf
      · rw [if_neg c18] at hf
        refine g_iload dX12_wheel_113 rfl ?_
        refine g_iload dX12_wheel_115 rfl ?_
        refine g_icmp_ge (tgt := 124) dX12_wheel_117 (by decide) (fun c19 => ?_) (fun c19 => ?_)
        · rw [if_pos c19] at hf
          refine g_iconst (v := (0 : Int32)) dX12_wheel_124 (by decide) ?_
          exact g_X12_wheel_125 t82 hf
        · rw [if_neg c19] at hf
          exact g_X12_wheel_120 t82 hf
def F_X12_wheel_17 (n : Nat)   (h : gH) : Option (Int32 × gH) :=
  some ((-1 : Int32), h)
set_option maxRecDepth 20000 in
set_option maxHeartbeats 1600000 in
theorem g_X12_wheel_17 {n d : Nat} : ∀  {h : gH} {rh : gH} {rv : Int32}, F_X12_wheel_17 n  h = some (rv, rh) → G M_X12_wheel (d + 6) 0 0 0 0 17 [none, none, none, none, none, none, none, none, none, none] [] h (qI rv rh) := by
  intro  h rh rv hf
  unfold F_X12_wheel_17 at hf
  refine g_iconst (v := (-1 : Int32)) dX12_wheel_17 (by decide) ?_
  obtain ⟨rfl, rfl⟩ := Prod.mk.inj (Option.some.inj hf)
  exact g_iret dX12_wheel_18 rfl ⟨rfl, rfl⟩ (Nat.le_of_ble_eq_true rfl) (Nat.le_of_ble_eq_true rfl)
def F_X12_wheel_0 (n : Nat)  (x0 : Nat) (x1 : Int32) (x2 : Int32) (x3 : Int32) (h : gH) : Option (Int32 × gH) :=
  (gO h x0 12).bind fun f1 =>
  gB (F_X12_isWay n x0 x1 h) fun v5 h3 =>
  if v5 = 0 then
  (F_X12_wheel_17 n h3)
  else
  (gB (F_X12_in n x3 (0 : Int32) (1 : Int32) h3) fun v9 h7 =>
  if v9 = 0 then
  (F_X12_wheel_17 n h7)
  else
  (gB (F_X12_in n x2 (1 : Int32) (8 : Int32) h7) fun v13 h11 =>
  if v13 = 0 then
  (some ((-2 : Int32), h11))
  else
  ((gO h11 x0 12).bind fun f15 =>
  gB (F_X12_pieces n x0  h11) fun v19 h17 =>
  if v19 = 0 then
  (some ((-3 : Int32), h17))
  else
  ((gO h17 x0 12).bind fun f21 =>
  gB (F_X12_pieces n x0  h17) fun v25 h23 =>
  if x2 ≤ v25 then
  ((gO h23 x0 12).bind fun f27 =>
  (F_X12_looks n x0 (1023 : Int32) h23).bind fun h29 =>
  (gO h29 x0 12).bind fun f31 =>
  gB (F_X12_most n x0  h29) fun v35 h33 =>
  (gO h33 x0 12).bind fun f36 =>
  gB (F_X12_rideOf n x0 x1 v35 (0 : Int32) (0 : Int32) h33) fun v40 h38 =>
  F_X12_wheel_82 n n x0 x1 x2 x3 v40 (-1 : Int32) (0 : Int32) (0 : Int32) h38)
  else
  (some ((-5 : Int32), h23))))))
set_option maxRecDepth 20000 in
set_option maxHeartbeats 1600000 in
theorem g_X12_wheel_0 {n d : Nat} : ∀ {x0 : Nat} {x1 : Int32} {x2 : Int32} {x3 : Int32} {h : gH} {rh : gH} {rv : Int32}, F_X12_wheel_0 n x0 x1 x2 x3 h = some (rv, rh) → G M_X12_wheel (d + 6) 0 0 0 0 0 [some (.ref x0), some (.int x1), some (.int x2), some (.int x3), none, none, none, none, none, none] [] h (qI rv rh) := by
  intro x0 x1 x2 x3 h rh rv hf
  unfold F_X12_wheel_0 at hf
  refine g_aload_n dX12_wheel_0 rfl ?_
  refine g_iload_n dX12_wheel_1 rfl ?_
  replace hf := Option.bind_eq_some_iff.mp hf
  obtain ⟨f1, q2, hf⟩ := hf
  replace hf := gB_of hf
  obtain ⟨v5, h3, q4, hf⟩ := hf
  refine g_callV (as := [.int x1]) (mc1 := 0) (ms1 := 0) s_X12_188_X12_isWay_12 dX12_wheel_2 (gO_of q2) rfl (Nat.le_of_ble_eq_true rfl) (Nat.le_of_ble_eq_true rfl) (Nat.le_of_ble_eq_true rfl) (t_X12_isWay (d := d + 4) q4) (fun r9 h9 q9 => ?_)
  obtain ⟨rfl, rfl⟩ := q9
  refine g_stp (st2 := [.int v5]) (pc2 := 5) (kc2 := 0) (kn2 := 0) rfl rfl rfl rfl ?_
  refine g_if_eq (tgt := 17) dX12_wheel_5 (by decide) (fun c6 => ?_) (fun c6 => ?_)
  · rw [if_pos c6] at hf
    refine g_weak (lv2 := [none, none, none, none, none, none, none, none, none, none]) (trivial) ?_
    exact g_X12_wheel_17 hf
  · rw [if_neg c6] at hf
    refine g_iload_n dX12_wheel_8 rfl ?_
    refine g_iconst (v := (0 : Int32)) dX12_wheel_9 (by decide) ?_
    refine g_iconst (v := (1 : Int32)) dX12_wheel_10 (by decide) ?_
    replace hf := gB_of hf
    obtain ⟨v9, h7, q8, hf⟩ := hf
    refine g_callS (as := [.int x3, .int (0 : Int32), .int (1 : Int32)]) (mc1 := 0) (ms1 := 0) s_X12_44_X12_in dX12_wheel_11 rfl (Nat.le_of_ble_eq_true rfl) (Nat.le_of_ble_eq_true rfl) (Nat.le_of_ble_eq_true rfl) (t_X12_in (d := d + 5) q8) (fun r9 h9 q9 => ?_)
    obtain ⟨rfl, rfl⟩ := q9
    refine g_stp (st2 := [.int v9]) (pc2 := 14) (kc2 := 0) (kn2 := 0) rfl rfl rfl rfl ?_
    refine g_if_ne (tgt := 19) dX12_wheel_14 (by decide) (fun c10 => ?_) (fun c10 => ?_)
    · rw [if_neg c10] at hf
      refine g_iload_n dX12_wheel_19 rfl ?_
      refine g_iconst (v := (1 : Int32)) dX12_wheel_20 (by decide) ?_
      refine g_bipush (v := (8 : Int32)) dX12_wheel_21 (by decide) ?_
      replace hf := gB_of hf
      obtain ⟨v13, h11, q12, hf⟩ := hf
      refine g_callS (as := [.int x2, .int (1 : Int32), .int (8 : Int32)]) (mc1 := 0) (ms1 := 0) s_X12_44_X12_in dX12_wheel_23 rfl (Nat.le_of_ble_eq_true rfl) (Nat.le_of_ble_eq_true rfl) (Nat.le_of_ble_eq_true rfl) (t_X12_in (d := d + 5) q12) (fun r9 h9 q9 => ?_)
      obtain ⟨rfl, rfl⟩ := q9
      refine g_stp (st2 := [.int v13]) (pc2 := 26) (kc2 := 0) (kn2 := 0) rfl rfl rfl rfl ?_
      refine g_if_ne (tgt := 32) dX12_wheel_26 (by decide) (fun c14 => ?_) (fun c14 => ?_)
      · rw [if_neg c14] at hf
        refine g_aload_n dX12_wheel_32 rfl ?_
        replace hf := Option.bind_eq_some_iff.mp hf
        obtain ⟨f15, q16, hf⟩ := hf
        replace hf := gB_of hf
        obtain ⟨v19, h17, q18, hf⟩ := hf
        refine g_callV (as := []) (mc1 := 0) (ms1 := 0) s_X12_48_X12_pieces_12 dX12_wheel_33 (gO_of q16) rfl (Nat.le_of_ble_eq_true rfl) (Nat.le_of_ble_eq_true rfl) (Nat.le_of_ble_eq_true rfl) (t_X12_pieces (d := d + 5) q18) (fun r9 h9 q9 => ?_)
        obtain ⟨rfl, rfl⟩ := q9
        refine g_stp (st2 := [.int v19]) (pc2 := 36) (kc2 := 0) (kn2 := 0) rfl rfl rfl rfl ?_
        refine g_if_ne (tgt := 42) dX12_wheel_36 (by decide) (fun c20 => ?_) (fun c20 => ?_)
        · rw [if_neg c20] at hf
          refine g_iload_n dX12_wheel_42 rfl ?_
          refine g_aload_n dX12_wheel_43 rfl ?_
          replace hf := Option.bind_eq_some_iff.mp hf
          obtain ⟨f21, q22, hf⟩ := hf
          replace hf := gB_of hf
          obtain ⟨v25, h23, q24, hf⟩ := hf
          refine g_callV (as := []) (mc1 := 0) (ms1 := 0) s_X12_48_X12_pieces_12 dX12_wheel_44 (gO_of q22) rfl (Nat.le_of_ble_eq_true rfl) (Nat.le_of_ble_eq_true rfl) (Nat.le_of_ble_eq_true rfl) (t_X12_pieces (d := d + 5) q24) (fun r9 h9 q9 => ?_)
          obtain ⟨rfl, rfl⟩ := q9
          refine g_stp (st2 := [.int v25, .int x2]) (pc2 := 47) (kc2 := 0) (kn2 := 0) rfl rfl rfl rfl ?_
          refine g_icmp_le (tgt := 53) dX12_wheel_47 (by decide) (fun c26 => ?_) (fun c26 => ?_)
          · rw [if_pos c26] at hf
            refine g_aload_n dX12_wheel_53 rfl ?_
            refine g_sipush (v := (1023 : Int32)) dX12_wheel_54 (by decide) ?_
            replace hf := Option.bind_eq_some_iff.mp hf
            obtain ⟨f27, q28, hf⟩ := hf
            replace hf := Option.bind_eq_some_iff.mp hf
            obtain ⟨h29, q30, hf⟩ := hf
            refine g_callV (as := [.int (1023 : Int32)]) (mc1 := 0) (ms1 := 0) s_X12_185_X12_looks_12 dX12_wheel_57 (gO_of q28) rfl (Nat.le_of_ble_eq_true rfl) (Nat.le_of_ble_eq_true rfl) (Nat.le_of_ble_eq_true rfl) (t_X12_looks (d := d + 2) q30) (fun r9 h9 q9 => ?_)
            obtain ⟨rfl, rfl⟩ := q9
            refine g_stp (st2 := []) (pc2 := 60) (kc2 := 0) (kn2 := 0) rfl rfl rfl rfl ?_
            refine g_aload_n dX12_wheel_60 rfl ?_
            refine g_iload_n dX12_wheel_61 rfl ?_
            refine g_aload_n dX12_wheel_62 rfl ?_
            replace hf := Option.bind_eq_some_iff.mp hf
            obtain ⟨f31, q32, hf⟩ := hf
            replace hf := gB_of hf
            obtain ⟨v35, h33, q34, hf⟩ := hf
            refine g_callV (as := []) (mc1 := 0) (ms1 := 0) s_X12_56_X12_most_12 dX12_wheel_63 (gO_of q32) rfl (Nat.le_of_ble_eq_true rfl) (Nat.le_of_ble_eq_true rfl) (Nat.le_of_ble_eq_true rfl) (t_X12_most (d := d + 4) q34) (fun r9 h9 q9 => ?_)
            obtain ⟨rfl, rfl⟩ := q9
            refine g_stp (st2 := [.int v35, .int x1, .ref x0]) (pc2 := 66) (kc2 := 0) (kn2 := 0) rfl rfl rfl rfl ?_
            refine g_iconst (v := (0 : Int32)) dX12_wheel_66 (by decide) ?_
            refine g_iconst (v := (0 : Int32)) dX12_wheel_67 (by decide) ?_
            replace hf := Option.bind_eq_some_iff.mp hf
            obtain ⟨f36, q37, hf⟩ := hf
            replace hf := gB_of hf
            obtain ⟨v40, h38, q39, hf⟩ := hf
            refine g_callV (as := [.int x1, .int v35, .int (0 : Int32), .int (0 : Int32)]) (mc1 := 0) (ms1 := 0) s_X12_207_X12_rideOf_12 dX12_wheel_68 (gO_of q37) rfl (Nat.le_of_ble_eq_true rfl) (Nat.le_of_ble_eq_true rfl) (Nat.le_of_ble_eq_true rfl) (t_X12_rideOf (d := d + 0) q39) (fun r9 h9 q9 => ?_)
            obtain ⟨rfl, rfl⟩ := q9
            refine g_stp (st2 := [.int v40]) (pc2 := 71) (kc2 := 0) (kn2 := 0) rfl rfl rfl rfl ?_
            refine g_istore dX12_wheel_71 (by decide) (g_lvp (lv2 := [some (.ref x0), some (.int x1), some (.int x2), some (.int x3), some (.int v40), none, none, none, none, none]) (pc2 := 73) rfl rfl ?_)
            refine g_iconst (v := (-1 : Int32)) dX12_wheel_73 (by decide) ?_
            refine g_istore dX12_wheel_74 (by decide) (g_lvp (lv2 := [some (.ref x0), some (.int x1), some (.int x2), some (.int x3), some (.int v40), some (.int (-1 : Int32)), none, none, none, none]) (pc2 := 76) rfl rfl ?_)
            refine g_iconst (v := (0 : Int32)) dX12_wheel_76 (by decide) ?_
            refine g_istore dX12_wheel_77 (by decide) (g_lvp (lv2 := [some (.ref x0), some (.int x1), some (.int x2), some (.int x3), some (.int v40), some (.int (-1 : Int32)), some (.int (0 : Int32)), none, none, none]) (pc2 := 79) rfl rfl ?_)
            refine g_iconst (v := (0 : Int32)) dX12_wheel_79 (by decide) ?_
            refine g_istore dX12_wheel_80 (by decide) (g_lvp (lv2 := [some (.ref x0), some (.int x1), some (.int x2), some (.int x3), some (.int v40), some (.int (-1 : Int32)), some (.int (0 : Int32)), some (.int (0 : Int32)), none, none]) (pc2 := 82) rfl rfl ?_)
            exact g_X12_wheel_82 hf
          · rw [if_neg c26] at hf
            refine g_bipush (v := (-5 : Int32)) dX12_wheel_50 (by decide) ?_
            obtain ⟨rfl, rfl⟩ := Prod.mk.inj (Option.some.inj hf)
            exact g_iret dX12_wheel_52 rfl ⟨rfl, rfl⟩ (Nat.le_of_ble_eq_true rfl) (Nat.le_of_ble_eq_true rfl)
        · rw [if_pos c20] at hf
          refine g_bipush (v := (-3 : Int32)) dX12_wheel_39 (by decide) ?_
          obtain ⟨rfl, rfl⟩ := Prod.mk.inj (Option.some.inj hf)
          exact g_iret dX12_wheel_41 rfl ⟨rfl, rfl⟩ (Nat.le_of_ble_eq_true rfl) (Nat.le_of_ble_eq_true rfl)
      · rw [if_pos c14] at hf
        refine g_bipush (v := (-2 : Int32)) dX12_wheel_29 (by decide) ?_
        obtain ⟨rfl, rfl⟩ := Prod.mk.inj (Option.some.inj hf)
        exact g_iret dX12_wheel_31 rfl ⟨rfl, rfl⟩ (Nat.le_of_ble_eq_true rfl) (Nat.le_of_ble_eq_true rfl)
    · rw [if_pos c10] at hf
      refine g_weak (lv2 := [none, none, none, none, none, none, none, none, none, none]) (trivial) ?_
      exact g_X12_wheel_17 hf
def F_X12_wheel (n : Nat) (a : Nat) (p0 : Int32) (p1 : Int32) (p2 : Int32) (h : gH) : Option (Int32 × gH) := F_X12_wheel_0 n  a p0 p1 p2 h
theorem t_X12_wheel {n d : Nat} {a : Nat} {p0 : Int32} {p1 : Int32} {p2 : Int32} {h rh : gH} {rv : Int32} (hf : F_X12_wheel n a p0 p1 p2 h = some (rv, rh)) : T M_X12_wheel (d + 6) 0 0 [.ref a, .int p0, .int p1, .int p2] h (qI rv rh) := by
  refine T_of_G (L := 6) (by decide +kernel) rfl (Nat.le_of_ble_eq_true rfl) (g_lv (lv2 := [some (.ref a), some (.int p0), some (.int p1), some (.int p2), none, none, none, none, none, none]) rfl ?_)
  exact g_X12_wheel_0 hf
