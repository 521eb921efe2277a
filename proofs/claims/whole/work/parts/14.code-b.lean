def F_X11_isRideWhat_48 (n : Nat)  (y0 : Int32) (h : gH) : Option (Int32 × gH) :=
  if y0 = 0 ∨ y0 = 1 then some (y0, h) else none
set_option maxRecDepth 20000 in
set_option maxHeartbeats 1600000 in
theorem g_X11_isRideWhat_48 {n d : Nat} : ∀ {y0 : Int32} {h : gH} {rh : gH} {rv : Int32}, F_X11_isRideWhat_48 n y0 h = some (rv, rh) → G M_X11_isRideWhat (d + 1) 0 0 0 0 48 [none, none, none, none] [.int y0] h (qI rv rh) := by
  intro y0 h rh rv hf
  unfold F_X11_isRideWhat_48 at hf
  by_cases c1 : y0 = 0 ∨ y0 = 1
  · rw [if_pos c1] at hf
    obtain ⟨rfl, rfl⟩ := Prod.mk.inj (Option.some.inj hf)
    exact g_zret (ty := .boolean) dX11_isRideWhat_48 rfl (gZ_nar c1) ⟨rfl, rfl⟩ (Nat.le_of_ble_eq_true rfl) (Nat.le_of_ble_eq_true rfl)
  · rw [if_neg c1] at hf; cases hf
def F_X11_isRideWhat_47 (n : Nat)   (h : gH) : Option (Int32 × gH) :=
  F_X11_isRideWhat_48 n (0 : Int32) h
set_option maxRecDepth 20000 in
set_option maxHeartbeats 1600000 in
theorem g_X11_isRideWhat_47 {n d : Nat} : ∀  {h : gH} {rh : gH} {rv : Int32}, F_X11_isRideWhat_47 n  h = some (rv, rh) → G M_X11_isRideWhat (d + 1) 0 0 0 0 47 [none, none, none, none] [] h (qI rv rh) := by
  intro  h rh rv hf
  unfold F_X11_isRideWhat_47 at hf
  refine g_iconst (v := (0 : Int32)) dX11_isRideWhat_47 (by decide) ?_
  exact g_X11_isRideWhat_48 hf
def F_X11_isRideWhat_9 (n : Nat)   (h : gH) : Option (Int32 × gH) :=
  some ((1 : Int32), h)
set_option maxRecDepth 20000 in
set_option maxHeartbeats 1600000 in
theorem g_X11_isRideWhat_9 {n d : Nat} : ∀  {h : gH} {rh : gH} {rv : Int32}, F_X11_isRideWhat_9 n  h = some (rv, rh) → G M_X11_isRideWhat (d + 1) 0 0 0 0 9 [none, none, none, none] [] h (qI rv rh) := by
  intro  h rh rv hf
  unfold F_X11_isRideWhat_9 at hf
  refine g_iconst (v := (1 : Int32)) dX11_isRideWhat_9 (by decide) ?_
  obtain ⟨rfl, rfl⟩ := Prod.mk.inj (Option.some.inj hf)
  exact g_zret (ty := .boolean) dX11_isRideWhat_10 rfl (by decide +kernel) ⟨rfl, rfl⟩ (Nat.le_of_ble_eq_true rfl) (Nat.le_of_ble_eq_true rfl)
def F_X11_isRideWhat_0 (n : Nat)  (x0 : Nat) (x1 : Int32) (x2 : Int32) (h : gH) : Option (Int32 × gH) :=
  if x1 = 0 then
  (F_X11_isRideWhat_9 n h)
  else
  (if x1 = (1 : Int32) then
  (F_X11_isRideWhat_9 n h)
  else
  (if (10 : Int32) ≤ x1 then
  (if (x1 - (10 : Int32)) < x2 then
  (F_X11_isRideWhat_47 n h)
  else
  ((gR h x0 11 0).bind fun v5 =>
  (gR h v5 7 1).bind fun v7 =>
  (gO h v7 6).bind fun f9 =>
  gB (F_X6_has n v7 (x1 - (10 : Int32)) h) fun v13 h11 =>
  if v13 = 0 then
  (F_X11_isRideWhat_47 n h11)
  else
  (F_X11_isRideWhat_48 n (1 : Int32) h11)))
  else
  (some ((0 : Int32), h))))
set_option maxRecDepth 20000 in
set_option maxHeartbeats 1600000 in
theorem g_X11_isRideWhat_0 {n d : Nat} : ∀ {x0 : Nat} {x1 : Int32} {x2 : Int32} {h : gH} {rh : gH} {rv : Int32}, F_X11_isRideWhat_0 n x0 x1 x2 h = some (rv, rh) → G M_X11_isRideWhat (d + 1) 0 0 0 0 0 [some (.ref x0), some (.int x1), some (.int x2), none] [] h (qI rv rh) := by
  intro x0 x1 x2 h rh rv hf
  unfold F_X11_isRideWhat_0 at hf
  refine g_iload_n dX11_isRideWhat_0 rfl ?_
  refine g_if_eq (tgt := 9) dX11_isRideWhat_1 (by decide) (fun c1 => ?_) (fun c1 => ?_)
  · rw [if_pos c1] at hf
    refine g_weak (lv2 := [none, none, none, none]) (trivial) ?_
    exact g_X11_isRideWhat_9 hf
  · rw [if_neg c1] at hf
    refine g_iload_n dX11_isRideWhat_4 rfl ?_
    refine g_iconst (v := (1 : Int32)) dX11_isRideWhat_5 (by decide) ?_
    refine g_icmp_ne (tgt := 11) dX11_isRideWhat_6 (by decide) (fun c2 => ?_) (fun c2 => ?_)
    · rw [if_neg c2] at hf
      refine g_iload_n dX11_isRideWhat_11 rfl ?_
      refine g_bipush (v := (10 : Int32)) dX11_isRideWhat_12 (by decide) ?_
      refine g_icmp_ge (tgt := 19) dX11_isRideWhat_14 (by decide) (fun c3 => ?_) (fun c3 => ?_)
      · rw [if_pos c3] at hf
        refine g_iload_n dX11_isRideWhat_19 rfl ?_
        refine g_bipush (v := (10 : Int32)) dX11_isRideWhat_20 (by decide) ?_
        refine g_isub dX11_isRideWhat_22 ?_
        refine g_istore_n dX11_isRideWhat_23 (by decide) (g_lvp (lv2 := [some (.ref x0), some (.int x1), some (.int x2), some (.int (x1 - (10 : Int32)))]) (pc2 := 24) rfl rfl ?_)
        refine g_iload_n dX11_isRideWhat_24 rfl ?_
        refine g_iload_n dX11_isRideWhat_25 rfl ?_
        refine g_icmp_lt (tgt := 47) dX11_isRideWhat_26 (by decide) (fun c4 => ?_) (fun c4 => ?_)
        · rw [if_pos c4] at hf
          refine g_weak (lv2 := [none, none, none, none]) (trivial) ?_
          exact g_X11_isRideWhat_47 hf
        · rw [if_neg c4] at hf
          refine g_aload_n dX11_isRideWhat_29 rfl ?_
          replace hf := Option.bind_eq_some_iff.mp hf
          obtain ⟨v5, q6, hf⟩ := hf
          refine g_gR f_X11_12 dX11_isRideWhat_30 q6 ?_
          replace hf := Option.bind_eq_some_iff.mp hf
          obtain ⟨v7, q8, hf⟩ := hf
          refine g_gR f_X11_70 dX11_isRideWhat_33 q8 ?_
          refine g_iload_n dX11_isRideWhat_36 rfl ?_
          replace hf := Option.bind_eq_some_iff.mp hf
          obtain ⟨f9, q10, hf⟩ := hf
          replace hf := gB_of hf
          obtain ⟨v13, h11, q12, hf⟩ := hf
          refine g_callV (as := [.int (x1 - (10 : Int32))]) (mc1 := 0) (ms1 := 0) s_X11_86_X6_has_6 dX11_isRideWhat_37 (gO_of q10) rfl (Nat.le_of_ble_eq_true rfl) (Nat.le_of_ble_eq_true rfl) (Nat.le_of_ble_eq_true rfl) (t_X6_has (d := d + 0) q12) (fun r9 h9 q9 => ?_)
          obtain ⟨rfl, rfl⟩ := q9
          refine g_stp (st2 := [.int v13]) (pc2 := 40) (kc2 := 0) (kn2 := 0) rfl rfl rfl rfl ?_
          refine g_if_eq (tgt := 47) dX11_isRideWhat_40 (by decide) (fun c14 => ?_) (fun c14 => ?_)
          · rw [if_pos c14] at hf
            refine g_weak (lv2 := [none, none, none, none]) (trivial) ?_
            exact g_X11_isRideWhat_47 hf
          · rw [if_neg c14] at hf
            refine g_iconst (v := (1 : Int32)) dX11_isRideWhat_43 (by decide) ?_
            refine g_goto (tgt := 48) dX11_isRideWhat_44 (by decide) ?_
            refine g_weak (lv2 := [none, none, none, none]) (trivial) ?_
            exact g_X11_isRideWhat_48 hf
      · rw [if_neg c3] at hf
        refine g_iconst (v := (0 : Int32)) dX11_isRideWhat_17 (by decide) ?_
        obtain ⟨rfl, rfl⟩ := Prod.mk.inj (Option.some.inj hf)
        exact g_zret (ty := .boolean) dX11_isRideWhat_18 rfl (by decide +kernel) ⟨rfl, rfl⟩ (Nat.le_of_ble_eq_true rfl) (Nat.le_of_ble_eq_true rfl)
    · rw [if_pos c2] at hf
      refine g_weak (lv2 := [none, none, none, none]) (trivial) ?_
      exact g_X11_isRideWhat_9 hf
def F_X11_isRideWhat (n : Nat) (a : Nat) (p0 : Int32) (p1 : Int32) (h : gH) : Option (Int32 × gH) := F_X11_isRideWhat_0 n  a p0 p1 h
theorem t_X11_isRideWhat {n d : Nat} {a : Nat} {p0 : Int32} {p1 : Int32} {h rh : gH} {rv : Int32} (hf : F_X11_isRideWhat n a p0 p1 h = some (rv, rh)) : T M_X11_isRideWhat (d + 1) 0 0 [.ref a, .int p0, .int p1] h (qI rv rh) := by
  refine T_of_G (L := 1) (by decide +kernel) rfl (Nat.le_of_ble_eq_true rfl) (g_lv (lv2 := [some (.ref a), some (.int p0), some (.int p1), none]) rfl ?_)
  exact g_X11_isRideWhat_0 hf
def F_X4_secondsFrom_0 (n : Nat)  (x0 : Nat) (x1 : Int32) (x2 : Int32) (h : gH) : Option (Int32 × gH) :=
  (gR h x0 4 2).bind fun v1 =>
  gB (F_X4_spot n x1 x2 h) fun v5 h3 =>
  (aI h3 v1 v5).bind fun v6 =>
  some (v6, h3)
set_option maxRecDepth 20000 in
set_option maxHeartbeats 1600000 in
theorem g_X4_secondsFrom_0 {n d : Nat} : ∀ {x0 : Nat} {x1 : Int32} {x2 : Int32} {h : gH} {rh : gH} {rv : Int32}, F_X4_secondsFrom_0 n x0 x1 x2 h = some (rv, rh) → G M_X4_secondsFrom (d + 1) 0 0 0 0 0 [some (.ref x0), some (.int x1), some (.int x2)] [] h (qI rv rh) := by
  intro x0 x1 x2 h rh rv hf
  unfold F_X4_secondsFrom_0 at hf
  refine g_aload_n dX4_secondsFrom_0 rfl ?_
  replace hf := Option.bind_eq_some_iff.mp hf
  obtain ⟨v1, q2, hf⟩ := hf
  refine g_gR f_X4_18 dX4_secondsFrom_1 q2 ?_
  refine g_iload_n dX4_secondsFrom_4 rfl ?_
  refine g_iload_n dX4_secondsFrom_5 rfl ?_
  replace hf := gB_of hf
  obtain ⟨v5, h3, q4, hf⟩ := hf
  refine g_callS (as := [.int x1, .int x2]) (mc1 := 0) (ms1 := 0) s_X4_64_X4_spot dX4_secondsFrom_6 rfl (Nat.le_of_ble_eq_true rfl) (Nat.le_of_ble_eq_true rfl) (Nat.le_of_ble_eq_true rfl) (t_X4_spot (d := d + 0) q4) (fun r9 h9 q9 => ?_)
  obtain ⟨rfl, rfl⟩ := q9
  refine g_stp (st2 := [.int v5, .ref v1]) (pc2 := 9) (kc2 := 0) (kn2 := 0) rfl rfl rfl rfl ?_
  replace hf := Option.bind_eq_some_iff.mp hf
  obtain ⟨v6, q7, hf⟩ := hf
  refine g_aI dX4_secondsFrom_9 q7 ?_
  obtain ⟨rfl, rfl⟩ := Prod.mk.inj (Option.some.inj hf)
  exact g_iret dX4_secondsFrom_10 rfl ⟨rfl, rfl⟩ (Nat.le_of_ble_eq_true rfl) (Nat.le_of_ble_eq_true rfl)
def F_X4_secondsFrom (n : Nat) (a : Nat) (p0 : Int32) (p1 : Int32) (h : gH) : Option (Int32 × gH) := F_X4_secondsFrom_0 n  a p0 p1 h
theorem t_X4_secondsFrom {n d : Nat} {a : Nat} {p0 : Int32} {p1 : Int32} {h rh : gH} {rv : Int32} (hf : F_X4_secondsFrom n a p0 p1 h = some (rv, rh)) : T M_X4_secondsFrom (d + 1) 0 0 [.ref a, .int p0, .int p1] h (qI rv rh) := by
  refine T_of_G (L := 0) (by decide +kernel) rfl (Nat.le_of_ble_eq_true rfl) (g_lv (lv2 := [some (.ref a), some (.int p0), some (.int p1)]) rfl ?_)
  exact g_X4_secondsFrom_0 hf
def F_X11_mostLost_144 (n : Nat)  (y0 : Int32) (h : gH) : Option (Int32 × gH) :=
  some (y0, h)
set_option maxRecDepth 20000 in
set_option maxHeartbeats 1600000 in
theorem g_X11_mostLost_144 {n d : Nat} : ∀ {y0 : Int32} {h : gH} {rh : gH} {rv : Int32}, F_X11_mostLost_144 n y0 h = some (rv, rh) → G M_X11_mostLost (d + 4) 0 0 0 0 144 [none, none, none, none, none, none, none, none, none, none, none, none] [.int y0] h (qI rv rh) := by
  intro y0 h rh rv hf
  unfold F_X11_mostLost_144 at hf
  obtain ⟨rfl, rfl⟩ := Prod.mk.inj (Option.some.inj hf)
  exact g_iret dX11_mostLost_144 rfl ⟨rfl, rfl⟩ (Nat.le_of_ble_eq_true rfl) (Nat.le_of_ble_eq_true rfl)
def F_X11_mostLost_133 (n : Nat)  (x1 : Int32) (x4 : Int32) (x5 : Int32) (h : gH) : Option (Int32 × gH) :=
  if x1 = 0 then
  (F_X11_mostLost_144 n x4 h)
  else
  (F_X11_mostLost_144 n x5 h)
set_option maxRecDepth 20000 in
set_option maxHeartbeats 1600000 in
theorem g_X11_mostLost_133 {n d : Nat} : ∀ {x1 : Int32} {x4 : Int32} {x5 : Int32} {h : gH} {rh : gH} {rv : Int32}, F_X11_mostLost_133 n x1 x4 x5 h = some (rv, rh) → G M_X11_mostLost (d + 4) 0 0 0 0 133 [none, some (.int x1), none, none, some (.int x4), some (.int x5), none, none, none, none, none, none] [] h (qI rv rh) := by
  intro x1 x4 x5 h rh rv hf
  unfold F_X11_mostLost_133 at hf
  refine g_iload_n dX11_mostLost_133 rfl ?_
  refine g_if_eq (tgt := 142) dX11_mostLost_134 (by decide) (fun c1 => ?_) (fun c1 => ?_)
  · rw [if_pos c1] at hf
    refine g_iload dX11_mostLost_142 rfl ?_
    refine g_weak (lv2 := [none, none, none, none, none, none, none, none, none, none, none, none]) (trivial) ?_
    exact g_X11_mostLost_144 hf
  · rw [if_neg c1] at hf
    refine g_iload dX11_mostLost_137 rfl ?_
    refine g_goto (tgt := 144) dX11_mostLost_139 (by decide) ?_
    refine g_weak (lv2 := [none, none, none, none, none, none, none, none, none, none, none, none]) (trivial) ?_
    exact g_X11_mostLost_144 hf
def F_X11_mostLost_123 (n : Nat) (k29 : Nat → Int32 → Nat → Int32 → Int32 → Int32 → Int32 → Int32 → gH → Option (Int32 × gH)) (x0 : Nat) (x1 : Int32) (x2 : Nat) (x3 : Int32) (x4 : Int32) (x5 : Int32) (x7 : Int32) (x9 : Int32) (h : gH) : Option (Int32 × gH) :=
  k29 x0 x1 x2 x3 x4 x5 x9 (x7 + (1 : Int32)) h
set_option maxRecDepth 20000 in
set_option maxHeartbeats 1600000 in
theorem g_X11_mostLost_123 {n d : Nat} {k29 : Nat → Int32 → Nat → Int32 → Int32 → Int32 → Int32 → Int32 → gH → Option (Int32 × gH)} (t29 : ∀ {x0 : Nat} {x1 : Int32} {x2 : Nat} {x3 : Int32} {x4 : Int32} {x5 : Int32} {x6 : Int32} {x7 : Int32} {h : gH} {rh : gH} {rv : Int32}, k29 x0 x1 x2 x3 x4 x5 x6 x7 h = some (rv, rh) → G M_X11_mostLost (d + 4) 0 0 0 0 29 [some (.ref x0), some (.int x1), some (.ref x2), some (.int x3), some (.int x4), some (.int x5), some (.int x6), some (.int x7), none, none, none, none] [] h (qI rv rh)) : ∀ {x0 : Nat} {x1 : Int32} {x2 : Nat} {x3 : Int32} {x4 : Int32} {x5 : Int32} {x7 : Int32} {x9 : Int32} {h : gH} {rh : gH} {rv : Int32}, F_X11_mostLost_123 n k29 x0 x1 x2 x3 x4 x5 x7 x9 h = some (rv, rh) → G M_X11_mostLost (d + 4) 0 0 0 0 123 [some (.ref x0), some (.int x1), some (.ref x2), some (.int x3), some (.int x4), some (.int x5), none, some (.int x7), none, some (.int x9), none, none] [] h (qI rv rh) := by
  intro x0 x1 x2 x3 x4 x5 x7 x9 h rh rv hf
  unfold F_X11_mostLost_123 at hf
  refine g_iload dX11_mostLost_123 rfl ?_
  refine g_istore dX11_mostLost_125 (by decide) (g_lvp (lv2 := [some (.ref x0), some (.int x1), some (.ref x2), some (.int x3), some (.int x4), some (.int x5), some (.int x9), some (.int x7), none, some (.int x9), none, none]) (pc2 := 127) rfl rfl ?_)
  refine g_iinc2 (w := (1 : Int32)) dX11_mostLost_127 (by decide) rfl (by decide) (g_lvp (lv2 := [some (.ref x0), some (.int x1), some (.ref x2), some (.int x3), some (.int x4), some (.int x5), some (.int x9), some (.int (x7 + (1 : Int32))), none, some (.int x9), none, none]) (pc2 := 130) rfl rfl ?_)
  refine g_goto (tgt := 29) dX11_mostLost_130 (by decide) ?_
  refine g_weak (lv2 := [some (.ref x0), some (.int x1), some (.ref x2), some (.int x3), some (.int x4), some (.int x5), some (.int x9), some (.int (x7 + (1 : Int32))), none, none, none, none]) (And.intro rfl (And.intro rfl (And.intro rfl (And.intro rfl (And.intro rfl (And.intro rfl (And.intro rfl (And.intro rfl (trivial))))))))) ?_
  exact t29 hf
def F_X11_mostLost_29 (n : Nat)  : Nat → Nat → Int32 → Nat → Int32 → Int32 → Int32 → Int32 → Int32 → gH → Option (Int32 × gH)
  | 0, _, _, _, _, _, _, _, _, _ => none
  | m + 1, x0, x1, x2, x3, x4, x5, x6, x7, h => if x3 ≤ x7 then
  (F_X11_mostLost_133 n x1 x4 x5 h)
  else
  ((gR h x0 11 0).bind fun v2 =>
  (gO h v2 7).bind fun f4 =>
  gB (F_X7_rowEffort n v2 x7 h) fun v8 h6 =>
  (gO h6 x2 6).bind fun f9 =>
  gB (F_X6_behind n x2 x7 v8 x6 h6) fun v13 h11 =>
  if 0 ≤ v13 then
  ((gO h11 x2 6).bind fun f15 =>
  gB (F_X6_seconds n x2 x7 v8 x6 h11) fun v19 h17 =>
  (gR h17 x0 11 3).bind fun v20 =>
  (gO h17 v20 4).bind fun f22 =>
  gB (F_X4_secondsFrom n v20 (x7 + (1 : Int32)) v13 h17) fun v26 h24 =>
  (gR h24 x0 11 3).bind fun v27 =>
  (gO h24 v27 4).bind fun f29 =>
  gB (F_X4_secondsFrom n v27 x7 x6 h24) fun v33 h31 =>
  if ((v19 + v26) - v33) ≤ x4 then
  (F_X11_mostLost_123 n (F_X11_mostLost_29 n m) x0 x1 x2 x3 x4 x5 x7 v13 h31)
  else
  (F_X11_mostLost_123 n (F_X11_mostLost_29 n m) x0 x1 x2 x3 ((v19 + v26) - v33) x7 x7 v13 h31))
  else
  (F_X11_mostLost_133 n x1 x4 x5 h11))
set_option maxRecDepth 20000 in
set_option maxHeartbeats 1600000 in
theorem g_X11_mostLost_29 {n d : Nat} : ∀ {m : Nat} {x0 : Nat} {x1 : Int32} {x2 : Nat} {x3 : Int32} {x4 : Int32} {x5 : Int32} {x6 : Int32} {x7 : Int32} {h : gH} {rh : gH} {rv : Int32}, F_X11_mostLost_29 n m x0 x1 x2 x3 x4 x5 x6 x7 h = some (rv, rh) → G M_X11_mostLost (d + 4) 0 0 0 0 29 [some (.ref x0), some (.int x1), some (.ref x2), some (.int x3), some (.int x4), some (.int x5), some (.int x6), some (.int x7), none, none, none, none] [] h (qI rv rh) := by
  intro m
  induction m with
  | zero => intro x0 x1 x2 x3 x4 x5 x6 x7 h rh rv hf; cases hf
  | succ m t29 =>
    intro x0 x1 x2 x3 x4 x5 x6 x7 h rh rv hf
    unfold F_X11_mostLost_29 at hf
    refine g_iload dX11_mostLost_29 rfl ?_
    refine g_iload_n dX11_mostLost_31 rfl ?_
    refine g_icmp_ge (tgt := 133) dX11_mostLost_32 (by decide) (fun c1 => ?_) (fun c1 => ?_)
    · rw [if_pos c1] at hf
      refine g_weak (lv2 := [none, some (.int x1), none, none, some (.int x4), some (.int x5), none, none, none, none, none, none]) (And.intro rfl (And.intro rfl (And.intro rfl (trivial)))) ?_
      exact g_X11_mostLost_133 hf
    · rw [if_neg c1] at hf
      refine g_aload_n dX11_mostLost_35 rfl ?_
      replace hf := Option.bind_eq_some_iff.mp hf
      obtain ⟨v2, q3, hf⟩ := hf
      refine g_gR f_X11_12 dX11_mostLost_36 q3 ?_
      refine g_iload dX11_mostLost_39 rfl ?_
      replace hf := Option.bind_eq_some_iff.mp hf
      obtain ⟨f4, q5, hf⟩ := hf
      replace hf := gB_of hf
      obtain ⟨v8, h6, q7, hf⟩ := hf
      refine g_callV (as := [.int x7]) (mc1 := 0) (ms1 := 0) s_X11_297_X7_rowEffort_7 dX11_mostLost_41 (gO_of q5) rfl (Nat.le_of_ble_eq_true rfl) (Nat.le_of_ble_eq_true rfl) (Nat.le_of_ble_eq_true rfl) (t_X7_rowEffort (d := d + 3) q7) (fun r9 h9 q9 => ?_)
      obtain ⟨rfl, rfl⟩ := q9
      refine g_stp (st2 := [.int v8]) (pc2 := 44) (kc2 := 0) (kn2 := 0) rfl rfl rfl rfl ?_
      refine g_istore dX11_mostLost_44 (by decide) (g_lvp (lv2 := [some (.ref x0), some (.int x1), some (.ref x2), some (.int x3), some (.int x4), some (.int x5), some (.int x6), some (.int x7), some (.int v8), none, none, none]) (pc2 := 46) rfl rfl ?_)
      refine g_aload_n dX11_mostLost_46 rfl ?_
      refine g_iload dX11_mostLost_47 rfl ?_
      refine g_iload dX11_mostLost_49 rfl ?_
      refine g_iload dX11_mostLost_51 rfl ?_
      replace hf := Option.bind_eq_some_iff.mp hf
      obtain ⟨f9, q10, hf⟩ := hf
      replace hf := gB_of hf
      obtain ⟨v13, h11, q12, hf⟩ := hf
      refine g_callV (as := [.int x7, .int v8, .int x6]) (mc1 := 0) (ms1 := 0) s_X11_130_X6_behind_6 dX11_mostLost_53 (gO_of q10) rfl (Nat.le_of_ble_eq_true rfl) (Nat.le_of_ble_eq_true rfl) (Nat.le_of_ble_eq_true rfl) (t_X6_behind (d := d + 1) q12) (fun r9 h9 q9 => ?_)
      obtain ⟨rfl, rfl⟩ := q9
      refine g_stp (st2 := [.int v13]) (pc2 := 56) (kc2 := 0) (kn2 := 0) rfl rfl rfl rfl ?_
      refine g_istore dX11_mostLost_56 (by decide) (g_lvp (lv2 := [some (.ref x0), some (.int x1), some (.ref x2), some (.int x3), some (.int x4), some (.int x5), some (.int x6), some (.int x7), some (.int v8), some (.int v13), none, none]) (pc2 := 58) rfl rfl ?_)
      refine g_iload dX11_mostLost_58 rfl ?_
      refine g_if_ge (tgt := 66) dX11_mostLost_60 (by decide) (fun c14 => ?_) (fun c14 => ?_)
      · rw [if_pos c14] at hf
        refine g_aload_n dX11_mostLost_66 rfl ?_
        refine g_iload dX11_mostLost_67 rfl ?_
        refine g_iload dX11_mostLost_69 rfl ?_
        refine g_iload dX11_mostLost_71 rfl ?_
        replace hf := Option.bind_eq_some_iff.mp hf
        obtain ⟨f15, q16, hf⟩ := hf
        replace hf := gB_of hf
        obtain ⟨v19, h17, q18, hf⟩ := hf
        refine g_callV (as := [.int x7, .int v8, .int x6]) (mc1 := 0) (ms1 := 0) s_X11_127_X6_seconds_6 dX11_mostLost_73 (gO_of q16) rfl (Nat.le_of_ble_eq_true rfl) (Nat.le_of_ble_eq_true rfl) (Nat.le_of_ble_eq_true rfl) (t_X6_seconds (d := d + 0) q18) (fun r9 h9 q9 => ?_)
        obtain ⟨rfl, rfl⟩ := q9
        refine g_stp (st2 := [.int v19]) (pc2 := 76) (kc2 := 0) (kn2 := 0) rfl rfl rfl rfl ?_
        refine g_aload_n dX11_mostLost_76 rfl ?_
        replace hf := Option.bind_eq_some_iff.mp hf
        obtain ⟨v20, q21, hf⟩ := hf
        refine g_gR f_X11_31 dX11_mostLost_77 q21 ?_
        refine g_iload dX11_mostLost_80 rfl ?_
        refine g_iconst (v := (1 : Int32)) dX11_mostLost_82 (by decide) ?_
        refine g_iadd dX11_mostLost_83 ?_
        refine g_iload dX11_mostLost_84 rfl ?_
        replace hf := Option.bind_eq_some_iff.mp hf
        obtain ⟨f22, q23, hf⟩ := hf
        replace hf := gB_of hf
        obtain ⟨v26, h24, q25, hf⟩ := hf
        refine g_callV (as := [.int (x7 + (1 : Int32)), .int v13]) (mc1 := 0) (ms1 := 0) s_X11_178_X4_secondsFrom_4 dX11_mostLost_86 (gO_of q23) rfl (Nat.le_of_ble_eq_true rfl) (Nat.le_of_ble_eq_true rfl) (Nat.le_of_ble_eq_true rfl) (t_X4_secondsFrom (d := d + 2) q25) (fun r9 h9 q9 => ?_)
        obtain ⟨rfl, rfl⟩ := q9
        refine g_stp (st2 := [.int v26, .int v19]) (pc2 := 89) (kc2 := 0) (kn2 := 0) rfl rfl rfl rfl ?_
        refine g_iadd dX11_mostLost_89 ?_
        refine g_istore dX11_mostLost_90 (by decide) (g_lvp (lv2 := [some (.ref x0), some (.int x1), some (.ref x2), some (.int x3), some (.int x4), some (.int x5), some (.int x6), some (.int x7), some (.int v8), some (.int v13), some (.int (v19 + v26)), none]) (pc2 := 92) rfl rfl ?_)
        refine g_iload dX11_mostLost_92 rfl ?_
        refine g_aload_n dX11_mostLost_94 rfl ?_
        replace hf := Option.bind_eq_some_iff.mp hf
        obtain ⟨v27, q28, hf⟩ := hf
        refine g_gR f_X11_31 dX11_mostLost_95 q28 ?_
        refine g_iload dX11_mostLost_98 rfl ?_
        refine g_iload dX11_mostLost_100 rfl ?_
        replace hf := Option.bind_eq_some_iff.mp hf
        obtain ⟨f29, q30, hf⟩ := hf
        replace hf := gB_of hf
        obtain ⟨v33, h31, q32, hf⟩ := hf
        refine g_callV (as := [.int x7, .int x6]) (mc1 := 0) (ms1 := 0) s_X11_178_X4_secondsFrom_4 dX11_mostLost_102 (gO_of q30) rfl (Nat.le_of_ble_eq_true rfl) (Nat.le_of_ble_eq_true rfl) (Nat.le_of_ble_eq_true rfl) (t_X4_secondsFrom (d := d + 2) q32) (fun r9 h9 q9 => ?_)
        obtain ⟨rfl, rfl⟩ := q9
        refine g_stp (st2 := [.int v33, .int (v19 + v26)]) (pc2 := 105) (kc2 := 0) (kn2 := 0) rfl rfl rfl rfl ?_
        refine g_isub dX11_mostLost_105 ?_
        refine g_istore dX11_mostLost_106 (by decide) (g_lvp (lv2 := [some (.ref x0), some (.int x1), some (.ref x2), some (.int x3), some (.int x4), some (.int x5), some (.int x6), some (.int x7), some (.int v8), some (.int v13), some (.int (v19 + v26)), some (.int ((v19 + v26) - v33))]) (pc2 := 108) rfl rfl ?_)
        refine g_iload dX11_mostLost_108 rfl ?_
        refine g_iload dX11_mostLost_110 rfl ?_
        refine g_icmp_le (tgt := 123) dX11_mostLost_112 (by decide) (fun c34 => ?_) (fun c34 => ?_)
        · rw [if_pos c34] at hf
          refine g_weak (lv2 := [some (.ref x0), some (.int x1), some (.ref x2), some (.int x3), some (.int x4), some (.int x5), none, some (.int x7), none, some (.int v13), none, none]) (And.intro rfl (And.intro rfl (And.intro rfl (And.intro rfl (And.intro rfl (And.intro rfl (And.intro rfl (And.intro rfl (trivial))))))))) ?_
          exact g_X11_mostLost_123 t29 hf
        · rw [if_neg c34] at hf
          refine g_iload dX11_mostLost_115 rfl ?_
          refine g_istore dX11_mostLost_117 (by decide) (g_lvp (lv2 := [some (.ref x0), some (.int x1), some (.ref x2), some (.int x3), some (.int ((v19 + v26) - v33)), some (.int x5), some (.int x6), some (.int x7), some (.int v8), some (.int v13), some (.int (v19 + v26)), some (.int ((v19 + v26) - v33))]) (pc2 := 119) rfl rfl ?_)
          refine g_iload dX11_mostLost_119 rfl ?_
          refine g_istore dX11_mostLost_121 (by decide) (g_lvp (lv2 := [some (.ref x0), some (.int x1), some (.ref x2), some (.int x3), some (.int ((v19 + v26) - v33)), some (.int x7), some (.int x6), some (.int x7), some (.int v8), some (.int v13), some (.int (v19 + v26)), some (.int ((v19 + v26) - v33))]) (pc2 := 123) rfl rfl ?_)
          refine g_weak (lv2 := [some (.ref x0), some (.int x1), some (.ref x2), some (.int x3), some (.int ((v19 + v26) - v33)), some (.int x7), none, some (.int x7), none, some (.int v13), none, none]) (And.intro rfl (And.intro rfl (And.intro rfl (And.intro rfl (And.intro rfl (And.intro rfl (And.intro rfl (And.intro rfl (trivial))))))))) ?_
          exact g_X11_mostLost_123 t29 hf
      · rw [if_neg c14] at hf
        refine g_goto (tgt := 133) dX11_mostLost_63 (by decide) ?_
        refine g_weak (lv2 := [none, some (.int x1), none, none, some (.int x4), some (.int x5), none, none, none, none, none, none]) (And.intro rfl (And.intro rfl (And.intro rfl (trivial)))) ?_
        exact g_X11_mostLost_133 hf
def F_X11_mostLost_0 (n : Nat)  (x0 : Nat) (x1 : Int32) (h : gH) : Option (Int32 × gH) :=
  (gR h x0 11 0).bind fun v1 =>
  (gR h v1 7 1).bind fun v3 =>
  (gO h x0 11).bind fun f5 =>
  gB (F_X11_countedRow n x0  h) fun v9 h7 =>
  (gI h7 v3 6 12).bind fun v10 =>
  F_X11_mostLost_29 n n x0 x1 v3 v9 (0 : Int32) (-5 : Int32) v10 (0 : Int32) h7
set_option maxRecDepth 20000 in
set_option maxHeartbeats 1600000 in
theorem g_X11_mostLost_0 {n d : Nat} : ∀ {x0 : Nat} {x1 : Int32} {h : gH} {rh : gH} {rv : Int32}, F_X11_mostLost_0 n x0 x1 h = some (rv, rh) → G M_X11_mostLost (d + 4) 0 0 0 0 0 [some (.ref x0), some (.int x1), none, none, none, none, none, none, none, none, none, none] [] h (qI rv rh) := by
  intro x0 x1 h rh rv hf
  unfold F_X11_mostLost_0 at hf
  refine g_aload_n dX11_mostLost_0 rfl ?_
  replace hf := Option.bind_eq_some_iff.mp hf
  obtain ⟨v1, q2, hf⟩ := hf
  refine g_gR f_X11_12 dX11_mostLost_1 q2 ?_
  replace hf := Option.bind_eq_some_iff.mp hf
  obtain ⟨v3, q4, hf⟩ := hf
  refine g_gR f_X11_70 dX11_mostLost_4 q4 ?_
  refine g_astore_n dX11_mostLost_7 (by decide) (g_lvp (lv2 := [some (.ref x0), some (.int x1), some (.ref v3), none, none, none, none, none, none, none, none, none]) (pc2 := 8) rfl rfl ?_)
  refine g_aload_n dX11_mostLost_8 rfl ?_
  replace hf := Option.bind_eq_some_iff.mp hf
  obtain ⟨f5, q6, hf⟩ := hf
  replace hf := gB_of hf
  obtain ⟨v9, h7, q8, hf⟩ := hf
  refine g_callV (as := []) (mc1 := 0) (ms1 := 0) s_X11_294_X11_countedRow_11 dX11_mostLost_9 (gO_of q6) rfl (Nat.le_of_ble_eq_true rfl) (Nat.le_of_ble_eq_true rfl) (Nat.le_of_ble_eq_true rfl) (t_X11_countedRow (d := d + 2) q8) (fun r9 h9 q9 => ?_)
  obtain ⟨rfl, rfl⟩ := q9
  refine g_stp (st2 := [.int v9]) (pc2 := 12) (kc2 := 0) (kn2 := 0) rfl rfl rfl rfl ?_
  refine g_istore_n dX11_mostLost_12 (by decide) (g_lvp (lv2 := [some (.ref x0), some (.int x1), some (.ref v3), some (.int v9), none, none, none, none, none, none, none, none]) (pc2 := 13) rfl rfl ?_)
  refine g_iconst (v := (0 : Int32)) dX11_mostLost_13 (by decide) ?_
  refine g_istore dX11_mostLost_14 (by decide) (g_lvp (lv2 := [some (.ref x0), some (.int x1), some (.ref v3), some (.int v9), some (.int (0 : Int32)), none, none, none, none, none, none, none]) (pc2 := 16) rfl rfl ?_)
  refine g_bipush (v := (-5 : Int32)) dX11_mostLost_16 (by decide) ?_
  refine g_istore dX11_mostLost_18 (by decide) (g_lvp (lv2 := [some (.ref x0), some (.int x1), some (.ref v3), some (.int v9), some (.int (0 : Int32)), some (.int (-5 : Int32)), none, none, none, none, none, none]) (pc2 := 20) rfl rfl ?_)
  refine g_aload_n dX11_mostLost_20 rfl ?_
  replace hf := Option.bind_eq_some_iff.mp hf
  obtain ⟨v10, q11, hf⟩ := hf
  refine g_gI f_X11_108 dX11_mostLost_21 q11 ?_
  refine g_istore dX11_mostLost_24 (by decide) (g_lvp (lv2 := [some (.ref x0), some (.int x1), some (.ref v3), some (.int v9), some (.int (0 : Int32)), some (.int (-5 : Int32)), some (.int v10), none, none, none, none, none]) (pc2 := 26) rfl rfl ?_)
  refine g_iconst (v := (0 : Int32)) dX11_mostLost_26 (by decide) ?_
  refine g_istore dX11_mostLost_27 (by decide) (g_lvp (lv2 := [some (.ref x0), some (.int x1), some (.ref v3), some (.int v9), some (.int (0 : Int32)), some (.int (-5 : Int32)), some (.int v10), some (.int (0 : Int32)), none, none, none, none]) (pc2 := 29) rfl rfl ?_)
  exact g_X11_mostLost_29 hf
def F_X11_mostLost (n : Nat) (a : Nat) (p0 : Int32) (h : gH) : Option (Int32 × gH) := F_X11_mostLost_0 n  a p0 h
theorem t_X11_mostLost {n d : Nat} {a : Nat} {p0 : Int32} {h rh : gH} {rv : Int32} (hf : F_X11_mostLost n a p0 h = some (rv, rh)) : T M_X11_mostLost (d + 4) 0 0 [.ref a, .int p0] h (qI rv rh) := by
  refine T_of_G (L := 10) (by decide +kernel) rfl (Nat.le_of_ble_eq_true rfl) (g_lv (lv2 := [some (.ref a), some (.int p0), none, none, none, none, none, none, none, none, none, none]) rfl ?_)
  exact g_X11_mostLost_0 hf
def F_X11_judged_55 (n : Nat)  (y0 : Nat) (y1 : Int32) (h : gH) : Option (Int32 × gH) :=
  (gO h y0 11).bind fun f1 =>
  gB (F_X11_mostLost n y0 y1 h) fun v5 h3 =>
  some (v5, h3)
set_option maxRecDepth 20000 in
set_option maxHeartbeats 1600000 in
theorem g_X11_judged_55 {n d : Nat} : ∀ {y0 : Nat} {y1 : Int32} {h : gH} {rh : gH} {rv : Int32}, F_X11_judged_55 n y0 y1 h = some (rv, rh) → G M_X11_judged (d + 6) 0 0 0 0 55 [none, none] [.int y1, .ref y0] h (qI rv rh) := by
  intro y0 y1 h rh rv hf
  unfold F_X11_judged_55 at hf
  replace hf := Option.bind_eq_some_iff.mp hf
  obtain ⟨f1, q2, hf⟩ := hf
  replace hf := gB_of hf
  obtain ⟨v5, h3, q4, hf⟩ := hf
  refine g_callV (as := [.int y1]) (mc1 := 0) (ms1 := 0) s_X11_200_X11_mostLost_11 dX11_judged_55 (gO_of q2) rfl (Nat.le_of_ble_eq_true rfl) (Nat.le_of_ble_eq_true rfl) (Nat.le_of_ble_eq_true rfl) (t_X11_mostLost (d := d + 1) q4) (fun r9 h9 q9 => ?_)
  obtain ⟨rfl, rfl⟩ := q9
  refine g_stp (st2 := [.int v5]) (pc2 := 58) (kc2 := 0) (kn2 := 0) rfl rfl rfl rfl ?_
  obtain ⟨rfl, rfl⟩ := Prod.mk.inj (Option.some.inj hf)
  exact g_iret dX11_judged_58 rfl ⟨rfl, rfl⟩ (Nat.le_of_ble_eq_true rfl) (Nat.le_of_ble_eq_true rfl)
def F_X11_judged_9 (n : Nat)   (h : gH) : Option (Int32 × gH) :=
  some ((-1 : Int32), h)
set_option maxRecDepth 20000 in
set_option maxHeartbeats 1600000 in
theorem g_X11_judged_9 {n d : Nat} : ∀  {h : gH} {rh : gH} {rv : Int32}, F_X11_judged_9 n  h = some (rv, rh) → G M_X11_judged (d + 6) 0 0 0 0 9 [none, none] [] h (qI rv rh) := by
  intro  h rh rv hf
  unfold F_X11_judged_9 at hf
  refine g_iconst (v := (-1 : Int32)) dX11_judged_9 (by decide) ?_
  obtain ⟨rfl, rfl⟩ := Prod.mk.inj (Option.some.inj hf)
  exact g_iret dX11_judged_10 rfl ⟨rfl, rfl⟩ (Nat.le_of_ble_eq_true rfl) (Nat.le_of_ble_eq_true rfl)
def F_X11_judged_0 (n : Nat)  (x0 : Nat) (x1 : Int32) (h : gH) : Option (Int32 × gH) :=
  if x1 < 0 then
  (F_X11_judged_9 n h)
  else
  (if x1 ≤ (3 : Int32) then
  ((gR h x0 11 3).bind fun v3 =>
  (gR h x0 11 0).bind fun v5 =>
  (gR h v5 7 1).bind fun v7 =>
  (gO h v3 4).bind fun f9 =>
  (F_X4_prepare n v3 v7 h).bind fun h11 =>
  if x1 = 0 then
  ((gO h11 x0 11).bind fun f21 =>
  gB (F_X11_firstThatCannotBe n x0  h11) fun v25 h23 =>
  some (v25, h23))
  else
  (if x1 = (1 : Int32) then
  ((gO h11 x0 11).bind fun f16 =>
  gB (F_X11_firstEmpty n x0  h11) fun v20 h18 =>
  some (v20, h18))
  else
  (if x1 = (2 : Int32) then
  (F_X11_judged_55 n x0 (1 : Int32) h11)
  else
  (F_X11_judged_55 n x0 (0 : Int32) h11))))
  else
  (F_X11_judged_9 n h))
set_option maxRecDepth 20000 in
set_option maxHeartbeats 1600000 in
theorem g_X11_judged_0 {n d : Nat} : ∀ {x0 : Nat} {x1 : Int32} {h : gH} {rh : gH} {rv : Int32}, F_X11_judged_0 n x0 x1 h = some (rv, rh) → G M_X11_judged (d + 6) 0 0 0 0 0 [some (.ref x0), some (.int x1)] [] h (qI rv rh) := by
  intro x0 x1 h rh rv hf
  unfold F_X11_judged_0 at hf
  refine g_iload_n dX11_judged_0 rfl ?_
  refine g_if_lt (tgt := 9) dX11_judged_1 (by decide) (fun c1 => ?_) (fun c1 => ?_)
  · rw [if_pos c1] at hf
    refine g_weak (lv2 := [none, none]) (trivial) ?_
    exact g_X11_judged_9 hf
  · rw [if_neg c1] at hf
    refine g_iload_n dX11_judged_4 rfl ?_
    refine g_iconst (v := (3 : Int32)) dX11_judged_5 (by decide) ?_
    refine g_icmp_le (tgt := 11) dX11_judged_6 (by decide) (fun c2 => ?_) (fun c2 => ?_)
    · rw [if_pos c2] at hf
      refine g_aload_n dX11_judged_11 rfl ?_
      replace hf := Option.bind_eq_some_iff.mp hf
      obtain ⟨v3, q4, hf⟩ := hf
      refine g_gR f_X11_31 dX11_judged_12 q4 ?_
      refine g_aload_n dX11_judged_15 rfl ?_
      replace hf := Option.bind_eq_some_iff.mp hf
      obtain ⟨v5, q6, hf⟩ := hf
      refine g_gR f_X11_12 dX11_judged_16 q6 ?_
      replace hf := Option.bind_eq_some_iff.mp hf
      obtain ⟨v7, q8, hf⟩ := hf
      refine g_gR f_X11_70 dX11_judged_19 q8 ?_
      replace hf := Option.bind_eq_some_iff.mp hf
      obtain ⟨f9, q10, hf⟩ := hf
      replace hf := Option.bind_eq_some_iff.mp hf
      obtain ⟨h11, q12, hf⟩ := hf
      refine g_callV (as := [.ref v7]) (mc1 := 0) (ms1 := 0) s_X11_158_X4_prepare_4 dX11_judged_22 (gO_of q10) rfl (Nat.le_of_ble_eq_true rfl) (Nat.le_of_ble_eq_true rfl) (Nat.le_of_ble_eq_true rfl) (t_X4_prepare (d := d + 0) q12) (fun r9 h9 q9 => ?_)
      obtain ⟨rfl, rfl⟩ := q9
      refine g_stp (st2 := []) (pc2 := 25) (kc2 := 0) (kn2 := 0) rfl rfl rfl rfl ?_
      refine g_iload_n dX11_judged_25 rfl ?_
      refine g_if_ne (tgt := 34) dX11_judged_26 (by decide) (fun c13 => ?_) (fun c13 => ?_)
      · rw [if_neg c13] at hf
        refine g_iload_n dX11_judged_34 rfl ?_
        refine g_iconst (v := (1 : Int32)) dX11_judged_35 (by decide) ?_
        refine g_icmp_ne (tgt := 44) dX11_judged_36 (by decide) (fun c14 => ?_) (fun c14 => ?_)
        · rw [if_neg c14] at hf
          refine g_aload_n dX11_judged_44 rfl ?_
          refine g_iload_n dX11_judged_45 rfl ?_
          refine g_iconst (v := (2 : Int32)) dX11_judged_46 (by decide) ?_
          refine g_icmp_ne (tgt := 54) dX11_judged_47 (by decide) (fun c15 => ?_) (fun c15 => ?_)
          · rw [if_neg c15] at hf
            refine g_iconst (v := (0 : Int32)) dX11_judged_54 (by decide) ?_
            refine g_weak (lv2 := [none, none]) (trivial) ?_
            exact g_X11_judged_55 hf
          · rw [if_pos c15] at hf
            refine g_iconst (v := (1 : Int32)) dX11_judged_50 (by decide) ?_
            refine g_goto (tgt := 55) dX11_judged_51 (by decide) ?_
            refine g_weak (lv2 := [none, none]) (trivial) ?_
            exact g_X11_judged_55 hf
        · rw [if_pos c14] at hf
          refine g_aload_n dX11_judged_39 rfl ?_
          replace hf := Option.bind_eq_some_iff.mp hf
          obtain ⟨f16, q17, hf⟩ := hf
          replace hf := gB_of hf
          obtain ⟨v20, h18, q19, hf⟩ := hf
          refine g_callV (as := []) (mc1 := 0) (ms1 := 0) s_X11_197_X11_firstEmpty_11 dX11_judged_40 (gO_of q17) rfl (Nat.le_of_ble_eq_true rfl) (Nat.le_of_ble_eq_true rfl) (Nat.le_of_ble_eq_true rfl) (t_X11_firstEmpty (d := d + 2) q19) (fun r9 h9 q9 => ?_)
          obtain ⟨rfl, rfl⟩ := q9
          refine g_stp (st2 := [.int v20]) (pc2 := 43) (kc2 := 0) (kn2 := 0) rfl rfl rfl rfl ?_
          obtain ⟨rfl, rfl⟩ := Prod.mk.inj (Option.some.inj hf)
          exact g_iret dX11_judged_43 rfl ⟨rfl, rfl⟩ (Nat.le_of_ble_eq_true rfl) (Nat.le_of_ble_eq_true rfl)
      · rw [if_pos c13] at hf
        refine g_aload_n dX11_judged_29 rfl ?_
        replace hf := Option.bind_eq_some_iff.mp hf
        obtain ⟨f21, q22, hf⟩ := hf
        replace hf := gB_of hf
        obtain ⟨v25, h23, q24, hf⟩ := hf
        refine g_callV (as := []) (mc1 := 0) (ms1 := 0) s_X11_193_X11_firstThatCannotBe_11 dX11_judged_30 (gO_of q22) rfl (Nat.le_of_ble_eq_true rfl) (Nat.le_of_ble_eq_true rfl) (Nat.le_of_ble_eq_true rfl) (t_X11_firstThatCannotBe (d := d + 2) q24) (fun r9 h9 q9 => ?_)
        obtain ⟨rfl, rfl⟩ := q9
        refine g_stp (st2 := [.int v25]) (pc2 := 33) (kc2 := 0) (kn2 := 0) rfl rfl rfl rfl ?_
        obtain ⟨rfl, rfl⟩ := Prod.mk.inj (Option.some.inj hf)
        exact g_iret dX11_judged_33 rfl ⟨rfl, rfl⟩ (Nat.le_of_ble_eq_true rfl) (Nat.le_of_ble_eq_true rfl)
    · rw [if_neg c2] at hf
      refine g_weak (lv2 := [none, none]) (trivial) ?_
      exact g_X11_judged_9 hf
def F_X11_judged (n : Nat) (a : Nat) (p0 : Int32) (h : gH) : Option (Int32 × gH) := F_X11_judged_0 n  a p0 h
theorem t_X11_judged {n d : Nat} {a : Nat} {p0 : Int32} {h rh : gH} {rv : Int32} (hf : F_X11_judged n a p0 h = some (rv, rh)) : T M_X11_judged (d + 6) 0 0 [.ref a, .int p0] h (qI rv rh) := by
  refine T_of_G (L := 0) (by decide +kernel) rfl (Nat.le_of_ble_eq_true rfl) (g_lv (lv2 := [some (.ref a), some (.int p0)]) rfl ?_)
  exact g_X11_judged_0 hf
def F_X11_laps_0 (n : Nat)  (x0 : Nat) (x1 : Int32) (h : gH) : Option (Int32 × gH) :=
  (gR h x0 11 0).bind fun v1 =>
  (gO h v1 7).bind fun f3 =>
  gB (F_X7_find n v1 x1 h) fun v7 h5 =>
  if v7 = none then
  (some ((-10001 : Int32), h5))
  else
  ((gR h5 x0 11 0).bind fun v9 =>
  (gR h5 v9 7 1).bind fun v11 =>
  (gI h5 v11 6 8).bind fun v13 =>
  if v13 = 0 then
  (some ((-10002 : Int32), h5))
  else
  ((gR h5 x0 11 3).bind fun v16 =>
  (gR h5 x0 11 0).bind fun v18 =>
  (gR h5 v18 7 1).bind fun v20 =>
  (gO h5 v16 4).bind fun f22 =>
  (F_X4_prepare n v16 v20 h5).bind fun h24 =>
  (v7).bind fun a26 =>
  (gO h24 x0 11).bind fun f28 =>
  (F_X11_go n x0 a26 h24).bind fun h30 =>
  (gI h30 x0 11 8).bind fun v32 =>
  (gI h30 x0 11 9).bind fun v34 =>
  (gO h30 x0 11).bind fun f36 =>
  (F_X11_goFrom n x0 a26 v34 (0 : Int32) (0 : Int32) h30).bind fun h38 =>
  (gI h38 x0 11 8).bind fun v40 =>
  some ((v40 - v32), h38)))
set_option maxRecDepth 20000 in
set_option maxHeartbeats 1600000 in
theorem g_X11_laps_0 {n d : Nat} : ∀ {x0 : Nat} {x1 : Int32} {h : gH} {rh : gH} {rv : Int32}, F_X11_laps_0 n x0 x1 h = some (rv, rh) → G M_X11_laps (d + 6) 0 0 0 0 0 [some (.ref x0), some (.int x1), none, none] [] h (qI rv rh) := by
  intro x0 x1 h rh rv hf
  unfold F_X11_laps_0 at hf
  refine g_aload_n dX11_laps_0 rfl ?_
  replace hf := Option.bind_eq_some_iff.mp hf
  obtain ⟨v1, q2, hf⟩ := hf
  refine g_gR f_X11_12 dX11_laps_1 q2 ?_
  refine g_iload_n dX11_laps_4 rfl ?_
  replace hf := Option.bind_eq_some_iff.mp hf
  obtain ⟨f3, q4, hf⟩ := hf
  replace hf := gB_of hf
  obtain ⟨v7, h5, q6, hf⟩ := hf
  refine g_callV (as := [.int x1]) (mc1 := 0) (ms1 := 0) s_X11_144_X7_find_7 dX11_laps_5 (gO_of q4) rfl (Nat.le_of_ble_eq_true rfl) (Nat.le_of_ble_eq_true rfl) (Nat.le_of_ble_eq_true rfl) (t_X7_find (d := d + 5) q6) (fun r9 h9 q9 => ?_)
  obtain ⟨rfl, rfl⟩ := q9
  refine g_stp (st2 := [va_rf v7]) (pc2 := 8) (kc2 := 0) (kn2 := 0) rfl rfl rfl rfl ?_
  refine g_astore_q (r := v7) dX11_laps_8 (by decide) (g_lvp (lv2 := [some (.ref x0), some (.int x1), some (va_rf v7), none]) (pc2 := 9) rfl rfl ?_)
  refine g_aload_q (r := v7) dX11_laps_9 rfl ?_
  refine g_ifnonnullq (tgt := 17) dX11_laps_10 (by decide) (fun c8 => ?_) (fun c8 => ?_)
  · rw [if_neg c8] at hf
    refine g_aload_n dX11_laps_17 rfl ?_
    replace hf := Option.bind_eq_some_iff.mp hf
    obtain ⟨v9, q10, hf⟩ := hf
    refine g_gR f_X11_12 dX11_laps_18 q10 ?_
    replace hf := Option.bind_eq_some_iff.mp hf
    obtain ⟨v11, q12, hf⟩ := hf
    refine g_gR f_X11_70 dX11_laps_21 q12 ?_
    replace hf := Option.bind_eq_some_iff.mp hf
    obtain ⟨v13, q14, hf⟩ := hf
    refine g_gI f_X11_102 dX11_laps_24 q14 ?_
    refine g_if_ne (tgt := 34) dX11_laps_27 (by decide) (fun c15 => ?_) (fun c15 => ?_)
    · rw [if_neg c15] at hf
      refine g_aload_n dX11_laps_34 rfl ?_
      replace hf := Option.bind_eq_some_iff.mp hf
      obtain ⟨v16, q17, hf⟩ := hf
      refine g_gR f_X11_31 dX11_laps_35 q17 ?_
      refine g_aload_n dX11_laps_38 rfl ?_
      replace hf := Option.bind_eq_some_iff.mp hf
      obtain ⟨v18, q19, hf⟩ := hf
      refine g_gR f_X11_12 dX11_laps_39 q19 ?_
      replace hf := Option.bind_eq_some_iff.mp hf
      obtain ⟨v20, q21, hf⟩ := hf
      refine g_gR f_X11_70 dX11_laps_42 q21 ?_
      replace hf := Option.bind_eq_some_iff.mp hf
      obtain ⟨f22, q23, hf⟩ := hf
      replace hf := Option.bind_eq_some_iff.mp hf
      obtain ⟨h24, q25, hf⟩ := hf
      refine g_callV (as := [.ref v20]) (mc1 := 0) (ms1 := 0) s_X11_158_X4_prepare_4 dX11_laps_45 (gO_of q23) rfl (Nat.le_of_ble_eq_true rfl) (Nat.le_of_ble_eq_true rfl) (Nat.le_of_ble_eq_true rfl) (t_X4_prepare (d := d + 0) q25) (fun r9 h9 q9 => ?_)
      obtain ⟨rfl, rfl⟩ := q9
      refine g_stp (st2 := []) (pc2 := 48) (kc2 := 0) (kn2 := 0) rfl rfl rfl rfl ?_
      refine g_aload_n dX11_laps_48 rfl ?_
      refine g_aload_q (r := v7) dX11_laps_49 rfl ?_
      replace hf := Option.bind_eq_some_iff.mp hf
      obtain ⟨a26, q27, hf⟩ := hf
      subst q27
      replace hf := Option.bind_eq_some_iff.mp hf
      obtain ⟨f28, q29, hf⟩ := hf
      replace hf := Option.bind_eq_some_iff.mp hf
      obtain ⟨h30, q31, hf⟩ := hf
      refine g_callV (as := [.ref a26]) (mc1 := 0) (ms1 := 0) s_X11_169_X11_go_11 dX11_laps_50 (gO_of q29) rfl (Nat.le_of_ble_eq_true rfl) (Nat.le_of_ble_eq_true rfl) (Nat.le_of_ble_eq_true rfl) (t_X11_go (d := d + 0) q31) (fun r9 h9 q9 => ?_)
      obtain ⟨rfl, rfl⟩ := q9
      refine g_stp (st2 := []) (pc2 := 53) (kc2 := 0) (kn2 := 0) rfl rfl rfl rfl ?_
      refine g_aload_n dX11_laps_53 rfl ?_
      replace hf := Option.bind_eq_some_iff.mp hf
      obtain ⟨v32, q33, hf⟩ := hf
      refine g_gI f_X11_172 dX11_laps_54 q33 ?_
      refine g_istore_n dX11_laps_57 (by decide) (g_lvp (lv2 := [some (.ref x0), some (.int x1), some (va_rf (some a26)), some (.int v32)]) (pc2 := 58) rfl rfl ?_)
      refine g_aload_n dX11_laps_58 rfl ?_
      refine g_aload_q (r := (some a26)) dX11_laps_59 rfl ?_
      refine g_aload_n dX11_laps_60 rfl ?_
      replace hf := Option.bind_eq_some_iff.mp hf
      obtain ⟨v34, q35, hf⟩ := hf
      refine g_gI f_X11_175 dX11_laps_61 q35 ?_
      refine g_iconst (v := (0 : Int32)) dX11_laps_64 (by decide) ?_
      refine g_iconst (v := (0 : Int32)) dX11_laps_65 (by decide) ?_
      replace hf := Option.bind_eq_some_iff.mp hf
      obtain ⟨f36, q37, hf⟩ := hf
      replace hf := Option.bind_eq_some_iff.mp hf
      obtain ⟨h38, q39, hf⟩ := hf
      refine g_callV (as := [.ref a26, .int v34, .int (0 : Int32), .int (0 : Int32)]) (mc1 := 0) (ms1 := 0) s_X11_227_X11_goFrom_11 dX11_laps_66 (gO_of q37) rfl (Nat.le_of_ble_eq_true rfl) (Nat.le_of_ble_eq_true rfl) (Nat.le_of_ble_eq_true rfl) (t_X11_goFrom (d := d + 1) q39) (fun r9 h9 q9 => ?_)
      obtain ⟨rfl, rfl⟩ := q9
      refine g_stp (st2 := []) (pc2 := 69) (kc2 := 0) (kn2 := 0) rfl rfl rfl rfl ?_
      refine g_aload_n dX11_laps_69 rfl ?_
      replace hf := Option.bind_eq_some_iff.mp hf
      obtain ⟨v40, q41, hf⟩ := hf
      refine g_gI f_X11_172 dX11_laps_70 q41 ?_
      refine g_iload_n dX11_laps_73 rfl ?_
      refine g_isub dX11_laps_74 ?_
      obtain ⟨rfl, rfl⟩ := Prod.mk.inj (Option.some.inj hf)
      exact g_iret dX11_laps_75 rfl ⟨rfl, rfl⟩ (Nat.le_of_ble_eq_true rfl) (Nat.le_of_ble_eq_true rfl)
    · rw [if_pos c15] at hf
      refine g_sipush (v := (-10002 : Int32)) dX11_laps_30 (by decide) ?_
      obtain ⟨rfl, rfl⟩ := Prod.mk.inj (Option.some.inj hf)
      exact g_iret dX11_laps_33 rfl ⟨rfl, rfl⟩ (Nat.le_of_ble_eq_true rfl) (Nat.le_of_ble_eq_true rfl)
  · rw [if_pos c8] at hf
    refine g_sipush (v := (-10001 : Int32)) dX11_laps_13 (by decide) ?_
    obtain ⟨rfl, rfl⟩ := Prod.mk.inj (Option.some.inj hf)
    exact g_iret dX11_laps_16 rfl ⟨rfl, rfl⟩ (Nat.le_of_ble_eq_true rfl) (Nat.le_of_ble_eq_true rfl)
def F_X11_laps (n : Nat) (a : Nat) (p0 : Int32) (h : gH) : Option (Int32 × gH) := F_X11_laps_0 n  a p0 h
theorem t_X11_laps {n d : Nat} {a : Nat} {p0 : Int32} {h rh : gH} {rv : Int32} (hf : F_X11_laps n a p0 h = some (rv, rh)) : T M_X11_laps (d + 6) 0 0 [.ref a, .int p0] h (qI rv rh) := by
  refine T_of_G (L := 2) (by decide +kernel) rfl (Nat.le_of_ble_eq_true rfl) (g_lv (lv2 := [some (.ref a), some (.int p0), none, none]) rfl ?_)
  exact g_X11_laps_0 hf
def F_X7_setLine_32 (n : Nat)   (h : gH) : Option (gH) :=
  some h
set_option maxRecDepth 20000 in
set_option maxHeartbeats 1600000 in
theorem g_X7_setLine_32 {n d : Nat} : ∀  {h : gH} {rh : gH}, F_X7_setLine_32 n  h = some rh → G M_X7_setLine d 0 0 0 0 32 [none, none, none, none] [] h (qV rh) := by
  intro  h rh hf
  unfold F_X7_setLine_32 at hf
  obtain rfl := Option.some.inj hf
  exact g_vret dX7_setLine_32 rfl ⟨rfl, rfl⟩ (Nat.le_of_ble_eq_true rfl) (Nat.le_of_ble_eq_true rfl)
def F_X7_setLine_0 (n : Nat)  (x0 : Nat) (x1 : Int32) (x2 : Int32) (x3 : Int32) (h : gH) : Option (gH) :=
  if x1 < 0 then
  (F_X7_setLine_32 n h)
  else
  (if (8 : Int32) ≤ x1 then
  (F_X7_setLine_32 n h)
  else
  (if x2 < 0 then
  (F_X7_setLine_32 n h)
  else
  (if (8 : Int32) ≤ x2 then
  (F_X7_setLine_32 n h)
  else
  ((gR h x0 7 3).bind fun v5 =>
  (sI h v5 ((x1 * (8 : Int32)) + x2) x3).bind fun h7 =>
  F_X7_setLine_32 n h7))))
set_option maxRecDepth 20000 in
set_option maxHeartbeats 1600000 in
theorem g_X7_setLine_0 {n d : Nat} : ∀ {x0 : Nat} {x1 : Int32} {x2 : Int32} {x3 : Int32} {h : gH} {rh : gH}, F_X7_setLine_0 n x0 x1 x2 x3 h = some rh → G M_X7_setLine d 0 0 0 0 0 [some (.ref x0), some (.int x1), some (.int x2), some (.int x3)] [] h (qV rh) := by
  intro x0 x1 x2 x3 h rh hf
  unfold F_X7_setLine_0 at hf
  refine g_iload_n dX7_setLine_0 rfl ?_
  refine g_if_lt (tgt := 32) dX7_setLine_1 (by decide) (fun c1 => ?_) (fun c1 => ?_)
  · rw [if_pos c1] at hf
    refine g_weak (lv2 := [none, none, none, none]) (trivial) ?_
    exact g_X7_setLine_32 hf
  · rw [if_neg c1] at hf
    refine g_iload_n dX7_setLine_4 rfl ?_
    refine g_bipush (v := (8 : Int32)) dX7_setLine_5 (by decide) ?_
    refine g_icmp_ge (tgt := 32) dX7_setLine_7 (by decide) (fun c2 => ?_) (fun c2 => ?_)
    · rw [if_pos c2] at hf
      refine g_weak (lv2 := [none, none, none, none]) (trivial) ?_
      exact g_X7_setLine_32 hf
    · rw [if_neg c2] at hf
      refine g_iload_n dX7_setLine_10 rfl ?_
      refine g_if_lt (tgt := 32) dX7_setLine_11 (by decide) (fun c3 => ?_) (fun c3 => ?_)
      · rw [if_pos c3] at hf
        refine g_weak (lv2 := [none, none, none, none]) (trivial) ?_
        exact g_X7_setLine_32 hf
      · rw [if_neg c3] at hf
        refine g_iload_n dX7_setLine_14 rfl ?_
        refine g_bipush (v := (8 : Int32)) dX7_setLine_15 (by decide) ?_
        refine g_icmp_ge (tgt := 32) dX7_setLine_17 (by decide) (fun c4 => ?_) (fun c4 => ?_)
        · rw [if_pos c4] at hf
          refine g_weak (lv2 := [none, none, none, none]) (trivial) ?_
          exact g_X7_setLine_32 hf
        · rw [if_neg c4] at hf
          refine g_aload_n dX7_setLine_20 rfl ?_
          replace hf := Option.bind_eq_some_iff.mp hf
          obtain ⟨v5, q6, hf⟩ := hf
          refine g_gR f_X7_28 dX7_setLine_21 q6 ?_
          refine g_iload_n dX7_setLine_24 rfl ?_
          refine g_bipush (v := (8 : Int32)) dX7_setLine_25 (by decide) ?_
          refine g_imul dX7_setLine_27 ?_
          refine g_iload_n dX7_setLine_28 rfl ?_
          refine g_iadd dX7_setLine_29 ?_
          refine g_iload_n dX7_setLine_30 rfl ?_
          replace hf := Option.bind_eq_some_iff.mp hf
          obtain ⟨h7, q8, hf⟩ := hf
          refine g_sI dX7_setLine_31 q8 ?_
          refine g_weak (lv2 := [none, none, none, none]) (trivial) ?_
          exact g_X7_setLine_32 hf
def F_X7_setLine (n : Nat) (a : Nat) (p0 : Int32) (p1 : Int32) (p2 : Int32) (h : gH) : Option (gH) := F_X7_setLine_0 n  a p0 p1 p2 h
theorem t_X7_setLine {n d : Nat} {a : Nat} {p0 : Int32} {p1 : Int32} {p2 : Int32} {h rh : gH} (hf : F_X7_setLine n a p0 p1 p2 h = some rh) : T M_X7_setLine d 0 0 [.ref a, .int p0, .int p1, .int p2] h (qV rh) := by
  refine T_of_G (L := 0) (by decide +kernel) rfl (Nat.le_of_ble_eq_true rfl) (g_lv (lv2 := [some (.ref a), some (.int p0), some (.int p1), some (.int p2)]) rfl ?_)
  exact g_X7_setLine_0 hf
def F_X11_line_86 (n : Nat)  (y0 : Int32) (h : gH) : Option (Int32 × gH) :=
  some (y0, h)
set_option maxRecDepth 20000 in
set_option maxHeartbeats 1600000 in
theorem g_X11_line_86 {n d : Nat} : ∀ {y0 : Int32} {h : gH} {rh : gH} {rv : Int32}, F_X11_line_86 n y0 h = some (rv, rh) → G M_X11_line (d + 1) 0 0 0 0 86 [none, none, none, none, none, none] [.int y0] h (qI rv rh) := by
  intro y0 h rh rv hf
  unfold F_X11_line_86 at hf
  obtain ⟨rfl, rfl⟩ := Prod.mk.inj (Option.some.inj hf)
  exact g_iret dX11_line_86 rfl ⟨rfl, rfl⟩ (Nat.le_of_ble_eq_true rfl) (Nat.le_of_ble_eq_true rfl)
def F_X11_line_42 (n : Nat)  (x0 : Nat) (x1 : Int32) (x2 : Int32) (x3 : Int32) (x4 : Option Nat) (h : gH) : Option (Int32 × gH) :=
  (x4).bind fun a1 =>
  (gInst h a1 [9]).bind fun v3 =>
  if v3 = 0 then
  (some ((-3 : Int32), h))
  else
  ((gR h x0 11 0).bind fun v6 =>
  (gO h v6 7).bind fun f8 =>
  gB (F_X7_lineOf n v6 x1 x2 h) fun v12 h10 =>
  (gR h10 x0 11 0).bind fun v13 =>
  (gO h10 v13 7).bind fun f15 =>
  (F_X7_setLine n v13 x1 x2 x3 h10).bind fun h17 =>
  if 0 ≤ v12 then
  (F_X11_line_86 n v12 h17)
  else
  (F_X11_line_86 n (-5 : Int32) h17))
set_option maxRecDepth 20000 in
set_option maxHeartbeats 1600000 in
theorem g_X11_line_42 {n d : Nat} : ∀ {x0 : Nat} {x1 : Int32} {x2 : Int32} {x3 : Int32} {x4 : Option Nat} {h : gH} {rh : gH} {rv : Int32}, F_X11_line_42 n x0 x1 x2 x3 x4 h = some (rv, rh) → G M_X11_line (d + 1) 0 0 0 0 42 [some (.ref x0), some (.int x1), some (.int x2), some (.int x3), some (va_rf x4), none] [] h (qI rv rh) := by
  intro x0 x1 x2 x3 x4 h rh rv hf
  unfold F_X11_line_42 at hf
  refine g_aloadq (r := x4) dX11_line_42 rfl ?_
  replace hf := Option.bind_eq_some_iff.mp hf
  obtain ⟨a1, q2, hf⟩ := hf
  subst q2
  replace hf := Option.bind_eq_some_iff.mp hf
  obtain ⟨v3, q4, hf⟩ := hf
  refine g_inst i_X11_148 dX11_line_44 q4 ?_
  refine g_if_ne (tgt := 53) dX11_line_47 (by decide) (fun c5 => ?_) (fun c5 => ?_)
  · rw [if_neg c5] at hf
    refine g_aload_n dX11_line_53 rfl ?_
    replace hf := Option.bind_eq_some_iff.mp hf
    obtain ⟨v6, q7, hf⟩ := hf
    refine g_gR f_X11_12 dX11_line_54 q7 ?_
    refine g_iload_n dX11_line_57 rfl ?_
    refine g_iload_n dX11_line_58 rfl ?_
    replace hf := Option.bind_eq_some_iff.mp hf
    obtain ⟨f8, q9, hf⟩ := hf
    replace hf := gB_of hf
    obtain ⟨v12, h10, q11, hf⟩ := hf
    refine g_callV (as := [.int x1, .int x2]) (mc1 := 0) (ms1 := 0) s_X11_150_X7_lineOf_7 dX11_line_59 (gO_of q9) rfl (Nat.le_of_ble_eq_true rfl) (Nat.le_of_ble_eq_true rfl) (Nat.le_of_ble_eq_true rfl) (t_X7_lineOf (d := d + 0) q11) (fun r9 h9 q9 => ?_)
    obtain ⟨rfl, rfl⟩ := q9
    refine g_stp (st2 := [.int v12]) (pc2 := 62) (kc2 := 0) (kn2 := 0) rfl rfl rfl rfl ?_
    refine g_istore dX11_line_62 (by decide) (g_lvp (lv2 := [some (.ref x0), some (.int x1), some (.int x2), some (.int x3), some (va_rf (some a1)), some (.int v12)]) (pc2 := 64) rfl rfl ?_)
    refine g_aload_n dX11_line_64 rfl ?_
    replace hf := Option.bind_eq_some_iff.mp hf
    obtain ⟨v13, q14, hf⟩ := hf
    refine g_gR f_X11_12 dX11_line_65 q14 ?_
    refine g_iload_n dX11_line_68 rfl ?_
    refine g_iload_n dX11_line_69 rfl ?_
    refine g_iload_n dX11_line_70 rfl ?_
    replace hf := Option.bind_eq_some_iff.mp hf
    obtain ⟨f15, q16, hf⟩ := hf
    replace hf := Option.bind_eq_some_iff.mp hf
    obtain ⟨h17, q18, hf⟩ := hf
    refine g_callV (as := [.int x1, .int x2, .int x3]) (mc1 := 0) (ms1 := 0) s_X11_154_X7_setLine_7 dX11_line_71 (gO_of q16) rfl (Nat.le_of_ble_eq_true rfl) (Nat.le_of_ble_eq_true rfl) (Nat.le_of_ble_eq_true rfl) (t_X7_setLine (d := d + 0) q18) (fun r9 h9 q9 => ?_)
    obtain ⟨rfl, rfl⟩ := q9
    refine g_stp (st2 := []) (pc2 := 74) (kc2 := 0) (kn2 := 0) rfl rfl rfl rfl ?_
    refine g_iload dX11_line_74 rfl ?_
    refine g_if_ge (tgt := 84) dX11_line_76 (by decide) (fun c19 => ?_) (fun c19 => ?_)
    · rw [if_pos c19] at hf
      refine g_iload dX11_line_84 rfl ?_
      refine g_weak (lv2 := [none, none, none, none, none, none]) (trivial) ?_
      exact g_X11_line_86 hf
    · rw [if_neg c19] at hf
      refine g_bipush (v := (-5 : Int32)) dX11_line_79 (by decide) ?_
      refine g_goto (tgt := 86) dX11_line_81 (by decide) ?_
      refine g_weak (lv2 := [none, none, none, none, none, none]) (trivial) ?_
      exact g_X11_line_86 hf
  · rw [if_pos c5] at hf
    refine g_bipush (v := (-3 : Int32)) dX11_line_50 (by decide) ?_
    obtain ⟨rfl, rfl⟩ := Prod.mk.inj (Option.some.inj hf)
    exact g_iret dX11_line_52 rfl ⟨rfl, rfl⟩ (Nat.le_of_ble_eq_true rfl) (Nat.le_of_ble_eq_true rfl)
def F_X11_line_25 (n : Nat)   (h : gH) : Option (Int32 × gH) :=
  some ((-1 : Int32), h)
set_option maxRecDepth 20000 in
set_option maxHeartbeats 1600000 in
theorem g_X11_line_25 {n d : Nat} : ∀  {h : gH} {rh : gH} {rv : Int32}, F_X11_line_25 n  h = some (rv, rh) → G M_X11_line (d + 1) 0 0 0 0 25 [none, none, none, none, none, none] [] h (qI rv rh) := by
  intro  h rh rv hf
  unfold F_X11_line_25 at hf
  refine g_iconst (v := (-1 : Int32)) dX11_line_25 (by decide) ?_
  obtain ⟨rfl, rfl⟩ := Prod.mk.inj (Option.some.inj hf)
  exact g_iret dX11_line_26 rfl ⟨rfl, rfl⟩ (Nat.le_of_ble_eq_true rfl) (Nat.le_of_ble_eq_true rfl)
def F_X11_line_0 (n : Nat)  (x0 : Nat) (x1 : Int32) (x2 : Int32) (x3 : Int32) (h : gH) : Option (Int32 × gH) :=
  (gR h x0 11 0).bind fun v1 =>
  (gO h v1 7).bind fun f3 =>
  gB (F_X7_find n v1 x1 h) fun v7 h5 =>
  if v7 = none then
  (F_X11_line_25 n h5)
  else
  (if x2 < 0 then
  (F_X11_line_25 n h5)
  else
  (if x2 < (8 : Int32) then
  (if x3 = (-1 : Int32) then
  (F_X11_line_42 n x0 x1 x2 x3 v7 h5)
  else
  (gB (F_X11_isEffort n x3 h5) fun v14 h12 =>
  if v14 = 0 then
  (some ((-2 : Int32), h12))
  else
  (F_X11_line_42 n x0 x1 x2 x3 v7 h12)))
  else
  (F_X11_line_25 n h5)))
set_option maxRecDepth 20000 in
set_option maxHeartbeats 1600000 in
theorem g_X11_line_0 {n d : Nat} : ∀ {x0 : Nat} {x1 : Int32} {x2 : Int32} {x3 : Int32} {h : gH} {rh : gH} {rv : Int32}, F_X11_line_0 n x0 x1 x2 x3 h = some (rv, rh) → G M_X11_line (d + 1) 0 0 0 0 0 [some (.ref x0), some (.int x1), some (.int x2), some (.int x3), none, none] [] h (qI rv rh) := by
  intro x0 x1 x2 x3 h rh rv hf
  unfold F_X11_line_0 at hf
  refine g_aload_n dX11_line_0 rfl ?_
  replace hf := Option.bind_eq_some_iff.mp hf
  obtain ⟨v1, q2, hf⟩ := hf
  refine g_gR f_X11_12 dX11_line_1 q2 ?_
  refine g_iload_n dX11_line_4 rfl ?_
  replace hf := Option.bind_eq_some_iff.mp hf
  obtain ⟨f3, q4, hf⟩ := hf
  replace hf := gB_of hf
  obtain ⟨v7, h5, q6, hf⟩ := hf
  refine g_callV (as := [.int x1]) (mc1 := 0) (ms1 := 0) s_X11_144_X7_find_7 dX11_line_5 (gO_of q4) rfl (Nat.le_of_ble_eq_true rfl) (Nat.le_of_ble_eq_true rfl) (Nat.le_of_ble_eq_true rfl) (t_X7_find (d := d + 0) q6) (fun r9 h9 q9 => ?_)
  obtain ⟨rfl, rfl⟩ := q9
  refine g_stp (st2 := [va_rf v7]) (pc2 := 8) (kc2 := 0) (kn2 := 0) rfl rfl rfl rfl ?_
  refine g_astoreq (r := v7) dX11_line_8 (by decide) (g_lvp (lv2 := [some (.ref x0), some (.int x1), some (.int x2), some (.int x3), some (va_rf v7), none]) (pc2 := 10) rfl rfl ?_)
  refine g_aloadq (r := v7) dX11_line_10 rfl ?_
  refine g_ifnullq (tgt := 25) dX11_line_12 (by decide) (fun c8 => ?_) (fun c8 => ?_)
  · rw [if_pos c8] at hf
    refine g_weak (lv2 := [none, none, none, none, none, none]) (trivial) ?_
    exact g_X11_line_25 hf
  · rw [if_neg c8] at hf
    refine g_iload_n dX11_line_15 rfl ?_
    refine g_if_lt (tgt := 25) dX11_line_16 (by decide) (fun c9 => ?_) (fun c9 => ?_)
    · rw [if_pos c9] at hf
      refine g_weak (lv2 := [none, none, none, none, none, none]) (trivial) ?_
      exact g_X11_line_25 hf
    · rw [if_neg c9] at hf
      refine g_iload_n dX11_line_19 rfl ?_
      refine g_bipush (v := (8 : Int32)) dX11_line_20 (by decide) ?_
      refine g_icmp_lt (tgt := 27) dX11_line_22 (by decide) (fun c10 => ?_) (fun c10 => ?_)
      · rw [if_pos c10] at hf
        refine g_iload_n dX11_line_27 rfl ?_
        refine g_iconst (v := (-1 : Int32)) dX11_line_28 (by decide) ?_
        refine g_icmp_eq (tgt := 42) dX11_line_29 (by decide) (fun c11 => ?_) (fun c11 => ?_)
        · rw [if_pos c11] at hf
          exact g_X11_line_42 hf
        · rw [if_neg c11] at hf
          refine g_iload_n dX11_line_32 rfl ?_
          replace hf := gB_of hf
          obtain ⟨v14, h12, q13, hf⟩ := hf
          refine g_callS (as := [.int x3]) (mc1 := 0) (ms1 := 0) s_X11_117_X11_isEffort dX11_line_33 rfl (Nat.le_of_ble_eq_true rfl) (Nat.le_of_ble_eq_true rfl) (Nat.le_of_ble_eq_true rfl) (t_X11_isEffort (d := d + 0) q13) (fun r9 h9 q9 => ?_)
          obtain ⟨rfl, rfl⟩ := q9
          refine g_stp (st2 := [.int v14]) (pc2 := 36) (kc2 := 0) (kn2 := 0) rfl rfl rfl rfl ?_
          refine g_if_ne (tgt := 42) dX11_line_36 (by decide) (fun c15 => ?_) (fun c15 => ?_)
          · rw [if_neg c15] at hf
            exact g_X11_line_42 hf
          · rw [if_pos c15] at hf
            refine g_bipush (v := (-2 : Int32)) dX11_line_39 (by decide) ?_
            obtain ⟨rfl, rfl⟩ := Prod.mk.inj (Option.some.inj hf)
            exact g_iret dX11_line_41 rfl ⟨rfl, rfl⟩ (Nat.le_of_ble_eq_true rfl) (Nat.le_of_ble_eq_true rfl)
      · rw [if_neg c10] at hf
        refine g_weak (lv2 := [none, none, none, none, none, none]) (trivial) ?_
        exact g_X11_line_25 hf
def F_X11_line (n : Nat) (a : Nat) (p0 : Int32) (p1 : Int32) (p2 : Int32) (h : gH) : Option (Int32 × gH) := F_X11_line_0 n  a p0 p1 p2 h
theorem t_X11_line {n d : Nat} {a : Nat} {p0 : Int32} {p1 : Int32} {p2 : Int32} {h rh : gH} {rv : Int32} (hf : F_X11_line n a p0 p1 p2 h = some (rv, rh)) : T M_X11_line (d + 1) 0 0 [.ref a, .int p0, .int p1, .int p2] h (qI rv rh) := by
  refine T_of_G (L := 2) (by decide +kernel) rfl (Nat.le_of_ble_eq_true rfl) (g_lv (lv2 := [some (.ref a), some (.int p0), some (.int p1), some (.int p2), none, none]) rfl ?_)
  exact g_X11_line_0 hf
def F_X11_loses_0 (n : Nat)  (x0 : Nat) (x1 : Int32) (h : gH) : Option (Int32 × gH) :=
  (gR h x0 11 0).bind fun v1 =>
  (gO h v1 7).bind fun f3 =>
  gB (F_X7_find n v1 x1 h) fun v7 h5 =>
  if v7 = none then
  (some ((-1 : Int32), h5))
  else
  ((gR h5 x0 11 0).bind fun v9 =>
  (gR h5 v9 7 1).bind fun v11 =>
  (gI h5 v11 6 8).bind fun v13 =>
  if v13 = 0 then
  (some ((-3 : Int32), h5))
  else
  ((gR h5 x0 11 3).bind fun v16 =>
  (gR h5 x0 11 0).bind fun v18 =>
  (gR h5 v18 7 1).bind fun v20 =>
  (gO h5 v16 4).bind fun f22 =>
  (F_X4_prepare n v16 v20 h5).bind fun h24 =>
  (v7).bind fun a26 =>
  (gO h24 x0 11).bind fun f28 =>
  (F_X11_go n x0 a26 h24).bind fun h30 =>
  (gI h30 x0 11 8).bind fun v32 =>
  (gR h30 x0 11 3).bind fun v34 =>
  (gR h30 x0 11 0).bind fun v36 =>
  (gR h30 v36 7 1).bind fun v38 =>
  (gI h30 v38 6 12).bind fun v40 =>
  (gO h30 v34 4).bind fun f42 =>
  gB (F_X4_secondsFrom n v34 (0 : Int32) v40 h30) fun v46 h44 =>
  some ((v32 - v46), h44)))
set_option maxRecDepth 20000 in
set_option maxHeartbeats 1600000 in
theorem g_X11_loses_0 {n d : Nat} : ∀ {x0 : Nat} {x1 : Int32} {h : gH} {rh : gH} {rv : Int32}, F_X11_loses_0 n x0 x1 h = some (rv, rh) → G M_X11_loses (d + 6) 0 0 0 0 0 [some (.ref x0), some (.int x1), none] [] h (qI rv rh) := by
  intro x0 x1 h rh rv hf
  unfold F_X11_loses_0 at hf
  refine g_aload_n dX11_loses_0 rfl ?_
  replace hf := Option.bind_eq_some_iff.mp hf
  obtain ⟨v1, q2, hf⟩ := hf
  refine g_gR f_X11_12 dX11_loses_1 q2 ?_
  refine g_iload_n dX11_loses_4 rfl ?_
  replace hf := Option.bind_eq_some_iff.mp hf
  obtain ⟨f3, q4, hf⟩ := hf
  replace hf := gB_of hf
  obtain ⟨v7, h5, q6, hf⟩ := hf
  refine g_callV (as := [.int x1]) (mc1 := 0) (ms1 := 0) s_X11_144_X7_find_7 dX11_loses_5 (gO_of q4) rfl (Nat.le_of_ble_eq_true rfl) (Nat.le_of_ble_eq_true rfl) (Nat.le_of_ble_eq_true rfl) (t_X7_find (d := d + 5) q6) (fun r9 h9 q9 => ?_)
  obtain ⟨rfl, rfl⟩ := q9
  refine g_stp (st2 := [va_rf v7]) (pc2 := 8) (kc2 := 0) (kn2 := 0) rfl rfl rfl rfl ?_
  refine g_astore_q (r := v7) dX11_loses_8 (by decide) (g_lvp (lv2 := [some (.ref x0), some (.int x1), some (va_rf v7)]) (pc2 := 9) rfl rfl ?_)
  refine g_aload_q (r := v7) dX11_loses_9 rfl ?_
  refine g_ifnonnullq (tgt := 15) dX11_loses_10 (by decide) (fun c8 => ?_) (fun c8 => ?_)
  · rw [if_neg c8] at hf
    refine g_aload_n dX11_loses_15 rfl ?_
    replace hf := Option.bind_eq_some_iff.mp hf
    obtain ⟨v9, q10, hf⟩ := hf
    refine g_gR f_X11_12 dX11_loses_16 q10 ?_
    replace hf := Option.bind_eq_some_iff.mp hf
    obtain ⟨v11, q12, hf⟩ := hf
    refine g_gR f_X11_70 dX11_loses_19 q12 ?_
    replace hf := Option.bind_eq_some_iff.mp hf
    obtain ⟨v13, q14, hf⟩ := hf
    refine g_gI f_X11_102 dX11_loses_22 q14 ?_
    refine g_if_ne (tgt := 31) dX11_loses_25 (by decide) (fun c15 => ?_) (fun c15 => ?_)
    · rw [if_neg c15] at hf
      refine g_aload_n dX11_loses_31 rfl ?_
      replace hf := Option.bind_eq_some_iff.mp hf
      obtain ⟨v16, q17, hf⟩ := hf
      refine g_gR f_X11_31 dX11_loses_32 q17 ?_
      refine g_aload_n dX11_loses_35 rfl ?_
      replace hf := Option.bind_eq_some_iff.mp hf
      obtain ⟨v18, q19, hf⟩ := hf
      refine g_gR f_X11_12 dX11_loses_36 q19 ?_
      replace hf := Option.bind_eq_some_iff.mp hf
      obtain ⟨v20, q21, hf⟩ := hf
      refine g_gR f_X11_70 dX11_loses_39 q21 ?_
      replace hf := Option.bind_eq_some_iff.mp hf
      obtain ⟨f22, q23, hf⟩ := hf
      replace hf := Option.bind_eq_some_iff.mp hf
      obtain ⟨h24, q25, hf⟩ := hf
      refine g_callV (as := [.ref v20]) (mc1 := 0) (ms1 := 0) s_X11_158_X4_prepare_4 dX11_loses_42 (gO_of q23) rfl (Nat.le_of_ble_eq_true rfl) (Nat.le_of_ble_eq_true rfl) (Nat.le_of_ble_eq_true rfl) (t_X4_prepare (d := d + 0) q25) (fun r9 h9 q9 => ?_)
      obtain ⟨rfl, rfl⟩ := q9
      refine g_stp (st2 := []) (pc2 := 45) (kc2 := 0) (kn2 := 0) rfl rfl rfl rfl ?_
      refine g_aload_n dX11_loses_45 rfl ?_
      refine g_aload_q (r := v7) dX11_loses_46 rfl ?_
      replace hf := Option.bind_eq_some_iff.mp hf
      obtain ⟨a26, q27, hf⟩ := hf
      subst q27
      replace hf := Option.bind_eq_some_iff.mp hf
      obtain ⟨f28, q29, hf⟩ := hf
      replace hf := Option.bind_eq_some_iff.mp hf
      obtain ⟨h30, q31, hf⟩ := hf
      refine g_callV (as := [.ref a26]) (mc1 := 0) (ms1 := 0) s_X11_169_X11_go_11 dX11_loses_47 (gO_of q29) rfl (Nat.le_of_ble_eq_true rfl) (Nat.le_of_ble_eq_true rfl) (Nat.le_of_ble_eq_true rfl) (t_X11_go (d := d + 0) q31) (fun r9 h9 q9 => ?_)
      obtain ⟨rfl, rfl⟩ := q9
      refine g_stp (st2 := []) (pc2 := 50) (kc2 := 0) (kn2 := 0) rfl rfl rfl rfl ?_
      refine g_aload_n dX11_loses_50 rfl ?_
      replace hf := Option.bind_eq_some_iff.mp hf
      obtain ⟨v32, q33, hf⟩ := hf
      refine g_gI f_X11_172 dX11_loses_51 q33 ?_
      refine g_aload_n dX11_loses_54 rfl ?_
      replace hf := Option.bind_eq_some_iff.mp hf
      obtain ⟨v34, q35, hf⟩ := hf
      refine g_gR f_X11_31 dX11_loses_55 q35 ?_
      refine g_iconst (v := (0 : Int32)) dX11_loses_58 (by decide) ?_
      refine g_aload_n dX11_loses_59 rfl ?_
      replace hf := Option.bind_eq_some_iff.mp hf
      obtain ⟨v36, q37, hf⟩ := hf
      refine g_gR f_X11_12 dX11_loses_60 q37 ?_
      replace hf := Option.bind_eq_some_iff.mp hf
      obtain ⟨v38, q39, hf⟩ := hf
      refine g_gR f_X11_70 dX11_loses_63 q39 ?_
      replace hf := Option.bind_eq_some_iff.mp hf
      obtain ⟨v40, q41, hf⟩ := hf
      refine g_gI f_X11_108 dX11_loses_66 q41 ?_
      replace hf := Option.bind_eq_some_iff.mp hf
      obtain ⟨f42, q43, hf⟩ := hf
      replace hf := gB_of hf
      obtain ⟨v46, h44, q45, hf⟩ := hf
      refine g_callV (as := [.int (0 : Int32), .int v40]) (mc1 := 0) (ms1 := 0) s_X11_178_X4_secondsFrom_4 dX11_loses_69 (gO_of q43) rfl (Nat.le_of_ble_eq_true rfl) (Nat.le_of_ble_eq_true rfl) (Nat.le_of_ble_eq_true rfl) (t_X4_secondsFrom (d := d + 4) q45) (fun r9 h9 q9 => ?_)
      obtain ⟨rfl, rfl⟩ := q9
      refine g_stp (st2 := [.int v46, .int v32]) (pc2 := 72) (kc2 := 0) (kn2 := 0) rfl rfl rfl rfl ?_
      refine g_isub dX11_loses_72 ?_
      obtain ⟨rfl, rfl⟩ := Prod.mk.inj (Option.some.inj hf)
      exact g_iret dX11_loses_73 rfl ⟨rfl, rfl⟩ (Nat.le_of_ble_eq_true rfl) (Nat.le_of_ble_eq_true rfl)
    · rw [if_pos c15] at hf
      refine g_bipush (v := (-3 : Int32)) dX11_loses_28 (by decide) ?_
      obtain ⟨rfl, rfl⟩ := Prod.mk.inj (Option.some.inj hf)
      exact g_iret dX11_loses_30 rfl ⟨rfl, rfl⟩ (Nat.le_of_ble_eq_true rfl) (Nat.le_of_ble_eq_true rfl)
  · rw [if_pos c8] at hf
    refine g_iconst (v := (-1 : Int32)) dX11_loses_13 (by decide) ?_
    obtain ⟨rfl, rfl⟩ := Prod.mk.inj (Option.some.inj hf)
    exact g_iret dX11_loses_14 rfl ⟨rfl, rfl⟩ (Nat.le_of_ble_eq_true rfl) (Nat.le_of_ble_eq_true rfl)
def F_X11_loses (n : Nat) (a : Nat) (p0 : Int32) (h : gH) : Option (Int32 × gH) := F_X11_loses_0 n  a p0 h
theorem t_X11_loses {n d : Nat} {a : Nat} {p0 : Int32} {h rh : gH} {rv : Int32} (hf : F_X11_loses n a p0 h = some (rv, rh)) : T M_X11_loses (d + 6) 0 0 [.ref a, .int p0] h (qI rv rh) := by
  refine T_of_G (L := 1) (by decide +kernel) rfl (Nat.le_of_ble_eq_true rfl) (g_lv (lv2 := [some (.ref a), some (.int p0), none]) rfl ?_)
  exact g_X11_loses_0 hf
def F_X11_part_118 (n : Nat)  (x0 : Nat) (x2 : Int32) (x3 : Int32) (x4 : Int32) (x5 : Nat) (x6 : Int32) (x7 : Int32) (x8 : Int32) (y0 : Nat) (y1 : Int32) (y2 : Int32) (y3 : Int32) (h : gH) : Option (gH) :=
  (sI h y0 y1 (y2 + y3)).bind fun h1 =>
  (gR h1 x0 11 7).bind fun v3 =>
  (gR h1 x0 11 7).bind fun v5 =>
  (aL h1 v5 x3).bind fun v7 =>
  (gI h1 x5 6 14).bind fun v9 =>
  (sL h1 v3 x4 (v7 * v9.toInt64)).bind fun h11 =>
  (gR h11 x0 11 5).bind fun v13 =>
  (gO h11 x5 6).bind fun f15 =>
  gB (F_X6_behind n x5 x2 x7 x6 h11) fun v19 h17 =>
  (sI h17 v13 x3 v19).bind fun h20 =>
  (gR h20 x0 11 6).bind fun v22 =>
  (aI h20 v22 x3).bind fun v24 =>
  (sI h20 v22 x3 (v24 + x8)).bind fun h26 =>
  (gR h26 x0 11 7).bind fun v28 =>
  (aL h26 v28 x3).bind fun v30 =>
  (gI h26 x5 6 14).bind fun v32 =>
  (sL h26 v28 x3 (v30 * ((10 : Int32) - v32).toInt64)).bind fun h34 =>
  some h34
set_option maxRecDepth 20000 in
set_option maxHeartbeats 1600000 in
theorem g_X11_part_118 {n d : Nat} : ∀ {x0 : Nat} {x2 : Int32} {x3 : Int32} {x4 : Int32} {x5 : Nat} {x6 : Int32} {x7 : Int32} {x8 : Int32} {y0 : Nat} {y1 : Int32} {y2 : Int32} {y3 : Int32} {h : gH} {rh : gH}, F_X11_part_118 n x0 x2 x3 x4 x5 x6 x7 x8 y0 y1 y2 y3 h = some rh → G M_X11_part (d + 4) 0 0 0 0 118 [some (.ref x0), none, some (.int x2), some (.int x3), some (.int x4), some (.ref x5), some (.int x6), some (.int x7), some (.int x8), none] [.int y3, .int y2, .int y1, .ref y0] h (qV rh) := by
  intro x0 x2 x3 x4 x5 x6 x7 x8 y0 y1 y2 y3 h rh hf
  unfold F_X11_part_118 at hf
  refine g_iadd dX11_part_118 ?_
  replace hf := Option.bind_eq_some_iff.mp hf
  obtain ⟨h1, q2, hf⟩ := hf
  refine g_sI dX11_part_119 q2 ?_
  refine g_aload_n dX11_part_120 rfl ?_
  replace hf := Option.bind_eq_some_iff.mp hf
  obtain ⟨v3, q4, hf⟩ := hf
  refine g_gR f_X11_45 dX11_part_121 q4 ?_
  refine g_iload dX11_part_124 rfl ?_
  refine g_aload_n dX11_part_126 rfl ?_
  replace hf := Option.bind_eq_some_iff.mp hf
  obtain ⟨v5, q6, hf⟩ := hf
  refine g_gR f_X11_45 dX11_part_127 q6 ?_
  refine g_iload_n dX11_part_130 rfl ?_
  replace hf := Option.bind_eq_some_iff.mp hf
  obtain ⟨v7, q8, hf⟩ := hf
  refine g_aL dX11_part_131 q8 ?_
  refine g_aload dX11_part_132 rfl ?_
  replace hf := Option.bind_eq_some_iff.mp hf
  obtain ⟨v9, q10, hf⟩ := hf
  refine g_gI f_X11_114 dX11_part_134 q10 ?_
  refine g_i2l dX11_part_137 rfl ?_
  refine g_lmul dX11_part_138 ?_
  replace hf := Option.bind_eq_some_iff.mp hf
  obtain ⟨h11, q12, hf⟩ := hf
  refine g_sL dX11_part_139 q12 ?_
  refine g_aload_n dX11_part_140 rfl ?_
  replace hf := Option.bind_eq_some_iff.mp hf
  obtain ⟨v13, q14, hf⟩ := hf
  refine g_gR f_X11_39 dX11_part_141 q14 ?_
  refine g_iload_n dX11_part_144 rfl ?_
  refine g_aload dX11_part_145 rfl ?_
  refine g_iload_n dX11_part_147 rfl ?_
  refine g_iload dX11_part_148 rfl ?_
  refine g_iload dX11_part_150 rfl ?_
  replace hf := Option.bind_eq_some_iff.mp hf
  obtain ⟨f15, q16, hf⟩ := hf
  replace hf := gB_of hf
  obtain ⟨v19, h17, q18, hf⟩ := hf
  refine g_callV (as := [.int x2, .int x7, .int x6]) (mc1 := 0) (ms1 := 0) s_X11_130_X6_behind_6 dX11_part_152 (gO_of q16) rfl (Nat.le_of_ble_eq_true rfl) (Nat.le_of_ble_eq_true rfl) (Nat.le_of_ble_eq_true rfl) (t_X6_behind (d := d + 1) q18) (fun r9 h9 q9 => ?_)
  obtain ⟨rfl, rfl⟩ := q9
  refine g_stp (st2 := [.int v19, .int x3, .ref v13]) (pc2 := 155) (kc2 := 0) (kn2 := 0) rfl rfl rfl rfl ?_
  replace hf := Option.bind_eq_some_iff.mp hf
  obtain ⟨h20, q21, hf⟩ := hf
  refine g_sI dX11_part_155 q21 ?_
  refine g_aload_n dX11_part_156 rfl ?_
  replace hf := Option.bind_eq_some_iff.mp hf
  obtain ⟨v22, q23, hf⟩ := hf
  refine g_gR f_X11_42 dX11_part_157 q23 ?_
  refine g_iload_n dX11_part_160 rfl ?_
  refine g_dup2 dX11_part_161 rfl rfl ?_
  replace hf := Option.bind_eq_some_iff.mp hf
  obtain ⟨v24, q25, hf⟩ := hf
  refine g_aI dX11_part_162 q25 ?_
  refine g_iload dX11_part_163 rfl ?_
  refine g_iadd dX11_part_165 ?_
  replace hf := Option.bind_eq_some_iff.mp hf
  obtain ⟨h26, q27, hf⟩ := hf
  refine g_sI dX11_part_166 q27 ?_
  refine g_aload_n dX11_part_167 rfl ?_
  replace hf := Option.bind_eq_some_iff.mp hf
  obtain ⟨v28, q29, hf⟩ := hf
  refine g_gR f_X11_45 dX11_part_168 q29 ?_
  refine g_iload_n dX11_part_171 rfl ?_
  refine g_dup2 dX11_part_172 rfl rfl ?_
  replace hf := Option.bind_eq_some_iff.mp hf
  obtain ⟨v30, q31, hf⟩ := hf
  refine g_aL dX11_part_173 q31 ?_
  refine g_bipush (v := (10 : Int32)) dX11_part_174 (by decide) ?_
  refine g_aload dX11_part_176 rfl ?_
  replace hf := Option.bind_eq_some_iff.mp hf
  obtain ⟨v32, q33, hf⟩ := hf
  refine g_gI f_X11_114 dX11_part_178 q33 ?_
  refine g_isub dX11_part_181 ?_
  refine g_i2l dX11_part_182 rfl ?_
  refine g_lmul dX11_part_183 ?_
  replace hf := Option.bind_eq_some_iff.mp hf
  obtain ⟨h34, q35, hf⟩ := hf
  refine g_sL dX11_part_184 q35 ?_
  obtain rfl := Option.some.inj hf
  exact g_vret dX11_part_185 rfl ⟨rfl, rfl⟩ (Nat.le_of_ble_eq_true rfl) (Nat.le_of_ble_eq_true rfl)
def F_X11_part_24 (n : Nat)   (h : gH) : Option (gH) :=
  some h
set_option maxRecDepth 20000 in
set_option maxHeartbeats 1600000 in
theorem g_X11_part_24 {n d : Nat} : ∀  {h : gH} {rh : gH}, F_X11_part_24 n  h = some rh → G M_X11_part (d + 4) 0 0 0 0 24 [none, none, none, none, none, none, none, none, none, none] [] h (qV rh) := by
  intro  h rh hf
  unfold F_X11_part_24 at hf
  obtain rfl := Option.some.inj hf
  exact g_vret dX11_part_24 rfl ⟨rfl, rfl⟩ (Nat.le_of_ble_eq_true rfl) (Nat.le_of_ble_eq_true rfl)
def F_X11_part_0 (n : Nat)  (x0 : Nat) (x1 : Nat) (x2 : Int32) (x3 : Int32) (x4 : Int32) (h : gH) : Option (gH) :=
  if x3 < 0 then
  (F_X11_part_24 n h)
  else
  (if x4 < 0 then
  (F_X11_part_24 n h)
  else
  (if (256 : Int32) ≤ x3 then
  (F_X11_part_24 n h)
  else
  (if x4 < (256 : Int32) then
  ((gR h x0 11 0).bind fun v5 =>
  (gR h v5 7 1).bind fun v7 =>
  (gR h x0 11 5).bind fun v9 =>
  (aI h v9 x3).bind fun v11 =>
  (gO h x0 11).bind fun f13 =>
  gB (F_X11_effortOf n x0 x1 x2 v11 h) fun v17 h15 =>
  (gO h15 v7 6).bind fun f18 =>
  gB (F_X6_seconds n v7 x2 v17 v11 h15) fun v22 h20 =>
  (gO h20 v7 6).bind fun f23 =>
  gB (F_X6_cost n v7 x2 v17 h20) fun v27 h25 =>
  (gR h25 x0 11 5).bind fun v28 =>
  (sI h25 v28 x4 (gmax (0 : Int32) (v11 - ((2 : Int32) * v27)))).bind fun h30 =>
  (gR h30 x0 11 6).bind fun v32 =>
  (gR h30 x0 11 6).bind fun v34 =>
  (aI h30 v34 x3).bind fun v36 =>
  if 0 ≤ (v11 - ((2 : Int32) * v27)) then
  (F_X11_part_118 n x0 x2 x3 x4 v7 v11 v17 v22 v32 x4 v36 v22 h30)
  else
  (F_X11_part_118 n x0 x2 x3 x4 v7 v11 v17 v22 v32 x4 v36 ((2 : Int32) * v22) h30))
  else
  (F_X11_part_24 n h))))
set_option maxRecDepth 20000 in
set_option maxHeartbeats 1600000 in
theorem g_X11_part_0 {n d : Nat} : ∀ {x0 : Nat} {x1 : Nat} {x2 : Int32} {x3 : Int32} {x4 : Int32} {h : gH} {rh : gH}, F_X11_part_0 n x0 x1 x2 x3 x4 h = some rh → G M_X11_part (d + 4) 0 0 0 0 0 [some (.ref x0), some (.ref x1), some (.int x2), some (.int x3), some (.int x4), none, none, none, none, none] [] h (qV rh) := by
  intro x0 x1 x2 x3 x4 h rh hf
  unfold F_X11_part_0 at hf
  refine g_iload_n dX11_part_0 rfl ?_
  refine g_if_lt (tgt := 24) dX11_part_1 (by decide) (fun c1 => ?_) (fun c1 => ?_)
  · rw [if_pos c1] at hf
    refine g_weak (lv2 := [none, none, none, none, none, none, none, none, none, none]) (trivial) ?_
    exact g_X11_part_24 hf
  · rw [if_neg c1] at hf
    refine g_iload dX11_part_4 rfl ?_
    refine g_if_lt (tgt := 24) dX11_part_6 (by decide) (fun c2 => ?_) (fun c2 => ?_)
    · rw [if_pos c2] at hf
      refine g_weak (lv2 := [none, none, none, none, none, none, none, none, none, none]) (trivial) ?_
      exact g_X11_part_24 hf
    · rw [if_neg c2] at hf
      refine g_iload_n dX11_part_9 rfl ?_
      refine g_sipush (v := (256 : Int32)) dX11_part_10 (by decide) ?_
      refine g_icmp_ge (tgt := 24) dX11_part_13 (by decide) (fun c3 => ?_) (fun c3 => ?_)
      · rw [if_pos c3] at hf
        refine g_weak (lv2 := [none, none, none, none, none, none, none, none, none, none]) (trivial) ?_
        exact g_X11_part_24 hf
      · rw [if_neg c3] at hf
        refine g_iload dX11_part_16 rfl ?_
        refine g_sipush (v := (256 : Int32)) dX11_part_18 (by decide) ?_
        refine g_icmp_lt (tgt := 25) dX11_part_21 (by decide) (fun c4 => ?_) (fun c4 => ?_)
        · rw [if_pos c4] at hf
          refine g_aload_n dX11_part_25 rfl ?_
          replace hf := Option.bind_eq_some_iff.mp hf
          obtain ⟨v5, q6, hf⟩ := hf
          refine g_gR f_X11_12 dX11_part_26 q6 ?_
          replace hf := Option.bind_eq_some_iff.mp hf
          obtain ⟨v7, q8, hf⟩ := hf
          refine g_gR f_X11_70 dX11_part_29 q8 ?_
          refine g_astore dX11_part_32 (by decide) (g_lvp (lv2 := [some (.ref x0), some (.ref x1), some (.int x2), some (.int x3), some (.int x4), some (.ref v7), none, none, none, none]) (pc2 := 34) rfl rfl ?_)
          refine g_aload_n dX11_part_34 rfl ?_
          replace hf := Option.bind_eq_some_iff.mp hf
          obtain ⟨v9, q10, hf⟩ := hf
          refine g_gR f_X11_39 dX11_part_35 q10 ?_
          refine g_iload_n dX11_part_38 rfl ?_
          replace hf := Option.bind_eq_some_iff.mp hf
          obtain ⟨v11, q12, hf⟩ := hf
          refine g_aI dX11_part_39 q12 ?_
          refine g_istore dX11_part_40 (by decide) (g_lvp (lv2 := [some (.ref x0), some (.ref x1), some (.int x2), some (.int x3), some (.int x4), some (.ref v7), some (.int v11), none, none, none]) (pc2 := 42) rfl rfl ?_)
          refine g_aload_n dX11_part_42 rfl ?_
          refine g_aload_n dX11_part_43 rfl ?_
          refine g_iload_n dX11_part_44 rfl ?_
          refine g_iload dX11_part_45 rfl ?_
          replace hf := Option.bind_eq_some_iff.mp hf
          obtain ⟨f13, q14, hf⟩ := hf
          replace hf := gB_of hf
          obtain ⟨v17, h15, q16, hf⟩ := hf
          refine g_callV (as := [.ref x1, .int x2, .int v11]) (mc1 := 0) (ms1 := 0) s_X11_161_X11_effortOf_11 dX11_part_47 (gO_of q14) rfl (Nat.le_of_ble_eq_true rfl) (Nat.le_of_ble_eq_true rfl) (Nat.le_of_ble_eq_true rfl) (t_X11_effortOf (d := d + 0) q16) (fun r9 h9 q9 => ?_)
          obtain ⟨rfl, rfl⟩ := q9
          refine g_stp (st2 := [.int v17]) (pc2 := 50) (kc2 := 0) (kn2 := 0) rfl rfl rfl rfl ?_
          refine g_istore dX11_part_50 (by decide) (g_lvp (lv2 := [some (.ref x0), some (.ref x1), some (.int x2), some (.int x3), some (.int x4), some (.ref v7), some (.int v11), some (.int v17), none, none]) (pc2 := 52) rfl rfl ?_)
          refine g_aload dX11_part_52 rfl ?_
          refine g_iload_n dX11_part_54 rfl ?_
          refine g_iload dX11_part_55 rfl ?_
          refine g_iload dX11_part_57 rfl ?_
          replace hf := Option.bind_eq_some_iff.mp hf
          obtain ⟨f18, q19, hf⟩ := hf
          replace hf := gB_of hf
          obtain ⟨v22, h20, q21, hf⟩ := hf
          refine g_callV (as := [.int x2, .int v17, .int v11]) (mc1 := 0) (ms1 := 0) s_X11_127_X6_seconds_6 dX11_part_59 (gO_of q19) rfl (Nat.le_of_ble_eq_true rfl) (Nat.le_of_ble_eq_true rfl) (Nat.le_of_ble_eq_true rfl) (t_X6_seconds (d := d + 0) q21) (fun r9 h9 q9 => ?_)
          obtain ⟨rfl, rfl⟩ := q9
          refine g_stp (st2 := [.int v22]) (pc2 := 62) (kc2 := 0) (kn2 := 0) rfl rfl rfl rfl ?_
          refine g_istore dX11_part_62 (by decide) (g_lvp (lv2 := [some (.ref x0), some (.ref x1), some (.int x2), some (.int x3), some (.int x4), some (.ref v7), some (.int v11), some (.int v17), some (.int v22), none]) (pc2 := 64) rfl rfl ?_)
          refine g_iload dX11_part_64 rfl ?_
          refine g_iconst (v := (2 : Int32)) dX11_part_66 (by decide) ?_
          refine g_aload dX11_part_67 rfl ?_
          refine g_iload_n dX11_part_69 rfl ?_
          refine g_iload dX11_part_70 rfl ?_
          replace hf := Option.bind_eq_some_iff.mp hf
          obtain ⟨f23, q24, hf⟩ := hf
          replace hf := gB_of hf
          obtain ⟨v27, h25, q26, hf⟩ := hf
          refine g_callV (as := [.int x2, .int v17]) (mc1 := 0) (ms1 := 0) s_X11_303_X6_cost_6 dX11_part_72 (gO_of q24) rfl (Nat.le_of_ble_eq_true rfl) (Nat.le_of_ble_eq_true rfl) (Nat.le_of_ble_eq_true rfl) (t_X6_cost (d := d + 2) q26) (fun r9 h9 q9 => ?_)
          obtain ⟨rfl, rfl⟩ := q9
          refine g_stp (st2 := [.int v27, .int (2 : Int32), .int v11]) (pc2 := 75) (kc2 := 0) (kn2 := 0) rfl rfl rfl rfl ?_
          refine g_imul dX11_part_75 ?_
          refine g_isub dX11_part_76 ?_
          refine g_istore dX11_part_77 (by decide) (g_lvp (lv2 := [some (.ref x0), some (.ref x1), some (.int x2), some (.int x3), some (.int x4), some (.ref v7), some (.int v11), some (.int v17), some (.int v22), some (.int (v11 - ((2 : Int32) * v27)))]) (pc2 := 79) rfl rfl ?_)
          refine g_aload_n dX11_part_79 rfl ?_
          replace hf := Option.bind_eq_some_iff.mp hf
          obtain ⟨v28, q29, hf⟩ := hf
          refine g_gR f_X11_39 dX11_part_80 q29 ?_
          refine g_iload dX11_part_83 rfl ?_
          refine g_iconst (v := (0 : Int32)) dX11_part_85 (by decide) ?_
          refine g_iload dX11_part_86 rfl ?_
          refine g_max m_X11_291 m_max.1 m_max.2.1 m_max.2.2 dX11_part_88 (Nat.le_of_ble_eq_true rfl) (Nat.le_of_ble_eq_true rfl) (Nat.le_of_ble_eq_true rfl) ?_
          refine g_st (st2 := [.int (gmax (0 : Int32) (v11 - ((2 : Int32) * v27))), .int x4, .ref v28]) rfl ?_
          replace hf := Option.bind_eq_some_iff.mp hf
          obtain ⟨h30, q31, hf⟩ := hf
          refine g_sI dX11_part_91 q31 ?_
          refine g_aload_n dX11_part_92 rfl ?_
          replace hf := Option.bind_eq_some_iff.mp hf
          obtain ⟨v32, q33, hf⟩ := hf
          refine g_gR f_X11_42 dX11_part_93 q33 ?_
          refine g_iload dX11_part_96 rfl ?_
          refine g_aload_n dX11_part_98 rfl ?_
          replace hf := Option.bind_eq_some_iff.mp hf
          obtain ⟨v34, q35, hf⟩ := hf
          refine g_gR f_X11_42 dX11_part_99 q35 ?_
          refine g_iload_n dX11_part_102 rfl ?_
          replace hf := Option.bind_eq_some_iff.mp hf
          obtain ⟨v36, q37, hf⟩ := hf
          refine g_aI dX11_part_103 q37 ?_
          refine g_iload dX11_part_104 rfl ?_
          refine g_if_ge (tgt := 116) dX11_part_106 (by decide) (fun c38 => ?_) (fun c38 => ?_)
          · rw [if_pos c38] at hf
            refine g_iload dX11_part_116 rfl ?_
            refine g_weak (lv2 := [some (.ref x0), none, some (.int x2), some (.int x3), some (.int x4), some (.ref v7), some (.int v11), some (.int v17), some (.int v22), none]) (And.intro rfl (And.intro rfl (And.intro rfl (And.intro rfl (And.intro rfl (And.intro rfl (And.intro rfl (And.intro rfl (trivial))))))))) ?_
            exact g_X11_part_118 hf
          · rw [if_neg c38] at hf
            refine g_iconst (v := (2 : Int32)) dX11_part_109 (by decide) ?_
            refine g_iload dX11_part_110 rfl ?_
            refine g_imul dX11_part_112 ?_
            refine g_goto (tgt := 118) dX11_part_113 (by decide) ?_
            refine g_weak (lv2 := [some (.ref x0), none, some (.int x2), some (.int x3), some (.int x4), some (.ref v7), some (.int v11), some (.int v17), some (.int v22), none]) (And.intro rfl (And.intro rfl (And.intro rfl (And.intro rfl (And.intro rfl (And.intro rfl (And.intro rfl (And.intro rfl (trivial))))))))) ?_
            exact g_X11_part_118 hf
        · rw [if_neg c4] at hf
          refine g_weak (lv2 := [none, none, none, none, none, none, none, none, none, none]) (trivial) ?_
          exact g_X11_part_24 hf
def F_X11_part (n : Nat) (a : Nat) (p0 : Nat) (p1 : Int32) (p2 : Int32) (p3 : Int32) (h : gH) : Option (gH) := F_X11_part_0 n  a p0 p1 p2 p3 h
theorem t_X11_part {n d : Nat} {a : Nat} {p0 : Nat} {p1 : Int32} {p2 : Int32} {p3 : Int32} {h rh : gH} (hf : F_X11_part n a p0 p1 p2 p3 h = some rh) : T M_X11_part (d + 4) 0 0 [.ref a, .ref p0, .int p1, .int p2, .int p3] h (qV rh) := by
  refine T_of_G (L := 5) (by decide +kernel) rfl (Nat.le_of_ble_eq_true rfl) (g_lv (lv2 := [some (.ref a), some (.ref p0), some (.int p1), some (.int p2), some (.int p3), none, none, none, none, none]) rfl ?_)
  exact g_X11_part_0 hf
def F_X11_spread_92 (n : Nat) (k45 : Nat → Nat → Nat → Int32 → Int32 → gH → Option (Int32 × gH)) (x0 : Nat) (x1 : Nat) (x2 : Nat) (x3 : Int32) (x4 : Int32) (h : gH) : Option (Int32 × gH) :=
  k45 x0 x1 x2 (x3 * (2 : Int32)) (x4 + (1 : Int32)) h
set_option maxRecDepth 20000 in
set_option maxHeartbeats 1600000 in
theorem g_X11_spread_92 {n d : Nat} {k45 : Nat → Nat → Nat → Int32 → Int32 → gH → Option (Int32 × gH)} (t45 : ∀ {x0 : Nat} {x1 : Nat} {x2 : Nat} {x3 : Int32} {x4 : Int32} {h : gH} {rh : gH} {rv : Int32}, k45 x0 x1 x2 x3 x4 h = some (rv, rh) → G M_X11_spread (d + 6) 0 0 0 0 45 [some (.ref x0), some (.ref x1), some (.ref x2), some (.int x3), some (.int x4), none] [] h (qI rv rh)) : ∀ {x0 : Nat} {x1 : Nat} {x2 : Nat} {x3 : Int32} {x4 : Int32} {h : gH} {rh : gH} {rv : Int32}, F_X11_spread_92 n k45 x0 x1 x2 x3 x4 h = some (rv, rh) → G M_X11_spread (d + 6) 0 0 0 0 92 [some (.ref x0), some (.ref x1), some (.ref x2), some (.int x3), some (.int x4), none] [] h (qI rv rh) := by
  intro x0 x1 x2 x3 x4 h rh rv hf
  unfold F_X11_spread_92 at hf
  refine g_iload_n dX11_spread_92 rfl ?_
  refine g_iconst (v := (2 : Int32)) dX11_spread_93 (by decide) ?_
  refine g_imul dX11_spread_94 ?_
  refine g_istore_n dX11_spread_95 (by decide) (g_lvp (lv2 := [some (.ref x0), some (.ref x1), some (.ref x2), some (.int (x3 * (2 : Int32))), some (.int x4), none]) (pc2 := 96) rfl rfl ?_)
  refine g_iinc2 (w := (1 : Int32)) dX11_spread_96 (by decide) rfl (by decide) (g_lvp (lv2 := [some (.ref x0), some (.ref x1), some (.ref x2), some (.int (x3 * (2 : Int32))), some (.int (x4 + (1 : Int32))), none]) (pc2 := 99) rfl rfl ?_)
  refine g_goto (tgt := 45) dX11_spread_99 (by decide) ?_
  exact t45 hf
def F_X11_spread_57 (n : Nat) (k45 : Nat → Nat → Nat → Int32 → Int32 → gH → Option (Int32 × gH)) : Nat → Nat → Nat → Nat → Int32 → Int32 → Int32 → gH → Option (Int32 × gH)
  | 0, _, _, _, _, _, _, _ => none
  | m + 1, x0, x1, x2, x3, x4, x5, h => if x3 ≤ x5 then
  (F_X11_spread_92 n (k45) x0 x1 x2 x3 x4 h)
  else
  (if (256 : Int32) ≤ (x5 + x3) then
  (F_X11_spread_92 n (k45) x0 x1 x2 x3 x4 h)
  else
  ((gO h x0 11).bind fun f3 =>
  (F_X11_part n x0 x1 x4 x5 (x5 + x3) h).bind fun h5 =>
  F_X11_spread_57 n k45 m x0 x1 x2 x3 x4 (x5 + (1 : Int32)) h5))
set_option maxRecDepth 20000 in
set_option maxHeartbeats 1600000 in
theorem g_X11_spread_57 {n d : Nat} {k45 : Nat → Nat → Nat → Int32 → Int32 → gH → Option (Int32 × gH)} (t45 : ∀ {x0 : Nat} {x1 : Nat} {x2 : Nat} {x3 : Int32} {x4 : Int32} {h : gH} {rh : gH} {rv : Int32}, k45 x0 x1 x2 x3 x4 h = some (rv, rh) → G M_X11_spread (d + 6) 0 0 0 0 45 [some (.ref x0), some (.ref x1), some (.ref x2), some (.int x3), some (.int x4), none] [] h (qI rv rh)) : ∀ {m : Nat} {x0 : Nat} {x1 : Nat} {x2 : Nat} {x3 : Int32} {x4 : Int32} {x5 : Int32} {h : gH} {rh : gH} {rv : Int32}, F_X11_spread_57 n k45 m x0 x1 x2 x3 x4 x5 h = some (rv, rh) → G M_X11_spread (d + 6) 0 0 0 0 57 [some (.ref x0), some (.ref x1), some (.ref x2), some (.int x3), some (.int x4), some (.int x5)] [] h (qI rv rh) := by
  intro m
  induction m with
  | zero => intro x0 x1 x2 x3 x4 x5 h rh rv hf; cases hf
  | succ m t57 =>
    intro x0 x1 x2 x3 x4 x5 h rh rv hf
    unfold F_X11_spread_57 at hf
    refine g_iload dX11_spread_57 rfl ?_
    refine g_iload_n dX11_spread_59 rfl ?_
    refine g_icmp_ge (tgt := 92) dX11_spread_60 (by decide) (fun c1 => ?_) (fun c1 => ?_)
    · rw [if_pos c1] at hf
      refine g_weak (lv2 := [some (.ref x0), some (.ref x1), some (.ref x2), some (.int x3), some (.int x4), none]) (And.intro rfl (And.intro rfl (And.intro rfl (And.intro rfl (And.intro rfl (trivial)))))) ?_
      exact g_X11_spread_92 t45 hf
    · rw [if_neg c1] at hf
      refine g_iload dX11_spread_63 rfl ?_
      refine g_iload_n dX11_spread_65 rfl ?_
      refine g_iadd dX11_spread_66 ?_
      refine g_sipush (v := (256 : Int32)) dX11_spread_67 (by decide) ?_
      refine g_icmp_ge (tgt := 92) dX11_spread_70 (by decide) (fun c2 => ?_) (fun c2 => ?_)
      · rw [if_pos c2] at hf
        refine g_weak (lv2 := [some (.ref x0), some (.ref x1), some (.ref x2), some (.int x3), some (.int x4), none]) (And.intro rfl (And.intro rfl (And.intro rfl (And.intro rfl (And.intro rfl (trivial)))))) ?_
        exact g_X11_spread_92 t45 hf
      · rw [if_neg c2] at hf
        refine g_aload_n dX11_spread_73 rfl ?_
        refine g_aload_n dX11_spread_74 rfl ?_
        refine g_iload dX11_spread_75 rfl ?_
        refine g_iload dX11_spread_77 rfl ?_
        refine g_iload dX11_spread_79 rfl ?_
        refine g_iload_n dX11_spread_81 rfl ?_
        refine g_iadd dX11_spread_82 ?_
        replace hf := Option.bind_eq_some_iff.mp hf
        obtain ⟨f3, q4, hf⟩ := hf
        replace hf := Option.bind_eq_some_iff.mp hf
        obtain ⟨h5, q6, hf⟩ := hf
        refine g_callV (as := [.ref x1, .int x4, .int x5, .int (x5 + x3)]) (mc1 := 0) (ms1 := 0) s_X11_300_X11_part_11 dX11_spread_83 (gO_of q4) rfl (Nat.le_of_ble_eq_true rfl) (Nat.le_of_ble_eq_true rfl) (Nat.le_of_ble_eq_true rfl) (t_X11_part (d := d + 1) q6) (fun r9 h9 q9 => ?_)
        obtain ⟨rfl, rfl⟩ := q9
        refine g_stp (st2 := []) (pc2 := 86) (kc2 := 0) (kn2 := 0) rfl rfl rfl rfl ?_
        refine g_iinc2 (w := (1 : Int32)) dX11_spread_86 (by decide) rfl (by decide) (g_lvp (lv2 := [some (.ref x0), some (.ref x1), some (.ref x2), some (.int x3), some (.int x4), some (.int (x5 + (1 : Int32)))]) (pc2 := 89) rfl rfl ?_)
        refine g_goto (tgt := 57) dX11_spread_89 (by decide) ?_
        exact t57 hf
def F_X11_spread_45 (n : Nat)  : Nat → Nat → Nat → Nat → Int32 → Int32 → gH → Option (Int32 × gH)
  | 0, _, _, _, _, _, _ => none
  | m + 1, x0, x1, x2, x3, x4, h => (gI h x2 6 8).bind fun v1 =>
  if v1 ≤ x4 then
  (some (x3, h))
  else
  (F_X11_spread_57 n (F_X11_spread_45 n m) n x0 x1 x2 x3 x4 (0 : Int32) h)
set_option maxRecDepth 20000 in
set_option maxHeartbeats 1600000 in
theorem g_X11_spread_45 {n d : Nat} : ∀ {m : Nat} {x0 : Nat} {x1 : Nat} {x2 : Nat} {x3 : Int32} {x4 : Int32} {h : gH} {rh : gH} {rv : Int32}, F_X11_spread_45 n m x0 x1 x2 x3 x4 h = some (rv, rh) → G M_X11_spread (d + 6) 0 0 0 0 45 [some (.ref x0), some (.ref x1), some (.ref x2), some (.int x3), some (.int x4), none] [] h (qI rv rh) := by
  intro m
  induction m with
  | zero => intro x0 x1 x2 x3 x4 h rh rv hf; cases hf
  | succ m t45 =>
    intro x0 x1 x2 x3 x4 h rh rv hf
    unfold F_X11_spread_45 at hf
    refine g_iload dX11_spread_45 rfl ?_
    refine g_aload_n dX11_spread_47 rfl ?_
    replace hf := Option.bind_eq_some_iff.mp hf
    obtain ⟨v1, q2, hf⟩ := hf
    refine g_gI f_X11_102 dX11_spread_48 q2 ?_
    refine g_icmp_ge (tgt := 102) dX11_spread_51 (by decide) (fun c3 => ?_) (fun c3 => ?_)
    · rw [if_pos c3] at hf
      refine g_iload_n dX11_spread_102 rfl ?_
      obtain ⟨rfl, rfl⟩ := Prod.mk.inj (Option.some.inj hf)
      exact g_iret dX11_spread_103 rfl ⟨rfl, rfl⟩ (Nat.le_of_ble_eq_true rfl) (Nat.le_of_ble_eq_true rfl)
    · rw [if_neg c3] at hf
      refine g_iconst (v := (0 : Int32)) dX11_spread_54 (by decide) ?_
      refine g_istore dX11_spread_55 (by decide) (g_lvp (lv2 := [some (.ref x0), some (.ref x1), some (.ref x2), some (.int x3), some (.int x4), some (.int (0 : Int32))]) (pc2 := 57) rfl rfl ?_)
      exact g_X11_spread_57 t45 hf
def F_X11_spread_0 (n : Nat)  (x0 : Nat) (x1 : Nat) (h : gH) : Option (Int32 × gH) :=
  (gR h x0 11 0).bind fun v1 =>
  (gR h v1 7 1).bind fun v3 =>
  (gR h x0 11 3).bind fun v5 =>
  (gO h v5 4).bind fun f7 =>
  (F_X4_prepare n v5 v3 h).bind fun h9 =>
  (gR h9 x0 11 5).bind fun v11 =>
  (gI h9 v3 6 12).bind fun v13 =>
  (sI h9 v11 (0 : Int32) v13).bind fun h15 =>
  (gR h15 x0 11 6).bind fun v17 =>
  (sI h15 v17 (0 : Int32) (0 : Int32)).bind fun h19 =>
  (gR h19 x0 11 7).bind fun v21 =>
  (sL h19 v21 (0 : Int32) (1 : Int64)).bind fun h23 =>
  F_X11_spread_45 n n x0 x1 v3 (1 : Int32) (0 : Int32) h23
set_option maxRecDepth 20000 in
set_option maxHeartbeats 1600000 in
theorem g_X11_spread_0 {n d : Nat} : ∀ {x0 : Nat} {x1 : Nat} {h : gH} {rh : gH} {rv : Int32}, F_X11_spread_0 n x0 x1 h = some (rv, rh) → G M_X11_spread (d + 6) 0 0 0 0 0 [some (.ref x0), some (.ref x1), none, none, none, none] [] h (qI rv rh) := by
  intro x0 x1 h rh rv hf
  unfold F_X11_spread_0 at hf
  refine g_aload_n dX11_spread_0 rfl ?_
  replace hf := Option.bind_eq_some_iff.mp hf
  obtain ⟨v1, q2, hf⟩ := hf
  refine g_gR f_X11_12 dX11_spread_1 q2 ?_
  replace hf := Option.bind_eq_some_iff.mp hf
  obtain ⟨v3, q4, hf⟩ := hf
  refine g_gR f_X11_70 dX11_spread_4 q4 ?_
  refine g_astore_n dX11_spread_7 (by decide) (g_lvp (lv2 := [some (.ref x0), some (.ref x1), some (.ref v3), none, none, none]) (pc2 := 8) rfl rfl ?_)
  refine g_aload_n dX11_spread_8 rfl ?_
  replace hf := Option.bind_eq_some_iff.mp hf
  obtain ⟨v5, q6, hf⟩ := hf
  refine g_gR f_X11_31 dX11_spread_9 q6 ?_
  refine g_aload_n dX11_spread_12 rfl ?_
  replace hf := Option.bind_eq_some_iff.mp hf
  obtain ⟨f7, q8, hf⟩ := hf
  replace hf := Option.bind_eq_some_iff.mp hf
  obtain ⟨h9, q10, hf⟩ := hf
  refine g_callV (as := [.ref v3]) (mc1 := 0) (ms1 := 0) s_X11_158_X4_prepare_4 dX11_spread_13 (gO_of q8) rfl (Nat.le_of_ble_eq_true rfl) (Nat.le_of_ble_eq_true rfl) (Nat.le_of_ble_eq_true rfl) (t_X4_prepare (d := d + 0) q10) (fun r9 h9 q9 => ?_)
  obtain ⟨rfl, rfl⟩ := q9
  refine g_stp (st2 := []) (pc2 := 16) (kc2 := 0) (kn2 := 0) rfl rfl rfl rfl ?_
  refine g_iconst (v := (1 : Int32)) dX11_spread_16 (by decide) ?_
  refine g_istore_n dX11_spread_17 (by decide) (g_lvp (lv2 := [some (.ref x0), some (.ref x1), some (.ref v3), some (.int (1 : Int32)), none, none]) (pc2 := 18) rfl rfl ?_)
  refine g_aload_n dX11_spread_18 rfl ?_
  replace hf := Option.bind_eq_some_iff.mp hf
  obtain ⟨v11, q12, hf⟩ := hf
  refine g_gR f_X11_39 dX11_spread_19 q12 ?_
  refine g_iconst (v := (0 : Int32)) dX11_spread_22 (by decide) ?_
  refine g_aload_n dX11_spread_23 rfl ?_
  replace hf := Option.bind_eq_some_iff.mp hf
  obtain ⟨v13, q14, hf⟩ := hf
  refine g_gI f_X11_108 dX11_spread_24 q14 ?_
  replace hf := Option.bind_eq_some_iff.mp hf
  obtain ⟨h15, q16, hf⟩ := hf
  refine g_sI dX11_spread_27 q16 ?_
  refine g_aload_n dX11_spread_28 rfl ?_
  replace hf := Option.bind_eq_some_iff.mp hf
  obtain ⟨v17, q18, hf⟩ := hf
  refine g_gR f_X11_42 dX11_spread_29 q18 ?_
  refine g_iconst (v := (0 : Int32)) dX11_spread_32 (by decide) ?_
  refine g_iconst (v := (0 : Int32)) dX11_spread_33 (by decide) ?_
  replace hf := Option.bind_eq_some_iff.mp hf
  obtain ⟨h19, q20, hf⟩ := hf
  refine g_sI dX11_spread_34 q20 ?_
  refine g_aload_n dX11_spread_35 rfl ?_
  replace hf := Option.bind_eq_some_iff.mp hf
  obtain ⟨v21, q22, hf⟩ := hf
  refine g_gR f_X11_45 dX11_spread_36 q22 ?_
  refine g_iconst (v := (0 : Int32)) dX11_spread_39 (by decide) ?_
  refine g_lconst (v := (1 : Int64)) dX11_spread_40 (by decide) ?_
  replace hf := Option.bind_eq_some_iff.mp hf
  obtain ⟨h23, q24, hf⟩ := hf
  refine g_sL dX11_spread_41 q24 ?_
  refine g_iconst (v := (0 : Int32)) dX11_spread_42 (by decide) ?_
  refine g_istore dX11_spread_43 (by decide) (g_lvp (lv2 := [some (.ref x0), some (.ref x1), some (.ref v3), some (.int (1 : Int32)), some (.int (0 : Int32)), none]) (pc2 := 45) rfl rfl ?_)
  exact g_X11_spread_45 hf
def F_X11_spread (n : Nat) (a : Nat) (p0 : Nat) (h : gH) : Option (Int32 × gH) := F_X11_spread_0 n  a p0 h
theorem t_X11_spread {n d : Nat} {a : Nat} {p0 : Nat} {h rh : gH} {rv : Int32} (hf : F_X11_spread n a p0 h = some (rv, rh)) : T M_X11_spread (d + 6) 0 0 [.ref a, .ref p0] h (qI rv rh) := by
  refine T_of_G (L := 4) (by decide +kernel) rfl (Nat.le_of_ble_eq_true rfl) (g_lv (lv2 := [some (.ref a), some (.ref p0), none, none, none, none]) rfl ?_)
  exact g_X11_spread_0 hf
def F_X11_mean_94 (n : Nat)  (x0 : Nat) (x2 : Int32) (x5 : Int64) (h : gH) : Option (Int64 × gH) :=
  (gO h x0 11).bind fun f1 =>
  gB (F_X11_fraction n x0 x5 x2 h) fun v5 h3 =>
  some (v5, h3)
set_option maxRecDepth 20000 in
set_option maxHeartbeats 1600000 in
theorem g_X11_mean_94 {n d : Nat} : ∀ {x0 : Nat} {x2 : Int32} {x5 : Int64} {h : gH} {rh : gH} {rv : Int64}, F_X11_mean_94 n x0 x2 x5 h = some (rv, rh) → G M_X11_mean (d + 7) 0 0 0 0 94 [some (.ref x0), none, some (.int x2), none, none, some (.long x5), none, none] [] h (qL rv rh) := by
  intro x0 x2 x5 h rh rv hf
  unfold F_X11_mean_94 at hf
  refine g_aload_n dX11_mean_94 rfl ?_
  refine g_lload dX11_mean_95 rfl ?_
  refine g_iload_n dX11_mean_97 rfl ?_
  replace hf := Option.bind_eq_some_iff.mp hf
  obtain ⟨f1, q2, hf⟩ := hf
  replace hf := gB_of hf
  obtain ⟨v5, h3, q4, hf⟩ := hf
  refine g_callV (as := [.long x5, .int x2]) (mc1 := 0) (ms1 := 0) s_X11_210_X11_fraction_11 dX11_mean_98 (gO_of q2) rfl (Nat.le_of_ble_eq_true rfl) (Nat.le_of_ble_eq_true rfl) (Nat.le_of_ble_eq_true rfl) (t_X11_fraction (d := d + 5) q4) (fun r9 h9 q9 => ?_)
  obtain ⟨rfl, rfl⟩ := q9
  refine g_stp (st2 := [.long v5]) (pc2 := 101) (kc2 := 0) (kn2 := 0) rfl rfl rfl rfl ?_
  obtain ⟨rfl, rfl⟩ := Prod.mk.inj (Option.some.inj hf)
  exact g_lret dX11_mean_101 rfl ⟨rfl, rfl⟩ (Nat.le_of_ble_eq_true rfl) (Nat.le_of_ble_eq_true rfl)
def F_X11_mean_52 (n : Nat)  : Nat → Nat → Int32 → Int32 → Int64 → Int32 → gH → Option (Int64 × gH)
  | 0, _, _, _, _, _, _ => none
  | m + 1, x0, x2, x4, x5, x7, h => if x4 ≤ x7 then
  (F_X11_mean_94 n x0 x2 x5 h)
  else
  (if (256 : Int32) ≤ x7 then
  (F_X11_mean_94 n x0 x2 x5 h)
  else
  ((gR h x0 11 7).bind fun v3 =>
  (aL h v3 x7).bind fun v5 =>
  (gR h x0 11 6).bind fun v7 =>
  (aI h v7 x7).bind fun v9 =>
  F_X11_mean_52 n m x0 x2 x4 (x5 + (v5 * v9.toInt64)) (x7 + (1 : Int32)) h))
set_option maxRecDepth 20000 in
set_option maxHeartbeats 1600000 in
theorem g_X11_mean_52 {n d : Nat} : ∀ {m : Nat} {x0 : Nat} {x2 : Int32} {x4 : Int32} {x5 : Int64} {x7 : Int32} {h : gH} {rh : gH} {rv : Int64}, F_X11_mean_52 n m x0 x2 x4 x5 x7 h = some (rv, rh) → G M_X11_mean (d + 7) 0 0 0 0 52 [some (.ref x0), none, some (.int x2), none, some (.int x4), some (.long x5), none, some (.int x7)] [] h (qL rv rh) := by
  intro m
  induction m with
  | zero => intro x0 x2 x4 x5 x7 h rh rv hf; cases hf
  | succ m t52 =>
    intro x0 x2 x4 x5 x7 h rh rv hf
    unfold F_X11_mean_52 at hf
    refine g_iload dX11_mean_52 rfl ?_
    refine g_iload dX11_mean_54 rfl ?_
    refine g_icmp_ge (tgt := 94) dX11_mean_56 (by decide) (fun c1 => ?_) (fun c1 => ?_)
    · rw [if_pos c1] at hf
      refine g_weak (lv2 := [some (.ref x0), none, some (.int x2), none, none, some (.long x5), none, none]) (And.intro rfl (And.intro rfl (And.intro rfl (trivial)))) ?_
      exact g_X11_mean_94 hf
    · rw [if_neg c1] at hf
      refine g_iload dX11_mean_59 rfl ?_
      refine g_sipush (v := (256 : Int32)) dX11_mean_61 (by decide) ?_
      refine g_icmp_ge (tgt := 94) dX11_mean_64 (by decide) (fun c2 => ?_) (fun c2 => ?_)
      · rw [if_pos c2] at hf
        refine g_weak (lv2 := [some (.ref x0), none, some (.int x2), none, none, some (.long x5), none, none]) (And.intro rfl (And.intro rfl (And.intro rfl (trivial)))) ?_
        exact g_X11_mean_94 hf
      · rw [if_neg c2] at hf
        refine g_lload dX11_mean_67 rfl ?_
        refine g_aload_n dX11_mean_69 rfl ?_
        replace hf := Option.bind_eq_some_iff.mp hf
        obtain ⟨v3, q4, hf⟩ := hf
        refine g_gR f_X11_45 dX11_mean_70 q4 ?_
        refine g_iload dX11_mean_73 rfl ?_
        replace hf := Option.bind_eq_some_iff.mp hf
        obtain ⟨v5, q6, hf⟩ := hf
        refine g_aL dX11_mean_75 q6 ?_
        refine g_aload_n dX11_mean_76 rfl ?_
        replace hf := Option.bind_eq_some_iff.mp hf
        obtain ⟨v7, q8, hf⟩ := hf
        refine g_gR f_X11_42 dX11_mean_77 q8 ?_
        refine g_iload dX11_mean_80 rfl ?_
        replace hf := Option.bind_eq_some_iff.mp hf
        obtain ⟨v9, q10, hf⟩ := hf
        refine g_aI dX11_mean_82 q10 ?_
        refine g_i2l dX11_mean_83 rfl ?_
        refine g_lmul dX11_mean_84 ?_
        refine g_ladd dX11_mean_85 ?_
        refine g_lstore dX11_mean_86 (by decide) (g_lvp (lv2 := [some (.ref x0), none, some (.int x2), none, some (.int x4), some (.long (x5 + (v5 * v9.toInt64))), none, some (.int x7)]) (pc2 := 88) rfl rfl ?_)
        refine g_iinc2 (w := (1 : Int32)) dX11_mean_88 (by decide) rfl (by decide) (g_lvp (lv2 := [some (.ref x0), none, some (.int x2), none, some (.int x4), some (.long (x5 + (v5 * v9.toInt64))), none, some (.int (x7 + (1 : Int32)))]) (pc2 := 91) rfl rfl ?_)
        refine g_goto (tgt := 52) dX11_mean_91 (by decide) ?_
        exact t52 hf
def F_X11_mean_35 (n : Nat)   (h : gH) : Option (Int64 × gH) :=
  some ((-9223372036854775808 : Int64), h)
set_option maxRecDepth 20000 in
set_option maxHeartbeats 1600000 in
theorem g_X11_mean_35 {n d : Nat} : ∀  {h : gH} {rh : gH} {rv : Int64}, F_X11_mean_35 n  h = some (rv, rh) → G M_X11_mean (d + 7) 0 0 0 0 35 [none, none, none, none, none, none, none, none] [] h (qL rv rh) := by
  intro  h rh rv hf
  unfold F_X11_mean_35 at hf
  refine g_ldc2 (v := (-9223372036854775808 : Int64)) (gt_4 (List.mem_of_getElem? (i := 82) (by decide +kernel)) (by decide +kernel)) dX11_mean_35 ?_
  obtain ⟨rfl, rfl⟩ := Prod.mk.inj (Option.some.inj hf)
  exact g_lret dX11_mean_38 rfl ⟨rfl, rfl⟩ (Nat.le_of_ble_eq_true rfl) (Nat.le_of_ble_eq_true rfl)
def F_X11_mean_0 (n : Nat)  (x0 : Nat) (x1 : Int32) (x2 : Int32) (h : gH) : Option (Int64 × gH) :=
  (gR h x0 11 0).bind fun v1 =>
  (gO h v1 7).bind fun f3 =>
  gB (F_X7_find n v1 x1 h) fun v7 h5 =>
  if v7 = none then
  (F_X11_mean_35 n h5)
  else
  (if x2 < 0 then
  (F_X11_mean_35 n h5)
  else
  (if (1 : Int32) < x2 then
  (F_X11_mean_35 n h5)
  else
  ((gR h5 x0 11 0).bind fun v11 =>
  (gR h5 v11 7 1).bind fun v13 =>
  (gI h5 v13 6 8).bind fun v15 =>
  if v15 = 0 then
  (F_X11_mean_35 n h5)
  else
  ((v7).bind fun a18 =>
  (gO h5 x0 11).bind fun f20 =>
  gB (F_X11_spread n x0 a18 h5) fun v24 h22 =>
  F_X11_mean_52 n n x0 x2 v24 (0 : Int64) (0 : Int32) h22))))
set_option maxRecDepth 20000 in
set_option maxHeartbeats 1600000 in
theorem g_X11_mean_0 {n d : Nat} : ∀ {x0 : Nat} {x1 : Int32} {x2 : Int32} {h : gH} {rh : gH} {rv : Int64}, F_X11_mean_0 n x0 x1 x2 h = some (rv, rh) → G M_X11_mean (d + 7) 0 0 0 0 0 [some (.ref x0), some (.int x1), some (.int x2), none, none, none, none, none] [] h (qL rv rh) := by
  intro x0 x1 x2 h rh rv hf
  unfold F_X11_mean_0 at hf
  refine g_aload_n dX11_mean_0 rfl ?_
  replace hf := Option.bind_eq_some_iff.mp hf
  obtain ⟨v1, q2, hf⟩ := hf
  refine g_gR f_X11_12 dX11_mean_1 q2 ?_
  refine g_iload_n dX11_mean_4 rfl ?_
  replace hf := Option.bind_eq_some_iff.mp hf
  obtain ⟨f3, q4, hf⟩ := hf
  replace hf := gB_of hf
  obtain ⟨v7, h5, q6, hf⟩ := hf
  refine g_callV (as := [.int x1]) (mc1 := 0) (ms1 := 0) s_X11_144_X7_find_7 dX11_mean_5 (gO_of q4) rfl (Nat.le_of_ble_eq_true rfl) (Nat.le_of_ble_eq_true rfl) (Nat.le_of_ble_eq_true rfl) (t_X7_find (d := d + 6) q6) (fun r9 h9 q9 => ?_)
  obtain ⟨rfl, rfl⟩ := q9
  refine g_stp (st2 := [va_rf v7]) (pc2 := 8) (kc2 := 0) (kn2 := 0) rfl rfl rfl rfl ?_
  refine g_astore_q (r := v7) dX11_mean_8 (by decide) (g_lvp (lv2 := [some (.ref x0), some (.int x1), some (.int x2), some (va_rf v7), none, none, none, none]) (pc2 := 9) rfl rfl ?_)
  refine g_aload_q (r := v7) dX11_mean_9 rfl ?_
  refine g_ifnullq (tgt := 35) dX11_mean_10 (by decide) (fun c8 => ?_) (fun c8 => ?_)
  · rw [if_pos c8] at hf
    refine g_weak (lv2 := [none, none, none, none, none, none, none, none]) (trivial) ?_
    exact g_X11_mean_35 hf
  · rw [if_neg c8] at hf
    refine g_iload_n dX11_mean_13 rfl ?_
    refine g_if_lt (tgt := 35) dX11_mean_14 (by decide) (fun c9 => ?_) (fun c9 => ?_)
    · rw [if_pos c9] at hf
      refine g_weak (lv2 := [none, none, none, none, none, none, none, none]) (trivial) ?_
      exact g_X11_mean_35 hf
    · rw [if_neg c9] at hf
      refine g_iload_n dX11_mean_17 rfl ?_
      refine g_iconst (v := (1 : Int32)) dX11_mean_18 (by decide) ?_
      refine g_icmp_gt (tgt := 35) dX11_mean_19 (by decide) (fun c10 => ?_) (fun c10 => ?_)
      · rw [if_pos c10] at hf
        refine g_weak (lv2 := [none, none, none, none, none, none, none, none]) (trivial) ?_
        exact g_X11_mean_35 hf
      · rw [if_neg c10] at hf
        refine g_aload_n dX11_mean_22 rfl ?_
        replace hf := Option.bind_eq_some_iff.mp hf
        obtain ⟨v11, q12, hf⟩ := hf
        refine g_gR f_X11_12 dX11_mean_23 q12 ?_
        replace hf := Option.bind_eq_some_iff.mp hf
        obtain ⟨v13, q14, hf⟩ := hf
        refine g_gR f_X11_70 dX11_mean_26 q14 ?_
        replace hf := Option.bind_eq_some_iff.mp hf
        obtain ⟨v15, q16, hf⟩ := hf
        refine g_gI f_X11_102 dX11_mean_29 q16 ?_
        refine g_if_ne (tgt := 39) dX11_mean_32 (by decide) (fun c17 => ?_) (fun c17 => ?_)
        · rw [if_neg c17] at hf
          refine g_aload_n dX11_mean_39 rfl ?_
          refine g_aload_q (r := v7) dX11_mean_40 rfl ?_
          replace hf := Option.bind_eq_some_iff.mp hf
          obtain ⟨a18, q19, hf⟩ := hf
          subst q19
          replace hf := Option.bind_eq_some_iff.mp hf
          obtain ⟨f20, q21, hf⟩ := hf
          replace hf := gB_of hf
          obtain ⟨v24, h22, q23, hf⟩ := hf
          refine g_callV (as := [.ref a18]) (mc1 := 0) (ms1 := 0) s_X11_206_X11_spread_11 dX11_mean_41 (gO_of q21) rfl (Nat.le_of_ble_eq_true rfl) (Nat.le_of_ble_eq_true rfl) (Nat.le_of_ble_eq_true rfl) (t_X11_spread (d := d + 0) q23) (fun r9 h9 q9 => ?_)
          obtain ⟨rfl, rfl⟩ := q9
          refine g_stp (st2 := [.int v24]) (pc2 := 44) (kc2 := 0) (kn2 := 0) rfl rfl rfl rfl ?_
          refine g_istore dX11_mean_44 (by decide) (g_lvp (lv2 := [some (.ref x0), some (.int x1), some (.int x2), some (va_rf (some a18)), some (.int v24), none, none, none]) (pc2 := 46) rfl rfl ?_)
          refine g_lconst (v := (0 : Int64)) dX11_mean_46 (by decide) ?_
          refine g_lstore dX11_mean_47 (by decide) (g_lvp (lv2 := [some (.ref x0), some (.int x1), some (.int x2), some (va_rf (some a18)), some (.int v24), some (.long (0 : Int64)), none, none]) (pc2 := 49) rfl rfl ?_)
          refine g_iconst (v := (0 : Int32)) dX11_mean_49 (by decide) ?_
          refine g_istore dX11_mean_50 (by decide) (g_lvp (lv2 := [some (.ref x0), some (.int x1), some (.int x2), some (va_rf (some a18)), some (.int v24), some (.long (0 : Int64)), none, some (.int (0 : Int32))]) (pc2 := 52) rfl rfl ?_)
          refine g_weak (lv2 := [some (.ref x0), none, some (.int x2), none, some (.int v24), some (.long (0 : Int64)), none, some (.int (0 : Int32))]) (And.intro rfl (And.intro rfl (And.intro rfl (And.intro rfl (And.intro rfl (trivial)))))) ?_
          exact g_X11_mean_52 hf
        · rw [if_pos c17] at hf
          refine g_weak (lv2 := [none, none, none, none, none, none, none, none]) (trivial) ?_
          exact g_X11_mean_35 hf
def F_X11_mean (n : Nat) (a : Nat) (p0 : Int32) (p1 : Int32) (h : gH) : Option (Int64 × gH) := F_X11_mean_0 n  a p0 p1 h
theorem t_X11_mean {n d : Nat} {a : Nat} {p0 : Int32} {p1 : Int32} {h rh : gH} {rv : Int64} (hf : F_X11_mean n a p0 p1 h = some (rv, rh)) : T M_X11_mean (d + 7) 0 0 [.ref a, .int p0, .int p1] h (qL rv rh) := by
  refine T_of_G (L := 5) (by decide +kernel) rfl (Nat.le_of_ble_eq_true rfl) (g_lv (lv2 := [some (.ref a), some (.int p0), some (.int p1), none, none, none, none, none]) rfl ?_)
  exact g_X11_mean_0 hf
def F_X2_init_0 (n : Nat)  (x0 : Nat) (x1 : Int32) (x2 : Int32) (h : gH) : Option (gH) :=
  (F_X1_init n x0 x1 x2 h).bind fun h1 =>
  some h1
set_option maxRecDepth 20000 in
set_option maxHeartbeats 1600000 in
theorem g_X2_init_0 {n d : Nat} : ∀ {x0 : Nat} {x1 : Int32} {x2 : Int32} {h : gH} {rh : gH}, F_X2_init_0 n x0 x1 x2 h = some rh → G M_X2_init (d + 3) 0 0 0 0 0 [some (.ref x0), some (.int x1), some (.int x2)] [] h (qV rh) := by
  intro x0 x1 x2 h rh hf
  unfold F_X2_init_0 at hf
  refine g_aload_n dX2_init_0 rfl ?_
  refine g_iload_n dX2_init_1 rfl ?_
  refine g_iload_n dX2_init_2 rfl ?_
  replace hf := Option.bind_eq_some_iff.mp hf
  obtain ⟨h1, q2, hf⟩ := hf
  refine g_callI (as := [.int x1, .int x2]) (mc1 := 0) (ms1 := 0) s_X2_1_X1_init dX2_init_3 rfl (Nat.le_of_ble_eq_true rfl) (Nat.le_of_ble_eq_true rfl) (Nat.le_of_ble_eq_true rfl) (t_X1_init (d := d + 0) q2) (fun r9 h9 q9 => ?_)
  obtain ⟨rfl, rfl⟩ := q9
  refine g_stp (st2 := []) (pc2 := 6) (kc2 := 0) (kn2 := 0) rfl rfl rfl rfl ?_
  obtain rfl := Option.some.inj hf
  exact g_vret dX2_init_6 rfl ⟨rfl, rfl⟩ (Nat.le_of_ble_eq_true rfl) (Nat.le_of_ble_eq_true rfl)
def F_X2_init (n : Nat) (a : Nat) (p0 : Int32) (p1 : Int32) (h : gH) : Option (gH) := F_X2_init_0 n  a p0 p1 h
theorem t_X2_init {n d : Nat} {a : Nat} {p0 : Int32} {p1 : Int32} {h rh : gH} (hf : F_X2_init n a p0 p1 h = some rh) : T M_X2_init (d + 3) 0 0 [.ref a, .int p0, .int p1] h (qV rh) := by
  refine T_of_G (L := 0) (by decide +kernel) rfl (Nat.le_of_ble_eq_true rfl) (g_lv (lv2 := [some (.ref a), some (.int p0), some (.int p1)]) rfl ?_)
  exact g_X2_init_0 hf
def F_X3_init_0 (n : Nat)  (x0 : Nat) (x1 : Int32) (x2 : Int32) (h : gH) : Option (gH) :=
  (F_X10_init n x0 x1 x2 h).bind fun h1 =>
  some h1
set_option maxRecDepth 20000 in
set_option maxHeartbeats 1600000 in
theorem g_X3_init_0 {n d : Nat} : ∀ {x0 : Nat} {x1 : Int32} {x2 : Int32} {h : gH} {rh : gH}, F_X3_init_0 n x0 x1 x2 h = some rh → G M_X3_init (d + 2) 0 0 0 0 0 [some (.ref x0), some (.int x1), some (.int x2)] [] h (qV rh) := by
  intro x0 x1 x2 h rh hf
  unfold F_X3_init_0 at hf
  refine g_aload_n dX3_init_0 rfl ?_
  refine g_iload_n dX3_init_1 rfl ?_
  refine g_iload_n dX3_init_2 rfl ?_
  replace hf := Option.bind_eq_some_iff.mp hf
  obtain ⟨h1, q2, hf⟩ := hf
  refine g_callI (as := [.int x1, .int x2]) (mc1 := 0) (ms1 := 0) s_X3_1_X10_init dX3_init_3 rfl (Nat.le_of_ble_eq_true rfl) (Nat.le_of_ble_eq_true rfl) (Nat.le_of_ble_eq_true rfl) (t_X10_init (d := d + 0) q2) (fun r9 h9 q9 => ?_)
  obtain ⟨rfl, rfl⟩ := q9
  refine g_stp (st2 := []) (pc2 := 6) (kc2 := 0) (kn2 := 0) rfl rfl rfl rfl ?_
  obtain rfl := Option.some.inj hf
  exact g_vret dX3_init_6 rfl ⟨rfl, rfl⟩ (Nat.le_of_ble_eq_true rfl) (Nat.le_of_ble_eq_true rfl)
def F_X3_init (n : Nat) (a : Nat) (p0 : Int32) (p1 : Int32) (h : gH) : Option (gH) := F_X3_init_0 n  a p0 p1 h
theorem t_X3_init {n d : Nat} {a : Nat} {p0 : Int32} {p1 : Int32} {h rh : gH} (hf : F_X3_init n a p0 p1 h = some rh) : T M_X3_init (d + 2) 0 0 [.ref a, .int p0, .int p1] h (qV rh) := by
  refine T_of_G (L := 0) (by decide +kernel) rfl (Nat.le_of_ble_eq_true rfl) (g_lv (lv2 := [some (.ref a), some (.int p0), some (.int p1)]) rfl ?_)
  exact g_X3_init_0 hf
def F_X8_init_0 (n : Nat)  (x0 : Nat) (x1 : Int32) (x2 : Int32) (h : gH) : Option (gH) :=
  (F_X10_init n x0 x1 x2 h).bind fun h1 =>
  some h1
set_option maxRecDepth 20000 in
set_option maxHeartbeats 1600000 in
theorem g_X8_init_0 {n d : Nat} : ∀ {x0 : Nat} {x1 : Int32} {x2 : Int32} {h : gH} {rh : gH}, F_X8_init_0 n x0 x1 x2 h = some rh → G M_X8_init (d + 2) 0 0 0 0 0 [some (.ref x0), some (.int x1), some (.int x2)] [] h (qV rh) := by
  intro x0 x1 x2 h rh hf
  unfold F_X8_init_0 at hf
  refine g_aload_n dX8_init_0 rfl ?_
  refine g_iload_n dX8_init_1 rfl ?_
  refine g_iload_n dX8_init_2 rfl ?_
  replace hf := Option.bind_eq_some_iff.mp hf
  obtain ⟨h1, q2, hf⟩ := hf
  refine g_callI (as := [.int x1, .int x2]) (mc1 := 0) (ms1 := 0) s_X8_1_X10_init dX8_init_3 rfl (Nat.le_of_ble_eq_true rfl) (Nat.le_of_ble_eq_true rfl) (Nat.le_of_ble_eq_true rfl) (t_X10_init (d := d + 0) q2) (fun r9 h9 q9 => ?_)
  obtain ⟨rfl, rfl⟩ := q9
  refine g_stp (st2 := []) (pc2 := 6) (kc2 := 0) (kn2 := 0) rfl rfl rfl rfl ?_
  obtain rfl := Option.some.inj hf
  exact g_vret dX8_init_6 rfl ⟨rfl, rfl⟩ (Nat.le_of_ble_eq_true rfl) (Nat.le_of_ble_eq_true rfl)
def F_X8_init (n : Nat) (a : Nat) (p0 : Int32) (p1 : Int32) (h : gH) : Option (gH) := F_X8_init_0 n  a p0 p1 h
theorem t_X8_init {n d : Nat} {a : Nat} {p0 : Int32} {p1 : Int32} {h rh : gH} (hf : F_X8_init n a p0 p1 h = some rh) : T M_X8_init (d + 2) 0 0 [.ref a, .int p0, .int p1] h (qV rh) := by
  refine T_of_G (L := 0) (by decide +kernel) rfl (Nat.le_of_ble_eq_true rfl) (g_lv (lv2 := [some (.ref a), some (.int p0), some (.int p1)]) rfl ?_)
  exact g_X8_init_0 hf
def F_X9_init_0 (n : Nat)  (x0 : Nat) (x1 : Int32) (x2 : Int32) (h : gH) : Option (gH) :=
  (F_X8_init n x0 x1 x2 h).bind fun h1 =>
  some h1
set_option maxRecDepth 20000 in
set_option maxHeartbeats 1600000 in
theorem g_X9_init_0 {n d : Nat} : ∀ {x0 : Nat} {x1 : Int32} {x2 : Int32} {h : gH} {rh : gH}, F_X9_init_0 n x0 x1 x2 h = some rh → G M_X9_init (d + 3) 0 0 0 0 0 [some (.ref x0), some (.int x1), some (.int x2)] [] h (qV rh) := by
  intro x0 x1 x2 h rh hf
  unfold F_X9_init_0 at hf
  refine g_aload_n dX9_init_0 rfl ?_
  refine g_iload_n dX9_init_1 rfl ?_
  refine g_iload_n dX9_init_2 rfl ?_
  replace hf := Option.bind_eq_some_iff.mp hf
  obtain ⟨h1, q2, hf⟩ := hf
  refine g_callI (as := [.int x1, .int x2]) (mc1 := 0) (ms1 := 0) s_X9_1_X8_init dX9_init_3 rfl (Nat.le_of_ble_eq_true rfl) (Nat.le_of_ble_eq_true rfl) (Nat.le_of_ble_eq_true rfl) (t_X8_init (d := d + 0) q2) (fun r9 h9 q9 => ?_)
  obtain ⟨rfl, rfl⟩ := q9
  refine g_stp (st2 := []) (pc2 := 6) (kc2 := 0) (kn2 := 0) rfl rfl rfl rfl ?_
  obtain rfl := Option.some.inj hf
  exact g_vret dX9_init_6 rfl ⟨rfl, rfl⟩ (Nat.le_of_ble_eq_true rfl) (Nat.le_of_ble_eq_true rfl)
def F_X9_init (n : Nat) (a : Nat) (p0 : Int32) (p1 : Int32) (h : gH) : Option (gH) := F_X9_init_0 n  a p0 p1 h
theorem t_X9_init {n d : Nat} {a : Nat} {p0 : Int32} {p1 : Int32} {h rh : gH} (hf : F_X9_init n a p0 p1 h = some rh) : T M_X9_init (d + 3) 0 0 [.ref a, .int p0, .int p1] h (qV rh) := by
  refine T_of_G (L := 0) (by decide +kernel) rfl (Nat.le_of_ble_eq_true rfl) (g_lv (lv2 := [some (.ref a), some (.int p0), some (.int p1)]) rfl ?_)
  exact g_X9_init_0 hf
def F_X11_newWay_0 (n : Nat)  (x0 : Int32) (x1 : Int32) (x2 : Int32) (h : gH) : Option (Nat × gH) :=
  if x0 = (1 : Int32) then
  (gB (nO h 1 [.int 0, .int 0]) fun a2 h3 =>
  (F_X1_init n a2 x1 x2 h3).bind fun h5 =>
  some (a2, h5))
  else if x0 = (2 : Int32) then
  (gB (nO h 8 [.int 0, .int 0]) fun a8 h9 =>
  (F_X8_init n a8 x1 x2 h9).bind fun h11 =>
  some (a8, h11))
  else if x0 = (3 : Int32) then
  (gB (nO h 0 [.int 0, .int 0]) fun a14 h15 =>
  (F_X0_init n a14 x1 x2 h15).bind fun h17 =>
  some (a14, h17))
  else if x0 = (4 : Int32) then
  (gB (nO h 2 [.int 0, .int 0]) fun a20 h21 =>
  (F_X2_init n a20 x1 x2 h21).bind fun h23 =>
  some (a20, h23))
  else if x0 = (5 : Int32) then
  (gB (nO h 9 [.int 0, .int 0]) fun a26 h27 =>
  (F_X9_init n a26 x1 x2 h27).bind fun h29 =>
  some (a26, h29))
  else if x0 = (6 : Int32) then
  (gB (nO h 3 [.int 0, .int 0]) fun a32 h33 =>
  (F_X3_init n a32 x1 x2 h33).bind fun h35 =>
  some (a32, h35))
  else (gB (nO h 10 [.int 0, .int 0]) fun a37 h38 =>
  (F_X10_init n a37 x1 x2 h38).bind fun h40 =>
  some (a37, h40))
set_option maxRecDepth 20000 in
set_option maxHeartbeats 1600000 in
theorem g_X11_newWay_0 {n d : Nat} : ∀ {x0 : Int32} {x1 : Int32} {x2 : Int32} {h : gH} {rh : gH} {rv : Nat}, F_X11_newWay_0 n x0 x1 x2 h = some (rv, rh) → G M_X11_newWay (d + 4) 1 2 0 0 0 [some (.int x0), some (.int x1), some (.int x2)] [] h (qR rv rh) := by
  intro x0 x1 x2 h rh rv hf
  unfold F_X11_newWay_0 at hf
  refine g_iload_n dX11_newWay_0 rfl ?_
  by_cases c1 : x0 = (1 : Int32)
  · rw [if_pos c1] at hf
    refine g_tswK (k := (1 : Int32)) (off := 39) (tgt := 40) dX11_newWay_1 c1 (by decide) (by decide) (by decide) (by decide) ?_
    replace hf := gB_of hf
    obtain ⟨a2, h3, q4, hf⟩ := hf
    refine g_nO n_X11_263 dX11_newWay_40 q4 (by decide) (by decide) ?_
    refine g_dup dX11_newWay_43 rfl ?_
    refine g_iload_n dX11_newWay_44 rfl ?_
    refine g_iload_n dX11_newWay_45 rfl ?_
    replace hf := Option.bind_eq_some_iff.mp hf
    obtain ⟨h5, q6, hf⟩ := hf
    refine g_callI (as := [.int x1, .int x2]) (mc1 := 0) (ms1 := 0) s_X11_265_X1_init dX11_newWay_46 rfl (Nat.le_of_ble_eq_true rfl) (Nat.le_of_ble_eq_true rfl) (Nat.le_of_ble_eq_true rfl) (t_X1_init (d := d + 1) q6) (fun r9 h9 q9 => ?_)
    obtain ⟨rfl, rfl⟩ := q9
    refine g_stp (st2 := [.ref a2]) (pc2 := 49) (kc2 := 1) (kn2 := 2) rfl rfl rfl rfl ?_
    obtain ⟨e1, e2⟩ := Prod.mk.inj (Option.some.inj hf)
    exact g_aret (r := (some a2)) dX11_newWay_49 rfl ⟨by subst e1; rfl, e2.symm⟩ (Nat.le_of_ble_eq_true rfl) (Nat.le_of_ble_eq_true rfl)
  rw [if_neg c1] at hf
  by_cases c7 : x0 = (2 : Int32)
  · rw [if_pos c7] at hf
    refine g_tswK (k := (2 : Int32)) (off := 49) (tgt := 50) dX11_newWay_1 c7 (by decide) (by decide) (by decide) (by decide) ?_
    replace hf := gB_of hf
    obtain ⟨a8, h9, q10, hf⟩ := hf
    refine g_nO n_X11_268 dX11_newWay_50 q10 (by decide) (by decide) ?_
    refine g_dup dX11_newWay_53 rfl ?_
    refine g_iload_n dX11_newWay_54 rfl ?_
    refine g_iload_n dX11_newWay_55 rfl ?_
    replace hf := Option.bind_eq_some_iff.mp hf
    obtain ⟨h11, q12, hf⟩ := hf
    refine g_callI (as := [.int x1, .int x2]) (mc1 := 0) (ms1 := 0) s_X11_270_X8_init dX11_newWay_56 rfl (Nat.le_of_ble_eq_true rfl) (Nat.le_of_ble_eq_true rfl) (Nat.le_of_ble_eq_true rfl) (t_X8_init (d := d + 1) q12) (fun r9 h9 q9 => ?_)
    obtain ⟨rfl, rfl⟩ := q9
    refine g_stp (st2 := [.ref a8]) (pc2 := 59) (kc2 := 1) (kn2 := 2) rfl rfl rfl rfl ?_
    obtain ⟨e1, e2⟩ := Prod.mk.inj (Option.some.inj hf)
    exact g_aret (r := (some a8)) dX11_newWay_59 rfl ⟨by subst e1; rfl, e2.symm⟩ (Nat.le_of_ble_eq_true rfl) (Nat.le_of_ble_eq_true rfl)
  rw [if_neg c7] at hf
  by_cases c13 : x0 = (3 : Int32)
  · rw [if_pos c13] at hf
    refine g_tswK (k := (3 : Int32)) (off := 59) (tgt := 60) dX11_newWay_1 c13 (by decide) (by decide) (by decide) (by decide) ?_
    replace hf := gB_of hf
    obtain ⟨a14, h15, q16, hf⟩ := hf
    refine g_nO n_X11_271 dX11_newWay_60 q16 (by decide) (by decide) ?_
    refine g_dup dX11_newWay_63 rfl ?_
    refine g_iload_n dX11_newWay_64 rfl ?_
    refine g_iload_n dX11_newWay_65 rfl ?_
    replace hf := Option.bind_eq_some_iff.mp hf
    obtain ⟨h17, q18, hf⟩ := hf
    refine g_callI (as := [.int x1, .int x2]) (mc1 := 0) (ms1 := 0) s_X11_273_X0_init dX11_newWay_66 rfl (Nat.le_of_ble_eq_true rfl) (Nat.le_of_ble_eq_true rfl) (Nat.le_of_ble_eq_true rfl) (t_X0_init (d := d + 0) q18) (fun r9 h9 q9 => ?_)
    obtain ⟨rfl, rfl⟩ := q9
    refine g_stp (st2 := [.ref a14]) (pc2 := 69) (kc2 := 1) (kn2 := 2) rfl rfl rfl rfl ?_
    obtain ⟨e1, e2⟩ := Prod.mk.inj (Option.some.inj hf)
    exact g_aret (r := (some a14)) dX11_newWay_69 rfl ⟨by subst e1; rfl, e2.symm⟩ (Nat.le_of_ble_eq_true rfl) (Nat.le_of_ble_eq_true rfl)
  rw [if_neg c13] at hf
  by_cases c19 : x0 = (4 : Int32)
  · rw [if_pos c19] at hf
    refine g_tswK (k := (4 : Int32)) (off := 69) (tgt := 70) dX11_newWay_1 c19 (by decide) (by decide) (by decide) (by decide) ?_
    replace hf := gB_of hf
    obtain ⟨a20, h21, q22, hf⟩ := hf
    refine g_nO n_X11_274 dX11_newWay_70 q22 (by decide) (by decide) ?_
    refine g_dup dX11_newWay_73 rfl ?_
    refine g_iload_n dX11_newWay_74 rfl ?_
    refine g_iload_n dX11_newWay_75 rfl ?_
    replace hf := Option.bind_eq_some_iff.mp hf
    obtain ⟨h23, q24, hf⟩ := hf
    refine g_callI (as := [.int x1, .int x2]) (mc1 := 0) (ms1 := 0) s_X11_276_X2_init dX11_newWay_76 rfl (Nat.le_of_ble_eq_true rfl) (Nat.le_of_ble_eq_true rfl) (Nat.le_of_ble_eq_true rfl) (t_X2_init (d := d + 0) q24) (fun r9 h9 q9 => ?_)
    obtain ⟨rfl, rfl⟩ := q9
    refine g_stp (st2 := [.ref a20]) (pc2 := 79) (kc2 := 1) (kn2 := 2) rfl rfl rfl rfl ?_
    obtain ⟨e1, e2⟩ := Prod.mk.inj (Option.some.inj hf)
    exact g_aret (r := (some a20)) dX11_newWay_79 rfl ⟨by subst e1; rfl, e2.symm⟩ (Nat.le_of_ble_eq_true rfl) (Nat.le_of_ble_eq_true rfl)
  rw [if_neg c19] at hf
  by_cases c25 : x0 = (5 : Int32)
  · rw [if_pos c25] at hf
    refine g_tswK (k := (5 : Int32)) (off := 79) (tgt := 80) dX11_newWay_1 c25 (by decide) (by decide) (by decide) (by decide) ?_
    replace hf := gB_of hf
    obtain ⟨a26, h27, q28, hf⟩ := hf
    refine g_nO n_X11_148 dX11_newWay_80 q28 (by decide) (by decide) ?_
    refine g_dup dX11_newWay_83 rfl ?_
    refine g_iload_n dX11_newWay_84 rfl ?_
    refine g_iload_n dX11_newWay_85 rfl ?_
    replace hf := Option.bind_eq_some_iff.mp hf
    obtain ⟨h29, q30, hf⟩ := hf
    refine g_callI (as := [.int x1, .int x2]) (mc1 := 0) (ms1 := 0) s_X11_277_X9_init dX11_newWay_86 rfl (Nat.le_of_ble_eq_true rfl) (Nat.le_of_ble_eq_true rfl) (Nat.le_of_ble_eq_true rfl) (t_X9_init (d := d + 0) q30) (fun r9 h9 q9 => ?_)
    obtain ⟨rfl, rfl⟩ := q9
    refine g_stp (st2 := [.ref a26]) (pc2 := 89) (kc2 := 1) (kn2 := 2) rfl rfl rfl rfl ?_
    obtain ⟨e1, e2⟩ := Prod.mk.inj (Option.some.inj hf)
    exact g_aret (r := (some a26)) dX11_newWay_89 rfl ⟨by subst e1; rfl, e2.symm⟩ (Nat.le_of_ble_eq_true rfl) (Nat.le_of_ble_eq_true rfl)
  rw [if_neg c25] at hf
  by_cases c31 : x0 = (6 : Int32)
  · rw [if_pos c31] at hf
    refine g_tswK (k := (6 : Int32)) (off := 89) (tgt := 90) dX11_newWay_1 c31 (by decide) (by decide) (by decide) (by decide) ?_
    replace hf := gB_of hf
    obtain ⟨a32, h33, q34, hf⟩ := hf
    refine g_nO n_X11_278 dX11_newWay_90 q34 (by decide) (by decide) ?_
    refine g_dup dX11_newWay_93 rfl ?_
    refine g_iload_n dX11_newWay_94 rfl ?_
    refine g_iload_n dX11_newWay_95 rfl ?_
    replace hf := Option.bind_eq_some_iff.mp hf
    obtain ⟨h35, q36, hf⟩ := hf
    refine g_callI (as := [.int x1, .int x2]) (mc1 := 0) (ms1 := 0) s_X11_280_X3_init dX11_newWay_96 rfl (Nat.le_of_ble_eq_true rfl) (Nat.le_of_ble_eq_true rfl) (Nat.le_of_ble_eq_true rfl) (t_X3_init (d := d + 1) q36) (fun r9 h9 q9 => ?_)
    obtain ⟨rfl, rfl⟩ := q9
    refine g_stp (st2 := [.ref a32]) (pc2 := 99) (kc2 := 1) (kn2 := 2) rfl rfl rfl rfl ?_
    obtain ⟨e1, e2⟩ := Prod.mk.inj (Option.some.inj hf)
    exact g_aret (r := (some a32)) dX11_newWay_99 rfl ⟨by subst e1; rfl, e2.symm⟩ (Nat.le_of_ble_eq_true rfl) (Nat.le_of_ble_eq_true rfl)
  rw [if_neg c31] at hf
  have zc1 : (x0).toInt ≠ 1 := fun e => c1 (Int32.toInt_inj.mp (e.trans (by decide)))
  have zc7 : (x0).toInt ≠ 2 := fun e => c7 (Int32.toInt_inj.mp (e.trans (by decide)))
  have zc13 : (x0).toInt ≠ 3 := fun e => c13 (Int32.toInt_inj.mp (e.trans (by decide)))
  have zc19 : (x0).toInt ≠ 4 := fun e => c19 (Int32.toInt_inj.mp (e.trans (by decide)))
  have zc25 : (x0).toInt ≠ 5 := fun e => c25 (Int32.toInt_inj.mp (e.trans (by decide)))
  have zc31 : (x0).toInt ≠ 6 := fun e => c31 (Int32.toInt_inj.mp (e.trans (by decide)))
  refine g_tableOut (tgt := 100) dX11_newWay_1 (by omega) (by decide) ?_
  replace hf := gB_of hf
  obtain ⟨a37, h38, q39, hf⟩ := hf
  refine g_nO n_X11_235 dX11_newWay_100 q39 (by decide) (by decide) ?_
  refine g_dup dX11_newWay_103 rfl ?_
  refine g_iload_n dX11_newWay_104 rfl ?_
  refine g_iload_n dX11_newWay_105 rfl ?_
  replace hf := Option.bind_eq_some_iff.mp hf
  obtain ⟨h40, q41, hf⟩ := hf
  refine g_callI (as := [.int x1, .int x2]) (mc1 := 0) (ms1 := 0) s_X11_281_X10_init dX11_newWay_106 rfl (Nat.le_of_ble_eq_true rfl) (Nat.le_of_ble_eq_true rfl) (Nat.le_of_ble_eq_true rfl) (t_X10_init (d := d + 2) q41) (fun r9 h9 q9 => ?_)
  obtain ⟨rfl, rfl⟩ := q9
  refine g_stp (st2 := [.ref a37]) (pc2 := 109) (kc2 := 1) (kn2 := 2) rfl rfl rfl rfl ?_
  obtain ⟨e1, e2⟩ := Prod.mk.inj (Option.some.inj hf)
  exact g_aret (r := (some a37)) dX11_newWay_109 rfl ⟨by subst e1; rfl, e2.symm⟩ (Nat.le_of_ble_eq_true rfl) (Nat.le_of_ble_eq_true rfl)
def F_X11_newWay (n : Nat) (p0 : Int32) (p1 : Int32) (p2 : Int32) (h : gH) : Option (Nat × gH) := F_X11_newWay_0 n  p0 p1 p2 h
theorem t_X11_newWay {n d : Nat} {p0 : Int32} {p1 : Int32} {p2 : Int32} {h rh : gH} {rv : Nat} (hf : F_X11_newWay n p0 p1 p2 h = some (rv, rh)) : T M_X11_newWay (d + 4) 1 2 [.int p0, .int p1, .int p2] h (qR rv rh) := by
  refine T_of_G (L := 0) (by decide +kernel) rfl (Nat.le_of_ble_eq_true rfl) (g_lv (lv2 := [some (.int p0), some (.int p1), some (.int p2)]) rfl ?_)
  exact g_X11_newWay_0 hf
def F_X11_of_0 (n : Nat)  (x0 : Nat) (x1 : Int32) (x2 : Int32) (h : gH) : Option (Int32 × gH) :=
  (gR h x0 11 0).bind fun v1 =>
  (gR h v1 7 1).bind fun v3 =>
  (gO h v3 6).bind fun f5 =>
  gB (F_X6_has n v3 x1 h) fun v9 h7 =>
  if v9 = 0 then
  (some ((-1 : Int32), h7))
  else
  (if x2 = (0 : Int32) then
  ((gR h7 v3 6 0).bind fun v12 =>
  (aI h7 v12 x1).bind fun v14 =>
  some (v14, h7))
  else if x2 = (1 : Int32) then
  ((gR h7 v3 6 1).bind fun v17 =>
  (aI h7 v17 x1).bind fun v19 =>
  some ((v19 + (5 : Int32)), h7))
  else if x2 = (2 : Int32) then
  ((gR h7 v3 6 2).bind fun v22 =>
  (aI h7 v22 x1).bind fun v24 =>
  some ((v24 + (5 : Int32)), h7))
  else if x2 = (3 : Int32) then
  ((gR h7 v3 6 3).bind fun v27 =>
  (aI h7 v27 x1).bind fun v29 =>
  some (v29, h7))
  else (some ((-1 : Int32), h7)))
set_option maxRecDepth 20000 in
set_option maxHeartbeats 1600000 in
theorem g_X11_of_0 {n d : Nat} : ∀ {x0 : Nat} {x1 : Int32} {x2 : Int32} {h : gH} {rh : gH} {rv : Int32}, F_X11_of_0 n x0 x1 x2 h = some (rv, rh) → G M_X11_of (d + 1) 0 0 0 0 0 [some (.ref x0), some (.int x1), some (.int x2), none] [] h (qI rv rh) := by
  intro x0 x1 x2 h rh rv hf
  unfold F_X11_of_0 at hf
  refine g_aload_n dX11_of_0 rfl ?_
  replace hf := Option.bind_eq_some_iff.mp hf
  obtain ⟨v1, q2, hf⟩ := hf
  refine g_gR f_X11_12 dX11_of_1 q2 ?_
  replace hf := Option.bind_eq_some_iff.mp hf
  obtain ⟨v3, q4, hf⟩ := hf
  refine g_gR f_X11_70 dX11_of_4 q4 ?_
  refine g_astore_n dX11_of_7 (by decide) (g_lvp (lv2 := [some (.ref x0), some (.int x1), some (.int x2), some (.ref v3)]) (pc2 := 8) rfl rfl ?_)
  refine g_aload_n dX11_of_8 rfl ?_
  refine g_iload_n dX11_of_9 rfl ?_
  replace hf := Option.bind_eq_some_iff.mp hf
  obtain ⟨f5, q6, hf⟩ := hf
  replace hf := gB_of hf
  obtain ⟨v9, h7, q8, hf⟩ := hf
  refine g_callV (as := [.int x1]) (mc1 := 0) (ms1 := 0) s_X11_86_X6_has_6 dX11_of_10 (gO_of q6) rfl (Nat.le_of_ble_eq_true rfl) (Nat.le_of_ble_eq_true rfl) (Nat.le_of_ble_eq_true rfl) (t_X6_has (d := d + 0) q8) (fun r9 h9 q9 => ?_)
  obtain ⟨rfl, rfl⟩ := q9
  refine g_stp (st2 := [.int v9]) (pc2 := 13) (kc2 := 0) (kn2 := 0) rfl rfl rfl rfl ?_
  refine g_if_ne (tgt := 18) dX11_of_13 (by decide) (fun c10 => ?_) (fun c10 => ?_)
  · rw [if_neg c10] at hf
    refine g_iload_n dX11_of_18 rfl ?_
    by_cases c11 : x2 = (0 : Int32)
    · rw [if_pos c11] at hf
      refine g_tswK (k := (0 : Int32)) (off := 29) (tgt := 48) dX11_of_19 c11 (by decide) (by decide) (by decide) (by decide) ?_
      refine g_aload_n dX11_of_48 rfl ?_
      replace hf := Option.bind_eq_some_iff.mp hf
      obtain ⟨v12, q13, hf⟩ := hf
      refine g_gR f_X11_90 dX11_of_49 q13 ?_
      refine g_iload_n dX11_of_52 rfl ?_
      replace hf := Option.bind_eq_some_iff.mp hf
      obtain ⟨v14, q15, hf⟩ := hf
      refine g_aI dX11_of_53 q15 ?_
      obtain ⟨rfl, rfl⟩ := Prod.mk.inj (Option.some.inj hf)
      exact g_iret dX11_of_54 rfl ⟨rfl, rfl⟩ (Nat.le_of_ble_eq_true rfl) (Nat.le_of_ble_eq_true rfl)
    rw [if_neg c11] at hf
    by_cases c16 : x2 = (1 : Int32)
    · rw [if_pos c16] at hf
      refine g_tswK (k := (1 : Int32)) (off := 36) (tgt := 55) dX11_of_19 c16 (by decide) (by decide) (by decide) (by decide) ?_
      refine g_aload_n dX11_of_55 rfl ?_
      replace hf := Option.bind_eq_some_iff.mp hf
      obtain ⟨v17, q18, hf⟩ := hf
      refine g_gR f_X11_93 dX11_of_56 q18 ?_
      refine g_iload_n dX11_of_59 rfl ?_
      replace hf := Option.bind_eq_some_iff.mp hf
      obtain ⟨v19, q20, hf⟩ := hf
      refine g_aI dX11_of_60 q20 ?_
      refine g_iconst (v := (5 : Int32)) dX11_of_61 (by decide) ?_
      refine g_iadd dX11_of_62 ?_
      obtain ⟨rfl, rfl⟩ := Prod.mk.inj (Option.some.inj hf)
      exact g_iret dX11_of_63 rfl ⟨rfl, rfl⟩ (Nat.le_of_ble_eq_true rfl) (Nat.le_of_ble_eq_true rfl)
    rw [if_neg c16] at hf
    by_cases c21 : x2 = (2 : Int32)
    · rw [if_pos c21] at hf
      refine g_tswK (k := (2 : Int32)) (off := 45) (tgt := 64) dX11_of_19 c21 (by decide) (by decide) (by decide) (by decide) ?_
      refine g_aload_n dX11_of_64 rfl ?_
      replace hf := Option.bind_eq_some_iff.mp hf
      obtain ⟨v22, q23, hf⟩ := hf
      refine g_gR f_X11_96 dX11_of_65 q23 ?_
      refine g_iload_n dX11_of_68 rfl ?_
      replace hf := Option.bind_eq_some_iff.mp hf
      obtain ⟨v24, q25, hf⟩ := hf
      refine g_aI dX11_of_69 q25 ?_
      refine g_iconst (v := (5 : Int32)) dX11_of_70 (by decide) ?_
      refine g_iadd dX11_of_71 ?_
      obtain ⟨rfl, rfl⟩ := Prod.mk.inj (Option.some.inj hf)
      exact g_iret dX11_of_72 rfl ⟨rfl, rfl⟩ (Nat.le_of_ble_eq_true rfl) (Nat.le_of_ble_eq_true rfl)
    rw [if_neg c21] at hf
    by_cases c26 : x2 = (3 : Int32)
    · rw [if_pos c26] at hf
      refine g_tswK (k := (3 : Int32)) (off := 54) (tgt := 73) dX11_of_19 c26 (by decide) (by decide) (by decide) (by decide) ?_
      refine g_aload_n dX11_of_73 rfl ?_
      replace hf := Option.bind_eq_some_iff.mp hf
      obtain ⟨v27, q28, hf⟩ := hf
      refine g_gR f_X11_99 dX11_of_74 q28 ?_
      refine g_iload_n dX11_of_77 rfl ?_
      replace hf := Option.bind_eq_some_iff.mp hf
      obtain ⟨v29, q30, hf⟩ := hf
      refine g_aI dX11_of_78 q30 ?_
      obtain ⟨rfl, rfl⟩ := Prod.mk.inj (Option.some.inj hf)
      exact g_iret dX11_of_79 rfl ⟨rfl, rfl⟩ (Nat.le_of_ble_eq_true rfl) (Nat.le_of_ble_eq_true rfl)
    rw [if_neg c26] at hf
    have zc11 : (x2).toInt ≠ 0 := fun e => c11 (Int32.toInt_inj.mp (e.trans (by decide)))
    have zc16 : (x2).toInt ≠ 1 := fun e => c16 (Int32.toInt_inj.mp (e.trans (by decide)))
    have zc21 : (x2).toInt ≠ 2 := fun e => c21 (Int32.toInt_inj.mp (e.trans (by decide)))
    have zc26 : (x2).toInt ≠ 3 := fun e => c26 (Int32.toInt_inj.mp (e.trans (by decide)))
    refine g_tableOut (tgt := 80) dX11_of_19 (by omega) (by decide) ?_
    refine g_iconst (v := (-1 : Int32)) dX11_of_80 (by decide) ?_
    obtain ⟨rfl, rfl⟩ := Prod.mk.inj (Option.some.inj hf)
    exact g_iret dX11_of_81 rfl ⟨rfl, rfl⟩ (Nat.le_of_ble_eq_true rfl) (Nat.le_of_ble_eq_true rfl)
  · rw [if_pos c10] at hf
    refine g_iconst (v := (-1 : Int32)) dX11_of_16 (by decide) ?_
    obtain ⟨rfl, rfl⟩ := Prod.mk.inj (Option.some.inj hf)
    exact g_iret dX11_of_17 rfl ⟨rfl, rfl⟩ (Nat.le_of_ble_eq_true rfl) (Nat.le_of_ble_eq_true rfl)
def F_X11_of (n : Nat) (a : Nat) (p0 : Int32) (p1 : Int32) (h : gH) : Option (Int32 × gH) := F_X11_of_0 n  a p0 p1 h
theorem t_X11_of {n d : Nat} {a : Nat} {p0 : Int32} {p1 : Int32} {h rh : gH} {rv : Int32} (hf : F_X11_of n a p0 p1 h = some (rv, rh)) : T M_X11_of (d + 1) 0 0 [.ref a, .int p0, .int p1] h (qI rv rh) := by
  refine T_of_G (L := 1) (by decide +kernel) rfl (Nat.le_of_ble_eq_true rfl) (g_lv (lv2 := [some (.ref a), some (.int p0), some (.int p1), none]) rfl ?_)
  exact g_X11_of_0 hf
def F_X6_holdsStore_17 (n : Nat)  (y0 : Int32) (h : gH) : Option (Int32 × gH) :=
  if y0 = 0 ∨ y0 = 1 then some (y0, h) else none
set_option maxRecDepth 20000 in
set_option maxHeartbeats 1600000 in
theorem g_X6_holdsStore_17 {n d : Nat} : ∀ {y0 : Int32} {h : gH} {rh : gH} {rv : Int32}, F_X6_holdsStore_17 n y0 h = some (rv, rh) → G M_X6_holdsStore d 0 0 0 0 17 [none, none] [.int y0] h (qI rv rh) := by
  intro y0 h rh rv hf
  unfold F_X6_holdsStore_17 at hf
  by_cases c1 : y0 = 0 ∨ y0 = 1
  · rw [if_pos c1] at hf
    obtain ⟨rfl, rfl⟩ := Prod.mk.inj (Option.some.inj hf)
    exact g_zret (ty := .boolean) dX6_holdsStore_17 rfl (gZ_nar c1) ⟨rfl, rfl⟩ (Nat.le_of_ble_eq_true rfl) (Nat.le_of_ble_eq_true rfl)
  · rw [if_neg c1] at hf; cases hf
def F_X6_holdsStore_16 (n : Nat)   (h : gH) : Option (Int32 × gH) :=
  F_X6_holdsStore_17 n (0 : Int32) h
set_option maxRecDepth 20000 in
set_option maxHeartbeats 1600000 in
theorem g_X6_holdsStore_16 {n d : Nat} : ∀  {h : gH} {rh : gH} {rv : Int32}, F_X6_holdsStore_16 n  h = some (rv, rh) → G M_X6_holdsStore d 0 0 0 0 16 [none, none] [] h (qI rv rh) := by
  intro  h rh rv hf
  unfold F_X6_holdsStore_16 at hf
  refine g_iconst (v := (0 : Int32)) dX6_holdsStore_16 (by decide) ?_
  exact g_X6_holdsStore_17 hf
def F_X6_holdsStore_0 (n : Nat)  (x0 : Nat) (x1 : Int32) (h : gH) : Option (Int32 × gH) :=
  if x1 < 0 then
  (F_X6_holdsStore_16 n h)
  else
  ((gI h x0 6 12).bind fun v2 =>
  if v2 < x1 then
  (F_X6_holdsStore_16 n h)
  else
  (F_X6_holdsStore_17 n (1 : Int32) h))
set_option maxRecDepth 20000 in
set_option maxHeartbeats 1600000 in
theorem g_X6_holdsStore_0 {n d : Nat} : ∀ {x0 : Nat} {x1 : Int32} {h : gH} {rh : gH} {rv : Int32}, F_X6_holdsStore_0 n x0 x1 h = some (rv, rh) → G M_X6_holdsStore d 0 0 0 0 0 [some (.ref x0), some (.int x1)] [] h (qI rv rh) := by
  intro x0 x1 h rh rv hf
  unfold F_X6_holdsStore_0 at hf
  refine g_iload_n dX6_holdsStore_0 rfl ?_
  refine g_if_lt (tgt := 16) dX6_holdsStore_1 (by decide) (fun c1 => ?_) (fun c1 => ?_)
  · rw [if_pos c1] at hf
    refine g_weak (lv2 := [none, none]) (trivial) ?_
    exact g_X6_holdsStore_16 hf
  · rw [if_neg c1] at hf
    refine g_iload_n dX6_holdsStore_4 rfl ?_
    refine g_aload_n dX6_holdsStore_5 rfl ?_
    replace hf := Option.bind_eq_some_iff.mp hf
    obtain ⟨v2, q3, hf⟩ := hf
    refine g_gI f_X6_52 dX6_holdsStore_6 q3 ?_
    refine g_icmp_gt (tgt := 16) dX6_holdsStore_9 (by decide) (fun c4 => ?_) (fun c4 => ?_)
    · rw [if_pos c4] at hf
      refine g_weak (lv2 := [none, none]) (trivial) ?_
      exact g_X6_holdsStore_16 hf
    · rw [if_neg c4] at hf
      refine g_iconst (v := (1 : Int32)) dX6_holdsStore_12 (by decide) ?_
      refine g_goto (tgt := 17) dX6_holdsStore_13 (by decide) ?_
      refine g_weak (lv2 := [none, none]) (trivial) ?_
      exact g_X6_holdsStore_17 hf
def F_X6_holdsStore (n : Nat) (a : Nat) (p0 : Int32) (h : gH) : Option (Int32 × gH) := F_X6_holdsStore_0 n  a p0 h
theorem t_X6_holdsStore {n d : Nat} {a : Nat} {p0 : Int32} {h rh : gH} {rv : Int32} (hf : F_X6_holdsStore n a p0 h = some (rv, rh)) : T M_X6_holdsStore d 0 0 [.ref a, .int p0] h (qI rv rh) := by
  refine T_of_G (L := 0) (by decide +kernel) rfl (Nat.le_of_ble_eq_true rfl) (g_lv (lv2 := [some (.ref a), some (.int p0)]) rfl ?_)
  exact g_X6_holdsStore_0 hf
def F_X11_price_34 (n : Nat)   (h : gH) : Option (Int32 × gH) :=
  some ((-2 : Int32), h)
set_option maxRecDepth 20000 in
set_option maxHeartbeats 1600000 in
theorem g_X11_price_34 {n d : Nat} : ∀  {h : gH} {rh : gH} {rv : Int32}, F_X11_price_34 n  h = some (rv, rh) → G M_X11_price (d + 6) 0 0 0 0 34 [none, none, none] [] h (qI rv rh) := by
  intro  h rh rv hf
  unfold F_X11_price_34 at hf
  refine g_bipush (v := (-2 : Int32)) dX11_price_34 (by decide) ?_
  obtain ⟨rfl, rfl⟩ := Prod.mk.inj (Option.some.inj hf)
  exact g_iret dX11_price_36 rfl ⟨rfl, rfl⟩ (Nat.le_of_ble_eq_true rfl) (Nat.le_of_ble_eq_true rfl)
def F_X11_price_0 (n : Nat)  (x0 : Nat) (x1 : Int32) (x2 : Int32) (h : gH) : Option (Int32 × gH) :=
  (gR h x0 11 0).bind fun v1 =>
  (gR h v1 7 1).bind fun v3 =>
  (gO h v3 6).bind fun f5 =>
  gB (F_X6_has n v3 x1 h) fun v9 h7 =>
  if v9 = 0 then
  (some ((-1 : Int32), h7))
  else
  (if x2 = 0 then
  (F_X11_price_34 n h7)
  else
  ((gR h7 x0 11 0).bind fun v12 =>
  (gR h7 v12 7 1).bind fun v14 =>
  (gO h7 v14 6).bind fun f16 =>
  gB (F_X6_holdsStore n v14 x2 h7) fun v20 h18 =>
  if v20 = 0 then
  (F_X11_price_34 n h18)
  else
  ((gR h18 x0 11 3).bind fun v22 =>
  (gR h18 x0 11 0).bind fun v24 =>
  (gR h18 v24 7 1).bind fun v26 =>
  (gO h18 v22 4).bind fun f28 =>
  (F_X4_prepare n v22 v26 h18).bind fun h30 =>
  (gR h30 x0 11 3).bind fun v32 =>
  (gO h30 v32 4).bind fun f34 =>
  gB (F_X4_secondsFrom n v32 x1 (x2 - (1 : Int32)) h30) fun v38 h36 =>
  (gR h36 x0 11 3).bind fun v39 =>
  (gO h36 v39 4).bind fun f41 =>
  gB (F_X4_secondsFrom n v39 x1 x2 h36) fun v45 h43 =>
  some ((v38 - v45), h43))))
set_option maxRecDepth 20000 in
set_option maxHeartbeats 1600000 in
theorem g_X11_price_0 {n d : Nat} : ∀ {x0 : Nat} {x1 : Int32} {x2 : Int32} {h : gH} {rh : gH} {rv : Int32}, F_X11_price_0 n x0 x1 x2 h = some (rv, rh) → G M_X11_price (d + 6) 0 0 0 0 0 [some (.ref x0), some (.int x1), some (.int x2)] [] h (qI rv rh) := by
  intro x0 x1 x2 h rh rv hf
  unfold F_X11_price_0 at hf
  refine g_aload_n dX11_price_0 rfl ?_
  replace hf := Option.bind_eq_some_iff.mp hf
  obtain ⟨v1, q2, hf⟩ := hf
  refine g_gR f_X11_12 dX11_price_1 q2 ?_
  replace hf := Option.bind_eq_some_iff.mp hf
  obtain ⟨v3, q4, hf⟩ := hf
  refine g_gR f_X11_70 dX11_price_4 q4 ?_
  refine g_iload_n dX11_price_7 rfl ?_
  replace hf := Option.bind_eq_some_iff.mp hf
  obtain ⟨f5, q6, hf⟩ := hf
  replace hf := gB_of hf
  obtain ⟨v9, h7, q8, hf⟩ := hf
  refine g_callV (as := [.int x1]) (mc1 := 0) (ms1 := 0) s_X11_86_X6_has_6 dX11_price_8 (gO_of q6) rfl (Nat.le_of_ble_eq_true rfl) (Nat.le_of_ble_eq_true rfl) (Nat.le_of_ble_eq_true rfl) (t_X6_has (d := d + 5) q8) (fun r9 h9 q9 => ?_)
  obtain ⟨rfl, rfl⟩ := q9
  refine g_stp (st2 := [.int v9]) (pc2 := 11) (kc2 := 0) (kn2 := 0) rfl rfl rfl rfl ?_
  refine g_if_ne (tgt := 16) dX11_price_11 (by decide) (fun c10 => ?_) (fun c10 => ?_)
  · rw [if_neg c10] at hf
    refine g_iload_n dX11_price_16 rfl ?_
    refine g_if_eq (tgt := 34) dX11_price_17 (by decide) (fun c11 => ?_) (fun c11 => ?_)
    · rw [if_pos c11] at hf
      refine g_weak (lv2 := [none, none, none]) (trivial) ?_
      exact g_X11_price_34 hf
    · rw [if_neg c11] at hf
      refine g_aload_n dX11_price_20 rfl ?_
      replace hf := Option.bind_eq_some_iff.mp hf
      obtain ⟨v12, q13, hf⟩ := hf
      refine g_gR f_X11_12 dX11_price_21 q13 ?_
      replace hf := Option.bind_eq_some_iff.mp hf
      obtain ⟨v14, q15, hf⟩ := hf
      refine g_gR f_X11_70 dX11_price_24 q15 ?_
      refine g_iload_n dX11_price_27 rfl ?_
      replace hf := Option.bind_eq_some_iff.mp hf
      obtain ⟨f16, q17, hf⟩ := hf
      replace hf := gB_of hf
      obtain ⟨v20, h18, q19, hf⟩ := hf
      refine g_callV (as := [.int x2]) (mc1 := 0) (ms1 := 0) s_X11_120_X6_holdsStore_6 dX11_price_28 (gO_of q17) rfl (Nat.le_of_ble_eq_true rfl) (Nat.le_of_ble_eq_true rfl) (Nat.le_of_ble_eq_true rfl) (t_X6_holdsStore (d := d + 5) q19) (fun r9 h9 q9 => ?_)
      obtain ⟨rfl, rfl⟩ := q9
      refine g_stp (st2 := [.int v20]) (pc2 := 31) (kc2 := 0) (kn2 := 0) rfl rfl rfl rfl ?_
      refine g_if_ne (tgt := 37) dX11_price_31 (by decide) (fun c21 => ?_) (fun c21 => ?_)
      · rw [if_neg c21] at hf
        refine g_aload_n dX11_price_37 rfl ?_
        replace hf := Option.bind_eq_some_iff.mp hf
        obtain ⟨v22, q23, hf⟩ := hf
        refine g_gR f_X11_31 dX11_price_38 q23 ?_
        refine g_aload_n dX11_price_41 rfl ?_
        replace hf := Option.bind_eq_some_iff.mp hf
        obtain ⟨v24, q25, hf⟩ := hf
        refine g_gR f_X11_12 dX11_price_42 q25 ?_
        replace hf := Option.bind_eq_some_iff.mp hf
        obtain ⟨v26, q27, hf⟩ := hf
        refine g_gR f_X11_70 dX11_price_45 q27 ?_
        replace hf := Option.bind_eq_some_iff.mp hf
        obtain ⟨f28, q29, hf⟩ := hf
        replace hf := Option.bind_eq_some_iff.mp hf
        obtain ⟨h30, q31, hf⟩ := hf
        refine g_callV (as := [.ref v26]) (mc1 := 0) (ms1 := 0) s_X11_158_X4_prepare_4 dX11_price_48 (gO_of q29) rfl (Nat.le_of_ble_eq_true rfl) (Nat.le_of_ble_eq_true rfl) (Nat.le_of_ble_eq_true rfl) (t_X4_prepare (d := d + 0) q31) (fun r9 h9 q9 => ?_)
        obtain ⟨rfl, rfl⟩ := q9
        refine g_stp (st2 := []) (pc2 := 51) (kc2 := 0) (kn2 := 0) rfl rfl rfl rfl ?_
        refine g_aload_n dX11_price_51 rfl ?_
        replace hf := Option.bind_eq_some_iff.mp hf
        obtain ⟨v32, q33, hf⟩ := hf
        refine g_gR f_X11_31 dX11_price_52 q33 ?_
        refine g_iload_n dX11_price_55 rfl ?_
        refine g_iload_n dX11_price_56 rfl ?_
        refine g_iconst (v := (1 : Int32)) dX11_price_57 (by decide) ?_
        refine g_isub dX11_price_58 ?_
        replace hf := Option.bind_eq_some_iff.mp hf
        obtain ⟨f34, q35, hf⟩ := hf
        replace hf := gB_of hf
        obtain ⟨v38, h36, q37, hf⟩ := hf
        refine g_callV (as := [.int x1, .int (x2 - (1 : Int32))]) (mc1 := 0) (ms1 := 0) s_X11_178_X4_secondsFrom_4 dX11_price_59 (gO_of q35) rfl (Nat.le_of_ble_eq_true rfl) (Nat.le_of_ble_eq_true rfl) (Nat.le_of_ble_eq_true rfl) (t_X4_secondsFrom (d := d + 4) q37) (fun r9 h9 q9 => ?_)
        obtain ⟨rfl, rfl⟩ := q9
        refine g_stp (st2 := [.int v38]) (pc2 := 62) (kc2 := 0) (kn2 := 0) rfl rfl rfl rfl ?_
        refine g_aload_n dX11_price_62 rfl ?_
        replace hf := Option.bind_eq_some_iff.mp hf
        obtain ⟨v39, q40, hf⟩ := hf
        refine g_gR f_X11_31 dX11_price_63 q40 ?_
        refine g_iload_n dX11_price_66 rfl ?_
        refine g_iload_n dX11_price_67 rfl ?_
        replace hf := Option.bind_eq_some_iff.mp hf
        obtain ⟨f41, q42, hf⟩ := hf
        replace hf := gB_of hf
        obtain ⟨v45, h43, q44, hf⟩ := hf
        refine g_callV (as := [.int x1, .int x2]) (mc1 := 0) (ms1 := 0) s_X11_178_X4_secondsFrom_4 dX11_price_68 (gO_of q42) rfl (Nat.le_of_ble_eq_true rfl) (Nat.le_of_ble_eq_true rfl) (Nat.le_of_ble_eq_true rfl) (t_X4_secondsFrom (d := d + 4) q44) (fun r9 h9 q9 => ?_)
        obtain ⟨rfl, rfl⟩ := q9
        refine g_stp (st2 := [.int v45, .int v38]) (pc2 := 71) (kc2 := 0) (kn2 := 0) rfl rfl rfl rfl ?_
        refine g_isub dX11_price_71 ?_
        obtain ⟨rfl, rfl⟩ := Prod.mk.inj (Option.some.inj hf)
        exact g_iret dX11_price_72 rfl ⟨rfl, rfl⟩ (Nat.le_of_ble_eq_true rfl) (Nat.le_of_ble_eq_true rfl)
      · rw [if_pos c21] at hf
        refine g_weak (lv2 := [none, none, none]) (trivial) ?_
        exact g_X11_price_34 hf
  · rw [if_pos c10] at hf
    refine g_iconst (v := (-1 : Int32)) dX11_price_14 (by decide) ?_
    obtain ⟨rfl, rfl⟩ := Prod.mk.inj (Option.some.inj hf)
    exact g_iret dX11_price_15 rfl ⟨rfl, rfl⟩ (Nat.le_of_ble_eq_true rfl) (Nat.le_of_ble_eq_true rfl)
def F_X11_price (n : Nat) (a : Nat) (p0 : Int32) (p1 : Int32) (h : gH) : Option (Int32 × gH) := F_X11_price_0 n  a p0 p1 h
theorem t_X11_price {n d : Nat} {a : Nat} {p0 : Int32} {p1 : Int32} {h rh : gH} {rv : Int32} (hf : F_X11_price n a p0 p1 h = some (rv, rh)) : T M_X11_price (d + 6) 0 0 [.ref a, .int p0, .int p1] h (qI rv rh) := by
  refine T_of_G (L := 0) (by decide +kernel) rfl (Nat.le_of_ble_eq_true rfl) (g_lv (lv2 := [some (.ref a), some (.int p0), some (.int p1)]) rfl ?_)
  exact g_X11_price_0 hf
def F_X11_ride_22 (n : Nat)   (h : gH) : Option (Int32 × gH) :=
  some ((-1 : Int32), h)
set_option maxRecDepth 20000 in
set_option maxHeartbeats 1600000 in
theorem g_X11_ride_22 {n d : Nat} : ∀  {h : gH} {rh : gH} {rv : Int32}, F_X11_ride_22 n  h = some (rv, rh) → G M_X11_ride (d + 6) 0 0 0 0 22 [none, none, none, none] [] h (qI rv rh) := by
  intro  h rh rv hf
  unfold F_X11_ride_22 at hf
  refine g_iconst (v := (-1 : Int32)) dX11_ride_22 (by decide) ?_
  obtain ⟨rfl, rfl⟩ := Prod.mk.inj (Option.some.inj hf)
  exact g_iret dX11_ride_23 rfl ⟨rfl, rfl⟩ (Nat.le_of_ble_eq_true rfl) (Nat.le_of_ble_eq_true rfl)
def F_X11_ride_0 (n : Nat)  (x0 : Nat) (x1 : Int32) (x2 : Int32) (h : gH) : Option (Int32 × gH) :=
  (gR h x0 11 0).bind fun v1 =>
  (gO h v1 7).bind fun f3 =>
  gB (F_X7_find n v1 x1 h) fun v7 h5 =>
  if v7 = none then
  (F_X11_ride_22 n h5)
  else
  ((gO h5 x0 11).bind fun f9 =>
  gB (F_X11_isRideWhat n x0 x2 (0 : Int32) h5) fun v13 h11 =>
  if v13 = 0 then
  (F_X11_ride_22 n h11)
  else
  ((gR h11 x0 11 0).bind fun v15 =>
  (gR h11 v15 7 1).bind fun v17 =>
  (gI h11 v17 6 8).bind fun v19 =>
  if v19 = 0 then
  (some ((-3 : Int32), h11))
  else
  ((gR h11 x0 11 3).bind fun v22 =>
  (gR h11 x0 11 0).bind fun v24 =>
  (gR h11 v24 7 1).bind fun v26 =>
  (gO h11 v22 4).bind fun f28 =>
  (F_X4_prepare n v22 v26 h11).bind fun h30 =>
  (v7).bind fun a32 =>
  (gO h30 x0 11).bind fun f34 =>
  (F_X11_go n x0 a32 h30).bind fun h36 =>
  if x2 = 0 then
  ((gI h36 x0 11 8).bind fun v46 =>
  some (v46, h36))
  else
  (if x2 = (1 : Int32) then
  ((gI h36 x0 11 9).bind fun v44 =>
  some (v44, h36))
  else
  ((gR h36 x0 11 4).bind fun v40 =>
  (aI h36 v40 (x2 - (10 : Int32))).bind fun v42 =>
  some (v42, h36))))))
set_option maxRecDepth 20000 in
set_option maxHeartbeats 1600000 in
theorem g_X11_ride_0 {n d : Nat} : ∀ {x0 : Nat} {x1 : Int32} {x2 : Int32} {h : gH} {rh : gH} {rv : Int32}, F_X11_ride_0 n x0 x1 x2 h = some (rv, rh) → G M_X11_ride (d + 6) 0 0 0 0 0 [some (.ref x0), some (.int x1), some (.int x2), none] [] h (qI rv rh) := by
  intro x0 x1 x2 h rh rv hf
  unfold F_X11_ride_0 at hf
  refine g_aload_n dX11_ride_0 rfl ?_
  replace hf := Option.bind_eq_some_iff.mp hf
  obtain ⟨v1, q2, hf⟩ := hf
  refine g_gR f_X11_12 dX11_ride_1 q2 ?_
  refine g_iload_n dX11_ride_4 rfl ?_
  replace hf := Option.bind_eq_some_iff.mp hf
  obtain ⟨f3, q4, hf⟩ := hf
  replace hf := gB_of hf
  obtain ⟨v7, h5, q6, hf⟩ := hf
  refine g_callV (as := [.int x1]) (mc1 := 0) (ms1 := 0) s_X11_144_X7_find_7 dX11_ride_5 (gO_of q4) rfl (Nat.le_of_ble_eq_true rfl) (Nat.le_of_ble_eq_true rfl) (Nat.le_of_ble_eq_true rfl) (t_X7_find (d := d + 5) q6) (fun r9 h9 q9 => ?_)
  obtain ⟨rfl, rfl⟩ := q9
  refine g_stp (st2 := [va_rf v7]) (pc2 := 8) (kc2 := 0) (kn2 := 0) rfl rfl rfl rfl ?_
  refine g_astore_q (r := v7) dX11_ride_8 (by decide) (g_lvp (lv2 := [some (.ref x0), some (.int x1), some (.int x2), some (va_rf v7)]) (pc2 := 9) rfl rfl ?_)
  refine g_aload_q (r := v7) dX11_ride_9 rfl ?_
  refine g_ifnullq (tgt := 22) dX11_ride_10 (by decide) (fun c8 => ?_) (fun c8 => ?_)
  · rw [if_pos c8] at hf
    refine g_weak (lv2 := [none, none, none, none]) (trivial) ?_
    exact g_X11_ride_22 hf
  · rw [if_neg c8] at hf
    refine g_aload_n dX11_ride_13 rfl ?_
    refine g_iload_n dX11_ride_14 rfl ?_
    refine g_iconst (v := (0 : Int32)) dX11_ride_15 (by decide) ?_
    replace hf := Option.bind_eq_some_iff.mp hf
    obtain ⟨f9, q10, hf⟩ := hf
    replace hf := gB_of hf
    obtain ⟨v13, h11, q12, hf⟩ := hf
    refine g_callV (as := [.int x2, .int (0 : Int32)]) (mc1 := 0) (ms1 := 0) s_X11_165_X11_isRideWhat_11 dX11_ride_16 (gO_of q10) rfl (Nat.le_of_ble_eq_true rfl) (Nat.le_of_ble_eq_true rfl) (Nat.le_of_ble_eq_true rfl) (t_X11_isRideWhat (d := d + 4) q12) (fun r9 h9 q9 => ?_)
    obtain ⟨rfl, rfl⟩ := q9
    refine g_stp (st2 := [.int v13]) (pc2 := 19) (kc2 := 0) (kn2 := 0) rfl rfl rfl rfl ?_
    refine g_if_ne (tgt := 24) dX11_ride_19 (by decide) (fun c14 => ?_) (fun c14 => ?_)
    · rw [if_neg c14] at hf
      refine g_aload_n dX11_ride_24 rfl ?_
      replace hf := Option.bind_eq_some_iff.mp hf
      obtain ⟨v15, q16, hf⟩ := hf
      refine g_gR f_X11_12 dX11_ride_25 q16 ?_
      replace hf := Option.bind_eq_some_iff.mp hf
      obtain ⟨v17, q18, hf⟩ := hf
      refine g_gR f_X11_70 dX11_ride_28 q18 ?_
      replace hf := Option.bind_eq_some_iff.mp hf
      obtain ⟨v19, q20, hf⟩ := hf
      refine g_gI f_X11_102 dX11_ride_31 q20 ?_
      refine g_if_ne (tgt := 40) dX11_ride_34 (by decide) (fun c21 => ?_) (fun c21 => ?_)
      · rw [if_neg c21] at hf
        refine g_aload_n dX11_ride_40 rfl ?_
        replace hf := Option.bind_eq_some_iff.mp hf
        obtain ⟨v22, q23, hf⟩ := hf
        refine g_gR f_X11_31 dX11_ride_41 q23 ?_
        refine g_aload_n dX11_ride_44 rfl ?_
        replace hf := Option.bind_eq_some_iff.mp hf
        obtain ⟨v24, q25, hf⟩ := hf
        refine g_gR f_X11_12 dX11_ride_45 q25 ?_
        replace hf := Option.bind_eq_some_iff.mp hf
        obtain ⟨v26, q27, hf⟩ := hf
        refine g_gR f_X11_70 dX11_ride_48 q27 ?_
        replace hf := Option.bind_eq_some_iff.mp hf
        obtain ⟨f28, q29, hf⟩ := hf
        replace hf := Option.bind_eq_some_iff.mp hf
        obtain ⟨h30, q31, hf⟩ := hf
        refine g_callV (as := [.ref v26]) (mc1 := 0) (ms1 := 0) s_X11_158_X4_prepare_4 dX11_ride_51 (gO_of q29) rfl (Nat.le_of_ble_eq_true rfl) (Nat.le_of_ble_eq_true rfl) (Nat.le_of_ble_eq_true rfl) (t_X4_prepare (d := d + 0) q31) (fun r9 h9 q9 => ?_)
        obtain ⟨rfl, rfl⟩ := q9
        refine g_stp (st2 := []) (pc2 := 54) (kc2 := 0) (kn2 := 0) rfl rfl rfl rfl ?_
        refine g_aload_n dX11_ride_54 rfl ?_
        refine g_aload_q (r := v7) dX11_ride_55 rfl ?_
        replace hf := Option.bind_eq_some_iff.mp hf
        obtain ⟨a32, q33, hf⟩ := hf
        subst q33
        replace hf := Option.bind_eq_some_iff.mp hf
        obtain ⟨f34, q35, hf⟩ := hf
        replace hf := Option.bind_eq_some_iff.mp hf
        obtain ⟨h36, q37, hf⟩ := hf
        refine g_callV (as := [.ref a32]) (mc1 := 0) (ms1 := 0) s_X11_169_X11_go_11 dX11_ride_56 (gO_of q35) rfl (Nat.le_of_ble_eq_true rfl) (Nat.le_of_ble_eq_true rfl) (Nat.le_of_ble_eq_true rfl) (t_X11_go (d := d + 0) q37) (fun r9 h9 q9 => ?_)
        obtain ⟨rfl, rfl⟩ := q9
        refine g_stp (st2 := []) (pc2 := 59) (kc2 := 0) (kn2 := 0) rfl rfl rfl rfl ?_
        refine g_iload_n dX11_ride_59 rfl ?_
        refine g_if_ne (tgt := 68) dX11_ride_60 (by decide) (fun c38 => ?_) (fun c38 => ?_)
        · rw [if_neg c38] at hf
          refine g_iload_n dX11_ride_68 rfl ?_
          refine g_iconst (v := (1 : Int32)) dX11_ride_69 (by decide) ?_
          refine g_icmp_ne (tgt := 78) dX11_ride_70 (by decide) (fun c39 => ?_) (fun c39 => ?_)
          · rw [if_neg c39] at hf
            refine g_aload_n dX11_ride_78 rfl ?_
            replace hf := Option.bind_eq_some_iff.mp hf
            obtain ⟨v40, q41, hf⟩ := hf
            refine g_gR f_X11_35 dX11_ride_79 q41 ?_
            refine g_iload_n dX11_ride_82 rfl ?_
            refine g_bipush (v := (10 : Int32)) dX11_ride_83 (by decide) ?_
            refine g_isub dX11_ride_85 ?_
            replace hf := Option.bind_eq_some_iff.mp hf
            obtain ⟨v42, q43, hf⟩ := hf
            refine g_aI dX11_ride_86 q43 ?_
            obtain ⟨rfl, rfl⟩ := Prod.mk.inj (Option.some.inj hf)
            exact g_iret dX11_ride_87 rfl ⟨rfl, rfl⟩ (Nat.le_of_ble_eq_true rfl) (Nat.le_of_ble_eq_true rfl)
          · rw [if_pos c39] at hf
            refine g_aload_n dX11_ride_73 rfl ?_
            replace hf := Option.bind_eq_some_iff.mp hf
            obtain ⟨v44, q45, hf⟩ := hf
            refine g_gI f_X11_175 dX11_ride_74 q45 ?_
            obtain ⟨rfl, rfl⟩ := Prod.mk.inj (Option.some.inj hf)
            exact g_iret dX11_ride_77 rfl ⟨rfl, rfl⟩ (Nat.le_of_ble_eq_true rfl) (Nat.le_of_ble_eq_true rfl)
        · rw [if_pos c38] at hf
          refine g_aload_n dX11_ride_63 rfl ?_
          replace hf := Option.bind_eq_some_iff.mp hf
          obtain ⟨v46, q47, hf⟩ := hf
          refine g_gI f_X11_172 dX11_ride_64 q47 ?_
          obtain ⟨rfl, rfl⟩ := Prod.mk.inj (Option.some.inj hf)
          exact g_iret dX11_ride_67 rfl ⟨rfl, rfl⟩ (Nat.le_of_ble_eq_true rfl) (Nat.le_of_ble_eq_true rfl)
      · rw [if_pos c21] at hf
        refine g_bipush (v := (-3 : Int32)) dX11_ride_37 (by decide) ?_
        obtain ⟨rfl, rfl⟩ := Prod.mk.inj (Option.some.inj hf)
        exact g_iret dX11_ride_39 rfl ⟨rfl, rfl⟩ (Nat.le_of_ble_eq_true rfl) (Nat.le_of_ble_eq_true rfl)
    · rw [if_pos c14] at hf
      refine g_weak (lv2 := [none, none, none, none]) (trivial) ?_
      exact g_X11_ride_22 hf
def F_X11_ride (n : Nat) (a : Nat) (p0 : Int32) (p1 : Int32) (h : gH) : Option (Int32 × gH) := F_X11_ride_0 n  a p0 p1 h
theorem t_X11_ride {n d : Nat} {a : Nat} {p0 : Int32} {p1 : Int32} {h rh : gH} {rv : Int32} (hf : F_X11_ride n a p0 p1 h = some (rv, rh)) : T M_X11_ride (d + 6) 0 0 [.ref a, .int p0, .int p1] h (qI rv rh) := by
  refine T_of_G (L := 1) (by decide +kernel) rfl (Nat.le_of_ble_eq_true rfl) (g_lv (lv2 := [some (.ref a), some (.int p0), some (.int p1), none]) rfl ?_)
  exact g_X11_ride_0 hf
def F_X11_rides_101 (n : Nat)  (y0 : Int32) (h : gH) : Option (Int32 × gH) :=
  some (y0, h)
set_option maxRecDepth 20000 in
set_option maxHeartbeats 1600000 in
theorem g_X11_rides_101 {n d : Nat} : ∀ {y0 : Int32} {h : gH} {rh : gH} {rv : Int32}, F_X11_rides_101 n y0 h = some (rv, rh) → G M_X11_rides (d + 4) 0 0 0 0 101 [none, none, none, none, none, none, none] [.int y0] h (qI rv rh) := by
  intro y0 h rh rv hf
  unfold F_X11_rides_101 at hf
  obtain ⟨rfl, rfl⟩ := Prod.mk.inj (Option.some.inj hf)
  exact g_iret dX11_rides_101 rfl ⟨rfl, rfl⟩ (Nat.le_of_ble_eq_true rfl) (Nat.le_of_ble_eq_true rfl)
def F_X11_rides_47 (n : Nat)   (h : gH) : Option (Int32 × gH) :=
  some ((-2 : Int32), h)
set_option maxRecDepth 20000 in
set_option maxHeartbeats 1600000 in
theorem g_X11_rides_47 {n d : Nat} : ∀  {h : gH} {rh : gH} {rv : Int32}, F_X11_rides_47 n  h = some (rv, rh) → G M_X11_rides (d + 4) 0 0 0 0 47 [none, none, none, none, none, none, none] [] h (qI rv rh) := by
  intro  h rh rv hf
  unfold F_X11_rides_47 at hf
  refine g_bipush (v := (-2 : Int32)) dX11_rides_47 (by decide) ?_
  obtain ⟨rfl, rfl⟩ := Prod.mk.inj (Option.some.inj hf)
  exact g_iret dX11_rides_49 rfl ⟨rfl, rfl⟩ (Nat.le_of_ble_eq_true rfl) (Nat.le_of_ble_eq_true rfl)
def F_X11_rides_29 (n : Nat)   (h : gH) : Option (Int32 × gH) :=
  some ((-1 : Int32), h)
set_option maxRecDepth 20000 in
set_option maxHeartbeats 1600000 in
theorem g_X11_rides_29 {n d : Nat} : ∀  {h : gH} {rh : gH} {rv : Int32}, F_X11_rides_29 n  h = some (rv, rh) → G M_X11_rides (d + 4) 0 0 0 0 29 [none, none, none, none, none, none, none] [] h (qI rv rh) := by
  intro  h rh rv hf
  unfold F_X11_rides_29 at hf
  refine g_iconst (v := (-1 : Int32)) dX11_rides_29 (by decide) ?_
  obtain ⟨rfl, rfl⟩ := Prod.mk.inj (Option.some.inj hf)
  exact g_iret dX11_rides_30 rfl ⟨rfl, rfl⟩ (Nat.le_of_ble_eq_true rfl) (Nat.le_of_ble_eq_true rfl)
def F_X11_rides_0 (n : Nat)  (x0 : Nat) (x1 : Int32) (x2 : Int32) (x3 : Int32) (x4 : Int32) (h : gH) : Option (Int32 × gH) :=
  (gR h x0 11 0).bind fun v1 =>
  (gR h v1 7 1).bind fun v3 =>
  (gO h v3 6).bind fun f5 =>
  gB (F_X6_has n v3 x1 h) fun v9 h7 =>
  if v9 = 0 then
  (F_X11_rides_29 n h7)
  else
  (if x4 < 0 then
  (F_X11_rides_29 n h7)
  else
  (if x4 ≤ (2 : Int32) then
  (gB (F_X11_isEffort n x2 h7) fun v15 h13 =>
  if v15 = 0 then
  (F_X11_rides_47 n h13)
  else
  ((gO h13 v3 6).bind fun f17 =>
  gB (F_X6_holdsStore n v3 x3 h13) fun v21 h19 =>
  if v21 = 0 then
  (F_X11_rides_47 n h19)
  else
  (if x4 = 0 then
  ((gO h19 v3 6).bind fun f36 =>
  gB (F_X6_speed n v3 x1 x2 x3 h19) fun v40 h38 =>
  some (v40, h38))
  else
  (if x4 = (1 : Int32) then
  ((gO h19 v3 6).bind fun f31 =>
  gB (F_X6_seconds n v3 x1 x2 x3 h19) fun v35 h33 =>
  some (v35, h33))
  else
  ((gO h19 v3 6).bind fun f25 =>
  gB (F_X6_behind n v3 x1 x2 x3 h19) fun v29 h27 =>
  if 0 ≤ v29 then
  (F_X11_rides_101 n v29 h27)
  else
  (F_X11_rides_101 n (-5 : Int32) h27))))))
  else
  (F_X11_rides_29 n h7)))
set_option maxRecDepth 20000 in
set_option maxHeartbeats 1600000 in
theorem g_X11_rides_0 {n d : Nat} : ∀ {x0 : Nat} {x1 : Int32} {x2 : Int32} {x3 : Int32} {x4 : Int32} {h : gH} {rh : gH} {rv : Int32}, F_X11_rides_0 n x0 x1 x2 x3 x4 h = some (rv, rh) → G M_X11_rides (d + 4) 0 0 0 0 0 [some (.ref x0), some (.int x1), some (.int x2), some (.int x3), some (.int x4), none, none] [] h (qI rv rh) := by
  intro x0 x1 x2 x3 x4 h rh rv hf
  unfold F_X11_rides_0 at hf
  refine g_aload_n dX11_rides_0 rfl ?_
  replace hf := Option.bind_eq_some_iff.mp hf
  obtain ⟨v1, q2, hf⟩ := hf
  refine g_gR f_X11_12 dX11_rides_1 q2 ?_
  replace hf := Option.bind_eq_some_iff.mp hf
  obtain ⟨v3, q4, hf⟩ := hf
  refine g_gR f_X11_70 dX11_rides_4 q4 ?_
  refine g_astore dX11_rides_7 (by decide) (g_lvp (lv2 := [some (.ref x0), some (.int x1), some (.int x2), some (.int x3), some (.int x4), some (.ref v3), none]) (pc2 := 9) rfl rfl ?_)
  refine g_aload dX11_rides_9 rfl ?_
  refine g_iload_n dX11_rides_11 rfl ?_
  replace hf := Option.bind_eq_some_iff.mp hf
  obtain ⟨f5, q6, hf⟩ := hf
  replace hf := gB_of hf
  obtain ⟨v9, h7, q8, hf⟩ := hf
  refine g_callV (as := [.int x1]) (mc1 := 0) (ms1 := 0) s_X11_86_X6_has_6 dX11_rides_12 (gO_of q6) rfl (Nat.le_of_ble_eq_true rfl) (Nat.le_of_ble_eq_true rfl) (Nat.le_of_ble_eq_true rfl) (t_X6_has (d := d + 3) q8) (fun r9 h9 q9 => ?_)
  obtain ⟨rfl, rfl⟩ := q9
  refine g_stp (st2 := [.int v9]) (pc2 := 15) (kc2 := 0) (kn2 := 0) rfl rfl rfl rfl ?_
  refine g_if_eq (tgt := 29) dX11_rides_15 (by decide) (fun c10 => ?_) (fun c10 => ?_)
  · rw [if_pos c10] at hf
    refine g_weak (lv2 := [none, none, none, none, none, none, none]) (trivial) ?_
    exact g_X11_rides_29 hf
  · rw [if_neg c10] at hf
    refine g_iload dX11_rides_18 rfl ?_
    refine g_if_lt (tgt := 29) dX11_rides_20 (by decide) (fun c11 => ?_) (fun c11 => ?_)
    · rw [if_pos c11] at hf
      refine g_weak (lv2 := [none, none, none, none, none, none, none]) (trivial) ?_
      exact g_X11_rides_29 hf
    · rw [if_neg c11] at hf
      refine g_iload dX11_rides_23 rfl ?_
      refine g_iconst (v := (2 : Int32)) dX11_rides_25 (by decide) ?_
      refine g_icmp_le (tgt := 31) dX11_rides_26 (by decide) (fun c12 => ?_) (fun c12 => ?_)
      · rw [if_pos c12] at hf
        refine g_iload_n dX11_rides_31 rfl ?_
        replace hf := gB_of hf
        obtain ⟨v15, h13, q14, hf⟩ := hf
        refine g_callS (as := [.int x2]) (mc1 := 0) (ms1 := 0) s_X11_117_X11_isEffort dX11_rides_32 rfl (Nat.le_of_ble_eq_true rfl) (Nat.le_of_ble_eq_true rfl) (Nat.le_of_ble_eq_true rfl) (t_X11_isEffort (d := d + 3) q14) (fun r9 h9 q9 => ?_)
        obtain ⟨rfl, rfl⟩ := q9
        refine g_stp (st2 := [.int v15]) (pc2 := 35) (kc2 := 0) (kn2 := 0) rfl rfl rfl rfl ?_
        refine g_if_eq (tgt := 47) dX11_rides_35 (by decide) (fun c16 => ?_) (fun c16 => ?_)
        · rw [if_pos c16] at hf
          refine g_weak (lv2 := [none, none, none, none, none, none, none]) (trivial) ?_
          exact g_X11_rides_47 hf
        · rw [if_neg c16] at hf
          refine g_aload dX11_rides_38 rfl ?_
          refine g_iload_n dX11_rides_40 rfl ?_
          replace hf := Option.bind_eq_some_iff.mp hf
          obtain ⟨f17, q18, hf⟩ := hf
          replace hf := gB_of hf
          obtain ⟨v21, h19, q20, hf⟩ := hf
          refine g_callV (as := [.int x3]) (mc1 := 0) (ms1 := 0) s_X11_120_X6_holdsStore_6 dX11_rides_41 (gO_of q18) rfl (Nat.le_of_ble_eq_true rfl) (Nat.le_of_ble_eq_true rfl) (Nat.le_of_ble_eq_true rfl) (t_X6_holdsStore (d := d + 3) q20) (fun r9 h9 q9 => ?_)
          obtain ⟨rfl, rfl⟩ := q9
          refine g_stp (st2 := [.int v21]) (pc2 := 44) (kc2 := 0) (kn2 := 0) rfl rfl rfl rfl ?_
          refine g_if_ne (tgt := 50) dX11_rides_44 (by decide) (fun c22 => ?_) (fun c22 => ?_)
          · rw [if_neg c22] at hf
            refine g_iload dX11_rides_50 rfl ?_
            refine g_if_ne (tgt := 64) dX11_rides_52 (by decide) (fun c23 => ?_) (fun c23 => ?_)
            · rw [if_neg c23] at hf
              refine g_iload dX11_rides_64 rfl ?_
              refine g_iconst (v := (1 : Int32)) dX11_rides_66 (by decide) ?_
              refine g_icmp_ne (tgt := 79) dX11_rides_67 (by decide) (fun c24 => ?_) (fun c24 => ?_)
              · rw [if_neg c24] at hf
                refine g_aload dX11_rides_79 rfl ?_
                refine g_iload_n dX11_rides_81 rfl ?_
                refine g_iload_n dX11_rides_82 rfl ?_
                refine g_iload_n dX11_rides_83 rfl ?_
                replace hf := Option.bind_eq_some_iff.mp hf
                obtain ⟨f25, q26, hf⟩ := hf
                replace hf := gB_of hf
                obtain ⟨v29, h27, q28, hf⟩ := hf
                refine g_callV (as := [.int x1, .int x2, .int x3]) (mc1 := 0) (ms1 := 0) s_X11_130_X6_behind_6 dX11_rides_84 (gO_of q26) rfl (Nat.le_of_ble_eq_true rfl) (Nat.le_of_ble_eq_true rfl) (Nat.le_of_ble_eq_true rfl) (t_X6_behind (d := d + 1) q28) (fun r9 h9 q9 => ?_)
                obtain ⟨rfl, rfl⟩ := q9
                refine g_stp (st2 := [.int v29]) (pc2 := 87) (kc2 := 0) (kn2 := 0) rfl rfl rfl rfl ?_
                refine g_istore dX11_rides_87 (by decide) (g_lvp (lv2 := [some (.ref x0), some (.int x1), some (.int x2), some (.int x3), some (.int x4), some (.ref v3), some (.int v29)]) (pc2 := 89) rfl rfl ?_)
                refine g_iload dX11_rides_89 rfl ?_
                refine g_if_ge (tgt := 99) dX11_rides_91 (by decide) (fun c30 => ?_) (fun c30 => ?_)
                · rw [if_pos c30] at hf
                  refine g_iload dX11_rides_99 rfl ?_
                  refine g_weak (lv2 := [none, none, none, none, none, none, none]) (trivial) ?_
                  exact g_X11_rides_101 hf
                · rw [if_neg c30] at hf
                  refine g_bipush (v := (-5 : Int32)) dX11_rides_94 (by decide) ?_
                  refine g_goto (tgt := 101) dX11_rides_96 (by decide) ?_
                  refine g_weak (lv2 := [none, none, none, none, none, none, none]) (trivial) ?_
                  exact g_X11_rides_101 hf
              · rw [if_pos c24] at hf
                refine g_aload dX11_rides_70 rfl ?_
                refine g_iload_n dX11_rides_72 rfl ?_
                refine g_iload_n dX11_rides_73 rfl ?_
                refine g_iload_n dX11_rides_74 rfl ?_
                replace hf := Option.bind_eq_some_iff.mp hf
                obtain ⟨f31, q32, hf⟩ := hf
                replace hf := gB_of hf
                obtain ⟨v35, h33, q34, hf⟩ := hf
                refine g_callV (as := [.int x1, .int x2, .int x3]) (mc1 := 0) (ms1 := 0) s_X11_127_X6_seconds_6 dX11_rides_75 (gO_of q32) rfl (Nat.le_of_ble_eq_true rfl) (Nat.le_of_ble_eq_true rfl) (Nat.le_of_ble_eq_true rfl) (t_X6_seconds (d := d + 0) q34) (fun r9 h9 q9 => ?_)
                obtain ⟨rfl, rfl⟩ := q9
                refine g_stp (st2 := [.int v35]) (pc2 := 78) (kc2 := 0) (kn2 := 0) rfl rfl rfl rfl ?_
                obtain ⟨rfl, rfl⟩ := Prod.mk.inj (Option.some.inj hf)
                exact g_iret dX11_rides_78 rfl ⟨rfl, rfl⟩ (Nat.le_of_ble_eq_true rfl) (Nat.le_of_ble_eq_true rfl)
            · rw [if_pos c23] at hf
              refine g_aload dX11_rides_55 rfl ?_
              refine g_iload_n dX11_rides_57 rfl ?_
              refine g_iload_n dX11_rides_58 rfl ?_
              refine g_iload_n dX11_rides_59 rfl ?_
              replace hf := Option.bind_eq_some_iff.mp hf
              obtain ⟨f36, q37, hf⟩ := hf
              replace hf := gB_of hf
              obtain ⟨v40, h38, q39, hf⟩ := hf
              refine g_callV (as := [.int x1, .int x2, .int x3]) (mc1 := 0) (ms1 := 0) s_X11_123_X6_speed_6 dX11_rides_60 (gO_of q37) rfl (Nat.le_of_ble_eq_true rfl) (Nat.le_of_ble_eq_true rfl) (Nat.le_of_ble_eq_true rfl) (t_X6_speed (d := d + 1) q39) (fun r9 h9 q9 => ?_)
              obtain ⟨rfl, rfl⟩ := q9
              refine g_stp (st2 := [.int v40]) (pc2 := 63) (kc2 := 0) (kn2 := 0) rfl rfl rfl rfl ?_
              obtain ⟨rfl, rfl⟩ := Prod.mk.inj (Option.some.inj hf)
              exact g_iret dX11_rides_63 rfl ⟨rfl, rfl⟩ (Nat.le_of_ble_eq_true rfl) (Nat.le_of_ble_eq_true rfl)
          · rw [if_pos c22] at hf
            refine g_weak (lv2 := [none, none, none, none, none, none, none]) (trivial) ?_
            exact g_X11_rides_47 hf
      · rw [if_neg c12] at hf
        refine g_weak (lv2 := [none, none, none, none, none, none, none]) (trivial) ?_
        exact g_X11_rides_29 hf
def F_X11_rides (n : Nat) (a : Nat) (p0 : Int32) (p1 : Int32) (p2 : Int32) (p3 : Int32) (h : gH) : Option (Int32 × gH) := F_X11_rides_0 n  a p0 p1 p2 p3 h
theorem t_X11_rides {n d : Nat} {a : Nat} {p0 : Int32} {p1 : Int32} {p2 : Int32} {p3 : Int32} {h rh : gH} {rv : Int32} (hf : F_X11_rides n a p0 p1 p2 p3 h = some (rv, rh)) : T M_X11_rides (d + 4) 0 0 [.ref a, .int p0, .int p1, .int p2, .int p3] h (qI rv rh) := by
  refine T_of_G (L := 2) (by decide +kernel) rfl (Nat.le_of_ble_eq_true rfl) (g_lv (lv2 := [some (.ref a), some (.int p0), some (.int p1), some (.int p2), some (.int p3), none, none]) rfl ?_)
  exact g_X11_rides_0 hf
def F_X5_digit_53 (n : Nat)   (h : gH) : Option (Int32 × gH) :=
  some ((-1 : Int32), h)
set_option maxRecDepth 20000 in
set_option maxHeartbeats 1600000 in
theorem g_X5_digit_53 {n d : Nat} : ∀  {h : gH} {rh : gH} {rv : Int32}, F_X5_digit_53 n  h = some (rv, rh) → G M_X5_digit d 0 0 0 0 53 [none, none, none] [] h (qI rv rh) := by
  intro  h rh rv hf
  unfold F_X5_digit_53 at hf
  refine g_iconst (v := (-1 : Int32)) dX5_digit_53 (by decide) ?_
  obtain ⟨rfl, rfl⟩ := Prod.mk.inj (Option.some.inj hf)
  exact g_iret dX5_digit_54 rfl ⟨rfl, rfl⟩ (Nat.le_of_ble_eq_true rfl) (Nat.le_of_ble_eq_true rfl)
def F_X5_digit_27 (n : Nat)   (h : gH) : Option (Int32 × gH) :=
  some ((-1 : Int32), h)
set_option maxRecDepth 20000 in
set_option maxHeartbeats 1600000 in
theorem g_X5_digit_27 {n d : Nat} : ∀  {h : gH} {rh : gH} {rv : Int32}, F_X5_digit_27 n  h = some (rv, rh) → G M_X5_digit d 0 0 0 0 27 [none, none, none] [] h (qI rv rh) := by
  intro  h rh rv hf
  unfold F_X5_digit_27 at hf
  refine g_iconst (v := (-1 : Int32)) dX5_digit_27 (by decide) ?_
  obtain ⟨rfl, rfl⟩ := Prod.mk.inj (Option.some.inj hf)
  exact g_iret dX5_digit_28 rfl ⟨rfl, rfl⟩ (Nat.le_of_ble_eq_true rfl) (Nat.le_of_ble_eq_true rfl)
def F_X5_digit_0 (n : Nat)  (x0 : Nat) (x1 : Int32) (h : gH) : Option (Int32 × gH) :=
  (gI h x0 5 3).bind fun v1 =>
  if v1 < 0 then
  (F_X5_digit_27 n h)
  else
  ((gI h x0 5 3).bind fun v4 =>
  (gI h x0 5 2).bind fun v6 =>
  if v6 ≤ v4 then
  (F_X5_digit_27 n h)
  else
  ((gI h x0 5 3).bind fun v9 =>
  if v9 < (120 : Int32) then
  ((gR h x0 5 1).bind fun v12 =>
  (gI h x0 5 3).bind fun v14 =>
  (aI h v12 v14).bind fun v16 =>
  if (v16 - (48 : Int32)) < x1 then
  (F_X5_digit_53 n h)
  else
  (if (v16 - (48 : Int32)) ≤ (9 : Int32) then
  ((gI h x0 5 3).bind fun v20 =>
  (pF h x0 5 3 (.int (v20 + (1 : Int32)))).bind fun h22 =>
  some ((v16 - (48 : Int32)), h22))
  else
  (F_X5_digit_53 n h)))
  else
  (F_X5_digit_27 n h)))
set_option maxRecDepth 20000 in
set_option maxHeartbeats 1600000 in
theorem g_X5_digit_0 {n d : Nat} : ∀ {x0 : Nat} {x1 : Int32} {h : gH} {rh : gH} {rv : Int32}, F_X5_digit_0 n x0 x1 h = some (rv, rh) → G M_X5_digit d 0 0 0 0 0 [some (.ref x0), some (.int x1), none] [] h (qI rv rh) := by
  intro x0 x1 h rh rv hf
  unfold F_X5_digit_0 at hf
  refine g_aload_n dX5_digit_0 rfl ?_
  replace hf := Option.bind_eq_some_iff.mp hf
  obtain ⟨v1, q2, hf⟩ := hf
  refine g_gI f_X5_39 dX5_digit_1 q2 ?_
  refine g_if_lt (tgt := 27) dX5_digit_4 (by decide) (fun c3 => ?_) (fun c3 => ?_)
  · rw [if_pos c3] at hf
    refine g_weak (lv2 := [none, none, none]) (trivial) ?_
    exact g_X5_digit_27 hf
  · rw [if_neg c3] at hf
    refine g_aload_n dX5_digit_7 rfl ?_
    replace hf := Option.bind_eq_some_iff.mp hf
    obtain ⟨v4, q5, hf⟩ := hf
    refine g_gI f_X5_39 dX5_digit_8 q5 ?_
    refine g_aload_n dX5_digit_11 rfl ?_
    replace hf := Option.bind_eq_some_iff.mp hf
    obtain ⟨v6, q7, hf⟩ := hf
    refine g_gI f_X5_35 dX5_digit_12 q7 ?_
    refine g_icmp_ge (tgt := 27) dX5_digit_15 (by decide) (fun c8 => ?_) (fun c8 => ?_)
    · rw [if_pos c8] at hf
      refine g_weak (lv2 := [none, none, none]) (trivial) ?_
      exact g_X5_digit_27 hf
    · rw [if_neg c8] at hf
      refine g_aload_n dX5_digit_18 rfl ?_
      replace hf := Option.bind_eq_some_iff.mp hf
      obtain ⟨v9, q10, hf⟩ := hf
      refine g_gI f_X5_39 dX5_digit_19 q10 ?_
      refine g_bipush (v := (120 : Int32)) dX5_digit_22 (by decide) ?_
      refine g_icmp_lt (tgt := 29) dX5_digit_24 (by decide) (fun c11 => ?_) (fun c11 => ?_)
      · rw [if_pos c11] at hf
        refine g_aload_n dX5_digit_29 rfl ?_
        replace hf := Option.bind_eq_some_iff.mp hf
        obtain ⟨v12, q13, hf⟩ := hf
        refine g_gR f_X5_18 dX5_digit_30 q13 ?_
        refine g_aload_n dX5_digit_33 rfl ?_
        replace hf := Option.bind_eq_some_iff.mp hf
        obtain ⟨v14, q15, hf⟩ := hf
        refine g_gI f_X5_39 dX5_digit_34 q15 ?_
        replace hf := Option.bind_eq_some_iff.mp hf
        obtain ⟨v16, q17, hf⟩ := hf
        refine g_aI dX5_digit_37 q17 ?_
        refine g_bipush (v := (48 : Int32)) dX5_digit_38 (by decide) ?_
        refine g_isub dX5_digit_40 ?_
        refine g_istore_n dX5_digit_41 (by decide) (g_lvp (lv2 := [some (.ref x0), some (.int x1), some (.int (v16 - (48 : Int32)))]) (pc2 := 42) rfl rfl ?_)
        refine g_iload_n dX5_digit_42 rfl ?_
        refine g_iload_n dX5_digit_43 rfl ?_
        refine g_icmp_lt (tgt := 53) dX5_digit_44 (by decide) (fun c18 => ?_) (fun c18 => ?_)
        · rw [if_pos c18] at hf
          refine g_weak (lv2 := [none, none, none]) (trivial) ?_
          exact g_X5_digit_53 hf
        · rw [if_neg c18] at hf
          refine g_iload_n dX5_digit_47 rfl ?_
          refine g_bipush (v := (9 : Int32)) dX5_digit_48 (by decide) ?_
          refine g_icmp_le (tgt := 55) dX5_digit_50 (by decide) (fun c19 => ?_) (fun c19 => ?_)
          · rw [if_pos c19] at hf
            refine g_aload_n dX5_digit_55 rfl ?_
            refine g_dup dX5_digit_56 rfl ?_
            replace hf := Option.bind_eq_some_iff.mp hf
            obtain ⟨v20, q21, hf⟩ := hf
            refine g_gI f_X5_39 dX5_digit_57 q21 ?_
            refine g_iconst (v := (1 : Int32)) dX5_digit_60 (by decide) ?_
            refine g_iadd dX5_digit_61 ?_
            replace hf := Option.bind_eq_some_iff.mp hf
            obtain ⟨h22, q23, hf⟩ := hf
            refine g_pF p_X5_39 dX5_digit_62 q23 (fun _ => rfl) (fun _ => rfl) ?_
            refine g_iload_n dX5_digit_65 rfl ?_
            obtain ⟨rfl, rfl⟩ := Prod.mk.inj (Option.some.inj hf)
            exact g_iret dX5_digit_66 rfl ⟨rfl, rfl⟩ (Nat.le_of_ble_eq_true rfl) (Nat.le_of_ble_eq_true rfl)
          · rw [if_neg c19] at hf
            refine g_weak (lv2 := [none, none, none]) (trivial) ?_
            exact g_X5_digit_53 hf
      · rw [if_neg c11] at hf
        refine g_weak (lv2 := [none, none, none]) (trivial) ?_
        exact g_X5_digit_27 hf
def F_X5_digit (n : Nat) (a : Nat) (p0 : Int32) (h : gH) : Option (Int32 × gH) := F_X5_digit_0 n  a p0 h
theorem t_X5_digit {n d : Nat} {a : Nat} {p0 : Int32} {h rh : gH} {rv : Int32} (hf : F_X5_digit n a p0 h = some (rv, rh)) : T M_X5_digit d 0 0 [.ref a, .int p0] h (qI rv rh) := by
  refine T_of_G (L := 1) (by decide +kernel) rfl (Nat.le_of_ble_eq_true rfl) (g_lv (lv2 := [some (.ref a), some (.int p0), none]) rfl ?_)
  exact g_X5_digit_0 hf
def F_X5_number_32 (n : Nat)  (y0 : Int32) (h : gH) : Option (Int32 × gH) :=
  some (y0, h)
set_option maxRecDepth 20000 in
set_option maxHeartbeats 1600000 in
theorem g_X5_number_32 {n d : Nat} : ∀ {y0 : Int32} {h : gH} {rh : gH} {rv : Int32}, F_X5_number_32 n y0 h = some (rv, rh) → G M_X5_number (d + 1) 0 0 0 0 32 [none, none, none] [.int y0] h (qI rv rh) := by
  intro y0 h rh rv hf
  unfold F_X5_number_32 at hf
  obtain ⟨rfl, rfl⟩ := Prod.mk.inj (Option.some.inj hf)
  exact g_iret dX5_number_32 rfl ⟨rfl, rfl⟩ (Nat.le_of_ble_eq_true rfl) (Nat.le_of_ble_eq_true rfl)
def F_X5_number_0 (n : Nat)  (x0 : Nat) (h : gH) : Option (Int32 × gH) :=
  (gO h x0 5).bind fun f1 =>
  gB (F_X5_digit n x0 (0 : Int32) h) fun v5 h3 =>
  if 0 < v5 then
  ((gO h3 x0 5).bind fun f7 =>
  gB (F_X5_digit n x0 (0 : Int32) h3) fun v11 h9 =>
  if 0 ≤ v11 then
  (F_X5_number_32 n (((10 : Int32) * v5) + v11) h9)
  else
  (F_X5_number_32 n v5 h9))
  else
  (some (v5, h3))
set_option maxRecDepth 20000 in
set_option maxHeartbeats 1600000 in
theorem g_X5_number_0 {n d : Nat} : ∀ {x0 : Nat} {h : gH} {rh : gH} {rv : Int32}, F_X5_number_0 n x0 h = some (rv, rh) → G M_X5_number (d + 1) 0 0 0 0 0 [some (.ref x0), none, none] [] h (qI rv rh) := by
  intro x0 h rh rv hf
  unfold F_X5_number_0 at hf
  refine g_aload_n dX5_number_0 rfl ?_
  refine g_iconst (v := (0 : Int32)) dX5_number_1 (by decide) ?_
  replace hf := Option.bind_eq_some_iff.mp hf
  obtain ⟨f1, q2, hf⟩ := hf
  replace hf := gB_of hf
  obtain ⟨v5, h3, q4, hf⟩ := hf
  refine g_callV (as := [.int (0 : Int32)]) (mc1 := 0) (ms1 := 0) s_X5_66_X5_digit_5 dX5_number_2 (gO_of q2) rfl (Nat.le_of_ble_eq_true rfl) (Nat.le_of_ble_eq_true rfl) (Nat.le_of_ble_eq_true rfl) (t_X5_digit (d := d + 0) q4) (fun r9 h9 q9 => ?_)
  obtain ⟨rfl, rfl⟩ := q9
  refine g_stp (st2 := [.int v5]) (pc2 := 5) (kc2 := 0) (kn2 := 0) rfl rfl rfl rfl ?_
  refine g_istore_n dX5_number_5 (by decide) (g_lvp (lv2 := [some (.ref x0), some (.int v5), none]) (pc2 := 6) rfl rfl ?_)
  refine g_iload_n dX5_number_6 rfl ?_
  refine g_if_gt (tgt := 12) dX5_number_7 (by decide) (fun c6 => ?_) (fun c6 => ?_)
  · rw [if_pos c6] at hf
    refine g_aload_n dX5_number_12 rfl ?_
    refine g_iconst (v := (0 : Int32)) dX5_number_13 (by decide) ?_
    replace hf := Option.bind_eq_some_iff.mp hf
    obtain ⟨f7, q8, hf⟩ := hf
    replace hf := gB_of hf
    obtain ⟨v11, h9, q10, hf⟩ := hf
    refine g_callV (as := [.int (0 : Int32)]) (mc1 := 0) (ms1 := 0) s_X5_66_X5_digit_5 dX5_number_14 (gO_of q8) rfl (Nat.le_of_ble_eq_true rfl) (Nat.le_of_ble_eq_true rfl) (Nat.le_of_ble_eq_true rfl) (t_X5_digit (d := d + 0) q10) (fun r9 h9 q9 => ?_)
    obtain ⟨rfl, rfl⟩ := q9
    refine g_stp (st2 := [.int v11]) (pc2 := 17) (kc2 := 0) (kn2 := 0) rfl rfl rfl rfl ?_
    refine g_istore_n dX5_number_17 (by decide) (g_lvp (lv2 := [some (.ref x0), some (.int v5), some (.int v11)]) (pc2 := 18) rfl rfl ?_)
    refine g_iload_n dX5_number_18 rfl ?_
    refine g_if_ge (tgt := 26) dX5_number_19 (by decide) (fun c12 => ?_) (fun c12 => ?_)
    · rw [if_pos c12] at hf
      refine g_bipush (v := (10 : Int32)) dX5_number_26 (by decide) ?_
      refine g_iload_n dX5_number_28 rfl ?_
      refine g_imul dX5_number_29 ?_
      refine g_iload_n dX5_number_30 rfl ?_
      refine g_iadd dX5_number_31 ?_
      refine g_weak (lv2 := [none, none, none]) (trivial) ?_
      exact g_X5_number_32 hf
    · rw [if_neg c12] at hf
      refine g_iload_n dX5_number_22 rfl ?_
      refine g_goto (tgt := 32) dX5_number_23 (by decide) ?_
      refine g_weak (lv2 := [none, none, none]) (trivial) ?_
      exact g_X5_number_32 hf
  · rw [if_neg c6] at hf
    refine g_iload_n dX5_number_10 rfl ?_
    obtain ⟨rfl, rfl⟩ := Prod.mk.inj (Option.some.inj hf)
    exact g_iret dX5_number_11 rfl ⟨rfl, rfl⟩ (Nat.le_of_ble_eq_true rfl) (Nat.le_of_ble_eq_true rfl)
def F_X5_number (n : Nat) (a : Nat) (h : gH) : Option (Int32 × gH) := F_X5_number_0 n  a h
theorem t_X5_number {n d : Nat} {a : Nat} {h rh : gH} {rv : Int32} (hf : F_X5_number n a h = some (rv, rh)) : T M_X5_number (d + 1) 0 0 [.ref a] h (qI rv rh) := by
  refine T_of_G (L := 2) (by decide +kernel) rfl (Nat.le_of_ble_eq_true rfl) (g_lv (lv2 := [some (.ref a), none, none]) rfl ?_)
  exact g_X5_number_0 hf
def F_X5_next_40 (n : Nat)  (y0 : Int32) (h : gH) : Option (Int32 × gH) :=
  some (y0, h)
set_option maxRecDepth 20000 in
set_option maxHeartbeats 1600000 in
theorem g_X5_next_40 {n d : Nat} : ∀ {y0 : Int32} {h : gH} {rh : gH} {rv : Int32}, F_X5_next_40 n y0 h = some (rv, rh) → G M_X5_next d 0 0 0 0 40 [none] [.int y0] h (qI rv rh) := by
  intro y0 h rh rv hf
  unfold F_X5_next_40 at hf
  obtain ⟨rfl, rfl⟩ := Prod.mk.inj (Option.some.inj hf)
  exact g_iret dX5_next_40 rfl ⟨rfl, rfl⟩ (Nat.le_of_ble_eq_true rfl) (Nat.le_of_ble_eq_true rfl)
def F_X5_next_39 (n : Nat)   (h : gH) : Option (Int32 × gH) :=
  F_X5_next_40 n (-1 : Int32) h
set_option maxRecDepth 20000 in
set_option maxHeartbeats 1600000 in
theorem g_X5_next_39 {n d : Nat} : ∀  {h : gH} {rh : gH} {rv : Int32}, F_X5_next_39 n  h = some (rv, rh) → G M_X5_next d 0 0 0 0 39 [none] [] h (qI rv rh) := by
  intro  h rh rv hf
  unfold F_X5_next_39 at hf
  refine g_iconst (v := (-1 : Int32)) dX5_next_39 (by decide) ?_
  exact g_X5_next_40 hf
def F_X5_next_0 (n : Nat)  (x0 : Nat) (h : gH) : Option (Int32 × gH) :=
  (gI h x0 5 3).bind fun v1 =>
  if v1 < 0 then
  (F_X5_next_39 n h)
  else
  ((gI h x0 5 3).bind fun v4 =>
  (gI h x0 5 2).bind fun v6 =>
  if v6 ≤ v4 then
  (F_X5_next_39 n h)
  else
  ((gI h x0 5 3).bind fun v9 =>
  if (120 : Int32) ≤ v9 then
  (F_X5_next_39 n h)
  else
  ((gR h x0 5 1).bind fun v12 =>
  (gI h x0 5 3).bind fun v14 =>
  (aI h v12 v14).bind fun v16 =>
  F_X5_next_40 n v16 h)))
set_option maxRecDepth 20000 in
set_option maxHeartbeats 1600000 in
theorem g_X5_next_0 {n d : Nat} : ∀ {x0 : Nat} {h : gH} {rh : gH} {rv : Int32}, F_X5_next_0 n x0 h = some (rv, rh) → G M_X5_next d 0 0 0 0 0 [some (.ref x0)] [] h (qI rv rh) := by
  intro x0 h rh rv hf
  unfold F_X5_next_0 at hf
  refine g_aload_n dX5_next_0 rfl ?_
  replace hf := Option.bind_eq_some_iff.mp hf
  obtain ⟨v1, q2, hf⟩ := hf
  refine g_gI f_X5_39 dX5_next_1 q2 ?_
  refine g_if_lt (tgt := 39) dX5_next_4 (by decide) (fun c3 => ?_) (fun c3 => ?_)
  · rw [if_pos c3] at hf
    refine g_weak (lv2 := [none]) (trivial) ?_
    exact g_X5_next_39 hf
  · rw [if_neg c3] at hf
    refine g_aload_n dX5_next_7 rfl ?_
    replace hf := Option.bind_eq_some_iff.mp hf
    obtain ⟨v4, q5, hf⟩ := hf
    refine g_gI f_X5_39 dX5_next_8 q5 ?_
    refine g_aload_n dX5_next_11 rfl ?_
    replace hf := Option.bind_eq_some_iff.mp hf
    obtain ⟨v6, q7, hf⟩ := hf
    refine g_gI f_X5_35 dX5_next_12 q7 ?_
    refine g_icmp_ge (tgt := 39) dX5_next_15 (by decide) (fun c8 => ?_) (fun c8 => ?_)
    · rw [if_pos c8] at hf
      refine g_weak (lv2 := [none]) (trivial) ?_
      exact g_X5_next_39 hf
    · rw [if_neg c8] at hf
      refine g_aload_n dX5_next_18 rfl ?_
      replace hf := Option.bind_eq_some_iff.mp hf
      obtain ⟨v9, q10, hf⟩ := hf
      refine g_gI f_X5_39 dX5_next_19 q10 ?_
      refine g_bipush (v := (120 : Int32)) dX5_next_22 (by decide) ?_
      refine g_icmp_ge (tgt := 39) dX5_next_24 (by decide) (fun c11 => ?_) (fun c11 => ?_)
      · rw [if_pos c11] at hf
        refine g_weak (lv2 := [none]) (trivial) ?_
        exact g_X5_next_39 hf
      · rw [if_neg c11] at hf
        refine g_aload_n dX5_next_27 rfl ?_
        replace hf := Option.bind_eq_some_iff.mp hf
        obtain ⟨v12, q13, hf⟩ := hf
        refine g_gR f_X5_18 dX5_next_28 q13 ?_
        refine g_aload_n dX5_next_31 rfl ?_
        replace hf := Option.bind_eq_some_iff.mp hf
        obtain ⟨v14, q15, hf⟩ := hf
        refine g_gI f_X5_39 dX5_next_32 q15 ?_
        replace hf := Option.bind_eq_some_iff.mp hf
        obtain ⟨v16, q17, hf⟩ := hf
        refine g_aI dX5_next_35 q17 ?_
        refine g_goto (tgt := 40) dX5_next_36 (by decide) ?_
        refine g_weak (lv2 := [none]) (trivial) ?_
        exact g_X5_next_40 hf
def F_X5_next (n : Nat) (a : Nat) (h : gH) : Option (Int32 × gH) := F_X5_next_0 n  a h
theorem t_X5_next {n d : Nat} {a : Nat} {h rh : gH} {rv : Int32} (hf : F_X5_next n a h = some (rv, rh)) : T M_X5_next d 0 0 [.ref a] h (qI rv rh) := by
  refine T_of_G (L := 0) (by decide +kernel) rfl (Nat.le_of_ble_eq_true rfl) (g_lv (lv2 := [some (.ref a)]) rfl ?_)
  exact g_X5_next_0 hf
def F_X5_sign_0 (n : Nat)  (x0 : Nat) (x1 : Int32) (h : gH) : Option (Int32 × gH) :=
  (gO h x0 5).bind fun f1 =>
  gB (F_X5_next n x0  h) fun v5 h3 =>
  if v5 = x1 then
  ((gI h3 x0 5 3).bind fun v7 =>
  (pF h3 x0 5 3 (.int (v7 + (1 : Int32)))).bind fun h9 =>
  some ((1 : Int32), h9))
  else
  (some ((0 : Int32), h3))
set_option maxRecDepth 20000 in
set_option maxHeartbeats 1600000 in
theorem g_X5_sign_0 {n d : Nat} : ∀ {x0 : Nat} {x1 : Int32} {h : gH} {rh : gH} {rv : Int32}, F_X5_sign_0 n x0 x1 h = some (rv, rh) → G M_X5_sign (d + 1) 0 0 0 0 0 [some (.ref x0), some (.int x1)] [] h (qI rv rh) := by
  intro x0 x1 h rh rv hf
  unfold F_X5_sign_0 at hf
  refine g_aload_n dX5_sign_0 rfl ?_
  replace hf := Option.bind_eq_some_iff.mp hf
  obtain ⟨f1, q2, hf⟩ := hf
  replace hf := gB_of hf
  obtain ⟨v5, h3, q4, hf⟩ := hf
  refine g_callV (as := []) (mc1 := 0) (ms1 := 0) s_X5_56_X5_next_5 dX5_sign_1 (gO_of q2) rfl (Nat.le_of_ble_eq_true rfl) (Nat.le_of_ble_eq_true rfl) (Nat.le_of_ble_eq_true rfl) (t_X5_next (d := d + 0) q4) (fun r9 h9 q9 => ?_)
  obtain ⟨rfl, rfl⟩ := q9
  refine g_stp (st2 := [.int v5]) (pc2 := 4) (kc2 := 0) (kn2 := 0) rfl rfl rfl rfl ?_
  refine g_iload_n dX5_sign_4 rfl ?_
  refine g_icmp_eq (tgt := 10) dX5_sign_5 (by decide) (fun c6 => ?_) (fun c6 => ?_)
  · rw [if_pos c6] at hf
    refine g_aload_n dX5_sign_10 rfl ?_
    refine g_dup dX5_sign_11 rfl ?_
    replace hf := Option.bind_eq_some_iff.mp hf
    obtain ⟨v7, q8, hf⟩ := hf
    refine g_gI f_X5_39 dX5_sign_12 q8 ?_
    refine g_iconst (v := (1 : Int32)) dX5_sign_15 (by decide) ?_
    refine g_iadd dX5_sign_16 ?_
    replace hf := Option.bind_eq_some_iff.mp hf
    obtain ⟨h9, q10, hf⟩ := hf
    refine g_pF p_X5_39 dX5_sign_17 q10 (fun _ => rfl) (fun _ => rfl) ?_
    refine g_iconst (v := (1 : Int32)) dX5_sign_20 (by decide) ?_
    obtain ⟨rfl, rfl⟩ := Prod.mk.inj (Option.some.inj hf)
    exact g_zret (ty := .boolean) dX5_sign_21 rfl (by decide +kernel) ⟨rfl, rfl⟩ (Nat.le_of_ble_eq_true rfl) (Nat.le_of_ble_eq_true rfl)
  · rw [if_neg c6] at hf
    refine g_iconst (v := (0 : Int32)) dX5_sign_8 (by decide) ?_
    obtain ⟨rfl, rfl⟩ := Prod.mk.inj (Option.some.inj hf)
    exact g_zret (ty := .boolean) dX5_sign_9 rfl (by decide +kernel) ⟨rfl, rfl⟩ (Nat.le_of_ble_eq_true rfl) (Nat.le_of_ble_eq_true rfl)
def F_X5_sign (n : Nat) (a : Nat) (p0 : Int32) (h : gH) : Option (Int32 × gH) := F_X5_sign_0 n  a p0 h
theorem t_X5_sign {n d : Nat} {a : Nat} {p0 : Int32} {h rh : gH} {rv : Int32} (hf : F_X5_sign n a p0 h = some (rv, rh)) : T M_X5_sign (d + 1) 0 0 [.ref a, .int p0] h (qI rv rh) := by
  refine T_of_G (L := 0) (by decide +kernel) rfl (Nat.le_of_ble_eq_true rfl) (g_lv (lv2 := [some (.ref a), some (.int p0)]) rfl ?_)
  exact g_X5_sign_0 hf
def F_X6_setBend_24 (n : Nat)   (h : gH) : Option (gH) :=
  some h
set_option maxRecDepth 20000 in
set_option maxHeartbeats 1600000 in
theorem g_X6_setBend_24 {n d : Nat} : ∀  {h : gH} {rh : gH}, F_X6_setBend_24 n  h = some rh → G M_X6_setBend (d + 1) 0 0 0 0 24 [none, none, none] [] h (qV rh) := by
  intro  h rh hf
  unfold F_X6_setBend_24 at hf
  obtain rfl := Option.some.inj hf
  exact g_vret dX6_setBend_24 rfl ⟨rfl, rfl⟩ (Nat.le_of_ble_eq_true rfl) (Nat.le_of_ble_eq_true rfl)
def F_X6_setBend_0 (n : Nat)  (x0 : Nat) (x1 : Int32) (x2 : Int32) (h : gH) : Option (gH) :=
  if x1 < 0 then
  (F_X6_setBend_24 n h)
  else
  ((gR h x0 6 3).bind fun v2 =>
  (lenI h v2).bind fun v4 =>
  if v4 ≤ x1 then
  (F_X6_setBend_24 n h)
  else
  ((gR h x0 6 3).bind fun v7 =>
  (sI h v7 x1 (gmax (1 : Int32) x2)).bind fun h9 =>
  F_X6_setBend_24 n h9))
set_option maxRecDepth 20000 in
set_option maxHeartbeats 1600000 in
theorem g_X6_setBend_0 {n d : Nat} : ∀ {x0 : Nat} {x1 : Int32} {x2 : Int32} {h : gH} {rh : gH}, F_X6_setBend_0 n x0 x1 x2 h = some rh → G M_X6_setBend (d + 1) 0 0 0 0 0 [some (.ref x0), some (.int x1), some (.int x2)] [] h (qV rh) := by
  intro x0 x1 x2 h rh hf
  unfold F_X6_setBend_0 at hf
  refine g_iload_n dX6_setBend_0 rfl ?_
  refine g_if_lt (tgt := 24) dX6_setBend_1 (by decide) (fun c1 => ?_) (fun c1 => ?_)
  · rw [if_pos c1] at hf
    refine g_weak (lv2 := [none, none, none]) (trivial) ?_
    exact g_X6_setBend_24 hf
  · rw [if_neg c1] at hf
    refine g_iload_n dX6_setBend_4 rfl ?_
    refine g_aload_n dX6_setBend_5 rfl ?_
    replace hf := Option.bind_eq_some_iff.mp hf
    obtain ⟨v2, q3, hf⟩ := hf
    refine g_gR f_X6_21 dX6_setBend_6 q3 ?_
    replace hf := Option.bind_eq_some_iff.mp hf
    obtain ⟨v4, q5, hf⟩ := hf
    refine g_lenI dX6_setBend_9 q5 ?_
    refine g_icmp_ge (tgt := 24) dX6_setBend_10 (by decide) (fun c6 => ?_) (fun c6 => ?_)
    · rw [if_pos c6] at hf
      refine g_weak (lv2 := [none, none, none]) (trivial) ?_
      exact g_X6_setBend_24 hf
    · rw [if_neg c6] at hf
      refine g_aload_n dX6_setBend_13 rfl ?_
      replace hf := Option.bind_eq_some_iff.mp hf
      obtain ⟨v7, q8, hf⟩ := hf
      refine g_gR f_X6_21 dX6_setBend_14 q8 ?_
      refine g_iload_n dX6_setBend_17 rfl ?_
      refine g_iconst (v := (1 : Int32)) dX6_setBend_18 (by decide) ?_
      refine g_iload_n dX6_setBend_19 rfl ?_
      refine g_max m_X6_68 m_max.1 m_max.2.1 m_max.2.2 dX6_setBend_20 (Nat.le_of_ble_eq_true rfl) (Nat.le_of_ble_eq_true rfl) (Nat.le_of_ble_eq_true rfl) ?_
      refine g_st (st2 := [.int (gmax (1 : Int32) x2), .int x1, .ref v7]) rfl ?_
      replace hf := Option.bind_eq_some_iff.mp hf
      obtain ⟨h9, q10, hf⟩ := hf
      refine g_sI dX6_setBend_23 q10 ?_
      refine g_weak (lv2 := [none, none, none]) (trivial) ?_
      exact g_X6_setBend_24 hf
def F_X6_setBend (n : Nat) (a : Nat) (p0 : Int32) (p1 : Int32) (h : gH) : Option (gH) := F_X6_setBend_0 n  a p0 p1 h
theorem t_X6_setBend {n d : Nat} {a : Nat} {p0 : Int32} {p1 : Int32} {h rh : gH} (hf : F_X6_setBend n a p0 p1 h = some rh) : T M_X6_setBend (d + 1) 0 0 [.ref a, .int p0, .int p1] h (qV rh) := by
  refine T_of_G (L := 0) (by decide +kernel) rfl (Nat.le_of_ble_eq_true rfl) (g_lv (lv2 := [some (.ref a), some (.int p0), some (.int p1)]) rfl ?_)
  exact g_X6_setBend_0 hf
def F_X5_bend_19 (n : Nat)   (h : gH) : Option (Int32 × gH) :=
  some ((0 : Int32), h)
set_option maxRecDepth 20000 in
set_option maxHeartbeats 1600000 in
theorem g_X5_bend_19 {n d : Nat} : ∀  {h : gH} {rh : gH} {rv : Int32}, F_X5_bend_19 n  h = some (rv, rh) → G M_X5_bend (d + 2) 0 0 0 0 19 [none, none, none] [] h (qI rv rh) := by
  intro  h rh rv hf
  unfold F_X5_bend_19 at hf
  refine g_iconst (v := (0 : Int32)) dX5_bend_19 (by decide) ?_
  obtain ⟨rfl, rfl⟩ := Prod.mk.inj (Option.some.inj hf)
  exact g_zret (ty := .boolean) dX5_bend_20 rfl (by decide +kernel) ⟨rfl, rfl⟩ (Nat.le_of_ble_eq_true rfl) (Nat.le_of_ble_eq_true rfl)
def F_X5_bend_0 (n : Nat)  (x0 : Nat) (h : gH) : Option (Int32 × gH) :=
  (gO h x0 5).bind fun f1 =>
  gB (F_X5_digit n x0 (0 : Int32) h) fun v5 h3 =>
  if v5 < 0 then
  (F_X5_bend_19 n h3)
  else
  ((gO h3 x0 5).bind fun f7 =>
  gB (F_X5_sign n x0 (32 : Int32) h3) fun v11 h9 =>
  if v11 = 0 then
  (F_X5_bend_19 n h9)
  else
  ((gO h9 x0 5).bind fun f13 =>
  gB (F_X5_number n x0  h9) fun v17 h15 =>
  if 0 ≤ v17 then
  ((gR h15 x0 5 0).bind fun v19 =>
  (gO h15 v19 6).bind fun f21 =>
  (F_X6_setBend n v19 v5 v17 h15).bind fun h23 =>
  some ((1 : Int32), h23))
  else
  (some ((0 : Int32), h15))))
set_option maxRecDepth 20000 in
set_option maxHeartbeats 1600000 in
theorem g_X5_bend_0 {n d : Nat} : ∀ {x0 : Nat} {h : gH} {rh : gH} {rv : Int32}, F_X5_bend_0 n x0 h = some (rv, rh) → G M_X5_bend (d + 2) 0 0 0 0 0 [some (.ref x0), none, none] [] h (qI rv rh) := by
  intro x0 h rh rv hf
  unfold F_X5_bend_0 at hf
  refine g_aload_n dX5_bend_0 rfl ?_
  refine g_iconst (v := (0 : Int32)) dX5_bend_1 (by decide) ?_
  replace hf := Option.bind_eq_some_iff.mp hf
  obtain ⟨f1, q2, hf⟩ := hf
  replace hf := gB_of hf
  obtain ⟨v5, h3, q4, hf⟩ := hf
  refine g_callV (as := [.int (0 : Int32)]) (mc1 := 0) (ms1 := 0) s_X5_66_X5_digit_5 dX5_bend_2 (gO_of q2) rfl (Nat.le_of_ble_eq_true rfl) (Nat.le_of_ble_eq_true rfl) (Nat.le_of_ble_eq_true rfl) (t_X5_digit (d := d + 1) q4) (fun r9 h9 q9 => ?_)
  obtain ⟨rfl, rfl⟩ := q9
  refine g_stp (st2 := [.int v5]) (pc2 := 5) (kc2 := 0) (kn2 := 0) rfl rfl rfl rfl ?_
  refine g_istore_n dX5_bend_5 (by decide) (g_lvp (lv2 := [some (.ref x0), some (.int v5), none]) (pc2 := 6) rfl rfl ?_)
  refine g_iload_n dX5_bend_6 rfl ?_
  refine g_if_lt (tgt := 19) dX5_bend_7 (by decide) (fun c6 => ?_) (fun c6 => ?_)
  · rw [if_pos c6] at hf
    refine g_weak (lv2 := [none, none, none]) (trivial) ?_
    exact g_X5_bend_19 hf
  · rw [if_neg c6] at hf
    refine g_aload_n dX5_bend_10 rfl ?_
    refine g_bipush (v := (32 : Int32)) dX5_bend_11 (by decide) ?_
    replace hf := Option.bind_eq_some_iff.mp hf
    obtain ⟨f7, q8, hf⟩ := hf
    replace hf := gB_of hf
    obtain ⟨v11, h9, q10, hf⟩ := hf
    refine g_callV (as := [.int (32 : Int32)]) (mc1 := 0) (ms1 := 0) s_X5_52_X5_sign_5 dX5_bend_13 (gO_of q8) rfl (Nat.le_of_ble_eq_true rfl) (Nat.le_of_ble_eq_true rfl) (Nat.le_of_ble_eq_true rfl) (t_X5_sign (d := d + 0) q10) (fun r9 h9 q9 => ?_)
    obtain ⟨rfl, rfl⟩ := q9
    refine g_stp (st2 := [.int v11]) (pc2 := 16) (kc2 := 0) (kn2 := 0) rfl rfl rfl rfl ?_
    refine g_if_ne (tgt := 21) dX5_bend_16 (by decide) (fun c12 => ?_) (fun c12 => ?_)
    · rw [if_neg c12] at hf
      refine g_aload_n dX5_bend_21 rfl ?_
      replace hf := Option.bind_eq_some_iff.mp hf
      obtain ⟨f13, q14, hf⟩ := hf
      replace hf := gB_of hf
      obtain ⟨v17, h15, q16, hf⟩ := hf
      refine g_callV (as := []) (mc1 := 0) (ms1 := 0) s_X5_111_X5_number_5 dX5_bend_22 (gO_of q14) rfl (Nat.le_of_ble_eq_true rfl) (Nat.le_of_ble_eq_true rfl) (Nat.le_of_ble_eq_true rfl) (t_X5_number (d := d + 0) q16) (fun r9 h9 q9 => ?_)
      obtain ⟨rfl, rfl⟩ := q9
      refine g_stp (st2 := [.int v17]) (pc2 := 25) (kc2 := 0) (kn2 := 0) rfl rfl rfl rfl ?_
      refine g_istore_n dX5_bend_25 (by decide) (g_lvp (lv2 := [some (.ref x0), some (.int v5), some (.int v17)]) (pc2 := 26) rfl rfl ?_)
      refine g_iload_n dX5_bend_26 rfl ?_
      refine g_if_ge (tgt := 32) dX5_bend_27 (by decide) (fun c18 => ?_) (fun c18 => ?_)
      · rw [if_pos c18] at hf
        refine g_aload_n dX5_bend_32 rfl ?_
        replace hf := Option.bind_eq_some_iff.mp hf
        obtain ⟨v19, q20, hf⟩ := hf
        refine g_gR f_X5_12 dX5_bend_33 q20 ?_
        refine g_iload_n dX5_bend_36 rfl ?_
        refine g_iload_n dX5_bend_37 rfl ?_
        replace hf := Option.bind_eq_some_iff.mp hf
        obtain ⟨f21, q22, hf⟩ := hf
        replace hf := Option.bind_eq_some_iff.mp hf
        obtain ⟨h23, q24, hf⟩ := hf
        refine g_callV (as := [.int v5, .int v17]) (mc1 := 0) (ms1 := 0) s_X5_114_X6_setBend_6 dX5_bend_38 (gO_of q22) rfl (Nat.le_of_ble_eq_true rfl) (Nat.le_of_ble_eq_true rfl) (Nat.le_of_ble_eq_true rfl) (t_X6_setBend (d := d + 0) q24) (fun r9 h9 q9 => ?_)
        obtain ⟨rfl, rfl⟩ := q9
        refine g_stp (st2 := []) (pc2 := 41) (kc2 := 0) (kn2 := 0) rfl rfl rfl rfl ?_
        refine g_iconst (v := (1 : Int32)) dX5_bend_41 (by decide) ?_
        obtain ⟨rfl, rfl⟩ := Prod.mk.inj (Option.some.inj hf)
        exact g_zret (ty := .boolean) dX5_bend_42 rfl (by decide +kernel) ⟨rfl, rfl⟩ (Nat.le_of_ble_eq_true rfl) (Nat.le_of_ble_eq_true rfl)
      · rw [if_neg c18] at hf
        refine g_iconst (v := (0 : Int32)) dX5_bend_30 (by decide) ?_
        obtain ⟨rfl, rfl⟩ := Prod.mk.inj (Option.some.inj hf)
        exact g_zret (ty := .boolean) dX5_bend_31 rfl (by decide +kernel) ⟨rfl, rfl⟩ (Nat.le_of_ble_eq_true rfl) (Nat.le_of_ble_eq_true rfl)
    · rw [if_pos c12] at hf
      refine g_weak (lv2 := [none, none, none]) (trivial) ?_
      exact g_X5_bend_19 hf
def F_X5_bend (n : Nat) (a : Nat) (h : gH) : Option (Int32 × gH) := F_X5_bend_0 n  a h
theorem t_X5_bend {n d : Nat} {a : Nat} {h rh : gH} {rv : Int32} (hf : F_X5_bend n a h = some (rv, rh)) : T M_X5_bend (d + 2) 0 0 [.ref a] h (qI rv rh) := by
  refine T_of_G (L := 2) (by decide +kernel) rfl (Nat.le_of_ble_eq_true rfl) (g_lv (lv2 := [some (.ref a), none, none]) rfl ?_)
  exact g_X5_bend_0 hf
def F_X6_addCode_36 (n : Nat)   (h : gH) : Option (gH) :=
  some h
set_option maxRecDepth 20000 in
set_option maxHeartbeats 1600000 in
theorem g_X6_addCode_36 {n d : Nat} : ∀  {h : gH} {rh : gH}, F_X6_addCode_36 n  h = some rh → G M_X6_addCode d 0 0 0 0 36 [none, none] [] h (qV rh) := by
  intro  h rh hf
  unfold F_X6_addCode_36 at hf
  obtain rfl := Option.some.inj hf
  exact g_vret dX6_addCode_36 rfl ⟨rfl, rfl⟩ (Nat.le_of_ble_eq_true rfl) (Nat.le_of_ble_eq_true rfl)
def F_X6_addCode_0 (n : Nat)  (x0 : Nat) (x1 : Int32) (h : gH) : Option (gH) :=
  (gI h x0 6 10).bind fun v1 =>
  if v1 < 0 then
  (F_X6_addCode_36 n h)
  else
  ((gI h x0 6 10).bind fun v4 =>
  if (120 : Int32) ≤ v4 then
  (F_X6_addCode_36 n h)
  else
  ((gR h x0 6 6).bind fun v7 =>
  (gI h x0 6 10).bind fun v9 =>
  (sI h v7 v9 x1).bind fun h11 =>
  (gI h11 x0 6 10).bind fun v13 =>
  (pF h11 x0 6 10 (.int (v13 + (1 : Int32)))).bind fun h15 =>
  F_X6_addCode_36 n h15))
set_option maxRecDepth 20000 in
set_option maxHeartbeats 1600000 in
theorem g_X6_addCode_0 {n d : Nat} : ∀ {x0 : Nat} {x1 : Int32} {h : gH} {rh : gH}, F_X6_addCode_0 n x0 x1 h = some rh → G M_X6_addCode d 0 0 0 0 0 [some (.ref x0), some (.int x1)] [] h (qV rh) := by
  intro x0 x1 h rh hf
  unfold F_X6_addCode_0 at hf
  refine g_aload_n dX6_addCode_0 rfl ?_
  replace hf := Option.bind_eq_some_iff.mp hf
  obtain ⟨v1, q2, hf⟩ := hf
  refine g_gI f_X6_46 dX6_addCode_1 q2 ?_
  refine g_if_lt (tgt := 36) dX6_addCode_4 (by decide) (fun c3 => ?_) (fun c3 => ?_)
  · rw [if_pos c3] at hf
    refine g_weak (lv2 := [none, none]) (trivial) ?_
    exact g_X6_addCode_36 hf
  · rw [if_neg c3] at hf
    refine g_aload_n dX6_addCode_7 rfl ?_
    replace hf := Option.bind_eq_some_iff.mp hf
    obtain ⟨v4, q5, hf⟩ := hf
    refine g_gI f_X6_46 dX6_addCode_8 q5 ?_
    refine g_bipush (v := (120 : Int32)) dX6_addCode_11 (by decide) ?_
    refine g_icmp_ge (tgt := 36) dX6_addCode_13 (by decide) (fun c6 => ?_) (fun c6 => ?_)
    · rw [if_pos c6] at hf
      refine g_weak (lv2 := [none, none]) (trivial) ?_
      exact g_X6_addCode_36 hf
    · rw [if_neg c6] at hf
      refine g_aload_n dX6_addCode_16 rfl ?_
      replace hf := Option.bind_eq_some_iff.mp hf
      obtain ⟨v7, q8, hf⟩ := hf
      refine g_gR f_X6_30 dX6_addCode_17 q8 ?_
      refine g_aload_n dX6_addCode_20 rfl ?_
      replace hf := Option.bind_eq_some_iff.mp hf
      obtain ⟨v9, q10, hf⟩ := hf
      refine g_gI f_X6_46 dX6_addCode_21 q10 ?_
      refine g_iload_n dX6_addCode_24 rfl ?_
      replace hf := Option.bind_eq_some_iff.mp hf
      obtain ⟨h11, q12, hf⟩ := hf
      refine g_sI dX6_addCode_25 q12 ?_
      refine g_aload_n dX6_addCode_26 rfl ?_
      refine g_dup dX6_addCode_27 rfl ?_
      replace hf := Option.bind_eq_some_iff.mp hf
      obtain ⟨v13, q14, hf⟩ := hf
      refine g_gI f_X6_46 dX6_addCode_28 q14 ?_
      refine g_iconst (v := (1 : Int32)) dX6_addCode_31 (by decide) ?_
      refine g_iadd dX6_addCode_32 ?_
      replace hf := Option.bind_eq_some_iff.mp hf
      obtain ⟨h15, q16, hf⟩ := hf
      refine g_pF p_X6_46 dX6_addCode_33 q16 (fun _ => rfl) (fun _ => rfl) ?_
      refine g_weak (lv2 := [none, none]) (trivial) ?_
      exact g_X6_addCode_36 hf
def F_X6_addCode (n : Nat) (a : Nat) (p0 : Int32) (h : gH) : Option (gH) := F_X6_addCode_0 n  a p0 h
theorem t_X6_addCode {n d : Nat} {a : Nat} {p0 : Int32} {h rh : gH} (hf : F_X6_addCode n a p0 h = some rh) : T M_X6_addCode d 0 0 [.ref a, .int p0] h (qV rh) := by
  refine T_of_G (L := 0) (by decide +kernel) rfl (Nat.le_of_ble_eq_true rfl) (g_lv (lv2 := [some (.ref a), some (.int p0)]) rfl ?_)
  exact g_X6_addCode_0 hf
def F_X5_oneOf_34 (n : Nat)  (x3 : Int32) (h : gH) : Option (Int32 × gH) :=
  some (x3, h)
set_option maxRecDepth 20000 in
set_option maxHeartbeats 1600000 in
theorem g_X5_oneOf_34 {n d : Nat} : ∀ {x3 : Int32} {h : gH} {rh : gH} {rv : Int32}, F_X5_oneOf_34 n x3 h = some (rv, rh) → G M_X5_oneOf (d + 7) 0 0 0 0 34 [none, none, none, some (.int x3)] [] h (qI rv rh) := by
  intro x3 h rh rv hf
  unfold F_X5_oneOf_34 at hf
  refine g_iload_n dX5_oneOf_34 rfl ?_
  obtain ⟨rfl, rfl⟩ := Prod.mk.inj (Option.some.inj hf)
  exact g_iret dX5_oneOf_35 rfl ⟨rfl, rfl⟩ (Nat.le_of_ble_eq_true rfl) (Nat.le_of_ble_eq_true rfl)
def F_X5_oneOf_19 (n : Nat)  (x0 : Nat) (y0 : Int32) (h : gH) : Option (Int32 × gH) :=
  if y0 < 0 then
  (F_X5_oneOf_34 n y0 h)
  else
  ((gI h x0 5 3).bind fun v2 =>
  (pF h x0 5 3 (.int (v2 + (1 : Int32)))).bind fun h4 =>
  F_X5_oneOf_34 n y0 h4)
set_option maxRecDepth 20000 in
set_option maxHeartbeats 1600000 in
theorem g_X5_oneOf_19 {n d : Nat} : ∀ {x0 : Nat} {y0 : Int32} {h : gH} {rh : gH} {rv : Int32}, F_X5_oneOf_19 n x0 y0 h = some (rv, rh) → G M_X5_oneOf (d + 7) 0 0 0 0 19 [some (.ref x0), none, none, none] [.int y0] h (qI rv rh) := by
  intro x0 y0 h rh rv hf
  unfold F_X5_oneOf_19 at hf
  refine g_istore_n dX5_oneOf_19 (by decide) (g_lvp (lv2 := [some (.ref x0), none, none, some (.int y0)]) (pc2 := 20) rfl rfl ?_)
  refine g_iload_n dX5_oneOf_20 rfl ?_
  refine g_if_lt (tgt := 34) dX5_oneOf_21 (by decide) (fun c1 => ?_) (fun c1 => ?_)
  · rw [if_pos c1] at hf
    refine g_weak (lv2 := [none, none, none, some (.int y0)]) (And.intro rfl (trivial)) ?_
    exact g_X5_oneOf_34 hf
  · rw [if_neg c1] at hf
    refine g_aload_n dX5_oneOf_24 rfl ?_
    refine g_dup dX5_oneOf_25 rfl ?_
    replace hf := Option.bind_eq_some_iff.mp hf
    obtain ⟨v2, q3, hf⟩ := hf
    refine g_gI f_X5_39 dX5_oneOf_26 q3 ?_
    refine g_iconst (v := (1 : Int32)) dX5_oneOf_29 (by decide) ?_
    refine g_iadd dX5_oneOf_30 ?_
    replace hf := Option.bind_eq_some_iff.mp hf
    obtain ⟨h4, q5, hf⟩ := hf
    refine g_pF p_X5_39 dX5_oneOf_31 q5 (fun _ => rfl) (fun _ => rfl) ?_
    refine g_weak (lv2 := [none, none, none, some (.int y0)]) (And.intro rfl (trivial)) ?_
    exact g_X5_oneOf_34 hf
def F_X5_oneOf_0 (n : Nat)  (x0 : Nat) (x1 : Nat) (h : gH) : Option (Int32 × gH) :=
  (gO h x0 5).bind fun f1 =>
  gB (F_X5_next n x0  h) fun v5 h3 =>
  if 0 ≤ v5 then
  (gB (F_J0_indexOf_0f7a4 n x1 ((v5.toUInt32 % 65536).toInt32) h3) fun v9 h7 =>
  F_X5_oneOf_19 n x0 v9 h7)
  else
  (F_X5_oneOf_19 n x0 (-1 : Int32) h3)
set_option maxRecDepth 20000 in
set_option maxHeartbeats 1600000 in
theorem g_X5_oneOf_0 {n d : Nat} : ∀ {x0 : Nat} {x1 : Nat} {h : gH} {rh : gH} {rv : Int32}, F_X5_oneOf_0 n x0 x1 h = some (rv, rh) → G M_X5_oneOf (d + 7) 0 0 0 0 0 [some (.ref x0), some (.ref x1), none, none] [] h (qI rv rh) := by
  intro x0 x1 h rh rv hf
  unfold F_X5_oneOf_0 at hf
  refine g_aload_n dX5_oneOf_0 rfl ?_
  replace hf := Option.bind_eq_some_iff.mp hf
  obtain ⟨f1, q2, hf⟩ := hf
  replace hf := gB_of hf
  obtain ⟨v5, h3, q4, hf⟩ := hf
  refine g_callV (as := []) (mc1 := 0) (ms1 := 0) s_X5_56_X5_next_5 dX5_oneOf_1 (gO_of q2) rfl (Nat.le_of_ble_eq_true rfl) (Nat.le_of_ble_eq_true rfl) (Nat.le_of_ble_eq_true rfl) (t_X5_next (d := d + 6) q4) (fun r9 h9 q9 => ?_)
  obtain ⟨rfl, rfl⟩ := q9
  refine g_stp (st2 := [.int v5]) (pc2 := 4) (kc2 := 0) (kn2 := 0) rfl rfl rfl rfl ?_
  refine g_istore_n dX5_oneOf_4 (by decide) (g_lvp (lv2 := [some (.ref x0), some (.ref x1), some (.int v5), none]) (pc2 := 5) rfl rfl ?_)
  refine g_iload_n dX5_oneOf_5 rfl ?_
  refine g_if_ge (tgt := 13) dX5_oneOf_6 (by decide) (fun c6 => ?_) (fun c6 => ?_)
  · rw [if_pos c6] at hf
    refine g_aload_n dX5_oneOf_13 rfl ?_
    refine g_iload_n dX5_oneOf_14 rfl ?_
    refine g_i2c dX5_oneOf_15 rfl ?_
    replace hf := gB_of hf
    obtain ⟨v9, h7, q8, hf⟩ := hf
    refine g_callStr (as := [.int ((v5.toUInt32 % 65536).toInt32)]) (mc1 := 0) (ms1 := 0) s_X5_60 dX5_oneOf_16 (b_J0_indexOf_0f7a4 q8) rfl (Nat.le_of_ble_eq_true rfl) (Nat.le_of_ble_eq_true rfl) (Nat.le_of_ble_eq_true rfl) (t_J0_indexOf_0f7a4 (d := d + 0) q8) (fun r9 h9 q9 => ?_)
    obtain ⟨rfl, rfl⟩ := q9
    refine g_stp (st2 := [.int v9]) (pc2 := 19) (kc2 := 0) (kn2 := 0) rfl rfl rfl rfl ?_
    refine g_weak (lv2 := [some (.ref x0), none, none, none]) (And.intro rfl (trivial)) ?_
    exact g_X5_oneOf_19 hf
  · rw [if_neg c6] at hf
    refine g_iconst (v := (-1 : Int32)) dX5_oneOf_9 (by decide) ?_
    refine g_goto (tgt := 19) dX5_oneOf_10 (by decide) ?_
    refine g_weak (lv2 := [some (.ref x0), none, none, none]) (And.intro rfl (trivial)) ?_
    exact g_X5_oneOf_19 hf
def F_X5_oneOf (n : Nat) (a : Nat) (p0 : Nat) (h : gH) : Option (Int32 × gH) := F_X5_oneOf_0 n  a p0 h
theorem t_X5_oneOf {n d : Nat} {a : Nat} {p0 : Nat} {h rh : gH} {rv : Int32} (hf : F_X5_oneOf n a p0 h = some (rv, rh)) : T M_X5_oneOf (d + 7) 0 0 [.ref a, .ref p0] h (qI rv rh) := by
  refine T_of_G (L := 2) (by decide +kernel) rfl (Nat.le_of_ble_eq_true rfl) (g_lv (lv2 := [some (.ref a), some (.ref p0), none, none]) rfl ?_)
  exact g_X5_oneOf_0 hf
def F_X6_addTest_0 (n : Nat)  (x0 : Nat) (x1 : Int32) (x2 : Int32) (x3 : Int32) (h : gH) : Option (gH) :=
  (gO h x0 6).bind fun f1 =>
  (F_X6_addCode n x0 (((x1 <<< ((2 : Int32) &&& 31)) ||| (x2 <<< ((5 : Int32) &&& 31))) ||| (x3 <<< ((7 : Int32) &&& 31))) h).bind fun h3 =>
  some h3
set_option maxRecDepth 20000 in
set_option maxHeartbeats 1600000 in
theorem g_X6_addTest_0 {n d : Nat} : ∀ {x0 : Nat} {x1 : Int32} {x2 : Int32} {x3 : Int32} {h : gH} {rh : gH}, F_X6_addTest_0 n x0 x1 x2 x3 h = some rh → G M_X6_addTest (d + 1) 0 0 0 0 0 [some (.ref x0), some (.int x1), some (.int x2), some (.int x3)] [] h (qV rh) := by
  intro x0 x1 x2 x3 h rh hf
  unfold F_X6_addTest_0 at hf
  refine g_aload_n dX6_addTest_0 rfl ?_
  refine g_iload_n dX6_addTest_1 rfl ?_
  refine g_iconst (v := (2 : Int32)) dX6_addTest_2 (by decide) ?_
  refine g_ishl dX6_addTest_3 ?_
  refine g_iload_n dX6_addTest_4 rfl ?_
  refine g_iconst (v := (5 : Int32)) dX6_addTest_5 (by decide) ?_
  refine g_ishl dX6_addTest_6 ?_
  refine g_ior dX6_addTest_7 ?_
  refine g_iload_n dX6_addTest_8 rfl ?_
  refine g_bipush (v := (7 : Int32)) dX6_addTest_9 (by decide) ?_
  refine g_ishl dX6_addTest_11 ?_
  refine g_ior dX6_addTest_12 ?_
  replace hf := Option.bind_eq_some_iff.mp hf
  obtain ⟨f1, q2, hf⟩ := hf
  replace hf := Option.bind_eq_some_iff.mp hf
  obtain ⟨h3, q4, hf⟩ := hf
  refine g_callV (as := [.int (((x1 <<< ((2 : Int32) &&& 31)) ||| (x2 <<< ((5 : Int32) &&& 31))) ||| (x3 <<< ((7 : Int32) &&& 31)))]) (mc1 := 0) (ms1 := 0) s_X6_74_X6_addCode_6 dX6_addTest_13 (gO_of q2) rfl (Nat.le_of_ble_eq_true rfl) (Nat.le_of_ble_eq_true rfl) (Nat.le_of_ble_eq_true rfl) (t_X6_addCode (d := d + 0) q4) (fun r9 h9 q9 => ?_)
  obtain ⟨rfl, rfl⟩ := q9
  refine g_stp (st2 := []) (pc2 := 16) (kc2 := 0) (kn2 := 0) rfl rfl rfl rfl ?_
  obtain rfl := Option.some.inj hf
  exact g_vret dX6_addTest_16 rfl ⟨rfl, rfl⟩ (Nat.le_of_ble_eq_true rfl) (Nat.le_of_ble_eq_true rfl)
def F_X6_addTest (n : Nat) (a : Nat) (p0 : Int32) (p1 : Int32) (p2 : Int32) (h : gH) : Option (gH) := F_X6_addTest_0 n  a p0 p1 p2 h
theorem t_X6_addTest {n d : Nat} {a : Nat} {p0 : Int32} {p1 : Int32} {p2 : Int32} {h rh : gH} (hf : F_X6_addTest n a p0 p1 p2 h = some rh) : T M_X6_addTest (d + 1) 0 0 [.ref a, .int p0, .int p1, .int p2] h (qV rh) := by
  refine T_of_G (L := 0) (by decide +kernel) rfl (Nat.le_of_ble_eq_true rfl) (g_lv (lv2 := [some (.ref a), some (.int p0), some (.int p1), some (.int p2)]) rfl ?_)
  exact g_X6_addTest_0 hf
def F_X5_test_34 (n : Nat)  (x0 : Nat) (x1 : Int32) (x2 : Int32) (y0 : Int32) (h : gH) : Option (Int32 × gH) :=
  if 0 ≤ y0 then
  ((gR h x0 5 0).bind fun v2 =>
  (gO h v2 6).bind fun f4 =>
  (F_X6_addTest n v2 x1 x2 y0 h).bind fun h6 =>
  some ((1 : Int32), h6))
  else
  (some ((0 : Int32), h))
set_option maxRecDepth 20000 in
set_option maxHeartbeats 1600000 in
theorem g_X5_test_34 {n d : Nat} : ∀ {x0 : Nat} {x1 : Int32} {x2 : Int32} {y0 : Int32} {h : gH} {rh : gH} {rv : Int32}, F_X5_test_34 n x0 x1 x2 y0 h = some (rv, rh) → G M_X5_test (d + 8) 0 0 0 0 34 [some (.ref x0), some (.int x1), some (.int x2), none] [.int y0] h (qI rv rh) := by
  intro x0 x1 x2 y0 h rh rv hf
  unfold F_X5_test_34 at hf
  refine g_istore_n dX5_test_34 (by decide) (g_lvp (lv2 := [some (.ref x0), some (.int x1), some (.int x2), some (.int y0)]) (pc2 := 35) rfl rfl ?_)
  refine g_iload_n dX5_test_35 rfl ?_
  refine g_if_ge (tgt := 41) dX5_test_36 (by decide) (fun c1 => ?_) (fun c1 => ?_)
  · rw [if_pos c1] at hf
    refine g_aload_n dX5_test_41 rfl ?_
    replace hf := Option.bind_eq_some_iff.mp hf
    obtain ⟨v2, q3, hf⟩ := hf
    refine g_gR f_X5_12 dX5_test_42 q3 ?_
    refine g_iload_n dX5_test_45 rfl ?_
    refine g_iload_n dX5_test_46 rfl ?_
    refine g_iload_n dX5_test_47 rfl ?_
    replace hf := Option.bind_eq_some_iff.mp hf
    obtain ⟨f4, q5, hf⟩ := hf
    replace hf := Option.bind_eq_some_iff.mp hf
    obtain ⟨h6, q7, hf⟩ := hf
    refine g_callV (as := [.int x1, .int x2, .int y0]) (mc1 := 0) (ms1 := 0) s_X5_156_X6_addTest_6 dX5_test_48 (gO_of q5) rfl (Nat.le_of_ble_eq_true rfl) (Nat.le_of_ble_eq_true rfl) (Nat.le_of_ble_eq_true rfl) (t_X6_addTest (d := d + 6) q7) (fun r9 h9 q9 => ?_)
    obtain ⟨rfl, rfl⟩ := q9
    refine g_stp (st2 := []) (pc2 := 51) (kc2 := 0) (kn2 := 0) rfl rfl rfl rfl ?_
    refine g_iconst (v := (1 : Int32)) dX5_test_51 (by decide) ?_
    obtain ⟨rfl, rfl⟩ := Prod.mk.inj (Option.some.inj hf)
    exact g_zret (ty := .boolean) dX5_test_52 rfl (by decide +kernel) ⟨rfl, rfl⟩ (Nat.le_of_ble_eq_true rfl) (Nat.le_of_ble_eq_true rfl)
  · rw [if_neg c1] at hf
    refine g_iconst (v := (0 : Int32)) dX5_test_39 (by decide) ?_
    obtain ⟨rfl, rfl⟩ := Prod.mk.inj (Option.some.inj hf)
    exact g_zret (ty := .boolean) dX5_test_40 rfl (by decide +kernel) ⟨rfl, rfl⟩ (Nat.le_of_ble_eq_true rfl) (Nat.le_of_ble_eq_true rfl)
def F_X5_test_21 (n : Nat)  (x0 : Nat) (x1 : Int32) (y0 : Int32) (h : gH) : Option (Int32 × gH) :=
  if 0 ≤ y0 then
  ((gO h x0 5).bind fun f2 =>
  gB (F_X5_number n x0  h) fun v6 h4 =>
  F_X5_test_34 n x0 x1 y0 v6 h4)
  else
  (F_X5_test_34 n x0 x1 y0 (-1 : Int32) h)
set_option maxRecDepth 20000 in
set_option maxHeartbeats 1600000 in
theorem g_X5_test_21 {n d : Nat} : ∀ {x0 : Nat} {x1 : Int32} {y0 : Int32} {h : gH} {rh : gH} {rv : Int32}, F_X5_test_21 n x0 x1 y0 h = some (rv, rh) → G M_X5_test (d + 8) 0 0 0 0 21 [some (.ref x0), some (.int x1), none, none] [.int y0] h (qI rv rh) := by
  intro x0 x1 y0 h rh rv hf
  unfold F_X5_test_21 at hf
  refine g_istore_n dX5_test_21 (by decide) (g_lvp (lv2 := [some (.ref x0), some (.int x1), some (.int y0), none]) (pc2 := 22) rfl rfl ?_)
  refine g_iload_n dX5_test_22 rfl ?_
  refine g_if_ge (tgt := 30) dX5_test_23 (by decide) (fun c1 => ?_) (fun c1 => ?_)
  · rw [if_pos c1] at hf
    refine g_aload_n dX5_test_30 rfl ?_
    replace hf := Option.bind_eq_some_iff.mp hf
    obtain ⟨f2, q3, hf⟩ := hf
    replace hf := gB_of hf
    obtain ⟨v6, h4, q5, hf⟩ := hf
    refine g_callV (as := []) (mc1 := 0) (ms1 := 0) s_X5_111_X5_number_5 dX5_test_31 (gO_of q3) rfl (Nat.le_of_ble_eq_true rfl) (Nat.le_of_ble_eq_true rfl) (Nat.le_of_ble_eq_true rfl) (t_X5_number (d := d + 6) q5) (fun r9 h9 q9 => ?_)
    obtain ⟨rfl, rfl⟩ := q9
    refine g_stp (st2 := [.int v6]) (pc2 := 34) (kc2 := 0) (kn2 := 0) rfl rfl rfl rfl ?_
    exact g_X5_test_34 hf
  · rw [if_neg c1] at hf
    refine g_iconst (v := (-1 : Int32)) dX5_test_26 (by decide) ?_
    refine g_goto (tgt := 34) dX5_test_27 (by decide) ?_
    exact g_X5_test_34 hf
def F_X5_test_0 (n : Nat)  (x0 : Nat) (h : gH) : Option (Int32 × gH) :=
  (gO h x0 5).bind fun f1 =>
  gB (F_X5_oneOf n x0 1 h) fun v5 h3 =>
  if 0 ≤ v5 then
  ((gO h3 x0 5).bind fun f7 =>
  gB (F_X5_oneOf n x0 2 h3) fun v11 h9 =>
  F_X5_test_21 n x0 v5 v11 h9)
  else
  (F_X5_test_21 n x0 v5 (-1 : Int32) h3)
set_option maxRecDepth 20000 in
set_option maxHeartbeats 1600000 in
theorem g_X5_test_0 {n d : Nat} : ∀ {x0 : Nat} {h : gH} {rh : gH} {rv : Int32}, F_X5_test_0 n x0 h = some (rv, rh) → G M_X5_test (d + 8) 0 0 0 0 0 [some (.ref x0), none, none, none] [] h (qI rv rh) := by
  intro x0 h rh rv hf
  unfold F_X5_test_0 at hf
  refine g_aload_n dX5_test_0 rfl ?_
  refine g_ldcS (i := 0) (by decide +kernel) dX5_test_1 ?_ (by decide)
  replace hf := Option.bind_eq_some_iff.mp hf
  obtain ⟨f1, q2, hf⟩ := hf
  replace hf := gB_of hf
  obtain ⟨v5, h3, q4, hf⟩ := hf
  refine g_callV (as := [.ref 1]) (mc1 := 0) (ms1 := 0) s_X5_150_X5_oneOf_5 dX5_test_3 (gO_of q2) rfl (Nat.le_of_ble_eq_true rfl) (Nat.le_of_ble_eq_true rfl) (Nat.le_of_ble_eq_true rfl) (t_X5_oneOf (d := d + 0) q4) (fun r9 h9 q9 => ?_)
  obtain ⟨rfl, rfl⟩ := q9
  refine g_stp (st2 := [.int v5]) (pc2 := 6) (kc2 := 0) (kn2 := 0) rfl rfl rfl rfl ?_
  refine g_istore_n dX5_test_6 (by decide) (g_lvp (lv2 := [some (.ref x0), some (.int v5), none, none]) (pc2 := 7) rfl rfl ?_)
  refine g_iload_n dX5_test_7 rfl ?_
  refine g_if_ge (tgt := 15) dX5_test_8 (by decide) (fun c6 => ?_) (fun c6 => ?_)
  · rw [if_pos c6] at hf
    refine g_aload_n dX5_test_15 rfl ?_
    refine g_ldcS (i := 1) (by decide +kernel) dX5_test_16 ?_ (by decide)
    replace hf := Option.bind_eq_some_iff.mp hf
    obtain ⟨f7, q8, hf⟩ := hf
    replace hf := gB_of hf
    obtain ⟨v11, h9, q10, hf⟩ := hf
    refine g_callV (as := [.ref 2]) (mc1 := 0) (ms1 := 0) s_X5_150_X5_oneOf_5 dX5_test_18 (gO_of q8) rfl (Nat.le_of_ble_eq_true rfl) (Nat.le_of_ble_eq_true rfl) (Nat.le_of_ble_eq_true rfl) (t_X5_oneOf (d := d + 0) q10) (fun r9 h9 q9 => ?_)
    obtain ⟨rfl, rfl⟩ := q9
    refine g_stp (st2 := [.int v11]) (pc2 := 21) (kc2 := 0) (kn2 := 0) rfl rfl rfl rfl ?_
    exact g_X5_test_21 hf
  · rw [if_neg c6] at hf
    refine g_iconst (v := (-1 : Int32)) dX5_test_11 (by decide) ?_
    refine g_goto (tgt := 21) dX5_test_12 (by decide) ?_
    exact g_X5_test_21 hf
def F_X5_test (n : Nat) (a : Nat) (h : gH) : Option (Int32 × gH) := F_X5_test_0 n  a h
theorem t_X5_test {n d : Nat} {a : Nat} {h rh : gH} {rv : Int32} (hf : F_X5_test n a h = some (rv, rh)) : T M_X5_test (d + 8) 0 0 [.ref a] h (qI rv rh) := by
  refine T_of_G (L := 3) (by decide +kernel) rfl (Nat.le_of_ble_eq_true rfl) (g_lv (lv2 := [some (.ref a), none, none, none]) rfl ?_)
  exact g_X5_test_0 hf
def F_X5_allOf_51 (n : Nat) (fk : Nat → Int32 → gH → Option (Int32 × gH))   (h : gH) : Option (Int32 × gH) :=
  some ((1 : Int32), h)
set_option maxRecDepth 20000 in
set_option maxHeartbeats 1600000 in
theorem g_X5_allOf_51 {n d : Nat} {fk : Nat → Int32 → gH → Option (Int32 × gH)} (ft : ∀ {e : Nat} {a : Nat} {p0 : Int32} {h rh : gH} {rv : Int32}, fk a p0 h = some (rv, rh) → T M_X5_factor (d + e + 8) 0 0 [.ref a, .int p0] h (qI rv rh)) : ∀  {h : gH} {rh : gH} {rv : Int32}, F_X5_allOf_51 n fk  h = some (rv, rh) → G M_X5_allOf (d + 9) 0 0 0 0 51 [none, none, none] [] h (qI rv rh) := by
  intro  h rh rv hf
  unfold F_X5_allOf_51 at hf
  refine g_iconst (v := (1 : Int32)) dX5_allOf_51 (by decide) ?_
  obtain ⟨rfl, rfl⟩ := Prod.mk.inj (Option.some.inj hf)
  exact g_zret (ty := .boolean) dX5_allOf_52 rfl (by decide +kernel) ⟨rfl, rfl⟩ (Nat.le_of_ble_eq_true rfl) (Nat.le_of_ble_eq_true rfl)
def F_X5_allOf_12 (n : Nat) (fk : Nat → Int32 → gH → Option (Int32 × gH))  : Nat → Nat → Int32 → Int32 → gH → Option (Int32 × gH)
  | 0, _, _, _, _ => none
  | m + 1, x0, x1, x2, h => if (120 : Int32) ≤ x2 then
  (F_X5_allOf_51 n fk h)
  else
  ((gO h x0 5).bind fun f2 =>
  gB (F_X5_sign n x0 (38 : Int32) h) fun v6 h4 =>
  if v6 = 0 then
  (F_X5_allOf_51 n fk h4)
  else
  ((gO h4 x0 5).bind fun f8 =>
  gB (fk x0 x1 h4) fun v12 h10 =>
  if v12 = 0 then
  (some ((0 : Int32), h10))
  else
  ((gR h10 x0 5 0).bind fun v14 =>
  (gO h10 v14 6).bind fun f16 =>
  (F_X6_addCode n v14 (2 : Int32) h10).bind fun h18 =>
  F_X5_allOf_12 n fk m x0 x1 (x2 + (1 : Int32)) h18)))
set_option maxRecDepth 20000 in
set_option maxHeartbeats 1600000 in
theorem g_X5_allOf_12 {n d : Nat} {fk : Nat → Int32 → gH → Option (Int32 × gH)} (ft : ∀ {e : Nat} {a : Nat} {p0 : Int32} {h rh : gH} {rv : Int32}, fk a p0 h = some (rv, rh) → T M_X5_factor (d + e + 8) 0 0 [.ref a, .int p0] h (qI rv rh)) : ∀ {m : Nat} {x0 : Nat} {x1 : Int32} {x2 : Int32} {h : gH} {rh : gH} {rv : Int32}, F_X5_allOf_12 n fk m x0 x1 x2 h = some (rv, rh) → G M_X5_allOf (d + 9) 0 0 0 0 12 [some (.ref x0), some (.int x1), some (.int x2)] [] h (qI rv rh) := by
  intro m
  induction m with
  | zero => intro x0 x1 x2 h rh rv hf; cases hf
  | succ m t12 =>
    intro x0 x1 x2 h rh rv hf
    unfold F_X5_allOf_12 at hf
    refine g_iload_n dX5_allOf_12 rfl ?_
    refine g_bipush (v := (120 : Int32)) dX5_allOf_13 (by decide) ?_
    refine g_icmp_ge (tgt := 51) dX5_allOf_15 (by decide) (fun c1 => ?_) (fun c1 => ?_)
    · rw [if_pos c1] at hf
      refine g_weak (lv2 := [none, none, none]) (trivial) ?_
      exact g_X5_allOf_51 ft hf
    · rw [if_neg c1] at hf
      refine g_aload_n dX5_allOf_18 rfl ?_
      refine g_bipush (v := (38 : Int32)) dX5_allOf_19 (by decide) ?_
      replace hf := Option.bind_eq_some_iff.mp hf
      obtain ⟨f2, q3, hf⟩ := hf
      replace hf := gB_of hf
      obtain ⟨v6, h4, q5, hf⟩ := hf
      refine g_callV (as := [.int (38 : Int32)]) (mc1 := 0) (ms1 := 0) s_X5_52_X5_sign_5 dX5_allOf_21 (gO_of q3) rfl (Nat.le_of_ble_eq_true rfl) (Nat.le_of_ble_eq_true rfl) (Nat.le_of_ble_eq_true rfl) (t_X5_sign (d := d + 7) q5) (fun r9 h9 q9 => ?_)
      obtain ⟨rfl, rfl⟩ := q9
      refine g_stp (st2 := [.int v6]) (pc2 := 24) (kc2 := 0) (kn2 := 0) rfl rfl rfl rfl ?_
      refine g_if_eq (tgt := 51) dX5_allOf_24 (by decide) (fun c7 => ?_) (fun c7 => ?_)
      · rw [if_pos c7] at hf
        refine g_weak (lv2 := [none, none, none]) (trivial) ?_
        exact g_X5_allOf_51 ft hf
      · rw [if_neg c7] at hf
        refine g_aload_n dX5_allOf_27 rfl ?_
        refine g_iload_n dX5_allOf_28 rfl ?_
        replace hf := Option.bind_eq_some_iff.mp hf
        obtain ⟨f8, q9, hf⟩ := hf
        replace hf := gB_of hf
        obtain ⟨v12, h10, q11, hf⟩ := hf
        refine g_callV (as := [.int x1]) (mc1 := 0) (ms1 := 0) s_X5_139_X5_factor_5 dX5_allOf_29 (gO_of q9) rfl (Nat.le_of_ble_eq_true rfl) (Nat.le_of_ble_eq_true rfl) (Nat.le_of_ble_eq_true rfl) (ft (e := 0) q11) (fun r9 h9 q9 => ?_)
        obtain ⟨rfl, rfl⟩ := q9
        refine g_stp (st2 := [.int v12]) (pc2 := 32) (kc2 := 0) (kn2 := 0) rfl rfl rfl rfl ?_
        refine g_if_ne (tgt := 37) dX5_allOf_32 (by decide) (fun c13 => ?_) (fun c13 => ?_)
        · rw [if_neg c13] at hf
          refine g_aload_n dX5_allOf_37 rfl ?_
          replace hf := Option.bind_eq_some_iff.mp hf
          obtain ⟨v14, q15, hf⟩ := hf
          refine g_gR f_X5_12 dX5_allOf_38 q15 ?_
          refine g_iconst (v := (2 : Int32)) dX5_allOf_41 (by decide) ?_
          replace hf := Option.bind_eq_some_iff.mp hf
          obtain ⟨f16, q17, hf⟩ := hf
          replace hf := Option.bind_eq_some_iff.mp hf
          obtain ⟨h18, q19, hf⟩ := hf
          refine g_callV (as := [.int (2 : Int32)]) (mc1 := 0) (ms1 := 0) s_X5_136_X6_addCode_6 dX5_allOf_42 (gO_of q17) rfl (Nat.le_of_ble_eq_true rfl) (Nat.le_of_ble_eq_true rfl) (Nat.le_of_ble_eq_true rfl) (t_X6_addCode (d := d + 8) q19) (fun r9 h9 q9 => ?_)
          obtain ⟨rfl, rfl⟩ := q9
          refine g_stp (st2 := []) (pc2 := 45) (kc2 := 0) (kn2 := 0) rfl rfl rfl rfl ?_
          refine g_iinc2 (w := (1 : Int32)) dX5_allOf_45 (by decide) rfl (by decide) (g_lvp (lv2 := [some (.ref x0), some (.int x1), some (.int (x2 + (1 : Int32)))]) (pc2 := 48) rfl rfl ?_)
          refine g_goto (tgt := 12) dX5_allOf_48 (by decide) ?_
          exact t12 hf
        · rw [if_pos c13] at hf
          refine g_iconst (v := (0 : Int32)) dX5_allOf_35 (by decide) ?_
          obtain ⟨rfl, rfl⟩ := Prod.mk.inj (Option.some.inj hf)
          exact g_zret (ty := .boolean) dX5_allOf_36 rfl (by decide +kernel) ⟨rfl, rfl⟩ (Nat.le_of_ble_eq_true rfl) (Nat.le_of_ble_eq_true rfl)
def F_X5_allOf_0 (n : Nat) (fk : Nat → Int32 → gH → Option (Int32 × gH))  (x0 : Nat) (x1 : Int32) (h : gH) : Option (Int32 × gH) :=
  (gO h x0 5).bind fun f1 =>
  gB (fk x0 x1 h) fun v5 h3 =>
  if v5 = 0 then
  (some ((0 : Int32), h3))
  else
  (F_X5_allOf_12 n fk n x0 x1 (0 : Int32) h3)
set_option maxRecDepth 20000 in
set_option maxHeartbeats 1600000 in
theorem g_X5_allOf_0 {n d : Nat} {fk : Nat → Int32 → gH → Option (Int32 × gH)} (ft : ∀ {e : Nat} {a : Nat} {p0 : Int32} {h rh : gH} {rv : Int32}, fk a p0 h = some (rv, rh) → T M_X5_factor (d + e + 8) 0 0 [.ref a, .int p0] h (qI rv rh)) : ∀ {x0 : Nat} {x1 : Int32} {h : gH} {rh : gH} {rv : Int32}, F_X5_allOf_0 n fk x0 x1 h = some (rv, rh) → G M_X5_allOf (d + 9) 0 0 0 0 0 [some (.ref x0), some (.int x1), none] [] h (qI rv rh) := by
  intro x0 x1 h rh rv hf
  unfold F_X5_allOf_0 at hf
  refine g_aload_n dX5_allOf_0 rfl ?_
  refine g_iload_n dX5_allOf_1 rfl ?_
  replace hf := Option.bind_eq_some_iff.mp hf
  obtain ⟨f1, q2, hf⟩ := hf
  replace hf := gB_of hf
  obtain ⟨v5, h3, q4, hf⟩ := hf
  refine g_callV (as := [.int x1]) (mc1 := 0) (ms1 := 0) s_X5_139_X5_factor_5 dX5_allOf_2 (gO_of q2) rfl (Nat.le_of_ble_eq_true rfl) (Nat.le_of_ble_eq_true rfl) (Nat.le_of_ble_eq_true rfl) (ft (e := 0) q4) (fun r9 h9 q9 => ?_)
  obtain ⟨rfl, rfl⟩ := q9
  refine g_stp (st2 := [.int v5]) (pc2 := 5) (kc2 := 0) (kn2 := 0) rfl rfl rfl rfl ?_
  refine g_if_ne (tgt := 10) dX5_allOf_5 (by decide) (fun c6 => ?_) (fun c6 => ?_)
  · rw [if_neg c6] at hf
    refine g_iconst (v := (0 : Int32)) dX5_allOf_10 (by decide) ?_
    refine g_istore_n dX5_allOf_11 (by decide) (g_lvp (lv2 := [some (.ref x0), some (.int x1), some (.int (0 : Int32))]) (pc2 := 12) rfl rfl ?_)
    exact g_X5_allOf_12 ft hf
  · rw [if_pos c6] at hf
    refine g_iconst (v := (0 : Int32)) dX5_allOf_8 (by decide) ?_
    obtain ⟨rfl, rfl⟩ := Prod.mk.inj (Option.some.inj hf)
    exact g_zret (ty := .boolean) dX5_allOf_9 rfl (by decide +kernel) ⟨rfl, rfl⟩ (Nat.le_of_ble_eq_true rfl) (Nat.le_of_ble_eq_true rfl)
def FB_X5_allOf (n : Nat) (fk : Nat → Int32 → gH → Option (Int32 × gH)) (a : Nat) (p0 : Int32) (h : gH) : Option (Int32 × gH) := F_X5_allOf_0 n fk  a p0 h
theorem tb_X5_allOf {n d : Nat} {fk : Nat → Int32 → gH → Option (Int32 × gH)} (ft : ∀ {e : Nat} {a : Nat} {p0 : Int32} {h rh : gH} {rv : Int32}, fk a p0 h = some (rv, rh) → T M_X5_factor (d + e + 8) 0 0 [.ref a, .int p0] h (qI rv rh)) {a : Nat} {p0 : Int32} {h rh : gH} {rv : Int32} (hf : FB_X5_allOf n fk a p0 h = some (rv, rh)) : T M_X5_allOf (d + 9) 0 0 [.ref a, .int p0] h (qI rv rh) := by
  refine T_of_G (L := 1) (by decide +kernel) rfl (Nat.le_of_ble_eq_true rfl) (g_lv (lv2 := [some (.ref a), some (.int p0), none]) rfl ?_)
  exact g_X5_allOf_0 ft hf
def F_X5_anyOf_51 (n : Nat) (fk : Nat → Int32 → gH → Option (Int32 × gH))   (h : gH) : Option (Int32 × gH) :=
  some ((1 : Int32), h)
set_option maxRecDepth 20000 in
set_option maxHeartbeats 1600000 in
theorem g_X5_anyOf_51 {n d : Nat} {fk : Nat → Int32 → gH → Option (Int32 × gH)} (ft : ∀ {e : Nat} {a : Nat} {p0 : Int32} {h rh : gH} {rv : Int32}, fk a p0 h = some (rv, rh) → T M_X5_factor (d + e + 8) 0 0 [.ref a, .int p0] h (qI rv rh)) : ∀  {h : gH} {rh : gH} {rv : Int32}, F_X5_anyOf_51 n fk  h = some (rv, rh) → G M_X5_anyOf (d + 10) 0 0 0 0 51 [none, none, none] [] h (qI rv rh) := by
  intro  h rh rv hf
  unfold F_X5_anyOf_51 at hf
  refine g_iconst (v := (1 : Int32)) dX5_anyOf_51 (by decide) ?_
  obtain ⟨rfl, rfl⟩ := Prod.mk.inj (Option.some.inj hf)
  exact g_zret (ty := .boolean) dX5_anyOf_52 rfl (by decide +kernel) ⟨rfl, rfl⟩ (Nat.le_of_ble_eq_true rfl) (Nat.le_of_ble_eq_true rfl)
def F_X5_anyOf_12 (n : Nat) (fk : Nat → Int32 → gH → Option (Int32 × gH))  : Nat → Nat → Int32 → Int32 → gH → Option (Int32 × gH)
  | 0, _, _, _, _ => none
  | m + 1, x0, x1, x2, h => if (120 : Int32) ≤ x2 then
  (F_X5_anyOf_51 n fk h)
  else
  ((gO h x0 5).bind fun f2 =>
  gB (F_X5_sign n x0 (124 : Int32) h) fun v6 h4 =>
  if v6 = 0 then
  (F_X5_anyOf_51 n fk h4)
  else
  ((gO h4 x0 5).bind fun f8 =>
  gB (FB_X5_allOf n fk x0 x1 h4) fun v12 h10 =>
  if v12 = 0 then
  (some ((0 : Int32), h10))
  else
  ((gR h10 x0 5 0).bind fun v14 =>
  (gO h10 v14 6).bind fun f16 =>
  (F_X6_addCode n v14 (3 : Int32) h10).bind fun h18 =>
  F_X5_anyOf_12 n fk m x0 x1 (x2 + (1 : Int32)) h18)))
set_option maxRecDepth 20000 in
set_option maxHeartbeats 1600000 in
theorem g_X5_anyOf_12 {n d : Nat} {fk : Nat → Int32 → gH → Option (Int32 × gH)} (ft : ∀ {e : Nat} {a : Nat} {p0 : Int32} {h rh : gH} {rv : Int32}, fk a p0 h = some (rv, rh) → T M_X5_factor (d + e + 8) 0 0 [.ref a, .int p0] h (qI rv rh)) : ∀ {m : Nat} {x0 : Nat} {x1 : Int32} {x2 : Int32} {h : gH} {rh : gH} {rv : Int32}, F_X5_anyOf_12 n fk m x0 x1 x2 h = some (rv, rh) → G M_X5_anyOf (d + 10) 0 0 0 0 12 [some (.ref x0), some (.int x1), some (.int x2)] [] h (qI rv rh) := by
  intro m
  induction m with
  | zero => intro x0 x1 x2 h rh rv hf; cases hf
  | succ m t12 =>
    intro x0 x1 x2 h rh rv hf
    unfold F_X5_anyOf_12 at hf
    refine g_iload_n dX5_anyOf_12 rfl ?_
    refine g_bipush (v := (120 : Int32)) dX5_anyOf_13 (by decide) ?_
    refine g_icmp_ge (tgt := 51) dX5_anyOf_15 (by decide) (fun c1 => ?_) (fun c1 => ?_)
    · rw [if_pos c1] at hf
      refine g_weak (lv2 := [none, none, none]) (trivial) ?_
      exact g_X5_anyOf_51 ft hf
    · rw [if_neg c1] at hf
      refine g_aload_n dX5_anyOf_18 rfl ?_
      refine g_bipush (v := (124 : Int32)) dX5_anyOf_19 (by decide) ?_
      replace hf := Option.bind_eq_some_iff.mp hf
      obtain ⟨f2, q3, hf⟩ := hf
      replace hf := gB_of hf
      obtain ⟨v6, h4, q5, hf⟩ := hf
      refine g_callV (as := [.int (124 : Int32)]) (mc1 := 0) (ms1 := 0) s_X5_52_X5_sign_5 dX5_anyOf_21 (gO_of q3) rfl (Nat.le_of_ble_eq_true rfl) (Nat.le_of_ble_eq_true rfl) (Nat.le_of_ble_eq_true rfl) (t_X5_sign (d := d + 8) q5) (fun r9 h9 q9 => ?_)
      obtain ⟨rfl, rfl⟩ := q9
      refine g_stp (st2 := [.int v6]) (pc2 := 24) (kc2 := 0) (kn2 := 0) rfl rfl rfl rfl ?_
      refine g_if_eq (tgt := 51) dX5_anyOf_24 (by decide) (fun c7 => ?_) (fun c7 => ?_)
      · rw [if_pos c7] at hf
        refine g_weak (lv2 := [none, none, none]) (trivial) ?_
        exact g_X5_anyOf_51 ft hf
      · rw [if_neg c7] at hf
        refine g_aload_n dX5_anyOf_27 rfl ?_
        refine g_iload_n dX5_anyOf_28 rfl ?_
        replace hf := Option.bind_eq_some_iff.mp hf
        obtain ⟨f8, q9, hf⟩ := hf
        replace hf := gB_of hf
        obtain ⟨v12, h10, q11, hf⟩ := hf
        refine g_callV (as := [.int x1]) (mc1 := 0) (ms1 := 0) s_X5_133_X5_allOf_5 dX5_anyOf_29 (gO_of q9) rfl (Nat.le_of_ble_eq_true rfl) (Nat.le_of_ble_eq_true rfl) (Nat.le_of_ble_eq_true rfl) (tb_X5_allOf (d := d + 0) (@fun e => by intros; rw [Nat.add_assoc d 0 e]; exact ft (by assumption)) q11) (fun r9 h9 q9 => ?_)
        obtain ⟨rfl, rfl⟩ := q9
        refine g_stp (st2 := [.int v12]) (pc2 := 32) (kc2 := 0) (kn2 := 0) rfl rfl rfl rfl ?_
        refine g_if_ne (tgt := 37) dX5_anyOf_32 (by decide) (fun c13 => ?_) (fun c13 => ?_)
        · rw [if_neg c13] at hf
          refine g_aload_n dX5_anyOf_37 rfl ?_
          replace hf := Option.bind_eq_some_iff.mp hf
          obtain ⟨v14, q15, hf⟩ := hf
          refine g_gR f_X5_12 dX5_anyOf_38 q15 ?_
          refine g_iconst (v := (3 : Int32)) dX5_anyOf_41 (by decide) ?_
          replace hf := Option.bind_eq_some_iff.mp hf
          obtain ⟨f16, q17, hf⟩ := hf
          replace hf := Option.bind_eq_some_iff.mp hf
          obtain ⟨h18, q19, hf⟩ := hf
          refine g_callV (as := [.int (3 : Int32)]) (mc1 := 0) (ms1 := 0) s_X5_136_X6_addCode_6 dX5_anyOf_42 (gO_of q17) rfl (Nat.le_of_ble_eq_true rfl) (Nat.le_of_ble_eq_true rfl) (Nat.le_of_ble_eq_true rfl) (t_X6_addCode (d := d + 9) q19) (fun r9 h9 q9 => ?_)
          obtain ⟨rfl, rfl⟩ := q9
          refine g_stp (st2 := []) (pc2 := 45) (kc2 := 0) (kn2 := 0) rfl rfl rfl rfl ?_
          refine g_iinc2 (w := (1 : Int32)) dX5_anyOf_45 (by decide) rfl (by decide) (g_lvp (lv2 := [some (.ref x0), some (.int x1), some (.int (x2 + (1 : Int32)))]) (pc2 := 48) rfl rfl ?_)
          refine g_goto (tgt := 12) dX5_anyOf_48 (by decide) ?_
          exact t12 hf
        · rw [if_pos c13] at hf
          refine g_iconst (v := (0 : Int32)) dX5_anyOf_35 (by decide) ?_
          obtain ⟨rfl, rfl⟩ := Prod.mk.inj (Option.some.inj hf)
          exact g_zret (ty := .boolean) dX5_anyOf_36 rfl (by decide +kernel) ⟨rfl, rfl⟩ (Nat.le_of_ble_eq_true rfl) (Nat.le_of_ble_eq_true rfl)
def F_X5_anyOf_0 (n : Nat) (fk : Nat → Int32 → gH → Option (Int32 × gH))  (x0 : Nat) (x1 : Int32) (h : gH) : Option (Int32 × gH) :=
  (gO h x0 5).bind fun f1 =>
  gB (FB_X5_allOf n fk x0 x1 h) fun v5 h3 =>
  if v5 = 0 then
  (some ((0 : Int32), h3))
  else
  (F_X5_anyOf_12 n fk n x0 x1 (0 : Int32) h3)
set_option maxRecDepth 20000 in
set_option maxHeartbeats 1600000 in
theorem g_X5_anyOf_0 {n d : Nat} {fk : Nat → Int32 → gH → Option (Int32 × gH)} (ft : ∀ {e : Nat} {a : Nat} {p0 : Int32} {h rh : gH} {rv : Int32}, fk a p0 h = some (rv, rh) → T M_X5_factor (d + e + 8) 0 0 [.ref a, .int p0] h (qI rv rh)) : ∀ {x0 : Nat} {x1 : Int32} {h : gH} {rh : gH} {rv : Int32}, F_X5_anyOf_0 n fk x0 x1 h = some (rv, rh) → G M_X5_anyOf (d + 10) 0 0 0 0 0 [some (.ref x0), some (.int x1), none] [] h (qI rv rh) := by
  intro x0 x1 h rh rv hf
  unfold F_X5_anyOf_0 at hf
  refine g_aload_n dX5_anyOf_0 rfl ?_
  refine g_iload_n dX5_anyOf_1 rfl ?_
  replace hf := Option.bind_eq_some_iff.mp hf
  obtain ⟨f1, q2, hf⟩ := hf
  replace hf := gB_of hf
  obtain ⟨v5, h3, q4, hf⟩ := hf
  refine g_callV (as := [.int x1]) (mc1 := 0) (ms1 := 0) s_X5_133_X5_allOf_5 dX5_anyOf_2 (gO_of q2) rfl (Nat.le_of_ble_eq_true rfl) (Nat.le_of_ble_eq_true rfl) (Nat.le_of_ble_eq_true rfl) (tb_X5_allOf (d := d + 0) (@fun e => by intros; rw [Nat.add_assoc d 0 e]; exact ft (by assumption)) q4) (fun r9 h9 q9 => ?_)
  obtain ⟨rfl, rfl⟩ := q9
  refine g_stp (st2 := [.int v5]) (pc2 := 5) (kc2 := 0) (kn2 := 0) rfl rfl rfl rfl ?_
  refine g_if_ne (tgt := 10) dX5_anyOf_5 (by decide) (fun c6 => ?_) (fun c6 => ?_)
  · rw [if_neg c6] at hf
    refine g_iconst (v := (0 : Int32)) dX5_anyOf_10 (by decide) ?_
    refine g_istore_n dX5_anyOf_11 (by decide) (g_lvp (lv2 := [some (.ref x0), some (.int x1), some (.int (0 : Int32))]) (pc2 := 12) rfl rfl ?_)
    exact g_X5_anyOf_12 ft hf
  · rw [if_pos c6] at hf
    refine g_iconst (v := (0 : Int32)) dX5_anyOf_8 (by decide) ?_
    obtain ⟨rfl, rfl⟩ := Prod.mk.inj (Option.some.inj hf)
    exact g_zret (ty := .boolean) dX5_anyOf_9 rfl (by decide +kernel) ⟨rfl, rfl⟩ (Nat.le_of_ble_eq_true rfl) (Nat.le_of_ble_eq_true rfl)
def FB_X5_anyOf (n : Nat) (fk : Nat → Int32 → gH → Option (Int32 × gH)) (a : Nat) (p0 : Int32) (h : gH) : Option (Int32 × gH) := F_X5_anyOf_0 n fk  a p0 h
theorem tb_X5_anyOf {n d : Nat} {fk : Nat → Int32 → gH → Option (Int32 × gH)} (ft : ∀ {e : Nat} {a : Nat} {p0 : Int32} {h rh : gH} {rv : Int32}, fk a p0 h = some (rv, rh) → T M_X5_factor (d + e + 8) 0 0 [.ref a, .int p0] h (qI rv rh)) {a : Nat} {p0 : Int32} {h rh : gH} {rv : Int32} (hf : FB_X5_anyOf n fk a p0 h = some (rv, rh)) : T M_X5_anyOf (d + 10) 0 0 [.ref a, .int p0] h (qI rv rh) := by
  refine T_of_G (L := 1) (by decide +kernel) rfl (Nat.le_of_ble_eq_true rfl) (g_lv (lv2 := [some (.ref a), some (.int p0), none]) rfl ?_)
  exact g_X5_anyOf_0 ft hf
def F_X5_denied_0 (n : Nat) (fk : Nat → Int32 → gH → Option (Int32 × gH))  (x0 : Nat) (x1 : Int32) (h : gH) : Option (Int32 × gH) :=
  (gO h x0 5).bind fun f1 =>
  gB (fk x0 x1 h) fun v5 h3 =>
  if v5 = 0 then
  (some ((0 : Int32), h3))
  else
  ((gR h3 x0 5 0).bind fun v7 =>
  (gO h3 v7 6).bind fun f9 =>
  (F_X6_addCode n v7 (1 : Int32) h3).bind fun h11 =>
  some ((1 : Int32), h11))
set_option maxRecDepth 20000 in
set_option maxHeartbeats 1600000 in
theorem g_X5_denied_0 {n d : Nat} {fk : Nat → Int32 → gH → Option (Int32 × gH)} (ft : ∀ {e : Nat} {a : Nat} {p0 : Int32} {h rh : gH} {rv : Int32}, fk a p0 h = some (rv, rh) → T M_X5_factor (d + e + 8) 0 0 [.ref a, .int p0] h (qI rv rh)) : ∀ {x0 : Nat} {x1 : Int32} {h : gH} {rh : gH} {rv : Int32}, F_X5_denied_0 n fk x0 x1 h = some (rv, rh) → G M_X5_denied (d + 9) 0 0 0 0 0 [some (.ref x0), some (.int x1)] [] h (qI rv rh) := by
  intro x0 x1 h rh rv hf
  unfold F_X5_denied_0 at hf
  refine g_aload_n dX5_denied_0 rfl ?_
  refine g_iload_n dX5_denied_1 rfl ?_
  replace hf := Option.bind_eq_some_iff.mp hf
  obtain ⟨f1, q2, hf⟩ := hf
  replace hf := gB_of hf
  obtain ⟨v5, h3, q4, hf⟩ := hf
  refine g_callV (as := [.int x1]) (mc1 := 0) (ms1 := 0) s_X5_139_X5_factor_5 dX5_denied_2 (gO_of q2) rfl (Nat.le_of_ble_eq_true rfl) (Nat.le_of_ble_eq_true rfl) (Nat.le_of_ble_eq_true rfl) (ft (e := 0) q4) (fun r9 h9 q9 => ?_)
  obtain ⟨rfl, rfl⟩ := q9
  refine g_stp (st2 := [.int v5]) (pc2 := 5) (kc2 := 0) (kn2 := 0) rfl rfl rfl rfl ?_
  refine g_if_ne (tgt := 10) dX5_denied_5 (by decide) (fun c6 => ?_) (fun c6 => ?_)
  · rw [if_neg c6] at hf
    refine g_aload_n dX5_denied_10 rfl ?_
    replace hf := Option.bind_eq_some_iff.mp hf
    obtain ⟨v7, q8, hf⟩ := hf
    refine g_gR f_X5_12 dX5_denied_11 q8 ?_
    refine g_iconst (v := (1 : Int32)) dX5_denied_14 (by decide) ?_
    replace hf := Option.bind_eq_some_iff.mp hf
    obtain ⟨f9, q10, hf⟩ := hf
    replace hf := Option.bind_eq_some_iff.mp hf
    obtain ⟨h11, q12, hf⟩ := hf
    refine g_callV (as := [.int (1 : Int32)]) (mc1 := 0) (ms1 := 0) s_X5_136_X6_addCode_6 dX5_denied_15 (gO_of q10) rfl (Nat.le_of_ble_eq_true rfl) (Nat.le_of_ble_eq_true rfl) (Nat.le_of_ble_eq_true rfl) (t_X6_addCode (d := d + 8) q12) (fun r9 h9 q9 => ?_)
    obtain ⟨rfl, rfl⟩ := q9
    refine g_stp (st2 := []) (pc2 := 18) (kc2 := 0) (kn2 := 0) rfl rfl rfl rfl ?_
    refine g_iconst (v := (1 : Int32)) dX5_denied_18 (by decide) ?_
    obtain ⟨rfl, rfl⟩ := Prod.mk.inj (Option.some.inj hf)
    exact g_zret (ty := .boolean) dX5_denied_19 rfl (by decide +kernel) ⟨rfl, rfl⟩ (Nat.le_of_ble_eq_true rfl) (Nat.le_of_ble_eq_true rfl)
  · rw [if_pos c6] at hf
    refine g_iconst (v := (0 : Int32)) dX5_denied_8 (by decide) ?_
    obtain ⟨rfl, rfl⟩ := Prod.mk.inj (Option.some.inj hf)
    exact g_zret (ty := .boolean) dX5_denied_9 rfl (by decide +kernel) ⟨rfl, rfl⟩ (Nat.le_of_ble_eq_true rfl) (Nat.le_of_ble_eq_true rfl)
def FB_X5_denied (n : Nat) (fk : Nat → Int32 → gH → Option (Int32 × gH)) (a : Nat) (p0 : Int32) (h : gH) : Option (Int32 × gH) := F_X5_denied_0 n fk  a p0 h
theorem tb_X5_denied {n d : Nat} {fk : Nat → Int32 → gH → Option (Int32 × gH)} (ft : ∀ {e : Nat} {a : Nat} {p0 : Int32} {h rh : gH} {rv : Int32}, fk a p0 h = some (rv, rh) → T M_X5_factor (d + e + 8) 0 0 [.ref a, .int p0] h (qI rv rh)) {a : Nat} {p0 : Int32} {h rh : gH} {rv : Int32} (hf : FB_X5_denied n fk a p0 h = some (rv, rh)) : T M_X5_denied (d + 9) 0 0 [.ref a, .int p0] h (qI rv rh) := by
  refine T_of_G (L := 0) (by decide +kernel) rfl (Nat.le_of_ble_eq_true rfl) (g_lv (lv2 := [some (.ref a), some (.int p0)]) rfl ?_)
  exact g_X5_denied_0 ft hf
def F_X5_factor_69 (n : Nat) (fk : Nat → Int32 → gH → Option (Int32 × gH))  (y0 : Int32) (h : gH) : Option (Int32 × gH) :=
  if y0 = 0 ∨ y0 = 1 then some (y0, h) else none
set_option maxRecDepth 20000 in
set_option maxHeartbeats 1600000 in
theorem g_X5_factor_69 {n d : Nat} {fk : Nat → Int32 → gH → Option (Int32 × gH)} (ft : ∀ {e : Nat} {a : Nat} {p0 : Int32} {h rh : gH} {rv : Int32}, fk a p0 h = some (rv, rh) → T M_X5_factor (d + e + 8) 0 0 [.ref a, .int p0] h (qI rv rh)) : ∀ {y0 : Int32} {h : gH} {rh : gH} {rv : Int32}, F_X5_factor_69 n fk y0 h = some (rv, rh) → G M_X5_factor (d + 11) 0 0 0 0 69 [none, none, none] [.int y0] h (qI rv rh) := by
  intro y0 h rh rv hf
  unfold F_X5_factor_69 at hf
  by_cases c1 : y0 = 0 ∨ y0 = 1
  · rw [if_pos c1] at hf
    obtain ⟨rfl, rfl⟩ := Prod.mk.inj (Option.some.inj hf)
    exact g_zret (ty := .boolean) dX5_factor_69 rfl (gZ_nar c1) ⟨rfl, rfl⟩ (Nat.le_of_ble_eq_true rfl) (Nat.le_of_ble_eq_true rfl)
  · rw [if_neg c1] at hf; cases hf
def F_X5_factor_68 (n : Nat) (fk : Nat → Int32 → gH → Option (Int32 × gH))   (h : gH) : Option (Int32 × gH) :=
  F_X5_factor_69 n fk (0 : Int32) h
set_option maxRecDepth 20000 in
set_option maxHeartbeats 1600000 in
theorem g_X5_factor_68 {n d : Nat} {fk : Nat → Int32 → gH → Option (Int32 × gH)} (ft : ∀ {e : Nat} {a : Nat} {p0 : Int32} {h rh : gH} {rv : Int32}, fk a p0 h = some (rv, rh) → T M_X5_factor (d + e + 8) 0 0 [.ref a, .int p0] h (qI rv rh)) : ∀  {h : gH} {rh : gH} {rv : Int32}, F_X5_factor_68 n fk  h = some (rv, rh) → G M_X5_factor (d + 11) 0 0 0 0 68 [none, none, none] [] h (qI rv rh) := by
  intro  h rh rv hf
  unfold F_X5_factor_68 at hf
  refine g_iconst (v := (0 : Int32)) dX5_factor_68 (by decide) ?_
  exact g_X5_factor_69 ft hf
def F_X5_factor_22 (n : Nat) (fk : Nat → Int32 → gH → Option (Int32 × gH))  (x0 : Nat) (x1 : Int32) (x2 : Int32) (h : gH) : Option (Int32 × gH) :=
  if x1 < (5 : Int32) then
  ((gI h x0 5 3).bind fun v2 =>
  (pF h x0 5 3 (.int (v2 + (1 : Int32)))).bind fun h4 =>
  if x2 = (40 : Int32) then
  ((gO h4 x0 5).bind fun f13 =>
  gB (FB_X5_anyOf n fk x0 (x1 + (1 : Int32)) h4) fun v17 h15 =>
  if v17 = 0 then
  (F_X5_factor_68 n fk h15)
  else
  ((gO h15 x0 5).bind fun f19 =>
  gB (F_X5_sign n x0 (41 : Int32) h15) fun v23 h21 =>
  if v23 = 0 then
  (F_X5_factor_68 n fk h21)
  else
  (F_X5_factor_69 n fk (1 : Int32) h21)))
  else
  ((gO h4 x0 5).bind fun f7 =>
  gB (FB_X5_denied n fk x0 (x1 + (1 : Int32)) h4) fun v11 h9 =>
  if v11 = 0 ∨ v11 = 1 then some (v11, h9) else none))
  else
  (some ((0 : Int32), h))
set_option maxRecDepth 20000 in
set_option maxHeartbeats 1600000 in
theorem g_X5_factor_22 {n d : Nat} {fk : Nat → Int32 → gH → Option (Int32 × gH)} (ft : ∀ {e : Nat} {a : Nat} {p0 : Int32} {h rh : gH} {rv : Int32}, fk a p0 h = some (rv, rh) → T M_X5_factor (d + e + 8) 0 0 [.ref a, .int p0] h (qI rv rh)) : ∀ {x0 : Nat} {x1 : Int32} {x2 : Int32} {h : gH} {rh : gH} {rv : Int32}, F_X5_factor_22 n fk x0 x1 x2 h = some (rv, rh) → G M_X5_factor (d + 11) 0 0 0 0 22 [some (.ref x0), some (.int x1), some (.int x2)] [] h (qI rv rh) := by
  intro x0 x1 x2 h rh rv hf
  unfold F_X5_factor_22 at hf
  refine g_iload_n dX5_factor_22 rfl ?_
  refine g_iconst (v := (5 : Int32)) dX5_factor_23 (by decide) ?_
  refine g_icmp_lt (tgt := 29) dX5_factor_24 (by decide) (fun c1 => ?_) (fun c1 => ?_)
  · rw [if_pos c1] at hf
    refine g_aload_n dX5_factor_29 rfl ?_
    refine g_dup dX5_factor_30 rfl ?_
    replace hf := Option.bind_eq_some_iff.mp hf
    obtain ⟨v2, q3, hf⟩ := hf
    refine g_gI f_X5_39 dX5_factor_31 q3 ?_
    refine g_iconst (v := (1 : Int32)) dX5_factor_34 (by decide) ?_
    refine g_iadd dX5_factor_35 ?_
    replace hf := Option.bind_eq_some_iff.mp hf
    obtain ⟨h4, q5, hf⟩ := hf
    refine g_pF p_X5_39 dX5_factor_36 q5 (fun _ => rfl) (fun _ => rfl) ?_
    refine g_iload_n dX5_factor_39 rfl ?_
    refine g_bipush (v := (40 : Int32)) dX5_factor_40 (by decide) ?_
    refine g_icmp_ne (tgt := 70) dX5_factor_42 (by decide) (fun c6 => ?_) (fun c6 => ?_)
    · rw [if_neg c6] at hf
      refine g_aload_n dX5_factor_70 rfl ?_
      refine g_iload_n dX5_factor_71 rfl ?_
      refine g_iconst (v := (1 : Int32)) dX5_factor_72 (by decide) ?_
      refine g_iadd dX5_factor_73 ?_
      replace hf := Option.bind_eq_some_iff.mp hf
      obtain ⟨f7, q8, hf⟩ := hf
      replace hf := gB_of hf
      obtain ⟨v11, h9, q10, hf⟩ := hf
      refine g_callV (as := [.int (x1 + (1 : Int32))]) (mc1 := 0) (ms1 := 0) s_X5_145_X5_denied_5 dX5_factor_74 (gO_of q8) rfl (Nat.le_of_ble_eq_true rfl) (Nat.le_of_ble_eq_true rfl) (Nat.le_of_ble_eq_true rfl) (tb_X5_denied (d := d + 1) (@fun e => by intros; rw [Nat.add_assoc d 1 e]; exact ft (by assumption)) q10) (fun r9 h9 q9 => ?_)
      obtain ⟨rfl, rfl⟩ := q9
      refine g_stp (st2 := [.int v11]) (pc2 := 77) (kc2 := 0) (kn2 := 0) rfl rfl rfl rfl ?_
      by_cases c12 : v11 = 0 ∨ v11 = 1
      · rw [if_pos c12] at hf
        obtain ⟨rfl, rfl⟩ := Prod.mk.inj (Option.some.inj hf)
        exact g_zret (ty := .boolean) dX5_factor_77 rfl (gZ_nar c12) ⟨rfl, rfl⟩ (Nat.le_of_ble_eq_true rfl) (Nat.le_of_ble_eq_true rfl)
      · rw [if_neg c12] at hf; cases hf
    · rw [if_pos c6] at hf
      refine g_aload_n dX5_factor_45 rfl ?_
      refine g_iload_n dX5_factor_46 rfl ?_
      refine g_iconst (v := (1 : Int32)) dX5_factor_47 (by decide) ?_
      refine g_iadd dX5_factor_48 ?_
      replace hf := Option.bind_eq_some_iff.mp hf
      obtain ⟨f13, q14, hf⟩ := hf
      replace hf := gB_of hf
      obtain ⟨v17, h15, q16, hf⟩ := hf
      refine g_callV (as := [.int (x1 + (1 : Int32))]) (mc1 := 0) (ms1 := 0) s_X5_118_X5_anyOf_5 dX5_factor_49 (gO_of q14) rfl (Nat.le_of_ble_eq_true rfl) (Nat.le_of_ble_eq_true rfl) (Nat.le_of_ble_eq_true rfl) (tb_X5_anyOf (d := d + 0) (@fun e => by intros; rw [Nat.add_assoc d 0 e]; exact ft (by assumption)) q16) (fun r9 h9 q9 => ?_)
      obtain ⟨rfl, rfl⟩ := q9
      refine g_stp (st2 := [.int v17]) (pc2 := 52) (kc2 := 0) (kn2 := 0) rfl rfl rfl rfl ?_
      refine g_if_eq (tgt := 68) dX5_factor_52 (by decide) (fun c18 => ?_) (fun c18 => ?_)
      · rw [if_pos c18] at hf
        refine g_weak (lv2 := [none, none, none]) (trivial) ?_
        exact g_X5_factor_68 ft hf
      · rw [if_neg c18] at hf
        refine g_aload_n dX5_factor_55 rfl ?_
        refine g_bipush (v := (41 : Int32)) dX5_factor_56 (by decide) ?_
        replace hf := Option.bind_eq_some_iff.mp hf
        obtain ⟨f19, q20, hf⟩ := hf
        replace hf := gB_of hf
        obtain ⟨v23, h21, q22, hf⟩ := hf
        refine g_callV (as := [.int (41 : Int32)]) (mc1 := 0) (ms1 := 0) s_X5_52_X5_sign_5 dX5_factor_58 (gO_of q20) rfl (Nat.le_of_ble_eq_true rfl) (Nat.le_of_ble_eq_true rfl) (Nat.le_of_ble_eq_true rfl) (t_X5_sign (d := d + 9) q22) (fun r9 h9 q9 => ?_)
        obtain ⟨rfl, rfl⟩ := q9
        refine g_stp (st2 := [.int v23]) (pc2 := 61) (kc2 := 0) (kn2 := 0) rfl rfl rfl rfl ?_
        refine g_if_eq (tgt := 68) dX5_factor_61 (by decide) (fun c24 => ?_) (fun c24 => ?_)
        · rw [if_pos c24] at hf
          refine g_weak (lv2 := [none, none, none]) (trivial) ?_
          exact g_X5_factor_68 ft hf
        · rw [if_neg c24] at hf
          refine g_iconst (v := (1 : Int32)) dX5_factor_64 (by decide) ?_
          refine g_goto (tgt := 69) dX5_factor_65 (by decide) ?_
          refine g_weak (lv2 := [none, none, none]) (trivial) ?_
          exact g_X5_factor_69 ft hf
  · rw [if_neg c1] at hf
    refine g_iconst (v := (0 : Int32)) dX5_factor_27 (by decide) ?_
    obtain ⟨rfl, rfl⟩ := Prod.mk.inj (Option.some.inj hf)
    exact g_zret (ty := .boolean) dX5_factor_28 rfl (by decide +kernel) ⟨rfl, rfl⟩ (Nat.le_of_ble_eq_true rfl) (Nat.le_of_ble_eq_true rfl)
def F_X5_factor_0 (n : Nat) (fk : Nat → Int32 → gH → Option (Int32 × gH))  (x0 : Nat) (x1 : Int32) (h : gH) : Option (Int32 × gH) :=
  (gO h x0 5).bind fun f1 =>
  gB (F_X5_next n x0  h) fun v5 h3 =>
  if v5 = (33 : Int32) then
  (F_X5_factor_22 n fk x0 x1 v5 h3)
  else
  (if v5 = (40 : Int32) then
  (F_X5_factor_22 n fk x0 x1 v5 h3)
  else
  ((gO h3 x0 5).bind fun f8 =>
  gB (F_X5_test n x0  h3) fun v12 h10 =>
  if v12 = 0 ∨ v12 = 1 then some (v12, h10) else none))
set_option maxRecDepth 20000 in
set_option maxHeartbeats 1600000 in
theorem g_X5_factor_0 {n d : Nat} {fk : Nat → Int32 → gH → Option (Int32 × gH)} (ft : ∀ {e : Nat} {a : Nat} {p0 : Int32} {h rh : gH} {rv : Int32}, fk a p0 h = some (rv, rh) → T M_X5_factor (d + e + 8) 0 0 [.ref a, .int p0] h (qI rv rh)) : ∀ {x0 : Nat} {x1 : Int32} {h : gH} {rh : gH} {rv : Int32}, F_X5_factor_0 n fk x0 x1 h = some (rv, rh) → G M_X5_factor (d + 11) 0 0 0 0 0 [some (.ref x0), some (.int x1), none] [] h (qI rv rh) := by
  intro x0 x1 h rh rv hf
  unfold F_X5_factor_0 at hf
  refine g_aload_n dX5_factor_0 rfl ?_
  replace hf := Option.bind_eq_some_iff.mp hf
  obtain ⟨f1, q2, hf⟩ := hf
  replace hf := gB_of hf
  obtain ⟨v5, h3, q4, hf⟩ := hf
  refine g_callV (as := []) (mc1 := 0) (ms1 := 0) s_X5_56_X5_next_5 dX5_factor_1 (gO_of q2) rfl (Nat.le_of_ble_eq_true rfl) (Nat.le_of_ble_eq_true rfl) (Nat.le_of_ble_eq_true rfl) (t_X5_next (d := d + 10) q4) (fun r9 h9 q9 => ?_)
  obtain ⟨rfl, rfl⟩ := q9
  refine g_stp (st2 := [.int v5]) (pc2 := 4) (kc2 := 0) (kn2 := 0) rfl rfl rfl rfl ?_
  refine g_istore_n dX5_factor_4 (by decide) (g_lvp (lv2 := [some (.ref x0), some (.int x1), some (.int v5)]) (pc2 := 5) rfl rfl ?_)
  refine g_iload_n dX5_factor_5 rfl ?_
  refine g_bipush (v := (33 : Int32)) dX5_factor_6 (by decide) ?_
  refine g_icmp_eq (tgt := 22) dX5_factor_8 (by decide) (fun c6 => ?_) (fun c6 => ?_)
  · rw [if_pos c6] at hf
    exact g_X5_factor_22 ft hf
  · rw [if_neg c6] at hf
    refine g_iload_n dX5_factor_11 rfl ?_
    refine g_bipush (v := (40 : Int32)) dX5_factor_12 (by decide) ?_
    refine g_icmp_eq (tgt := 22) dX5_factor_14 (by decide) (fun c7 => ?_) (fun c7 => ?_)
    · rw [if_pos c7] at hf
      exact g_X5_factor_22 ft hf
    · rw [if_neg c7] at hf
      refine g_aload_n dX5_factor_17 rfl ?_
      replace hf := Option.bind_eq_some_iff.mp hf
      obtain ⟨f8, q9, hf⟩ := hf
      replace hf := gB_of hf
      obtain ⟨v12, h10, q11, hf⟩ := hf
      refine g_callV (as := []) (mc1 := 0) (ms1 := 0) s_X5_142_X5_test_5 dX5_factor_18 (gO_of q9) rfl (Nat.le_of_ble_eq_true rfl) (Nat.le_of_ble_eq_true rfl) (Nat.le_of_ble_eq_true rfl) (t_X5_test (d := d + 2) q11) (fun r9 h9 q9 => ?_)
      obtain ⟨rfl, rfl⟩ := q9
      refine g_stp (st2 := [.int v12]) (pc2 := 21) (kc2 := 0) (kn2 := 0) rfl rfl rfl rfl ?_
      by_cases c13 : v12 = 0 ∨ v12 = 1
      · rw [if_pos c13] at hf
        obtain ⟨rfl, rfl⟩ := Prod.mk.inj (Option.some.inj hf)
        exact g_zret (ty := .boolean) dX5_factor_21 rfl (gZ_nar c13) ⟨rfl, rfl⟩ (Nat.le_of_ble_eq_true rfl) (Nat.le_of_ble_eq_true rfl)
      · rw [if_neg c13] at hf; cases hf
def FB_X5_factor (n : Nat) (fk : Nat → Int32 → gH → Option (Int32 × gH)) (a : Nat) (p0 : Int32) (h : gH) : Option (Int32 × gH) := F_X5_factor_0 n fk  a p0 h
theorem tb_X5_factor {n d : Nat} {fk : Nat → Int32 → gH → Option (Int32 × gH)} (ft : ∀ {e : Nat} {a : Nat} {p0 : Int32} {h rh : gH} {rv : Int32}, fk a p0 h = some (rv, rh) → T M_X5_factor (d + e + 8) 0 0 [.ref a, .int p0] h (qI rv rh)) {a : Nat} {p0 : Int32} {h rh : gH} {rv : Int32} (hf : FB_X5_factor n fk a p0 h = some (rv, rh)) : T M_X5_factor (d + 11) 0 0 [.ref a, .int p0] h (qI rv rh) := by
  refine T_of_G (L := 1) (by decide +kernel) rfl (Nat.le_of_ble_eq_true rfl) (g_lv (lv2 := [some (.ref a), some (.int p0), none]) rfl ?_)
  exact g_X5_factor_0 ft hf
def F_X5_factor_r (n : Nat) : Nat → Nat → Int32 → gH → Option (Int32 × gH)
  | 0, _, _, _ => none
  | m + 1, a, p0, h => FB_X5_factor n (F_X5_factor_r n m) a p0 h
theorem tr_X5_factor {n : Nat} : ∀ {m d : Nat} {a : Nat} {p0 : Int32} {h rh : gH} {rv : Int32}, F_X5_factor_r n m a p0 h = some (rv, rh) → T M_X5_factor (d + 3 * m + 8) 0 0 [.ref a, .int p0] h (qI rv rh) := by
  intro m
  induction m with
  | zero => intro d a p0 h rh rv hf; cases hf
  | succ m ih =>
    intro d a p0 h rh rv hf
    have e : d + 3 * (m + 1) + 8 = d + 3 * m + 11 := by omega
    rw [e]
    refine tb_X5_factor (n := n) (fk := F_X5_factor_r n m) (d := d + 3 * m) (@fun e9 => by intros; rw [show d + 3 * m + e9 + 8 = d + e9 + 3 * m + 8 from by omega]; exact ih (by assumption)) hf
def F_X5_allOf (n : Nat) (a : Nat) (p0 : Int32) (h : gH) : Option (Int32 × gH) := FB_X5_allOf n (F_X5_factor_r n 12) a p0 h
set_option maxRecDepth 20000 in
theorem t_X5_allOf {n d : Nat} {a : Nat} {p0 : Int32} {h rh : gH} {rv : Int32} (hf : F_X5_allOf n a p0 h = some (rv, rh)) : T M_X5_allOf (d + 45) 0 0 [.ref a, .int p0] h (qI rv rh) := by
  unfold F_X5_allOf at hf
  rw [show d + 45 = d + 36 + 9 from by omega]
  refine tb_X5_allOf (n := n) (fk := F_X5_factor_r n 12) (d := d + 36) (@fun e9 => ?_) hf
  intros
  rename_i q9
  rw [show d + 36 + e9 + 8 = d + e9 + 3 * 12 + 8 from by omega]
  exact tr_X5_factor (n := n) (m := 12) (d := d + e9) q9
def F_X5_anyOf (n : Nat) (a : Nat) (p0 : Int32) (h : gH) : Option (Int32 × gH) := FB_X5_anyOf n (F_X5_factor_r n 12) a p0 h
set_option maxRecDepth 20000 in
theorem t_X5_anyOf {n d : Nat} {a : Nat} {p0 : Int32} {h rh : gH} {rv : Int32} (hf : F_X5_anyOf n a p0 h = some (rv, rh)) : T M_X5_anyOf (d + 46) 0 0 [.ref a, .int p0] h (qI rv rh) := by
  unfold F_X5_anyOf at hf
  rw [show d + 46 = d + 36 + 10 from by omega]
  refine tb_X5_anyOf (n := n) (fk := F_X5_factor_r n 12) (d := d + 36) (@fun e9 => ?_) hf
  intros
  rename_i q9
  rw [show d + 36 + e9 + 8 = d + e9 + 3 * 12 + 8 from by omega]
  exact tr_X5_factor (n := n) (m := 12) (d := d + e9) q9
def F_X5_denied (n : Nat) (a : Nat) (p0 : Int32) (h : gH) : Option (Int32 × gH) := FB_X5_denied n (F_X5_factor_r n 12) a p0 h
set_option maxRecDepth 20000 in
theorem t_X5_denied {n d : Nat} {a : Nat} {p0 : Int32} {h rh : gH} {rv : Int32} (hf : F_X5_denied n a p0 h = some (rv, rh)) : T M_X5_denied (d + 45) 0 0 [.ref a, .int p0] h (qI rv rh) := by
  unfold F_X5_denied at hf
  rw [show d + 45 = d + 36 + 9 from by omega]
  refine tb_X5_denied (n := n) (fk := F_X5_factor_r n 12) (d := d + 36) (@fun e9 => ?_) hf
  intros
  rename_i q9
  rw [show d + 36 + e9 + 8 = d + e9 + 3 * 12 + 8 from by omega]
  exact tr_X5_factor (n := n) (m := 12) (d := d + e9) q9
def F_X5_factor (n : Nat) (a : Nat) (p0 : Int32) (h : gH) : Option (Int32 × gH) := F_X5_factor_r n 12 a p0 h
theorem t_X5_factor {n d : Nat} {a : Nat} {p0 : Int32} {h rh : gH} {rv : Int32} (hf : F_X5_factor n a p0 h = some (rv, rh)) : T M_X5_factor (d + 44) 0 0 [.ref a, .int p0] h (qI rv rh) := tr_X5_factor (n := n) (m := 12) (d := d) hf
def F_X6_addEase_49 (n : Nat)   (h : gH) : Option (gH) :=
  some h
set_option maxRecDepth 20000 in
set_option maxHeartbeats 1600000 in
theorem g_X6_addEase_49 {n d : Nat} : ∀  {h : gH} {rh : gH}, F_X6_addEase_49 n  h = some rh → G M_X6_addEase d 0 0 0 0 49 [none, none] [] h (qV rh) := by
  intro  h rh hf
  unfold F_X6_addEase_49 at hf
  obtain rfl := Option.some.inj hf
  exact g_vret dX6_addEase_49 rfl ⟨rfl, rfl⟩ (Nat.le_of_ble_eq_true rfl) (Nat.le_of_ble_eq_true rfl)
def F_X6_addEase_0 (n : Nat)  (x0 : Nat) (x1 : Int32) (h : gH) : Option (gH) :=
  (gI h x0 6 9).bind fun v1 =>
  if v1 < 0 then
  (F_X6_addEase_49 n h)
  else
  ((gI h x0 6 9).bind fun v4 =>
  if (14 : Int32) ≤ v4 then
  (F_X6_addEase_49 n h)
  else
  ((gR h x0 6 4).bind fun v7 =>
  (gI h x0 6 9).bind fun v9 =>
  (sI h v7 v9 x1).bind fun h11 =>
  (gR h11 x0 6 5).bind fun v13 =>
  (gI h11 x0 6 9).bind fun v15 =>
  (gI h11 x0 6 10).bind fun v17 =>
  (sI h11 v13 v15 v17).bind fun h19 =>
  (gI h19 x0 6 9).bind fun v21 =>
  (pF h19 x0 6 9 (.int (v21 + (1 : Int32)))).bind fun h23 =>
  F_X6_addEase_49 n h23))
set_option maxRecDepth 20000 in
set_option maxHeartbeats 1600000 in
theorem g_X6_addEase_0 {n d : Nat} : ∀ {x0 : Nat} {x1 : Int32} {h : gH} {rh : gH}, F_X6_addEase_0 n x0 x1 h = some rh → G M_X6_addEase d 0 0 0 0 0 [some (.ref x0), some (.int x1)] [] h (qV rh) := by
  intro x0 x1 h rh hf
  unfold F_X6_addEase_0 at hf
  refine g_aload_n dX6_addEase_0 rfl ?_
  replace hf := Option.bind_eq_some_iff.mp hf
  obtain ⟨v1, q2, hf⟩ := hf
  refine g_gI f_X6_43 dX6_addEase_1 q2 ?_
  refine g_if_lt (tgt := 49) dX6_addEase_4 (by decide) (fun c3 => ?_) (fun c3 => ?_)
  · rw [if_pos c3] at hf
    refine g_weak (lv2 := [none, none]) (trivial) ?_
    exact g_X6_addEase_49 hf
  · rw [if_neg c3] at hf
    refine g_aload_n dX6_addEase_7 rfl ?_
    replace hf := Option.bind_eq_some_iff.mp hf
    obtain ⟨v4, q5, hf⟩ := hf
    refine g_gI f_X6_43 dX6_addEase_8 q5 ?_
    refine g_bipush (v := (14 : Int32)) dX6_addEase_11 (by decide) ?_
    refine g_icmp_ge (tgt := 49) dX6_addEase_13 (by decide) (fun c6 => ?_) (fun c6 => ?_)
    · rw [if_pos c6] at hf
      refine g_weak (lv2 := [none, none]) (trivial) ?_
      exact g_X6_addEase_49 hf
    · rw [if_neg c6] at hf
      refine g_aload_n dX6_addEase_16 rfl ?_
      replace hf := Option.bind_eq_some_iff.mp hf
      obtain ⟨v7, q8, hf⟩ := hf
      refine g_gR f_X6_24 dX6_addEase_17 q8 ?_
      refine g_aload_n dX6_addEase_20 rfl ?_
      replace hf := Option.bind_eq_some_iff.mp hf
      obtain ⟨v9, q10, hf⟩ := hf
      refine g_gI f_X6_43 dX6_addEase_21 q10 ?_
      refine g_iload_n dX6_addEase_24 rfl ?_
      replace hf := Option.bind_eq_some_iff.mp hf
      obtain ⟨h11, q12, hf⟩ := hf
      refine g_sI dX6_addEase_25 q12 ?_
      refine g_aload_n dX6_addEase_26 rfl ?_
      replace hf := Option.bind_eq_some_iff.mp hf
      obtain ⟨v13, q14, hf⟩ := hf
      refine g_gR f_X6_27 dX6_addEase_27 q14 ?_
      refine g_aload_n dX6_addEase_30 rfl ?_
      replace hf := Option.bind_eq_some_iff.mp hf
      obtain ⟨v15, q16, hf⟩ := hf
      refine g_gI f_X6_43 dX6_addEase_31 q16 ?_
      refine g_aload_n dX6_addEase_34 rfl ?_
      replace hf := Option.bind_eq_some_iff.mp hf
      obtain ⟨v17, q18, hf⟩ := hf
      refine g_gI f_X6_46 dX6_addEase_35 q18 ?_
      replace hf := Option.bind_eq_some_iff.mp hf
      obtain ⟨h19, q20, hf⟩ := hf
      refine g_sI dX6_addEase_38 q20 ?_
      refine g_aload_n dX6_addEase_39 rfl ?_
      refine g_dup dX6_addEase_40 rfl ?_
      replace hf := Option.bind_eq_some_iff.mp hf
      obtain ⟨v21, q22, hf⟩ := hf
      refine g_gI f_X6_43 dX6_addEase_41 q22 ?_
      refine g_iconst (v := (1 : Int32)) dX6_addEase_44 (by decide) ?_
      refine g_iadd dX6_addEase_45 ?_
      replace hf := Option.bind_eq_some_iff.mp hf
      obtain ⟨h23, q24, hf⟩ := hf
      refine g_pF p_X6_43 dX6_addEase_46 q24 (fun _ => rfl) (fun _ => rfl) ?_
      refine g_weak (lv2 := [none, none]) (trivial) ?_
      exact g_X6_addEase_49 hf
def F_X6_addEase (n : Nat) (a : Nat) (p0 : Int32) (h : gH) : Option (gH) := F_X6_addEase_0 n  a p0 h
theorem t_X6_addEase {n d : Nat} {a : Nat} {p0 : Int32} {h rh : gH} (hf : F_X6_addEase n a p0 h = some rh) : T M_X6_addEase d 0 0 [.ref a, .int p0] h (qV rh) := by
  refine T_of_G (L := 0) (by decide +kernel) rfl (Nat.le_of_ble_eq_true rfl) (g_lv (lv2 := [some (.ref a), some (.int p0)]) rfl ?_)
  exact g_X6_addEase_0 hf
def F_X5_ease_26 (n : Nat)   (h : gH) : Option (Int32 × gH) :=
  some ((0 : Int32), h)
set_option maxRecDepth 20000 in
set_option maxHeartbeats 1600000 in
theorem g_X5_ease_26 {n d : Nat} : ∀  {h : gH} {rh : gH} {rv : Int32}, F_X5_ease_26 n  h = some (rv, rh) → G M_X5_ease (d + 47) 0 0 0 0 26 [none, none] [] h (qI rv rh) := by
  intro  h rh rv hf
  unfold F_X5_ease_26 at hf
  refine g_iconst (v := (0 : Int32)) dX5_ease_26 (by decide) ?_
  obtain ⟨rfl, rfl⟩ := Prod.mk.inj (Option.some.inj hf)
  exact g_zret (ty := .boolean) dX5_ease_27 rfl (by decide +kernel) ⟨rfl, rfl⟩ (Nat.le_of_ble_eq_true rfl) (Nat.le_of_ble_eq_true rfl)
def F_X5_ease_0 (n : Nat)  (x0 : Nat) (h : gH) : Option (Int32 × gH) :=
  (gO h x0 5).bind fun f1 =>
  gB (F_X5_number n x0  h) fun v5 h3 =>
  if v5 < 0 then
  (F_X5_ease_26 n h3)
  else
  ((gO h3 x0 5).bind fun f7 =>
  gB (F_X5_sign n x0 (32 : Int32) h3) fun v11 h9 =>
  if v11 = 0 then
  (F_X5_ease_26 n h9)
  else
  ((gO h9 x0 5).bind fun f13 =>
  gB (F_X5_anyOf n x0 (0 : Int32) h9) fun v17 h15 =>
  if v17 = 0 then
  (F_X5_ease_26 n h15)
  else
  ((gR h15 x0 5 0).bind fun v19 =>
  (gO h15 v19 6).bind fun f21 =>
  (F_X6_addEase n v19 v5 h15).bind fun h23 =>
  some ((1 : Int32), h23))))
set_option maxRecDepth 20000 in
set_option maxHeartbeats 1600000 in
theorem g_X5_ease_0 {n d : Nat} : ∀ {x0 : Nat} {h : gH} {rh : gH} {rv : Int32}, F_X5_ease_0 n x0 h = some (rv, rh) → G M_X5_ease (d + 47) 0 0 0 0 0 [some (.ref x0), none] [] h (qI rv rh) := by
  intro x0 h rh rv hf
  unfold F_X5_ease_0 at hf
  refine g_aload_n dX5_ease_0 rfl ?_
  replace hf := Option.bind_eq_some_iff.mp hf
  obtain ⟨f1, q2, hf⟩ := hf
  replace hf := gB_of hf
  obtain ⟨v5, h3, q4, hf⟩ := hf
  refine g_callV (as := []) (mc1 := 0) (ms1 := 0) s_X5_111_X5_number_5 dX5_ease_1 (gO_of q2) rfl (Nat.le_of_ble_eq_true rfl) (Nat.le_of_ble_eq_true rfl) (Nat.le_of_ble_eq_true rfl) (t_X5_number (d := d + 45) q4) (fun r9 h9 q9 => ?_)
  obtain ⟨rfl, rfl⟩ := q9
  refine g_stp (st2 := [.int v5]) (pc2 := 4) (kc2 := 0) (kn2 := 0) rfl rfl rfl rfl ?_
  refine g_istore_n dX5_ease_4 (by decide) (g_lvp (lv2 := [some (.ref x0), some (.int v5)]) (pc2 := 5) rfl rfl ?_)
  refine g_iload_n dX5_ease_5 rfl ?_
  refine g_if_lt (tgt := 26) dX5_ease_6 (by decide) (fun c6 => ?_) (fun c6 => ?_)
  · rw [if_pos c6] at hf
    refine g_weak (lv2 := [none, none]) (trivial) ?_
    exact g_X5_ease_26 hf
  · rw [if_neg c6] at hf
    refine g_aload_n dX5_ease_9 rfl ?_
    refine g_bipush (v := (32 : Int32)) dX5_ease_10 (by decide) ?_
    replace hf := Option.bind_eq_some_iff.mp hf
    obtain ⟨f7, q8, hf⟩ := hf
    replace hf := gB_of hf
    obtain ⟨v11, h9, q10, hf⟩ := hf
    refine g_callV (as := [.int (32 : Int32)]) (mc1 := 0) (ms1 := 0) s_X5_52_X5_sign_5 dX5_ease_12 (gO_of q8) rfl (Nat.le_of_ble_eq_true rfl) (Nat.le_of_ble_eq_true rfl) (Nat.le_of_ble_eq_true rfl) (t_X5_sign (d := d + 45) q10) (fun r9 h9 q9 => ?_)
    obtain ⟨rfl, rfl⟩ := q9
    refine g_stp (st2 := [.int v11]) (pc2 := 15) (kc2 := 0) (kn2 := 0) rfl rfl rfl rfl ?_
    refine g_if_eq (tgt := 26) dX5_ease_15 (by decide) (fun c12 => ?_) (fun c12 => ?_)
    · rw [if_pos c12] at hf
      refine g_weak (lv2 := [none, none]) (trivial) ?_
      exact g_X5_ease_26 hf
    · rw [if_neg c12] at hf
      refine g_aload_n dX5_ease_18 rfl ?_
      refine g_iconst (v := (0 : Int32)) dX5_ease_19 (by decide) ?_
      replace hf := Option.bind_eq_some_iff.mp hf
      obtain ⟨f13, q14, hf⟩ := hf
      replace hf := gB_of hf
      obtain ⟨v17, h15, q16, hf⟩ := hf
      refine g_callV (as := [.int (0 : Int32)]) (mc1 := 0) (ms1 := 0) s_X5_118_X5_anyOf_5 dX5_ease_20 (gO_of q14) rfl (Nat.le_of_ble_eq_true rfl) (Nat.le_of_ble_eq_true rfl) (Nat.le_of_ble_eq_true rfl) (t_X5_anyOf (d := d + 0) q16) (fun r9 h9 q9 => ?_)
      obtain ⟨rfl, rfl⟩ := q9
      refine g_stp (st2 := [.int v17]) (pc2 := 23) (kc2 := 0) (kn2 := 0) rfl rfl rfl rfl ?_
      refine g_if_ne (tgt := 28) dX5_ease_23 (by decide) (fun c18 => ?_) (fun c18 => ?_)
      · rw [if_neg c18] at hf
        refine g_aload_n dX5_ease_28 rfl ?_
        replace hf := Option.bind_eq_some_iff.mp hf
        obtain ⟨v19, q20, hf⟩ := hf
        refine g_gR f_X5_12 dX5_ease_29 q20 ?_
        refine g_iload_n dX5_ease_32 rfl ?_
        replace hf := Option.bind_eq_some_iff.mp hf
        obtain ⟨f21, q22, hf⟩ := hf
        replace hf := Option.bind_eq_some_iff.mp hf
        obtain ⟨h23, q24, hf⟩ := hf
        refine g_callV (as := [.int v5]) (mc1 := 0) (ms1 := 0) s_X5_121_X6_addEase_6 dX5_ease_33 (gO_of q22) rfl (Nat.le_of_ble_eq_true rfl) (Nat.le_of_ble_eq_true rfl) (Nat.le_of_ble_eq_true rfl) (t_X6_addEase (d := d + 46) q24) (fun r9 h9 q9 => ?_)
        obtain ⟨rfl, rfl⟩ := q9
        refine g_stp (st2 := []) (pc2 := 36) (kc2 := 0) (kn2 := 0) rfl rfl rfl rfl ?_
        refine g_iconst (v := (1 : Int32)) dX5_ease_36 (by decide) ?_
        obtain ⟨rfl, rfl⟩ := Prod.mk.inj (Option.some.inj hf)
        exact g_zret (ty := .boolean) dX5_ease_37 rfl (by decide +kernel) ⟨rfl, rfl⟩ (Nat.le_of_ble_eq_true rfl) (Nat.le_of_ble_eq_true rfl)
      · rw [if_pos c18] at hf
        refine g_weak (lv2 := [none, none]) (trivial) ?_
        exact g_X5_ease_26 hf
def F_X5_ease (n : Nat) (a : Nat) (h : gH) : Option (Int32 × gH) := F_X5_ease_0 n  a h
theorem t_X5_ease {n d : Nat} {a : Nat} {h rh : gH} {rv : Int32} (hf : F_X5_ease n a h = some (rv, rh)) : T M_X5_ease (d + 47) 0 0 [.ref a] h (qI rv rh) := by
  refine T_of_G (L := 1) (by decide +kernel) rfl (Nat.le_of_ble_eq_true rfl) (g_lv (lv2 := [some (.ref a), none]) rfl ?_)
  exact g_X5_ease_0 hf
def F_X6_addPiece_60 (n : Nat)   (h : gH) : Option (gH) :=
  some h
set_option maxRecDepth 20000 in
set_option maxHeartbeats 1600000 in
theorem g_X6_addPiece_60 {n d : Nat} : ∀  {h : gH} {rh : gH}, F_X6_addPiece_60 n  h = some rh → G M_X6_addPiece d 0 0 0 0 60 [none, none, none, none] [] h (qV rh) := by
  intro  h rh hf
  unfold F_X6_addPiece_60 at hf
  obtain rfl := Option.some.inj hf
  exact g_vret dX6_addPiece_60 rfl ⟨rfl, rfl⟩ (Nat.le_of_ble_eq_true rfl) (Nat.le_of_ble_eq_true rfl)
def F_X6_addPiece_0 (n : Nat)  (x0 : Nat) (x1 : Int32) (x2 : Int32) (x3 : Int32) (h : gH) : Option (gH) :=
  (gI h x0 6 8).bind fun v1 =>
  if v1 < 0 then
  (F_X6_addPiece_60 n h)
  else
  ((gI h x0 6 8).bind fun v4 =>
  if (8 : Int32) ≤ v4 then
  (F_X6_addPiece_60 n h)
  else
  ((gR h x0 6 0).bind fun v7 =>
  (gI h x0 6 8).bind fun v9 =>
  (sI h v7 v9 x1).bind fun h11 =>
  (gR h11 x0 6 1).bind fun v13 =>
  (gI h11 x0 6 8).bind fun v15 =>
  (sI h11 v13 v15 (x2 - (5 : Int32))).bind fun h17 =>
  (gR h17 x0 6 2).bind fun v19 =>
  (gI h17 x0 6 8).bind fun v21 =>
  (sI h17 v19 v21 (x3 - (5 : Int32))).bind fun h23 =>
  (gI h23 x0 6 8).bind fun v25 =>
  (pF h23 x0 6 8 (.int (v25 + (1 : Int32)))).bind fun h27 =>
  F_X6_addPiece_60 n h27))
set_option maxRecDepth 20000 in
set_option maxHeartbeats 1600000 in
theorem g_X6_addPiece_0 {n d : Nat} : ∀ {x0 : Nat} {x1 : Int32} {x2 : Int32} {x3 : Int32} {h : gH} {rh : gH}, F_X6_addPiece_0 n x0 x1 x2 x3 h = some rh → G M_X6_addPiece d 0 0 0 0 0 [some (.ref x0), some (.int x1), some (.int x2), some (.int x3)] [] h (qV rh) := by
  intro x0 x1 x2 x3 h rh hf
  unfold F_X6_addPiece_0 at hf
  refine g_aload_n dX6_addPiece_0 rfl ?_
  replace hf := Option.bind_eq_some_iff.mp hf
  obtain ⟨v1, q2, hf⟩ := hf
  refine g_gI f_X6_39 dX6_addPiece_1 q2 ?_
  refine g_if_lt (tgt := 60) dX6_addPiece_4 (by decide) (fun c3 => ?_) (fun c3 => ?_)
  · rw [if_pos c3] at hf
    refine g_weak (lv2 := [none, none, none, none]) (trivial) ?_
    exact g_X6_addPiece_60 hf
  · rw [if_neg c3] at hf
    refine g_aload_n dX6_addPiece_7 rfl ?_
    replace hf := Option.bind_eq_some_iff.mp hf
    obtain ⟨v4, q5, hf⟩ := hf
    refine g_gI f_X6_39 dX6_addPiece_8 q5 ?_
    refine g_bipush (v := (8 : Int32)) dX6_addPiece_11 (by decide) ?_
    refine g_icmp_ge (tgt := 60) dX6_addPiece_13 (by decide) (fun c6 => ?_) (fun c6 => ?_)
    · rw [if_pos c6] at hf
      refine g_weak (lv2 := [none, none, none, none]) (trivial) ?_
      exact g_X6_addPiece_60 hf
    · rw [if_neg c6] at hf
      refine g_aload_n dX6_addPiece_16 rfl ?_
      replace hf := Option.bind_eq_some_iff.mp hf
      obtain ⟨v7, q8, hf⟩ := hf
      refine g_gR f_X6_9 dX6_addPiece_17 q8 ?_
      refine g_aload_n dX6_addPiece_20 rfl ?_
      replace hf := Option.bind_eq_some_iff.mp hf
      obtain ⟨v9, q10, hf⟩ := hf
      refine g_gI f_X6_39 dX6_addPiece_21 q10 ?_
      refine g_iload_n dX6_addPiece_24 rfl ?_
      replace hf := Option.bind_eq_some_iff.mp hf
      obtain ⟨h11, q12, hf⟩ := hf
      refine g_sI dX6_addPiece_25 q12 ?_
      refine g_aload_n dX6_addPiece_26 rfl ?_
      replace hf := Option.bind_eq_some_iff.mp hf
      obtain ⟨v13, q14, hf⟩ := hf
      refine g_gR f_X6_15 dX6_addPiece_27 q14 ?_
      refine g_aload_n dX6_addPiece_30 rfl ?_
      replace hf := Option.bind_eq_some_iff.mp hf
      obtain ⟨v15, q16, hf⟩ := hf
      refine g_gI f_X6_39 dX6_addPiece_31 q16 ?_
      refine g_iload_n dX6_addPiece_34 rfl ?_
      refine g_iconst (v := (5 : Int32)) dX6_addPiece_35 (by decide) ?_
      refine g_isub dX6_addPiece_36 ?_
      replace hf := Option.bind_eq_some_iff.mp hf
      obtain ⟨h17, q18, hf⟩ := hf
      refine g_sI dX6_addPiece_37 q18 ?_
      refine g_aload_n dX6_addPiece_38 rfl ?_
      replace hf := Option.bind_eq_some_iff.mp hf
      obtain ⟨v19, q20, hf⟩ := hf
      refine g_gR f_X6_18 dX6_addPiece_39 q20 ?_
      refine g_aload_n dX6_addPiece_42 rfl ?_
      replace hf := Option.bind_eq_some_iff.mp hf
      obtain ⟨v21, q22, hf⟩ := hf
      refine g_gI f_X6_39 dX6_addPiece_43 q22 ?_
      refine g_iload_n dX6_addPiece_46 rfl ?_
      refine g_iconst (v := (5 : Int32)) dX6_addPiece_47 (by decide) ?_
      refine g_isub dX6_addPiece_48 ?_
      replace hf := Option.bind_eq_some_iff.mp hf
      obtain ⟨h23, q24, hf⟩ := hf
      refine g_sI dX6_addPiece_49 q24 ?_
      refine g_aload_n dX6_addPiece_50 rfl ?_
      refine g_dup dX6_addPiece_51 rfl ?_
      replace hf := Option.bind_eq_some_iff.mp hf
      obtain ⟨v25, q26, hf⟩ := hf
      refine g_gI f_X6_39 dX6_addPiece_52 q26 ?_
      refine g_iconst (v := (1 : Int32)) dX6_addPiece_55 (by decide) ?_
      refine g_iadd dX6_addPiece_56 ?_
      replace hf := Option.bind_eq_some_iff.mp hf
      obtain ⟨h27, q28, hf⟩ := hf
      refine g_pF p_X6_39 dX6_addPiece_57 q28 (fun _ => rfl) (fun _ => rfl) ?_
      refine g_weak (lv2 := [none, none, none, none]) (trivial) ?_
      exact g_X6_addPiece_60 hf
def F_X6_addPiece (n : Nat) (a : Nat) (p0 : Int32) (p1 : Int32) (p2 : Int32) (h : gH) : Option (gH) := F_X6_addPiece_0 n  a p0 p1 p2 h
theorem t_X6_addPiece {n d : Nat} {a : Nat} {p0 : Int32} {p1 : Int32} {p2 : Int32} {h rh : gH} (hf : F_X6_addPiece n a p0 p1 p2 h = some rh) : T M_X6_addPiece d 0 0 [.ref a, .int p0, .int p1, .int p2] h (qV rh) := by
  refine T_of_G (L := 0) (by decide +kernel) rfl (Nat.le_of_ble_eq_true rfl) (g_lv (lv2 := [some (.ref a), some (.int p0), some (.int p1), some (.int p2)]) rfl ?_)
  exact g_X6_addPiece_0 hf
def F_X5_piece_40 (n : Nat)   (h : gH) : Option (Int32 × gH) :=
  some ((0 : Int32), h)
set_option maxRecDepth 20000 in
set_option maxHeartbeats 1600000 in
theorem g_X5_piece_40 {n d : Nat} : ∀  {h : gH} {rh : gH} {rv : Int32}, F_X5_piece_40 n  h = some (rv, rh) → G M_X5_piece (d + 2) 0 0 0 0 40 [none, none, none, none] [] h (qI rv rh) := by
  intro  h rh rv hf
  unfold F_X5_piece_40 at hf
  refine g_iconst (v := (0 : Int32)) dX5_piece_40 (by decide) ?_
  obtain ⟨rfl, rfl⟩ := Prod.mk.inj (Option.some.inj hf)
  exact g_zret (ty := .boolean) dX5_piece_41 rfl (by decide +kernel) ⟨rfl, rfl⟩ (Nat.le_of_ble_eq_true rfl) (Nat.le_of_ble_eq_true rfl)
def F_X5_piece_19 (n : Nat)   (h : gH) : Option (Int32 × gH) :=
  some ((0 : Int32), h)
set_option maxRecDepth 20000 in
set_option maxHeartbeats 1600000 in
theorem g_X5_piece_19 {n d : Nat} : ∀  {h : gH} {rh : gH} {rv : Int32}, F_X5_piece_19 n  h = some (rv, rh) → G M_X5_piece (d + 2) 0 0 0 0 19 [none, none, none, none] [] h (qI rv rh) := by
  intro  h rh rv hf
  unfold F_X5_piece_19 at hf
  refine g_iconst (v := (0 : Int32)) dX5_piece_19 (by decide) ?_
  obtain ⟨rfl, rfl⟩ := Prod.mk.inj (Option.some.inj hf)
  exact g_zret (ty := .boolean) dX5_piece_20 rfl (by decide +kernel) ⟨rfl, rfl⟩ (Nat.le_of_ble_eq_true rfl) (Nat.le_of_ble_eq_true rfl)
def F_X5_piece_0 (n : Nat)  (x0 : Nat) (h : gH) : Option (Int32 × gH) :=
  (gO h x0 5).bind fun f1 =>
  gB (F_X5_digit n x0 (1 : Int32) h) fun v5 h3 =>
  if v5 < 0 then
  (F_X5_piece_19 n h3)
  else
  ((gO h3 x0 5).bind fun f7 =>
  gB (F_X5_sign n x0 (32 : Int32) h3) fun v11 h9 =>
  if v11 = 0 then
  (F_X5_piece_19 n h9)
  else
  ((gO h9 x0 5).bind fun f13 =>
  gB (F_X5_digit n x0 (0 : Int32) h9) fun v17 h15 =>
  if v17 < 0 then
  (F_X5_piece_40 n h15)
  else
  ((gO h15 x0 5).bind fun f19 =>
  gB (F_X5_sign n x0 (32 : Int32) h15) fun v23 h21 =>
  if v23 = 0 then
  (F_X5_piece_40 n h21)
  else
  ((gO h21 x0 5).bind fun f25 =>
  gB (F_X5_digit n x0 (0 : Int32) h21) fun v29 h27 =>
  if 0 ≤ v29 then
  ((gR h27 x0 5 0).bind fun v31 =>
  (gO h27 v31 6).bind fun f33 =>
  (F_X6_addPiece n v31 v5 v17 v29 h27).bind fun h35 =>
  some ((1 : Int32), h35))
  else
  (some ((0 : Int32), h27))))))
set_option maxRecDepth 20000 in
set_option maxHeartbeats 1600000 in
theorem g_X5_piece_0 {n d : Nat} : ∀ {x0 : Nat} {h : gH} {rh : gH} {rv : Int32}, F_X5_piece_0 n x0 h = some (rv, rh) → G M_X5_piece (d + 2) 0 0 0 0 0 [some (.ref x0), none, none, none] [] h (qI rv rh) := by
  intro x0 h rh rv hf
  unfold F_X5_piece_0 at hf
  refine g_aload_n dX5_piece_0 rfl ?_
  refine g_iconst (v := (1 : Int32)) dX5_piece_1 (by decide) ?_
  replace hf := Option.bind_eq_some_iff.mp hf
  obtain ⟨f1, q2, hf⟩ := hf
  replace hf := gB_of hf
  obtain ⟨v5, h3, q4, hf⟩ := hf
  refine g_callV (as := [.int (1 : Int32)]) (mc1 := 0) (ms1 := 0) s_X5_66_X5_digit_5 dX5_piece_2 (gO_of q2) rfl (Nat.le_of_ble_eq_true rfl) (Nat.le_of_ble_eq_true rfl) (Nat.le_of_ble_eq_true rfl) (t_X5_digit (d := d + 1) q4) (fun r9 h9 q9 => ?_)
  obtain ⟨rfl, rfl⟩ := q9
  refine g_stp (st2 := [.int v5]) (pc2 := 5) (kc2 := 0) (kn2 := 0) rfl rfl rfl rfl ?_
  refine g_istore_n dX5_piece_5 (by decide) (g_lvp (lv2 := [some (.ref x0), some (.int v5), none, none]) (pc2 := 6) rfl rfl ?_)
  refine g_iload_n dX5_piece_6 rfl ?_
  refine g_if_lt (tgt := 19) dX5_piece_7 (by decide) (fun c6 => ?_) (fun c6 => ?_)
  · rw [if_pos c6] at hf
    refine g_weak (lv2 := [none, none, none, none]) (trivial) ?_
    exact g_X5_piece_19 hf
  · rw [if_neg c6] at hf
    refine g_aload_n dX5_piece_10 rfl ?_
    refine g_bipush (v := (32 : Int32)) dX5_piece_11 (by decide) ?_
    replace hf := Option.bind_eq_some_iff.mp hf
    obtain ⟨f7, q8, hf⟩ := hf
    replace hf := gB_of hf
    obtain ⟨v11, h9, q10, hf⟩ := hf
    refine g_callV (as := [.int (32 : Int32)]) (mc1 := 0) (ms1 := 0) s_X5_52_X5_sign_5 dX5_piece_13 (gO_of q8) rfl (Nat.le_of_ble_eq_true rfl) (Nat.le_of_ble_eq_true rfl) (Nat.le_of_ble_eq_true rfl) (t_X5_sign (d := d + 0) q10) (fun r9 h9 q9 => ?_)
    obtain ⟨rfl, rfl⟩ := q9
    refine g_stp (st2 := [.int v11]) (pc2 := 16) (kc2 := 0) (kn2 := 0) rfl rfl rfl rfl ?_
    refine g_if_ne (tgt := 21) dX5_piece_16 (by decide) (fun c12 => ?_) (fun c12 => ?_)
    · rw [if_neg c12] at hf
      refine g_aload_n dX5_piece_21 rfl ?_
      refine g_iconst (v := (0 : Int32)) dX5_piece_22 (by decide) ?_
      replace hf := Option.bind_eq_some_iff.mp hf
      obtain ⟨f13, q14, hf⟩ := hf
      replace hf := gB_of hf
      obtain ⟨v17, h15, q16, hf⟩ := hf
      refine g_callV (as := [.int (0 : Int32)]) (mc1 := 0) (ms1 := 0) s_X5_66_X5_digit_5 dX5_piece_23 (gO_of q14) rfl (Nat.le_of_ble_eq_true rfl) (Nat.le_of_ble_eq_true rfl) (Nat.le_of_ble_eq_true rfl) (t_X5_digit (d := d + 1) q16) (fun r9 h9 q9 => ?_)
      obtain ⟨rfl, rfl⟩ := q9
      refine g_stp (st2 := [.int v17]) (pc2 := 26) (kc2 := 0) (kn2 := 0) rfl rfl rfl rfl ?_
      refine g_istore_n dX5_piece_26 (by decide) (g_lvp (lv2 := [some (.ref x0), some (.int v5), some (.int v17), none]) (pc2 := 27) rfl rfl ?_)
      refine g_iload_n dX5_piece_27 rfl ?_
      refine g_if_lt (tgt := 40) dX5_piece_28 (by decide) (fun c18 => ?_) (fun c18 => ?_)
      · rw [if_pos c18] at hf
        refine g_weak (lv2 := [none, none, none, none]) (trivial) ?_
        exact g_X5_piece_40 hf
      · rw [if_neg c18] at hf
        refine g_aload_n dX5_piece_31 rfl ?_
        refine g_bipush (v := (32 : Int32)) dX5_piece_32 (by decide) ?_
        replace hf := Option.bind_eq_some_iff.mp hf
        obtain ⟨f19, q20, hf⟩ := hf
        replace hf := gB_of hf
        obtain ⟨v23, h21, q22, hf⟩ := hf
        refine g_callV (as := [.int (32 : Int32)]) (mc1 := 0) (ms1 := 0) s_X5_52_X5_sign_5 dX5_piece_34 (gO_of q20) rfl (Nat.le_of_ble_eq_true rfl) (Nat.le_of_ble_eq_true rfl) (Nat.le_of_ble_eq_true rfl) (t_X5_sign (d := d + 0) q22) (fun r9 h9 q9 => ?_)
        obtain ⟨rfl, rfl⟩ := q9
        refine g_stp (st2 := [.int v23]) (pc2 := 37) (kc2 := 0) (kn2 := 0) rfl rfl rfl rfl ?_
        refine g_if_ne (tgt := 42) dX5_piece_37 (by decide) (fun c24 => ?_) (fun c24 => ?_)
        · rw [if_neg c24] at hf
          refine g_aload_n dX5_piece_42 rfl ?_
          refine g_iconst (v := (0 : Int32)) dX5_piece_43 (by decide) ?_
          replace hf := Option.bind_eq_some_iff.mp hf
          obtain ⟨f25, q26, hf⟩ := hf
          replace hf := gB_of hf
          obtain ⟨v29, h27, q28, hf⟩ := hf
          refine g_callV (as := [.int (0 : Int32)]) (mc1 := 0) (ms1 := 0) s_X5_66_X5_digit_5 dX5_piece_44 (gO_of q26) rfl (Nat.le_of_ble_eq_true rfl) (Nat.le_of_ble_eq_true rfl) (Nat.le_of_ble_eq_true rfl) (t_X5_digit (d := d + 1) q28) (fun r9 h9 q9 => ?_)
          obtain ⟨rfl, rfl⟩ := q9
          refine g_stp (st2 := [.int v29]) (pc2 := 47) (kc2 := 0) (kn2 := 0) rfl rfl rfl rfl ?_
          refine g_istore_n dX5_piece_47 (by decide) (g_lvp (lv2 := [some (.ref x0), some (.int v5), some (.int v17), some (.int v29)]) (pc2 := 48) rfl rfl ?_)
          refine g_iload_n dX5_piece_48 rfl ?_
          refine g_if_ge (tgt := 54) dX5_piece_49 (by decide) (fun c30 => ?_) (fun c30 => ?_)
          · rw [if_pos c30] at hf
            refine g_aload_n dX5_piece_54 rfl ?_
            replace hf := Option.bind_eq_some_iff.mp hf
            obtain ⟨v31, q32, hf⟩ := hf
            refine g_gR f_X5_12 dX5_piece_55 q32 ?_
            refine g_iload_n dX5_piece_58 rfl ?_
            refine g_iload_n dX5_piece_59 rfl ?_
            refine g_iload_n dX5_piece_60 rfl ?_
            replace hf := Option.bind_eq_some_iff.mp hf
            obtain ⟨f33, q34, hf⟩ := hf
            replace hf := Option.bind_eq_some_iff.mp hf
            obtain ⟨h35, q36, hf⟩ := hf
            refine g_callV (as := [.int v5, .int v17, .int v29]) (mc1 := 0) (ms1 := 0) s_X5_107_X6_addPiece_6 dX5_piece_61 (gO_of q34) rfl (Nat.le_of_ble_eq_true rfl) (Nat.le_of_ble_eq_true rfl) (Nat.le_of_ble_eq_true rfl) (t_X6_addPiece (d := d + 1) q36) (fun r9 h9 q9 => ?_)
            obtain ⟨rfl, rfl⟩ := q9
            refine g_stp (st2 := []) (pc2 := 64) (kc2 := 0) (kn2 := 0) rfl rfl rfl rfl ?_
            refine g_iconst (v := (1 : Int32)) dX5_piece_64 (by decide) ?_
            obtain ⟨rfl, rfl⟩ := Prod.mk.inj (Option.some.inj hf)
            exact g_zret (ty := .boolean) dX5_piece_65 rfl (by decide +kernel) ⟨rfl, rfl⟩ (Nat.le_of_ble_eq_true rfl) (Nat.le_of_ble_eq_true rfl)
          · rw [if_neg c30] at hf
            refine g_iconst (v := (0 : Int32)) dX5_piece_52 (by decide) ?_
            obtain ⟨rfl, rfl⟩ := Prod.mk.inj (Option.some.inj hf)
            exact g_zret (ty := .boolean) dX5_piece_53 rfl (by decide +kernel) ⟨rfl, rfl⟩ (Nat.le_of_ble_eq_true rfl) (Nat.le_of_ble_eq_true rfl)
        · rw [if_pos c24] at hf
          refine g_weak (lv2 := [none, none, none, none]) (trivial) ?_
          exact g_X5_piece_40 hf
    · rw [if_pos c12] at hf
      refine g_weak (lv2 := [none, none, none, none]) (trivial) ?_
      exact g_X5_piece_19 hf
def F_X5_piece (n : Nat) (a : Nat) (h : gH) : Option (Int32 × gH) := F_X5_piece_0 n  a h
theorem t_X5_piece {n d : Nat} {a : Nat} {h rh : gH} {rv : Int32} (hf : F_X5_piece n a h = some (rv, rh)) : T M_X5_piece (d + 2) 0 0 [.ref a] h (qI rv rh) := by
  refine T_of_G (L := 3) (by decide +kernel) rfl (Nat.le_of_ble_eq_true rfl) (g_lv (lv2 := [some (.ref a), none, none, none]) rfl ?_)
  exact g_X5_piece_0 hf
def F_X5_setting_96 (n : Nat)   (h : gH) : Option (Int32 × gH) :=
  some ((1 : Int32), h)
set_option maxRecDepth 20000 in
set_option maxHeartbeats 1600000 in
theorem g_X5_setting_96 {n d : Nat} : ∀  {h : gH} {rh : gH} {rv : Int32}, F_X5_setting_96 n  h = some (rv, rh) → G M_X5_setting (d + 2) 0 0 0 0 96 [none, none, none] [] h (qI rv rh) := by
  intro  h rh rv hf
  unfold F_X5_setting_96 at hf
  refine g_iconst (v := (1 : Int32)) dX5_setting_96 (by decide) ?_
  obtain ⟨rfl, rfl⟩ := Prod.mk.inj (Option.some.inj hf)
  exact g_zret (ty := .boolean) dX5_setting_97 rfl (by decide +kernel) ⟨rfl, rfl⟩ (Nat.le_of_ble_eq_true rfl) (Nat.le_of_ble_eq_true rfl)
def F_X5_setting_0 (n : Nat)  (x0 : Nat) (x1 : Int32) (h : gH) : Option (Int32 × gH) :=
  (gO h x0 5).bind fun f1 =>
  gB (F_X5_number n x0  h) fun v5 h3 =>
  if 0 ≤ v5 then
  (if x1 = (3 : Int32) then
  ((gR h3 x0 5 0).bind fun v8 =>
  (pF h3 v8 6 11 (.int (gmin v5 (9 : Int32)))).bind fun h10 =>
  F_X5_setting_96 n h10)
  else if x1 = (4 : Int32) then
  ((gR h3 x0 5 0).bind fun v13 =>
  (pF h3 v13 6 12 (.int (gmin v5 (60 : Int32)))).bind fun h15 =>
  F_X5_setting_96 n h15)
  else if x1 = (5 : Int32) then
  ((gR h3 x0 5 0).bind fun v18 =>
  (pF h3 v18 6 13 (.int v5)).bind fun h20 =>
  F_X5_setting_96 n h20)
  else ((gR h3 x0 5 0).bind fun v22 =>
  (pF h3 v22 6 14 (.int (gmin v5 (10 : Int32)))).bind fun h24 =>
  F_X5_setting_96 n h24))
  else
  (some ((0 : Int32), h3))
set_option maxRecDepth 20000 in
set_option maxHeartbeats 1600000 in
theorem g_X5_setting_0 {n d : Nat} : ∀ {x0 : Nat} {x1 : Int32} {h : gH} {rh : gH} {rv : Int32}, F_X5_setting_0 n x0 x1 h = some (rv, rh) → G M_X5_setting (d + 2) 0 0 0 0 0 [some (.ref x0), some (.int x1), none] [] h (qI rv rh) := by
  intro x0 x1 h rh rv hf
  unfold F_X5_setting_0 at hf
  refine g_aload_n dX5_setting_0 rfl ?_
  replace hf := Option.bind_eq_some_iff.mp hf
  obtain ⟨f1, q2, hf⟩ := hf
  replace hf := gB_of hf
  obtain ⟨v5, h3, q4, hf⟩ := hf
  refine g_callV (as := []) (mc1 := 0) (ms1 := 0) s_X5_111_X5_number_5 dX5_setting_1 (gO_of q2) rfl (Nat.le_of_ble_eq_true rfl) (Nat.le_of_ble_eq_true rfl) (Nat.le_of_ble_eq_true rfl) (t_X5_number (d := d + 0) q4) (fun r9 h9 q9 => ?_)
  obtain ⟨rfl, rfl⟩ := q9
  refine g_stp (st2 := [.int v5]) (pc2 := 4) (kc2 := 0) (kn2 := 0) rfl rfl rfl rfl ?_
  refine g_istore_n dX5_setting_4 (by decide) (g_lvp (lv2 := [some (.ref x0), some (.int x1), some (.int v5)]) (pc2 := 5) rfl rfl ?_)
  refine g_iload_n dX5_setting_5 rfl ?_
  refine g_if_ge (tgt := 11) dX5_setting_6 (by decide) (fun c6 => ?_) (fun c6 => ?_)
  · rw [if_pos c6] at hf
    refine g_iload_n dX5_setting_11 rfl ?_
    by_cases c7 : x1 = (3 : Int32)
    · rw [if_pos c7] at hf
      refine g_tswK (k := (3 : Int32)) (off := 28) (tgt := 40) dX5_setting_12 c7 (by decide) (by decide) (by decide) (by decide) ?_
      refine g_aload_n dX5_setting_40 rfl ?_
      replace hf := Option.bind_eq_some_iff.mp hf
      obtain ⟨v8, q9, hf⟩ := hf
      refine g_gR f_X5_12 dX5_setting_41 q9 ?_
      refine g_iload_n dX5_setting_44 rfl ?_
      refine g_bipush (v := (9 : Int32)) dX5_setting_45 (by decide) ?_
      refine g_min m_X5_26 m_min.1 m_min.2.1 m_min.2.2 dX5_setting_47 (Nat.le_of_ble_eq_true rfl) (Nat.le_of_ble_eq_true rfl) (Nat.le_of_ble_eq_true rfl) ?_
      refine g_st (st2 := [.int (gmin v5 (9 : Int32)), .ref v8]) rfl ?_
      replace hf := Option.bind_eq_some_iff.mp hf
      obtain ⟨h10, q11, hf⟩ := hf
      refine g_pF p_X5_125 dX5_setting_50 q11 (fun _ => rfl) (fun _ => rfl) ?_
      refine g_goto (tgt := 96) dX5_setting_53 (by decide) ?_
      refine g_weak (lv2 := [none, none, none]) (trivial) ?_
      exact g_X5_setting_96 hf
    rw [if_neg c7] at hf
    by_cases c12 : x1 = (4 : Int32)
    · rw [if_pos c12] at hf
      refine g_tswK (k := (4 : Int32)) (off := 44) (tgt := 56) dX5_setting_12 c12 (by decide) (by decide) (by decide) (by decide) ?_
      refine g_aload_n dX5_setting_56 rfl ?_
      replace hf := Option.bind_eq_some_iff.mp hf
      obtain ⟨v13, q14, hf⟩ := hf
      refine g_gR f_X5_12 dX5_setting_57 q14 ?_
      refine g_iload_n dX5_setting_60 rfl ?_
      refine g_bipush (v := (60 : Int32)) dX5_setting_61 (by decide) ?_
      refine g_min m_X5_26 m_min.1 m_min.2.1 m_min.2.2 dX5_setting_63 (Nat.le_of_ble_eq_true rfl) (Nat.le_of_ble_eq_true rfl) (Nat.le_of_ble_eq_true rfl) ?_
      refine g_st (st2 := [.int (gmin v5 (60 : Int32)), .ref v13]) rfl ?_
      replace hf := Option.bind_eq_some_iff.mp hf
      obtain ⟨h15, q16, hf⟩ := hf
      refine g_pF p_X5_127 dX5_setting_66 q16 (fun _ => rfl) (fun _ => rfl) ?_
      refine g_goto (tgt := 96) dX5_setting_69 (by decide) ?_
      refine g_weak (lv2 := [none, none, none]) (trivial) ?_
      exact g_X5_setting_96 hf
    rw [if_neg c12] at hf
    by_cases c17 : x1 = (5 : Int32)
    · rw [if_pos c17] at hf
      refine g_tswK (k := (5 : Int32)) (off := 60) (tgt := 72) dX5_setting_12 c17 (by decide) (by decide) (by decide) (by decide) ?_
      refine g_aload_n dX5_setting_72 rfl ?_
      replace hf := Option.bind_eq_some_iff.mp hf
      obtain ⟨v18, q19, hf⟩ := hf
      refine g_gR f_X5_12 dX5_setting_73 q19 ?_
      refine g_iload_n dX5_setting_76 rfl ?_
      replace hf := Option.bind_eq_some_iff.mp hf
      obtain ⟨h20, q21, hf⟩ := hf
      refine g_pF p_X5_129 dX5_setting_77 q21 (fun _ => rfl) (fun _ => rfl) ?_
      refine g_goto (tgt := 96) dX5_setting_80 (by decide) ?_
      refine g_weak (lv2 := [none, none, none]) (trivial) ?_
      exact g_X5_setting_96 hf
    rw [if_neg c17] at hf
    have zc7 : (x1).toInt ≠ 3 := fun e => c7 (Int32.toInt_inj.mp (e.trans (by decide)))
    have zc12 : (x1).toInt ≠ 4 := fun e => c12 (Int32.toInt_inj.mp (e.trans (by decide)))
    have zc17 : (x1).toInt ≠ 5 := fun e => c17 (Int32.toInt_inj.mp (e.trans (by decide)))
    refine g_tableOut (tgt := 83) dX5_setting_12 (by omega) (by decide) ?_
    refine g_aload_n dX5_setting_83 rfl ?_
    replace hf := Option.bind_eq_some_iff.mp hf
    obtain ⟨v22, q23, hf⟩ := hf
    refine g_gR f_X5_12 dX5_setting_84 q23 ?_
    refine g_iload_n dX5_setting_87 rfl ?_
    refine g_bipush (v := (10 : Int32)) dX5_setting_88 (by decide) ?_
    refine g_min m_X5_26 m_min.1 m_min.2.1 m_min.2.2 dX5_setting_90 (Nat.le_of_ble_eq_true rfl) (Nat.le_of_ble_eq_true rfl) (Nat.le_of_ble_eq_true rfl) ?_
    refine g_st (st2 := [.int (gmin v5 (10 : Int32)), .ref v22]) rfl ?_
    replace hf := Option.bind_eq_some_iff.mp hf
    obtain ⟨h24, q25, hf⟩ := hf
    refine g_pF p_X5_131 dX5_setting_93 q25 (fun _ => rfl) (fun _ => rfl) ?_
    refine g_weak (lv2 := [none, none, none]) (trivial) ?_
    exact g_X5_setting_96 hf
  · rw [if_neg c6] at hf
    refine g_iconst (v := (0 : Int32)) dX5_setting_9 (by decide) ?_
    obtain ⟨rfl, rfl⟩ := Prod.mk.inj (Option.some.inj hf)
    exact g_zret (ty := .boolean) dX5_setting_10 rfl (by decide +kernel) ⟨rfl, rfl⟩ (Nat.le_of_ble_eq_true rfl) (Nat.le_of_ble_eq_true rfl)
def F_X5_setting (n : Nat) (a : Nat) (p0 : Int32) (h : gH) : Option (Int32 × gH) := F_X5_setting_0 n  a p0 h
theorem t_X5_setting {n d : Nat} {a : Nat} {p0 : Int32} {h rh : gH} {rv : Int32} (hf : F_X5_setting n a p0 h = some (rv, rh)) : T M_X5_setting (d + 2) 0 0 [.ref a, .int p0] h (qI rv rh) := by
  refine T_of_G (L := 1) (by decide +kernel) rfl (Nat.le_of_ble_eq_true rfl) (g_lv (lv2 := [some (.ref a), some (.int p0), none]) rfl ?_)
  exact g_X5_setting_0 hf
def F_X5_wordOf_0 (n : Nat)  (x0 : Int32) (h : gH) : Option (Nat × gH) :=
  if x0 = (0 : Int32) then
  (some (3, h))
  else if x0 = (1 : Int32) then
  (some (4, h))
  else if x0 = (2 : Int32) then
  (some (5, h))
  else if x0 = (3 : Int32) then
  (some (6, h))
  else if x0 = (4 : Int32) then
  (some (7, h))
  else if x0 = (5 : Int32) then
  (some (8, h))
  else (some (9, h))
set_option maxRecDepth 20000 in
set_option maxHeartbeats 1600000 in
theorem g_X5_wordOf_0 {n d : Nat} : ∀ {x0 : Int32} {h : gH} {rh : gH} {rv : Nat}, F_X5_wordOf_0 n x0 h = some (rv, rh) → G M_X5_wordOf d 0 0 0 0 0 [some (.int x0)] [] h (qR rv rh) := by
  intro x0 h rh rv hf
  unfold F_X5_wordOf_0 at hf
  refine g_iload_n dX5_wordOf_0 rfl ?_
  by_cases c1 : x0 = (0 : Int32)
  · rw [if_pos c1] at hf
    refine g_tswK (k := (0 : Int32)) (off := 39) (tgt := 40) dX5_wordOf_1 c1 (by decide) (by decide) (by decide) (by decide) ?_
    refine g_ldcS (i := 2) (by decide +kernel) dX5_wordOf_40 ?_ (by decide)
    obtain ⟨e1, e2⟩ := Prod.mk.inj (Option.some.inj hf)
    exact g_aret (r := (some 3)) dX5_wordOf_42 rfl ⟨by subst e1; rfl, e2.symm⟩ (Nat.le_of_ble_eq_true rfl) (Nat.le_of_ble_eq_true rfl)
  rw [if_neg c1] at hf
  by_cases c2 : x0 = (1 : Int32)
  · rw [if_pos c2] at hf
    refine g_tswK (k := (1 : Int32)) (off := 42) (tgt := 43) dX5_wordOf_1 c2 (by decide) (by decide) (by decide) (by decide) ?_
    refine g_ldcS (i := 3) (by decide +kernel) dX5_wordOf_43 ?_ (by decide)
    obtain ⟨e1, e2⟩ := Prod.mk.inj (Option.some.inj hf)
    exact g_aret (r := (some 4)) dX5_wordOf_45 rfl ⟨by subst e1; rfl, e2.symm⟩ (Nat.le_of_ble_eq_true rfl) (Nat.le_of_ble_eq_true rfl)
  rw [if_neg c2] at hf
  by_cases c3 : x0 = (2 : Int32)
  · rw [if_pos c3] at hf
    refine g_tswK (k := (2 : Int32)) (off := 45) (tgt := 46) dX5_wordOf_1 c3 (by decide) (by decide) (by decide) (by decide) ?_
    refine g_ldcS (i := 4) (by decide +kernel) dX5_wordOf_46 ?_ (by decide)
    obtain ⟨e1, e2⟩ := Prod.mk.inj (Option.some.inj hf)
    exact g_aret (r := (some 5)) dX5_wordOf_48 rfl ⟨by subst e1; rfl, e2.symm⟩ (Nat.le_of_ble_eq_true rfl) (Nat.le_of_ble_eq_true rfl)
  rw [if_neg c3] at hf
  by_cases c4 : x0 = (3 : Int32)
  · rw [if_pos c4] at hf
    refine g_tswK (k := (3 : Int32)) (off := 48) (tgt := 49) dX5_wordOf_1 c4 (by decide) (by decide) (by decide) (by decide) ?_
    refine g_ldcS (i := 5) (by decide +kernel) dX5_wordOf_49 ?_ (by decide)
    obtain ⟨e1, e2⟩ := Prod.mk.inj (Option.some.inj hf)
    exact g_aret (r := (some 6)) dX5_wordOf_51 rfl ⟨by subst e1; rfl, e2.symm⟩ (Nat.le_of_ble_eq_true rfl) (Nat.le_of_ble_eq_true rfl)
  rw [if_neg c4] at hf
  by_cases c5 : x0 = (4 : Int32)
  · rw [if_pos c5] at hf
    refine g_tswK (k := (4 : Int32)) (off := 51) (tgt := 52) dX5_wordOf_1 c5 (by decide) (by decide) (by decide) (by decide) ?_
    refine g_ldcS (i := 6) (by decide +kernel) dX5_wordOf_52 ?_ (by decide)
    obtain ⟨e1, e2⟩ := Prod.mk.inj (Option.some.inj hf)
    exact g_aret (r := (some 7)) dX5_wordOf_54 rfl ⟨by subst e1; rfl, e2.symm⟩ (Nat.le_of_ble_eq_true rfl) (Nat.le_of_ble_eq_true rfl)
  rw [if_neg c5] at hf
  by_cases c6 : x0 = (5 : Int32)
  · rw [if_pos c6] at hf
    refine g_tswK (k := (5 : Int32)) (off := 54) (tgt := 55) dX5_wordOf_1 c6 (by decide) (by decide) (by decide) (by decide) ?_
    refine g_ldcS (i := 7) (by decide +kernel) dX5_wordOf_55 ?_ (by decide)
    obtain ⟨e1, e2⟩ := Prod.mk.inj (Option.some.inj hf)
    exact g_aret (r := (some 8)) dX5_wordOf_57 rfl ⟨by subst e1; rfl, e2.symm⟩ (Nat.le_of_ble_eq_true rfl) (Nat.le_of_ble_eq_true rfl)
  rw [if_neg c6] at hf
  have zc1 : (x0).toInt ≠ 0 := fun e => c1 (Int32.toInt_inj.mp (e.trans (by decide)))
  have zc2 : (x0).toInt ≠ 1 := fun e => c2 (Int32.toInt_inj.mp (e.trans (by decide)))
  have zc3 : (x0).toInt ≠ 2 := fun e => c3 (Int32.toInt_inj.mp (e.trans (by decide)))
  have zc4 : (x0).toInt ≠ 3 := fun e => c4 (Int32.toInt_inj.mp (e.trans (by decide)))
  have zc5 : (x0).toInt ≠ 4 := fun e => c5 (Int32.toInt_inj.mp (e.trans (by decide)))
  have zc6 : (x0).toInt ≠ 5 := fun e => c6 (Int32.toInt_inj.mp (e.trans (by decide)))
  refine g_tableOut (tgt := 58) dX5_wordOf_1 (by omega) (by decide) ?_
  refine g_ldcS (i := 8) (by decide +kernel) dX5_wordOf_58 ?_ (by decide)
  obtain ⟨e1, e2⟩ := Prod.mk.inj (Option.some.inj hf)
  exact g_aret (r := (some 9)) dX5_wordOf_60 rfl ⟨by subst e1; rfl, e2.symm⟩ (Nat.le_of_ble_eq_true rfl) (Nat.le_of_ble_eq_true rfl)
def F_X5_wordOf (n : Nat) (p0 : Int32) (h : gH) : Option (Nat × gH) := F_X5_wordOf_0 n  p0 h
theorem t_X5_wordOf {n d : Nat} {p0 : Int32} {h rh : gH} {rv : Nat} (hf : F_X5_wordOf n p0 h = some (rv, rh)) : T M_X5_wordOf d 0 0 [.int p0] h (qR rv rh) := by
  refine T_of_G (L := 0) (by decide +kernel) rfl (Nat.le_of_ble_eq_true rfl) (g_lv (lv2 := [some (.int p0)]) rfl ?_)
  exact g_X5_wordOf_0 hf
def F_X5_word_104 (n : Nat) (k31 : Nat → Int32 → Int32 → Int32 → Int32 → gH → Option (Int32 × gH)) (x0 : Nat) (x1 : Int32) (x2 : Int32) (x3 : Int32) (x4 : Int32) (h : gH) : Option (Int32 × gH) :=
  k31 x0 x1 x2 x3 (x4 + (1 : Int32)) h
set_option maxRecDepth 20000 in
set_option maxHeartbeats 1600000 in
theorem g_X5_word_104 {n d : Nat} {k31 : Nat → Int32 → Int32 → Int32 → Int32 → gH → Option (Int32 × gH)} (t31 : ∀ {x0 : Nat} {x1 : Int32} {x2 : Int32} {x3 : Int32} {x4 : Int32} {h : gH} {rh : gH} {rv : Int32}, k31 x0 x1 x2 x3 x4 h = some (rv, rh) → G M_X5_word (d + 7) 0 0 0 0 31 [some (.ref x0), some (.int x1), some (.int x2), some (.int x3), some (.int x4), none, none] [] h (qI rv rh)) : ∀ {x0 : Nat} {x1 : Int32} {x2 : Int32} {x3 : Int32} {x4 : Int32} {h : gH} {rh : gH} {rv : Int32}, F_X5_word_104 n k31 x0 x1 x2 x3 x4 h = some (rv, rh) → G M_X5_word (d + 7) 0 0 0 0 104 [some (.ref x0), some (.int x1), some (.int x2), some (.int x3), some (.int x4), none, none] [] h (qI rv rh) := by
  intro x0 x1 x2 x3 x4 h rh rv hf
  unfold F_X5_word_104 at hf
  refine g_iinc2 (w := (1 : Int32)) dX5_word_104 (by decide) rfl (by decide) (g_lvp (lv2 := [some (.ref x0), some (.int x1), some (.int x2), some (.int x3), some (.int (x4 + (1 : Int32))), none, none]) (pc2 := 107) rfl rfl ?_)
  refine g_goto (tgt := 31) dX5_word_107 (by decide) ?_
  exact t31 hf
def F_X5_word_79 (n : Nat) (k31 : Nat → Int32 → Int32 → Int32 → Int32 → gH → Option (Int32 × gH)) (x0 : Nat) (x1 : Int32) (x2 : Int32) (x3 : Int32) (x4 : Int32) (x5 : Nat) (x6 : Int32) (h : gH) : Option (Int32 × gH) :=
  if x6 = 0 then
  (F_X5_word_104 n (k31) x0 x1 x2 x3 x4 h)
  else
  (gB (F_J0_charAt_5068e n x5 x2 h) fun v4 h2 =>
  (gO h2 x0 5).bind fun f5 =>
  gB (F_X5_next n x0  h2) fun v9 h7 =>
  if v4 = v9 then
  (F_X5_word_104 n (k31) x0 x1 x2 (x3 ||| ((1 : Int32) <<< (x4 &&& 31))) x4 h7)
  else
  (F_X5_word_104 n (k31) x0 x1 x2 x3 x4 h7))
set_option maxRecDepth 20000 in
set_option maxHeartbeats 1600000 in
theorem g_X5_word_79 {n d : Nat} {k31 : Nat → Int32 → Int32 → Int32 → Int32 → gH → Option (Int32 × gH)} (t31 : ∀ {x0 : Nat} {x1 : Int32} {x2 : Int32} {x3 : Int32} {x4 : Int32} {h : gH} {rh : gH} {rv : Int32}, k31 x0 x1 x2 x3 x4 h = some (rv, rh) → G M_X5_word (d + 7) 0 0 0 0 31 [some (.ref x0), some (.int x1), some (.int x2), some (.int x3), some (.int x4), none, none] [] h (qI rv rh)) : ∀ {x0 : Nat} {x1 : Int32} {x2 : Int32} {x3 : Int32} {x4 : Int32} {x5 : Nat} {x6 : Int32} {h : gH} {rh : gH} {rv : Int32}, F_X5_word_79 n k31 x0 x1 x2 x3 x4 x5 x6 h = some (rv, rh) → G M_X5_word (d + 7) 0 0 0 0 79 [some (.ref x0), some (.int x1), some (.int x2), some (.int x3), some (.int x4), some (.ref x5), some (.int x6)] [] h (qI rv rh) := by
  intro x0 x1 x2 x3 x4 x5 x6 h rh rv hf
  unfold F_X5_word_79 at hf
  refine g_iload dX5_word_79 rfl ?_
  refine g_if_eq (tgt := 104) dX5_word_81 (by decide) (fun c1 => ?_) (fun c1 => ?_)
  · rw [if_pos c1] at hf
    refine g_weak (lv2 := [some (.ref x0), some (.int x1), some (.int x2), some (.int x3), some (.int x4), none, none]) (And.intro rfl (And.intro rfl (And.intro rfl (And.intro rfl (And.intro rfl (trivial)))))) ?_
    exact g_X5_word_104 t31 hf
  · rw [if_neg c1] at hf
    refine g_aload dX5_word_84 rfl ?_
    refine g_iload_n dX5_word_86 rfl ?_
    replace hf := gB_of hf
    obtain ⟨v4, h2, q3, hf⟩ := hf
    refine g_callStr (as := [.int x2]) (mc1 := 0) (ms1 := 0) s_X5_90 dX5_word_87 (b_J0_charAt_5068e q3) rfl (Nat.le_of_ble_eq_true rfl) (Nat.le_of_ble_eq_true rfl) (Nat.le_of_ble_eq_true rfl) (t_J0_charAt_5068e (d := d + 0) q3) (fun r9 h9 q9 => ?_)
    obtain ⟨rfl, rfl⟩ := q9
    refine g_stp (st2 := [.int v4]) (pc2 := 90) (kc2 := 0) (kn2 := 0) rfl rfl rfl rfl ?_
    refine g_aload_n dX5_word_90 rfl ?_
    replace hf := Option.bind_eq_some_iff.mp hf
    obtain ⟨f5, q6, hf⟩ := hf
    replace hf := gB_of hf
    obtain ⟨v9, h7, q8, hf⟩ := hf
    refine g_callV (as := []) (mc1 := 0) (ms1 := 0) s_X5_56_X5_next_5 dX5_word_91 (gO_of q6) rfl (Nat.le_of_ble_eq_true rfl) (Nat.le_of_ble_eq_true rfl) (Nat.le_of_ble_eq_true rfl) (t_X5_next (d := d + 6) q8) (fun r9 h9 q9 => ?_)
    obtain ⟨rfl, rfl⟩ := q9
    refine g_stp (st2 := [.int v9, .int v4]) (pc2 := 94) (kc2 := 0) (kn2 := 0) rfl rfl rfl rfl ?_
    refine g_icmp_ne (tgt := 104) dX5_word_94 (by decide) (fun c10 => ?_) (fun c10 => ?_)
    · rw [if_neg c10] at hf
      refine g_weak (lv2 := [some (.ref x0), some (.int x1), some (.int x2), some (.int x3), some (.int x4), none, none]) (And.intro rfl (And.intro rfl (And.intro rfl (And.intro rfl (And.intro rfl (trivial)))))) ?_
      exact g_X5_word_104 t31 hf
    · rw [if_pos c10] at hf
      refine g_iload_n dX5_word_97 rfl ?_
      refine g_iconst (v := (1 : Int32)) dX5_word_98 (by decide) ?_
      refine g_iload dX5_word_99 rfl ?_
      refine g_ishl dX5_word_101 ?_
      refine g_ior dX5_word_102 ?_
      refine g_istore_n dX5_word_103 (by decide) (g_lvp (lv2 := [some (.ref x0), some (.int x1), some (.int x2), some (.int (x3 ||| ((1 : Int32) <<< (x4 &&& 31)))), some (.int x4), some (.ref x5), some (.int x6)]) (pc2 := 104) rfl rfl ?_)
      refine g_weak (lv2 := [some (.ref x0), some (.int x1), some (.int x2), some (.int (x3 ||| ((1 : Int32) <<< (x4 &&& 31)))), some (.int x4), none, none]) (And.intro rfl (And.intro rfl (And.intro rfl (And.intro rfl (And.intro rfl (trivial)))))) ?_
      exact g_X5_word_104 t31 hf
def F_X5_word_60 (n : Nat) (k31 : Nat → Int32 → Int32 → Int32 → Int32 → gH → Option (Int32 × gH)) (x0 : Nat) (x1 : Int32) (x2 : Int32) (x3 : Int32) (x4 : Int32) (x5 : Nat) (y0 : Int32) (h : gH) : Option (Int32 × gH) :=
  if y0 = 0 then
  (F_X5_word_79 n (k31) x0 x1 x2 x3 x4 x5 y0 h)
  else
  (gB (F_J0_length_8abf5 n x5  h) fun v4 h2 =>
  if x2 < v4 then
  (F_X5_word_79 n (k31) x0 x1 x2 x3 x4 x5 y0 h2)
  else
  (some (x4, h2)))
set_option maxRecDepth 20000 in
set_option maxHeartbeats 1600000 in
theorem g_X5_word_60 {n d : Nat} {k31 : Nat → Int32 → Int32 → Int32 → Int32 → gH → Option (Int32 × gH)} (t31 : ∀ {x0 : Nat} {x1 : Int32} {x2 : Int32} {x3 : Int32} {x4 : Int32} {h : gH} {rh : gH} {rv : Int32}, k31 x0 x1 x2 x3 x4 h = some (rv, rh) → G M_X5_word (d + 7) 0 0 0 0 31 [some (.ref x0), some (.int x1), some (.int x2), some (.int x3), some (.int x4), none, none] [] h (qI rv rh)) : ∀ {x0 : Nat} {x1 : Int32} {x2 : Int32} {x3 : Int32} {x4 : Int32} {x5 : Nat} {y0 : Int32} {h : gH} {rh : gH} {rv : Int32}, F_X5_word_60 n k31 x0 x1 x2 x3 x4 x5 y0 h = some (rv, rh) → G M_X5_word (d + 7) 0 0 0 0 60 [some (.ref x0), some (.int x1), some (.int x2), some (.int x3), some (.int x4), some (.ref x5), none] [.int y0] h (qI rv rh) := by
  intro x0 x1 x2 x3 x4 x5 y0 h rh rv hf
  unfold F_X5_word_60 at hf
  refine g_istore dX5_word_60 (by decide) (g_lvp (lv2 := [some (.ref x0), some (.int x1), some (.int x2), some (.int x3), some (.int x4), some (.ref x5), some (.int y0)]) (pc2 := 62) rfl rfl ?_)
  refine g_iload dX5_word_62 rfl ?_
  refine g_if_eq (tgt := 79) dX5_word_64 (by decide) (fun c1 => ?_) (fun c1 => ?_)
  · rw [if_pos c1] at hf
    exact g_X5_word_79 t31 hf
  · rw [if_neg c1] at hf
    refine g_iload_n dX5_word_67 rfl ?_
    refine g_aload dX5_word_68 rfl ?_
    replace hf := gB_of hf
    obtain ⟨v4, h2, q3, hf⟩ := hf
    refine g_callStr (as := []) (mc1 := 0) (ms1 := 0) s_X5_87 dX5_word_70 (b_J0_length_8abf5 q3) rfl (Nat.le_of_ble_eq_true rfl) (Nat.le_of_ble_eq_true rfl) (Nat.le_of_ble_eq_true rfl) (t_J0_length_8abf5 (d := d + 0) q3) (fun r9 h9 q9 => ?_)
    obtain ⟨rfl, rfl⟩ := q9
    refine g_stp (st2 := [.int v4, .int x2]) (pc2 := 73) (kc2 := 0) (kn2 := 0) rfl rfl rfl rfl ?_
    refine g_icmp_lt (tgt := 79) dX5_word_73 (by decide) (fun c5 => ?_) (fun c5 => ?_)
    · rw [if_pos c5] at hf
      exact g_X5_word_79 t31 hf
    · rw [if_neg c5] at hf
      refine g_iload dX5_word_76 rfl ?_
      obtain ⟨rfl, rfl⟩ := Prod.mk.inj (Option.some.inj hf)
      exact g_iret dX5_word_78 rfl ⟨rfl, rfl⟩ (Nat.le_of_ble_eq_true rfl) (Nat.le_of_ble_eq_true rfl)
def F_X5_word_31 (n : Nat) (k21 : Nat → Int32 → Int32 → gH → Option (Int32 × gH)) : Nat → Nat → Int32 → Int32 → Int32 → Int32 → gH → Option (Int32 × gH)
  | 0, _, _, _, _, _, _ => none
  | m + 1, x0, x1, x2, x3, x4, h => if (7 : Int32) ≤ x4 then
  (if x3 = 0 then
  (some ((-1 : Int32), h))
  else
  ((gI h x0 5 3).bind fun v3 =>
  (pF h x0 5 3 (.int (v3 + (1 : Int32)))).bind fun h5 =>
  k21 x0 x3 (x2 + (1 : Int32)) h5))
  else
  (gB (F_X5_wordOf n x4 h) fun v9 h7 =>
  if ((x1 >>> (x4 &&& 31)) &&& (1 : Int32)) = (1 : Int32) then
  (F_X5_word_60 n (F_X5_word_31 n k21 m) x0 x1 x2 x3 x4 v9 (1 : Int32) h7)
  else
  (F_X5_word_60 n (F_X5_word_31 n k21 m) x0 x1 x2 x3 x4 v9 (0 : Int32) h7))
set_option maxRecDepth 20000 in
set_option maxHeartbeats 1600000 in
theorem g_X5_word_31 {n d : Nat} {k21 : Nat → Int32 → Int32 → gH → Option (Int32 × gH)} (t21 : ∀ {x0 : Nat} {x1 : Int32} {x2 : Int32} {h : gH} {rh : gH} {rv : Int32}, k21 x0 x1 x2 h = some (rv, rh) → G M_X5_word (d + 7) 0 0 0 0 21 [some (.ref x0), some (.int x1), some (.int x2), none, none, none, none] [] h (qI rv rh)) : ∀ {m : Nat} {x0 : Nat} {x1 : Int32} {x2 : Int32} {x3 : Int32} {x4 : Int32} {h : gH} {rh : gH} {rv : Int32}, F_X5_word_31 n k21 m x0 x1 x2 x3 x4 h = some (rv, rh) → G M_X5_word (d + 7) 0 0 0 0 31 [some (.ref x0), some (.int x1), some (.int x2), some (.int x3), some (.int x4), none, none] [] h (qI rv rh) := by
  intro m
  induction m with
  | zero => intro x0 x1 x2 x3 x4 h rh rv hf; cases hf
  | succ m t31 =>
    intro x0 x1 x2 x3 x4 h rh rv hf
    unfold F_X5_word_31 at hf
    refine g_iload dX5_word_31 rfl ?_
    refine g_bipush (v := (7 : Int32)) dX5_word_33 (by decide) ?_
    refine g_icmp_ge (tgt := 110) dX5_word_35 (by decide) (fun c1 => ?_) (fun c1 => ?_)
    · rw [if_pos c1] at hf
      refine g_iload_n dX5_word_110 rfl ?_
      refine g_if_ne (tgt := 116) dX5_word_111 (by decide) (fun c2 => ?_) (fun c2 => ?_)
      · rw [if_neg c2] at hf
        refine g_iload_n dX5_word_116 rfl ?_
        refine g_istore_n dX5_word_117 (by decide) (g_lvp (lv2 := [some (.ref x0), some (.int x3), some (.int x2), some (.int x3), some (.int x4), none, none]) (pc2 := 118) rfl rfl ?_)
        refine g_aload_n dX5_word_118 rfl ?_
        refine g_dup dX5_word_119 rfl ?_
        replace hf := Option.bind_eq_some_iff.mp hf
        obtain ⟨v3, q4, hf⟩ := hf
        refine g_gI f_X5_39 dX5_word_120 q4 ?_
        refine g_iconst (v := (1 : Int32)) dX5_word_123 (by decide) ?_
        refine g_iadd dX5_word_124 ?_
        replace hf := Option.bind_eq_some_iff.mp hf
        obtain ⟨h5, q6, hf⟩ := hf
        refine g_pF p_X5_39 dX5_word_125 q6 (fun _ => rfl) (fun _ => rfl) ?_
        refine g_iinc2 (w := (1 : Int32)) dX5_word_128 (by decide) rfl (by decide) (g_lvp (lv2 := [some (.ref x0), some (.int x3), some (.int (x2 + (1 : Int32))), some (.int x3), some (.int x4), none, none]) (pc2 := 131) rfl rfl ?_)
        refine g_goto (tgt := 21) dX5_word_131 (by decide) ?_
        refine g_weak (lv2 := [some (.ref x0), some (.int x3), some (.int (x2 + (1 : Int32))), none, none, none, none]) (And.intro rfl (And.intro rfl (And.intro rfl (trivial)))) ?_
        exact t21 hf
      · rw [if_pos c2] at hf
        refine g_iconst (v := (-1 : Int32)) dX5_word_114 (by decide) ?_
        obtain ⟨rfl, rfl⟩ := Prod.mk.inj (Option.some.inj hf)
        exact g_iret dX5_word_115 rfl ⟨rfl, rfl⟩ (Nat.le_of_ble_eq_true rfl) (Nat.le_of_ble_eq_true rfl)
    · rw [if_neg c1] at hf
      refine g_iload dX5_word_38 rfl ?_
      replace hf := gB_of hf
      obtain ⟨v9, h7, q8, hf⟩ := hf
      refine g_callS (as := [.int x4]) (mc1 := 0) (ms1 := 0) s_X5_83_X5_wordOf dX5_word_40 rfl (Nat.le_of_ble_eq_true rfl) (Nat.le_of_ble_eq_true rfl) (Nat.le_of_ble_eq_true rfl) (t_X5_wordOf (d := d + 6) q8) (fun r9 h9 q9 => ?_)
      obtain ⟨rfl, rfl⟩ := q9
      refine g_stp (st2 := [.ref v9]) (pc2 := 43) (kc2 := 0) (kn2 := 0) rfl rfl rfl rfl ?_
      refine g_astore dX5_word_43 (by decide) (g_lvp (lv2 := [some (.ref x0), some (.int x1), some (.int x2), some (.int x3), some (.int x4), some (.ref v9), none]) (pc2 := 45) rfl rfl ?_)
      refine g_iload_n dX5_word_45 rfl ?_
      refine g_iload dX5_word_46 rfl ?_
      refine g_ishr dX5_word_48 ?_
      refine g_iconst (v := (1 : Int32)) dX5_word_49 (by decide) ?_
      refine g_iand dX5_word_50 ?_
      refine g_iconst (v := (1 : Int32)) dX5_word_51 (by decide) ?_
      refine g_icmp_ne (tgt := 59) dX5_word_52 (by decide) (fun c10 => ?_) (fun c10 => ?_)
      · rw [if_neg c10] at hf
        refine g_iconst (v := (0 : Int32)) dX5_word_59 (by decide) ?_
        exact g_X5_word_60 t31 hf
      · rw [if_pos c10] at hf
        refine g_iconst (v := (1 : Int32)) dX5_word_55 (by decide) ?_
        refine g_goto (tgt := 60) dX5_word_56 (by decide) ?_
        exact g_X5_word_60 t31 hf
def F_X5_word_21 (n : Nat)  : Nat → Nat → Int32 → Int32 → gH → Option (Int32 × gH)
  | 0, _, _, _, _ => none
  | m + 1, x0, x1, x2, h => if (5 : Int32) < x2 then
  (some ((-1 : Int32), h))
  else
  (F_X5_word_31 n (F_X5_word_21 n m) n x0 x1 x2 (0 : Int32) (0 : Int32) h)
set_option maxRecDepth 20000 in
set_option maxHeartbeats 1600000 in
theorem g_X5_word_21 {n d : Nat} : ∀ {m : Nat} {x0 : Nat} {x1 : Int32} {x2 : Int32} {h : gH} {rh : gH} {rv : Int32}, F_X5_word_21 n m x0 x1 x2 h = some (rv, rh) → G M_X5_word (d + 7) 0 0 0 0 21 [some (.ref x0), some (.int x1), some (.int x2), none, none, none, none] [] h (qI rv rh) := by
  intro m
  induction m with
  | zero => intro x0 x1 x2 h rh rv hf; cases hf
  | succ m t21 =>
    intro x0 x1 x2 h rh rv hf
    unfold F_X5_word_21 at hf
    refine g_iload_n dX5_word_21 rfl ?_
    refine g_iconst (v := (5 : Int32)) dX5_word_22 (by decide) ?_
    refine g_icmp_gt (tgt := 134) dX5_word_23 (by decide) (fun c1 => ?_) (fun c1 => ?_)
    · rw [if_pos c1] at hf
      refine g_iconst (v := (-1 : Int32)) dX5_word_134 (by decide) ?_
      obtain ⟨rfl, rfl⟩ := Prod.mk.inj (Option.some.inj hf)
      exact g_iret dX5_word_135 rfl ⟨rfl, rfl⟩ (Nat.le_of_ble_eq_true rfl) (Nat.le_of_ble_eq_true rfl)
    · rw [if_neg c1] at hf
      refine g_iconst (v := (0 : Int32)) dX5_word_26 (by decide) ?_
      refine g_istore_n dX5_word_27 (by decide) (g_lvp (lv2 := [some (.ref x0), some (.int x1), some (.int x2), some (.int (0 : Int32)), none, none, none]) (pc2 := 28) rfl rfl ?_)
      refine g_iconst (v := (0 : Int32)) dX5_word_28 (by decide) ?_
      refine g_istore dX5_word_29 (by decide) (g_lvp (lv2 := [some (.ref x0), some (.int x1), some (.int x2), some (.int (0 : Int32)), some (.int (0 : Int32)), none, none]) (pc2 := 31) rfl rfl ?_)
      exact g_X5_word_31 t21 hf
def F_X5_word_19 (n : Nat)  (x0 : Nat) (x1 : Int32) (h : gH) : Option (Int32 × gH) :=
  F_X5_word_21 n n x0 x1 (0 : Int32) h
set_option maxRecDepth 20000 in
set_option maxHeartbeats 1600000 in
theorem g_X5_word_19 {n d : Nat} : ∀ {x0 : Nat} {x1 : Int32} {h : gH} {rh : gH} {rv : Int32}, F_X5_word_19 n x0 x1 h = some (rv, rh) → G M_X5_word (d + 7) 0 0 0 0 19 [some (.ref x0), some (.int x1), none, none, none, none, none] [] h (qI rv rh) := by
  intro x0 x1 h rh rv hf
  unfold F_X5_word_19 at hf
  refine g_iconst (v := (0 : Int32)) dX5_word_19 (by decide) ?_
  refine g_istore_n dX5_word_20 (by decide) (g_lvp (lv2 := [some (.ref x0), some (.int x1), some (.int (0 : Int32)), none, none, none, none]) (pc2 := 21) rfl rfl ?_)
  exact g_X5_word_21 hf
def F_X5_word_0 (n : Nat)  (x0 : Nat) (h : gH) : Option (Int32 × gH) :=
  (gR h x0 5 0).bind fun v1 =>
  (gI h v1 6 8).bind fun v3 =>
  if v3 < (8 : Int32) then
  (F_X5_word_19 n x0 (127 : Int32) h)
  else
  (F_X5_word_19 n x0 ((127 : Int32) ^^^ (1 : Int32)) h)
set_option maxRecDepth 20000 in
set_option maxHeartbeats 1600000 in
theorem g_X5_word_0 {n d : Nat} : ∀ {x0 : Nat} {h : gH} {rh : gH} {rv : Int32}, F_X5_word_0 n x0 h = some (rv, rh) → G M_X5_word (d + 7) 0 0 0 0 0 [some (.ref x0), none, none, none, none, none, none] [] h (qI rv rh) := by
  intro x0 h rh rv hf
  unfold F_X5_word_0 at hf
  refine g_bipush (v := (127 : Int32)) dX5_word_0 (by decide) ?_
  refine g_istore_n dX5_word_2 (by decide) (g_lvp (lv2 := [some (.ref x0), some (.int (127 : Int32)), none, none, none, none, none]) (pc2 := 3) rfl rfl ?_)
  refine g_aload_n dX5_word_3 rfl ?_
  replace hf := Option.bind_eq_some_iff.mp hf
  obtain ⟨v1, q2, hf⟩ := hf
  refine g_gR f_X5_12 dX5_word_4 q2 ?_
  replace hf := Option.bind_eq_some_iff.mp hf
  obtain ⟨v3, q4, hf⟩ := hf
  refine g_gI f_X5_49 dX5_word_7 q4 ?_
  refine g_bipush (v := (8 : Int32)) dX5_word_10 (by decide) ?_
  refine g_icmp_lt (tgt := 19) dX5_word_12 (by decide) (fun c5 => ?_) (fun c5 => ?_)
  · rw [if_pos c5] at hf
    exact g_X5_word_19 hf
  · rw [if_neg c5] at hf
    refine g_iload_n dX5_word_15 rfl ?_
    refine g_iconst (v := (1 : Int32)) dX5_word_16 (by decide) ?_
    refine g_ixor dX5_word_17 ?_
    refine g_istore_n dX5_word_18 (by decide) (g_lvp (lv2 := [some (.ref x0), some (.int ((127 : Int32) ^^^ (1 : Int32))), none, none, none, none, none]) (pc2 := 19) rfl rfl ?_)
    exact g_X5_word_19 hf
def F_X5_word (n : Nat) (a : Nat) (h : gH) : Option (Int32 × gH) := F_X5_word_0 n  a h
theorem t_X5_word {n d : Nat} {a : Nat} {h rh : gH} {rv : Int32} (hf : F_X5_word n a h = some (rv, rh)) : T M_X5_word (d + 7) 0 0 [.ref a] h (qI rv rh) := by
  refine T_of_G (L := 6) (by decide +kernel) rfl (Nat.le_of_ble_eq_true rfl) (g_lv (lv2 := [some (.ref a), none, none, none, none, none, none]) rfl ?_)
  exact g_X5_word_0 hf
def F_X5_clause_18 (n : Nat)   (h : gH) : Option (Int32 × gH) :=
  some ((0 : Int32), h)
set_option maxRecDepth 20000 in
set_option maxHeartbeats 1600000 in
theorem g_X5_clause_18 {n d : Nat} : ∀  {h : gH} {rh : gH} {rv : Int32}, F_X5_clause_18 n  h = some (rv, rh) → G M_X5_clause (d + 48) 0 0 0 0 18 [none, none] [] h (qI rv rh) := by
  intro  h rh rv hf
  unfold F_X5_clause_18 at hf
  refine g_iconst (v := (0 : Int32)) dX5_clause_18 (by decide) ?_
  obtain ⟨rfl, rfl⟩ := Prod.mk.inj (Option.some.inj hf)
  exact g_zret (ty := .boolean) dX5_clause_19 rfl (by decide +kernel) ⟨rfl, rfl⟩ (Nat.le_of_ble_eq_true rfl) (Nat.le_of_ble_eq_true rfl)
def F_X5_clause_0 (n : Nat)  (x0 : Nat) (h : gH) : Option (Int32 × gH) :=
  (gO h x0 5).bind fun f1 =>
  gB (F_X5_word n x0  h) fun v5 h3 =>
  if v5 < 0 then
  (F_X5_clause_18 n h3)
  else
  ((gO h3 x0 5).bind fun f7 =>
  gB (F_X5_sign n x0 (32 : Int32) h3) fun v11 h9 =>
  if v11 = 0 then
  (F_X5_clause_18 n h9)
  else
  (if v5 = (0 : Int32) then
  ((gO h9 x0 5).bind fun f14 =>
  gB (F_X5_piece n x0  h9) fun v18 h16 =>
  if v18 = 0 ∨ v18 = 1 then some (v18, h16) else none)
  else if v5 = (1 : Int32) then
  ((gO h9 x0 5).bind fun f21 =>
  gB (F_X5_bend n x0  h9) fun v25 h23 =>
  if v25 = 0 ∨ v25 = 1 then some (v25, h23) else none)
  else if v5 = (2 : Int32) then
  ((gO h9 x0 5).bind fun f28 =>
  gB (F_X5_ease n x0  h9) fun v32 h30 =>
  if v32 = 0 ∨ v32 = 1 then some (v32, h30) else none)
  else ((gO h9 x0 5).bind fun f34 =>
  gB (F_X5_setting n x0 v5 h9) fun v38 h36 =>
  if v38 = 0 ∨ v38 = 1 then some (v38, h36) else none)))
set_option maxRecDepth 20000 in
set_option maxHeartbeats 1600000 in
theorem g_X5_clause_0 {n d : Nat} : ∀ {x0 : Nat} {h : gH} {rh : gH} {rv : Int32}, F_X5_clause_0 n x0 h = some (rv, rh) → G M_X5_clause (d + 48) 0 0 0 0 0 [some (.ref x0), none] [] h (qI rv rh) := by
  intro x0 h rh rv hf
  unfold F_X5_clause_0 at hf
  refine g_aload_n dX5_clause_0 rfl ?_
  replace hf := Option.bind_eq_some_iff.mp hf
  obtain ⟨f1, q2, hf⟩ := hf
  replace hf := gB_of hf
  obtain ⟨v5, h3, q4, hf⟩ := hf
  refine g_callV (as := []) (mc1 := 0) (ms1 := 0) s_X5_94_X5_word_5 dX5_clause_1 (gO_of q2) rfl (Nat.le_of_ble_eq_true rfl) (Nat.le_of_ble_eq_true rfl) (Nat.le_of_ble_eq_true rfl) (t_X5_word (d := d + 40) q4) (fun r9 h9 q9 => ?_)
  obtain ⟨rfl, rfl⟩ := q9
  refine g_stp (st2 := [.int v5]) (pc2 := 4) (kc2 := 0) (kn2 := 0) rfl rfl rfl rfl ?_
  refine g_istore_n dX5_clause_4 (by decide) (g_lvp (lv2 := [some (.ref x0), some (.int v5)]) (pc2 := 5) rfl rfl ?_)
  refine g_iload_n dX5_clause_5 rfl ?_
  refine g_if_lt (tgt := 18) dX5_clause_6 (by decide) (fun c6 => ?_) (fun c6 => ?_)
  · rw [if_pos c6] at hf
    refine g_weak (lv2 := [none, none]) (trivial) ?_
    exact g_X5_clause_18 hf
  · rw [if_neg c6] at hf
    refine g_aload_n dX5_clause_9 rfl ?_
    refine g_bipush (v := (32 : Int32)) dX5_clause_10 (by decide) ?_
    replace hf := Option.bind_eq_some_iff.mp hf
    obtain ⟨f7, q8, hf⟩ := hf
    replace hf := gB_of hf
    obtain ⟨v11, h9, q10, hf⟩ := hf
    refine g_callV (as := [.int (32 : Int32)]) (mc1 := 0) (ms1 := 0) s_X5_52_X5_sign_5 dX5_clause_12 (gO_of q8) rfl (Nat.le_of_ble_eq_true rfl) (Nat.le_of_ble_eq_true rfl) (Nat.le_of_ble_eq_true rfl) (t_X5_sign (d := d + 46) q10) (fun r9 h9 q9 => ?_)
    obtain ⟨rfl, rfl⟩ := q9
    refine g_stp (st2 := [.int v11]) (pc2 := 15) (kc2 := 0) (kn2 := 0) rfl rfl rfl rfl ?_
    refine g_if_ne (tgt := 20) dX5_clause_15 (by decide) (fun c12 => ?_) (fun c12 => ?_)
    · rw [if_neg c12] at hf
      refine g_iload_n dX5_clause_20 rfl ?_
      by_cases c13 : v5 = (0 : Int32)
      · rw [if_pos c13] at hf
        refine g_tswK (k := (0 : Int32)) (off := 27) (tgt := 48) dX5_clause_21 c13 (by decide) (by decide) (by decide) (by decide) ?_
        refine g_aload_n dX5_clause_48 rfl ?_
        replace hf := Option.bind_eq_some_iff.mp hf
        obtain ⟨f14, q15, hf⟩ := hf
        replace hf := gB_of hf
        obtain ⟨v18, h16, q17, hf⟩ := hf
        refine g_callV (as := []) (mc1 := 0) (ms1 := 0) s_X5_97_X5_piece_5 dX5_clause_49 (gO_of q15) rfl (Nat.le_of_ble_eq_true rfl) (Nat.le_of_ble_eq_true rfl) (Nat.le_of_ble_eq_true rfl) (t_X5_piece (d := d + 45) q17) (fun r9 h9 q9 => ?_)
        obtain ⟨rfl, rfl⟩ := q9
        refine g_stp (st2 := [.int v18]) (pc2 := 52) (kc2 := 0) (kn2 := 0) rfl rfl rfl rfl ?_
        by_cases c19 : v18 = 0 ∨ v18 = 1
        · rw [if_pos c19] at hf
          obtain ⟨rfl, rfl⟩ := Prod.mk.inj (Option.some.inj hf)
          exact g_zret (ty := .boolean) dX5_clause_52 rfl (gZ_nar c19) ⟨rfl, rfl⟩ (Nat.le_of_ble_eq_true rfl) (Nat.le_of_ble_eq_true rfl)
        · rw [if_neg c19] at hf; cases hf
      rw [if_neg c13] at hf
      by_cases c20 : v5 = (1 : Int32)
      · rw [if_pos c20] at hf
        refine g_tswK (k := (1 : Int32)) (off := 32) (tgt := 53) dX5_clause_21 c20 (by decide) (by decide) (by decide) (by decide) ?_
        refine g_aload_n dX5_clause_53 rfl ?_
        replace hf := Option.bind_eq_some_iff.mp hf
        obtain ⟨f21, q22, hf⟩ := hf
        replace hf := gB_of hf
        obtain ⟨v25, h23, q24, hf⟩ := hf
        refine g_callV (as := []) (mc1 := 0) (ms1 := 0) s_X5_99_X5_bend_5 dX5_clause_54 (gO_of q22) rfl (Nat.le_of_ble_eq_true rfl) (Nat.le_of_ble_eq_true rfl) (Nat.le_of_ble_eq_true rfl) (t_X5_bend (d := d + 45) q24) (fun r9 h9 q9 => ?_)
        obtain ⟨rfl, rfl⟩ := q9
        refine g_stp (st2 := [.int v25]) (pc2 := 57) (kc2 := 0) (kn2 := 0) rfl rfl rfl rfl ?_
        by_cases c26 : v25 = 0 ∨ v25 = 1
        · rw [if_pos c26] at hf
          obtain ⟨rfl, rfl⟩ := Prod.mk.inj (Option.some.inj hf)
          exact g_zret (ty := .boolean) dX5_clause_57 rfl (gZ_nar c26) ⟨rfl, rfl⟩ (Nat.le_of_ble_eq_true rfl) (Nat.le_of_ble_eq_true rfl)
        · rw [if_neg c26] at hf; cases hf
      rw [if_neg c20] at hf
      by_cases c27 : v5 = (2 : Int32)
      · rw [if_pos c27] at hf
        refine g_tswK (k := (2 : Int32)) (off := 37) (tgt := 58) dX5_clause_21 c27 (by decide) (by decide) (by decide) (by decide) ?_
        refine g_aload_n dX5_clause_58 rfl ?_
        replace hf := Option.bind_eq_some_iff.mp hf
        obtain ⟨f28, q29, hf⟩ := hf
        replace hf := gB_of hf
        obtain ⟨v32, h30, q31, hf⟩ := hf
        refine g_callV (as := []) (mc1 := 0) (ms1 := 0) s_X5_101_X5_ease_5 dX5_clause_59 (gO_of q29) rfl (Nat.le_of_ble_eq_true rfl) (Nat.le_of_ble_eq_true rfl) (Nat.le_of_ble_eq_true rfl) (t_X5_ease (d := d + 0) q31) (fun r9 h9 q9 => ?_)
        obtain ⟨rfl, rfl⟩ := q9
        refine g_stp (st2 := [.int v32]) (pc2 := 62) (kc2 := 0) (kn2 := 0) rfl rfl rfl rfl ?_
        by_cases c33 : v32 = 0 ∨ v32 = 1
        · rw [if_pos c33] at hf
          obtain ⟨rfl, rfl⟩ := Prod.mk.inj (Option.some.inj hf)
          exact g_zret (ty := .boolean) dX5_clause_62 rfl (gZ_nar c33) ⟨rfl, rfl⟩ (Nat.le_of_ble_eq_true rfl) (Nat.le_of_ble_eq_true rfl)
        · rw [if_neg c33] at hf; cases hf
      rw [if_neg c27] at hf
      have zc13 : (v5).toInt ≠ 0 := fun e => c13 (Int32.toInt_inj.mp (e.trans (by decide)))
      have zc20 : (v5).toInt ≠ 1 := fun e => c20 (Int32.toInt_inj.mp (e.trans (by decide)))
      have zc27 : (v5).toInt ≠ 2 := fun e => c27 (Int32.toInt_inj.mp (e.trans (by decide)))
      refine g_tableOut (tgt := 63) dX5_clause_21 (by omega) (by decide) ?_
      refine g_aload_n dX5_clause_63 rfl ?_
      refine g_iload_n dX5_clause_64 rfl ?_
      replace hf := Option.bind_eq_some_iff.mp hf
      obtain ⟨f34, q35, hf⟩ := hf
      replace hf := gB_of hf
      obtain ⟨v38, h36, q37, hf⟩ := hf
      refine g_callV (as := [.int v5]) (mc1 := 0) (ms1 := 0) s_X5_103_X5_setting_5 dX5_clause_65 (gO_of q35) rfl (Nat.le_of_ble_eq_true rfl) (Nat.le_of_ble_eq_true rfl) (Nat.le_of_ble_eq_true rfl) (t_X5_setting (d := d + 45) q37) (fun r9 h9 q9 => ?_)
      obtain ⟨rfl, rfl⟩ := q9
      refine g_stp (st2 := [.int v38]) (pc2 := 68) (kc2 := 0) (kn2 := 0) rfl rfl rfl rfl ?_
      by_cases c39 : v38 = 0 ∨ v38 = 1
      · rw [if_pos c39] at hf
        obtain ⟨rfl, rfl⟩ := Prod.mk.inj (Option.some.inj hf)
        exact g_zret (ty := .boolean) dX5_clause_68 rfl (gZ_nar c39) ⟨rfl, rfl⟩ (Nat.le_of_ble_eq_true rfl) (Nat.le_of_ble_eq_true rfl)
      · rw [if_neg c39] at hf; cases hf
    · rw [if_pos c12] at hf
      refine g_weak (lv2 := [none, none]) (trivial) ?_
      exact g_X5_clause_18 hf
def F_X5_clause (n : Nat) (a : Nat) (h : gH) : Option (Int32 × gH) := F_X5_clause_0 n  a h
theorem t_X5_clause {n d : Nat} {a : Nat} {h rh : gH} {rv : Int32} (hf : F_X5_clause n a h = some (rv, rh)) : T M_X5_clause (d + 48) 0 0 [.ref a] h (qI rv rh) := by
  refine T_of_G (L := 1) (by decide +kernel) rfl (Nat.le_of_ble_eq_true rfl) (g_lv (lv2 := [some (.ref a), none]) rfl ?_)
  exact g_X5_clause_0 hf
def F_X5_read_99 (n : Nat)  (x0 : Nat) (h : gH) : Option (Int32 × gH) :=
  (gI h x0 5 3).bind fun v1 =>
  some (v1, h)
set_option maxRecDepth 20000 in
set_option maxHeartbeats 1600000 in
theorem g_X5_read_99 {n d : Nat} : ∀ {x0 : Nat} {h : gH} {rh : gH} {rv : Int32}, F_X5_read_99 n x0 h = some (rv, rh) → G M_X5_read (d + 49) 0 0 0 0 99 [some (.ref x0), none, none, none] [] h (qI rv rh) := by
  intro x0 h rh rv hf
  unfold F_X5_read_99 at hf
  refine g_aload_n dX5_read_99 rfl ?_
  replace hf := Option.bind_eq_some_iff.mp hf
  obtain ⟨v1, q2, hf⟩ := hf
  refine g_gI f_X5_39 dX5_read_100 q2 ?_
  obtain ⟨rfl, rfl⟩ := Prod.mk.inj (Option.some.inj hf)
  exact g_iret dX5_read_103 rfl ⟨rfl, rfl⟩ (Nat.le_of_ble_eq_true rfl) (Nat.le_of_ble_eq_true rfl)
def F_X5_read_83 (n : Nat)  (y0 : Int32) (h : gH) : Option (Int32 × gH) :=
  some (y0, h)
set_option maxRecDepth 20000 in
set_option maxHeartbeats 1600000 in
theorem g_X5_read_83 {n d : Nat} : ∀ {y0 : Int32} {h : gH} {rh : gH} {rv : Int32}, F_X5_read_83 n y0 h = some (rv, rh) → G M_X5_read (d + 49) 0 0 0 0 83 [none, none, none, none] [.int y0] h (qI rv rh) := by
  intro y0 h rh rv hf
  unfold F_X5_read_83 at hf
  obtain ⟨rfl, rfl⟩ := Prod.mk.inj (Option.some.inj hf)
  exact g_iret dX5_read_83 rfl ⟨rfl, rfl⟩ (Nat.le_of_ble_eq_true rfl) (Nat.le_of_ble_eq_true rfl)
def F_X5_read_36 (n : Nat)  : Nat → Nat → Int32 → gH → Option (Int32 × gH)
  | 0, _, _, _ => none
  | m + 1, x0, x3, h => if (14 : Int32) < x3 then
  ((gI h x0 5 3).bind fun v2 =>
  some (v2, h))
  else
  ((gO h x0 5).bind fun f4 =>
  gB (F_X5_clause n x0  h) fun v8 h6 =>
  if v8 = 0 then
  ((gI h6 x0 5 3).bind fun v29 =>
  some (v29, h6))
  else
  ((gI h6 x0 5 3).bind fun v10 =>
  (gI h6 x0 5 2).bind fun v12 =>
  if v10 < v12 then
  (if x3 = (14 : Int32) then
  (F_X5_read_99 n x0 h6)
  else
  ((gO h6 x0 5).bind fun f16 =>
  gB (F_X5_sign n x0 (59 : Int32) h6) fun v20 h18 =>
  if v20 = 0 then
  (F_X5_read_99 n x0 h18)
  else
  (F_X5_read_36 n m x0 (x3 + (1 : Int32)) h18)))
  else
  ((gR h6 x0 5 0).bind fun v22 =>
  (gI h6 v22 6 8).bind fun v24 =>
  if v24 ≤ 0 then
  ((gI h6 x0 5 2).bind fun v27 =>
  F_X5_read_83 n v27 h6)
  else
  (F_X5_read_83 n (-1 : Int32) h6))))
set_option maxRecDepth 20000 in
set_option maxHeartbeats 1600000 in
theorem g_X5_read_36 {n d : Nat} : ∀ {m : Nat} {x0 : Nat} {x3 : Int32} {h : gH} {rh : gH} {rv : Int32}, F_X5_read_36 n m x0 x3 h = some (rv, rh) → G M_X5_read (d + 49) 0 0 0 0 36 [some (.ref x0), none, none, some (.int x3)] [] h (qI rv rh) := by
  intro m
  induction m with
  | zero => intro x0 x3 h rh rv hf; cases hf
  | succ m t36 =>
    intro x0 x3 h rh rv hf
    unfold F_X5_read_36 at hf
    refine g_iload_n dX5_read_36 rfl ?_
    refine g_bipush (v := (14 : Int32)) dX5_read_37 (by decide) ?_
    refine g_icmp_gt (tgt := 110) dX5_read_39 (by decide) (fun c1 => ?_) (fun c1 => ?_)
    · rw [if_pos c1] at hf
      refine g_aload_n dX5_read_110 rfl ?_
      replace hf := Option.bind_eq_some_iff.mp hf
      obtain ⟨v2, q3, hf⟩ := hf
      refine g_gI f_X5_39 dX5_read_111 q3 ?_
      obtain ⟨rfl, rfl⟩ := Prod.mk.inj (Option.some.inj hf)
      exact g_iret dX5_read_114 rfl ⟨rfl, rfl⟩ (Nat.le_of_ble_eq_true rfl) (Nat.le_of_ble_eq_true rfl)
    · rw [if_neg c1] at hf
      refine g_aload_n dX5_read_42 rfl ?_
      replace hf := Option.bind_eq_some_iff.mp hf
      obtain ⟨f4, q5, hf⟩ := hf
      replace hf := gB_of hf
      obtain ⟨v8, h6, q7, hf⟩ := hf
      refine g_callV (as := []) (mc1 := 0) (ms1 := 0) s_X5_45_X5_clause_5 dX5_read_43 (gO_of q5) rfl (Nat.le_of_ble_eq_true rfl) (Nat.le_of_ble_eq_true rfl) (Nat.le_of_ble_eq_true rfl) (t_X5_clause (d := d + 0) q7) (fun r9 h9 q9 => ?_)
      obtain ⟨rfl, rfl⟩ := q9
      refine g_stp (st2 := [.int v8]) (pc2 := 46) (kc2 := 0) (kn2 := 0) rfl rfl rfl rfl ?_
      refine g_if_ne (tgt := 54) dX5_read_46 (by decide) (fun c9 => ?_) (fun c9 => ?_)
      · rw [if_neg c9] at hf
        refine g_aload_n dX5_read_54 rfl ?_
        replace hf := Option.bind_eq_some_iff.mp hf
        obtain ⟨v10, q11, hf⟩ := hf
        refine g_gI f_X5_39 dX5_read_55 q11 ?_
        refine g_aload_n dX5_read_58 rfl ?_
        replace hf := Option.bind_eq_some_iff.mp hf
        obtain ⟨v12, q13, hf⟩ := hf
        refine g_gI f_X5_35 dX5_read_59 q13 ?_
        refine g_icmp_lt (tgt := 84) dX5_read_62 (by decide) (fun c14 => ?_) (fun c14 => ?_)
        · rw [if_pos c14] at hf
          refine g_iload_n dX5_read_84 rfl ?_
          refine g_bipush (v := (14 : Int32)) dX5_read_85 (by decide) ?_
          refine g_icmp_eq (tgt := 99) dX5_read_87 (by decide) (fun c15 => ?_) (fun c15 => ?_)
          · rw [if_pos c15] at hf
            refine g_weak (lv2 := [some (.ref x0), none, none, none]) (And.intro rfl (trivial)) ?_
            exact g_X5_read_99 hf
          · rw [if_neg c15] at hf
            refine g_aload_n dX5_read_90 rfl ?_
            refine g_bipush (v := (59 : Int32)) dX5_read_91 (by decide) ?_
            replace hf := Option.bind_eq_some_iff.mp hf
            obtain ⟨f16, q17, hf⟩ := hf
            replace hf := gB_of hf
            obtain ⟨v20, h18, q19, hf⟩ := hf
            refine g_callV (as := [.int (59 : Int32)]) (mc1 := 0) (ms1 := 0) s_X5_52_X5_sign_5 dX5_read_93 (gO_of q17) rfl (Nat.le_of_ble_eq_true rfl) (Nat.le_of_ble_eq_true rfl) (Nat.le_of_ble_eq_true rfl) (t_X5_sign (d := d + 47) q19) (fun r9 h9 q9 => ?_)
            obtain ⟨rfl, rfl⟩ := q9
            refine g_stp (st2 := [.int v20]) (pc2 := 96) (kc2 := 0) (kn2 := 0) rfl rfl rfl rfl ?_
            refine g_if_ne (tgt := 104) dX5_read_96 (by decide) (fun c21 => ?_) (fun c21 => ?_)
            · rw [if_neg c21] at hf
              refine g_iinc2 (w := (1 : Int32)) dX5_read_104 (by decide) rfl (by decide) (g_lvp (lv2 := [some (.ref x0), none, none, some (.int (x3 + (1 : Int32)))]) (pc2 := 107) rfl rfl ?_)
              refine g_goto (tgt := 36) dX5_read_107 (by decide) ?_
              exact t36 hf
            · rw [if_pos c21] at hf
              refine g_weak (lv2 := [some (.ref x0), none, none, none]) (And.intro rfl (trivial)) ?_
              exact g_X5_read_99 hf
        · rw [if_neg c14] at hf
          refine g_aload_n dX5_read_65 rfl ?_
          replace hf := Option.bind_eq_some_iff.mp hf
          obtain ⟨v22, q23, hf⟩ := hf
          refine g_gR f_X5_12 dX5_read_66 q23 ?_
          replace hf := Option.bind_eq_some_iff.mp hf
          obtain ⟨v24, q25, hf⟩ := hf
          refine g_gI f_X5_49 dX5_read_69 q25 ?_
          refine g_if_le (tgt := 79) dX5_read_72 (by decide) (fun c26 => ?_) (fun c26 => ?_)
          · rw [if_pos c26] at hf
            refine g_aload_n dX5_read_79 rfl ?_
            replace hf := Option.bind_eq_some_iff.mp hf
            obtain ⟨v27, q28, hf⟩ := hf
            refine g_gI f_X5_35 dX5_read_80 q28 ?_
            refine g_weak (lv2 := [none, none, none, none]) (trivial) ?_
            exact g_X5_read_83 hf
          · rw [if_neg c26] at hf
            refine g_iconst (v := (-1 : Int32)) dX5_read_75 (by decide) ?_
            refine g_goto (tgt := 83) dX5_read_76 (by decide) ?_
            refine g_weak (lv2 := [none, none, none, none]) (trivial) ?_
            exact g_X5_read_83 hf
      · rw [if_pos c9] at hf
        refine g_aload_n dX5_read_49 rfl ?_
        replace hf := Option.bind_eq_some_iff.mp hf
        obtain ⟨v29, q30, hf⟩ := hf
        refine g_gI f_X5_39 dX5_read_50 q30 ?_
        obtain ⟨rfl, rfl⟩ := Prod.mk.inj (Option.some.inj hf)
        exact g_iret dX5_read_53 rfl ⟨rfl, rfl⟩ (Nat.le_of_ble_eq_true rfl) (Nat.le_of_ble_eq_true rfl)
def F_X5_read_0 (n : Nat)  (x0 : Nat) (x1 : Nat) (x2 : Int32) (h : gH) : Option (Int32 × gH) :=
  (gR h x0 5 1).bind fun v1 =>
  (F_X11_copyRow n x1 v1 h).bind fun h3 =>
  (pF h3 x0 5 2 (.int (gmax (0 : Int32) (gmin x2 (120 : Int32))))).bind fun h5 =>
  (pF h5 x0 5 3 (.int (0 : Int32))).bind fun h7 =>
  (gR h7 x0 5 0).bind fun v9 =>
  (gO h7 v9 6).bind fun f11 =>
  (F_X6_reset n v9  h7).bind fun h13 =>
  F_X5_read_36 n n x0 (1 : Int32) h13
set_option maxRecDepth 20000 in
set_option maxHeartbeats 1600000 in
theorem g_X5_read_0 {n d : Nat} : ∀ {x0 : Nat} {x1 : Nat} {x2 : Int32} {h : gH} {rh : gH} {rv : Int32}, F_X5_read_0 n x0 x1 x2 h = some (rv, rh) → G M_X5_read (d + 49) 0 0 0 0 0 [some (.ref x0), some (.ref x1), some (.int x2), none] [] h (qI rv rh) := by
  intro x0 x1 x2 h rh rv hf
  unfold F_X5_read_0 at hf
  refine g_aload_n dX5_read_0 rfl ?_
  refine g_aload_n dX5_read_1 rfl ?_
  replace hf := Option.bind_eq_some_iff.mp hf
  obtain ⟨v1, q2, hf⟩ := hf
  refine g_gR f_X5_18 dX5_read_2 q2 ?_
  replace hf := Option.bind_eq_some_iff.mp hf
  obtain ⟨h3, q4, hf⟩ := hf
  refine g_callSN (as := [.ref x1, .ref v1]) (mc1 := 0) (ms1 := 0) s_X5_22_X11_copyRow dX5_read_5 rfl (Nat.le_of_ble_eq_true rfl) (Nat.le_of_ble_eq_true rfl) (Nat.le_of_ble_eq_true rfl) (t_X11_copyRow (d := d + 48) q4) (fun r9 h9 q9 => ?_)
  obtain ⟨rfl, rfl⟩ := q9
  refine g_stp (st2 := []) (pc2 := 8) (kc2 := 0) (kn2 := 0) rfl rfl rfl rfl ?_
  refine g_aload_n dX5_read_8 rfl ?_
  refine g_iconst (v := (0 : Int32)) dX5_read_9 (by decide) ?_
  refine g_iload_n dX5_read_10 rfl ?_
  refine g_bipush (v := (120 : Int32)) dX5_read_11 (by decide) ?_
  refine g_min m_X5_26 m_min.1 m_min.2.1 m_min.2.2 dX5_read_13 (Nat.le_of_ble_eq_true rfl) (Nat.le_of_ble_eq_true rfl) (Nat.le_of_ble_eq_true rfl) ?_
  refine g_st (st2 := [.int (gmin x2 (120 : Int32)), .int (0 : Int32), .ref x0]) rfl ?_
  refine g_max m_X5_32 m_max.1 m_max.2.1 m_max.2.2 dX5_read_16 (Nat.le_of_ble_eq_true rfl) (Nat.le_of_ble_eq_true rfl) (Nat.le_of_ble_eq_true rfl) ?_
  refine g_st (st2 := [.int (gmax (0 : Int32) (gmin x2 (120 : Int32))), .ref x0]) rfl ?_
  replace hf := Option.bind_eq_some_iff.mp hf
  obtain ⟨h5, q6, hf⟩ := hf
  refine g_pF p_X5_35 dX5_read_19 q6 (fun _ => rfl) (fun _ => rfl) ?_
  refine g_aload_n dX5_read_22 rfl ?_
  refine g_iconst (v := (0 : Int32)) dX5_read_23 (by decide) ?_
  replace hf := Option.bind_eq_some_iff.mp hf
  obtain ⟨h7, q8, hf⟩ := hf
  refine g_pF p_X5_39 dX5_read_24 q8 (fun _ => rfl) (fun _ => rfl) ?_
  refine g_aload_n dX5_read_27 rfl ?_
  replace hf := Option.bind_eq_some_iff.mp hf
  obtain ⟨v9, q10, hf⟩ := hf
  refine g_gR f_X5_12 dX5_read_28 q10 ?_
  replace hf := Option.bind_eq_some_iff.mp hf
  obtain ⟨f11, q12, hf⟩ := hf
  replace hf := Option.bind_eq_some_iff.mp hf
  obtain ⟨h13, q14, hf⟩ := hf
  refine g_callVN (as := []) (mc1 := 0) (ms1 := 0) s_X5_42_X6_reset_6 dX5_read_31 (gO_of q12) rfl (Nat.le_of_ble_eq_true rfl) (Nat.le_of_ble_eq_true rfl) (Nat.le_of_ble_eq_true rfl) (t_X6_reset (d := d + 48) q14) (fun r9 h9 q9 => ?_)
  obtain ⟨rfl, rfl⟩ := q9
  refine g_stp (st2 := []) (pc2 := 34) (kc2 := 0) (kn2 := 0) rfl rfl rfl rfl ?_
  refine g_iconst (v := (1 : Int32)) dX5_read_34 (by decide) ?_
  refine g_istore_n dX5_read_35 (by decide) (g_lvp (lv2 := [some (.ref x0), some (.ref x1), some (.int x2), some (.int (1 : Int32))]) (pc2 := 36) rfl rfl ?_)
  refine g_weak (lv2 := [some (.ref x0), none, none, some (.int (1 : Int32))]) (And.intro rfl (And.intro rfl (trivial))) ?_
  exact g_X5_read_36 hf
def F_X5_read (n : Nat) (a : Nat) (p0 : Nat) (p1 : Int32) (h : gH) : Option (Int32 × gH) := F_X5_read_0 n  a p0 p1 h
theorem t_X5_read {n d : Nat} {a : Nat} {p0 : Nat} {p1 : Int32} {h rh : gH} {rv : Int32} (hf : F_X5_read n a p0 p1 h = some (rv, rh)) : T M_X5_read (d + 49) 0 0 [.ref a, .ref p0, .int p1] h (qI rv rh) := by
  refine T_of_G (L := 1) (by decide +kernel) rfl (Nat.le_of_ble_eq_true rfl) (g_lv (lv2 := [some (.ref a), some (.ref p0), some (.int p1), none]) rfl ?_)
  exact g_X5_read_0 hf
def F_X11_road_0 (n : Nat)  (x0 : Nat) (h : gH) : Option (Int32 × gH) :=
  (gR h x0 11 0).bind fun v1 =>
  (gI h v1 7 7).bind fun v3 =>
  if v3 < (5 : Int32) then
  ((gR h x0 11 2).bind fun v6 =>
  (gR h x0 11 0).bind fun v8 =>
  (gR h v8 7 0).bind fun v10 =>
  (gR h x0 11 0).bind fun v12 =>
  (gI h v12 7 6).bind fun v14 =>
  (gO h v6 5).bind fun f16 =>
  gB (F_X5_read n v6 v10 v14 h) fun v20 h18 =>
  (gR h18 x0 11 0).bind fun v21 =>
  (pF h18 v21 7 6 (.int (0 : Int32))).bind fun h23 =>
  if v20 = (-1 : Int32) then
  ((gI h23 x0 11 10).bind fun v26 =>
  (pF h23 x0 11 10 (.int (v26 + (1 : Int32)))).bind fun h28 =>
  (gR h28 x0 11 0).bind fun v30 =>
  (gR h28 v30 7 1).bind fun v32 =>
  (gR h28 x0 11 2).bind fun v34 =>
  (gR h28 v34 5 0).bind fun v36 =>
  (gO h28 v32 6).bind fun f38 =>
  (F_X6_copyFrom n v32 v36 h28).bind fun h40 =>
  (gR h40 x0 11 0).bind fun v42 =>
  (gR h40 v42 7 1).bind fun v44 =>
  (gI h40 x0 11 10).bind fun v46 =>
  (pF h40 v44 6 15 (.int v46)).bind fun h48 =>
  (gR h48 x0 11 0).bind fun v50 =>
  (gI h48 v50 7 7).bind fun v52 =>
  (pF h48 v50 7 7 (.int (v52 + (1 : Int32)))).bind fun h54 =>
  (gR h54 x0 11 0).bind fun v56 =>
  (gI h54 v56 7 7).bind fun v58 =>
  some ((v58 - (1 : Int32)), h54))
  else
  (some (((-10 : Int32) - v20), h23)))
  else
  (some ((-4 : Int32), h))
set_option maxRecDepth 20000 in
set_option maxHeartbeats 1600000 in
theorem g_X11_road_0 {n d : Nat} : ∀ {x0 : Nat} {h : gH} {rh : gH} {rv : Int32}, F_X11_road_0 n x0 h = some (rv, rh) → G M_X11_road (d + 50) 0 0 0 0 0 [some (.ref x0), none] [] h (qI rv rh) := by
  intro x0 h rh rv hf
  unfold F_X11_road_0 at hf
  refine g_aload_n dX11_road_0 rfl ?_
  replace hf := Option.bind_eq_some_iff.mp hf
  obtain ⟨v1, q2, hf⟩ := hf
  refine g_gR f_X11_12 dX11_road_1 q2 ?_
  replace hf := Option.bind_eq_some_iff.mp hf
  obtain ⟨v3, q4, hf⟩ := hf
  refine g_gI f_X11_57 dX11_road_4 q4 ?_
  refine g_iconst (v := (5 : Int32)) dX11_road_7 (by decide) ?_
  refine g_icmp_lt (tgt := 14) dX11_road_8 (by decide) (fun c5 => ?_) (fun c5 => ?_)
  · rw [if_pos c5] at hf
    refine g_aload_n dX11_road_14 rfl ?_
    replace hf := Option.bind_eq_some_iff.mp hf
    obtain ⟨v6, q7, hf⟩ := hf
    refine g_gR f_X11_24 dX11_road_15 q7 ?_
    refine g_aload_n dX11_road_18 rfl ?_
    replace hf := Option.bind_eq_some_iff.mp hf
    obtain ⟨v8, q9, hf⟩ := hf
    refine g_gR f_X11_12 dX11_road_19 q9 ?_
    replace hf := Option.bind_eq_some_iff.mp hf
    obtain ⟨v10, q11, hf⟩ := hf
    refine g_gR f_X11_60 dX11_road_22 q11 ?_
    refine g_aload_n dX11_road_25 rfl ?_
    replace hf := Option.bind_eq_some_iff.mp hf
    obtain ⟨v12, q13, hf⟩ := hf
    refine g_gR f_X11_12 dX11_road_26 q13 ?_
    replace hf := Option.bind_eq_some_iff.mp hf
    obtain ⟨v14, q15, hf⟩ := hf
    refine g_gI f_X11_49 dX11_road_29 q15 ?_
    replace hf := Option.bind_eq_some_iff.mp hf
    obtain ⟨f16, q17, hf⟩ := hf
    replace hf := gB_of hf
    obtain ⟨v20, h18, q19, hf⟩ := hf
    refine g_callV (as := [.ref v10, .int v14]) (mc1 := 0) (ms1 := 0) s_X11_63_X5_read_5 dX11_road_32 (gO_of q17) rfl (Nat.le_of_ble_eq_true rfl) (Nat.le_of_ble_eq_true rfl) (Nat.le_of_ble_eq_true rfl) (t_X5_read (d := d + 0) q19) (fun r9 h9 q9 => ?_)
    obtain ⟨rfl, rfl⟩ := q9
    refine g_stp (st2 := [.int v20]) (pc2 := 35) (kc2 := 0) (kn2 := 0) rfl rfl rfl rfl ?_
    refine g_istore_n dX11_road_35 (by decide) (g_lvp (lv2 := [some (.ref x0), some (.int v20)]) (pc2 := 36) rfl rfl ?_)
    refine g_aload_n dX11_road_36 rfl ?_
    replace hf := Option.bind_eq_some_iff.mp hf
    obtain ⟨v21, q22, hf⟩ := hf
    refine g_gR f_X11_12 dX11_road_37 q22 ?_
    refine g_iconst (v := (0 : Int32)) dX11_road_40 (by decide) ?_
    replace hf := Option.bind_eq_some_iff.mp hf
    obtain ⟨h23, q24, hf⟩ := hf
    refine g_pF p_X11_49 dX11_road_41 q24 (fun _ => rfl) (fun _ => rfl) ?_
    refine g_iload_n dX11_road_44 rfl ?_
    refine g_iconst (v := (-1 : Int32)) dX11_road_45 (by decide) ?_
    refine g_icmp_eq (tgt := 54) dX11_road_46 (by decide) (fun c25 => ?_) (fun c25 => ?_)
    · rw [if_pos c25] at hf
      refine g_aload_n dX11_road_54 rfl ?_
      refine g_dup dX11_road_55 rfl ?_
      replace hf := Option.bind_eq_some_iff.mp hf
      obtain ⟨v26, q27, hf⟩ := hf
      refine g_gI f_X11_67 dX11_road_56 q27 ?_
      refine g_iconst (v := (1 : Int32)) dX11_road_59 (by decide) ?_
      refine g_iadd dX11_road_60 ?_
      replace hf := Option.bind_eq_some_iff.mp hf
      obtain ⟨h28, q29, hf⟩ := hf
      refine g_pF p_X11_67 dX11_road_61 q29 (fun _ => rfl) (fun _ => rfl) ?_
      refine g_aload_n dX11_road_64 rfl ?_
      replace hf := Option.bind_eq_some_iff.mp hf
      obtain ⟨v30, q31, hf⟩ := hf
      refine g_gR f_X11_12 dX11_road_65 q31 ?_
      replace hf := Option.bind_eq_some_iff.mp hf
      obtain ⟨v32, q33, hf⟩ := hf
      refine g_gR f_X11_70 dX11_road_68 q33 ?_
      refine g_aload_n dX11_road_71 rfl ?_
      replace hf := Option.bind_eq_some_iff.mp hf
      obtain ⟨v34, q35, hf⟩ := hf
      refine g_gR f_X11_24 dX11_road_72 q35 ?_
      replace hf := Option.bind_eq_some_iff.mp hf
      obtain ⟨v36, q37, hf⟩ := hf
      refine g_gR f_X11_74 dX11_road_75 q37 ?_
      replace hf := Option.bind_eq_some_iff.mp hf
      obtain ⟨f38, q39, hf⟩ := hf
      replace hf := Option.bind_eq_some_iff.mp hf
      obtain ⟨h40, q41, hf⟩ := hf
      refine g_callV (as := [.ref v36]) (mc1 := 0) (ms1 := 0) s_X11_77_X6_copyFrom_6 dX11_road_78 (gO_of q39) rfl (Nat.le_of_ble_eq_true rfl) (Nat.le_of_ble_eq_true rfl) (Nat.le_of_ble_eq_true rfl) (t_X6_copyFrom (d := d + 48) q41) (fun r9 h9 q9 => ?_)
      obtain ⟨rfl, rfl⟩ := q9
      refine g_stp (st2 := []) (pc2 := 81) (kc2 := 0) (kn2 := 0) rfl rfl rfl rfl ?_
      refine g_aload_n dX11_road_81 rfl ?_
      replace hf := Option.bind_eq_some_iff.mp hf
      obtain ⟨v42, q43, hf⟩ := hf
      refine g_gR f_X11_12 dX11_road_82 q43 ?_
      replace hf := Option.bind_eq_some_iff.mp hf
      obtain ⟨v44, q45, hf⟩ := hf
      refine g_gR f_X11_70 dX11_road_85 q45 ?_
      refine g_aload_n dX11_road_88 rfl ?_
      replace hf := Option.bind_eq_some_iff.mp hf
      obtain ⟨v46, q47, hf⟩ := hf
      refine g_gI f_X11_67 dX11_road_89 q47 ?_
      replace hf := Option.bind_eq_some_iff.mp hf
      obtain ⟨h48, q49, hf⟩ := hf
      refine g_pF p_X11_83 dX11_road_92 q49 (fun _ => rfl) (fun _ => rfl) ?_
      refine g_aload_n dX11_road_95 rfl ?_
      replace hf := Option.bind_eq_some_iff.mp hf
      obtain ⟨v50, q51, hf⟩ := hf
      refine g_gR f_X11_12 dX11_road_96 q51 ?_
      refine g_dup dX11_road_99 rfl ?_
      replace hf := Option.bind_eq_some_iff.mp hf
      obtain ⟨v52, q53, hf⟩ := hf
      refine g_gI f_X11_57 dX11_road_100 q53 ?_
      refine g_iconst (v := (1 : Int32)) dX11_road_103 (by decide) ?_
      refine g_iadd dX11_road_104 ?_
      replace hf := Option.bind_eq_some_iff.mp hf
      obtain ⟨h54, q55, hf⟩ := hf
      refine g_pF p_X11_57 dX11_road_105 q55 (fun _ => rfl) (fun _ => rfl) ?_
      refine g_aload_n dX11_road_108 rfl ?_
      replace hf := Option.bind_eq_some_iff.mp hf
      obtain ⟨v56, q57, hf⟩ := hf
      refine g_gR f_X11_12 dX11_road_109 q57 ?_
      replace hf := Option.bind_eq_some_iff.mp hf
      obtain ⟨v58, q59, hf⟩ := hf
      refine g_gI f_X11_57 dX11_road_112 q59 ?_
      refine g_iconst (v := (1 : Int32)) dX11_road_115 (by decide) ?_
      refine g_isub dX11_road_116 ?_
      obtain ⟨rfl, rfl⟩ := Prod.mk.inj (Option.some.inj hf)
      exact g_iret dX11_road_117 rfl ⟨rfl, rfl⟩ (Nat.le_of_ble_eq_true rfl) (Nat.le_of_ble_eq_true rfl)
    · rw [if_neg c25] at hf
      refine g_bipush (v := (-10 : Int32)) dX11_road_49 (by decide) ?_
      refine g_iload_n dX11_road_51 rfl ?_
      refine g_isub dX11_road_52 ?_
      obtain ⟨rfl, rfl⟩ := Prod.mk.inj (Option.some.inj hf)
      exact g_iret dX11_road_53 rfl ⟨rfl, rfl⟩ (Nat.le_of_ble_eq_true rfl) (Nat.le_of_ble_eq_true rfl)
  · rw [if_neg c5] at hf
    refine g_bipush (v := (-4 : Int32)) dX11_road_11 (by decide) ?_
    obtain ⟨rfl, rfl⟩ := Prod.mk.inj (Option.some.inj hf)
    exact g_iret dX11_road_13 rfl ⟨rfl, rfl⟩ (Nat.le_of_ble_eq_true rfl) (Nat.le_of_ble_eq_true rfl)
def F_X11_road (n : Nat) (a : Nat) (h : gH) : Option (Int32 × gH) := F_X11_road_0 n  a h
theorem t_X11_road {n d : Nat} {a : Nat} {h rh : gH} {rv : Int32} (hf : F_X11_road n a h = some (rv, rh)) : T M_X11_road (d + 50) 0 0 [.ref a] h (qI rv rh) := by
  refine T_of_G (L := 1) (by decide +kernel) rfl (Nat.le_of_ble_eq_true rfl) (g_lv (lv2 := [some (.ref a), none]) rfl ?_)
  exact g_X11_road_0 hf
def F_X7_addToRow_36 (n : Nat)   (h : gH) : Option (gH) :=
  some h
set_option maxRecDepth 20000 in
set_option maxHeartbeats 1600000 in
theorem g_X7_addToRow_36 {n d : Nat} : ∀  {h : gH} {rh : gH}, F_X7_addToRow_36 n  h = some rh → G M_X7_addToRow d 0 0 0 0 36 [none, none] [] h (qV rh) := by
  intro  h rh hf
  unfold F_X7_addToRow_36 at hf
  obtain rfl := Option.some.inj hf
  exact g_vret dX7_addToRow_36 rfl ⟨rfl, rfl⟩ (Nat.le_of_ble_eq_true rfl) (Nat.le_of_ble_eq_true rfl)
def F_X7_addToRow_0 (n : Nat)  (x0 : Nat) (x1 : Int32) (h : gH) : Option (gH) :=
  (gI h x0 7 9).bind fun v1 =>
  if v1 < 0 then
  (F_X7_addToRow_36 n h)
  else
  ((gI h x0 7 9).bind fun v4 =>
  if (8 : Int32) ≤ v4 then
  (F_X7_addToRow_36 n h)
  else
  ((gR h x0 7 4).bind fun v7 =>
  (gI h x0 7 9).bind fun v9 =>
  (sI h v7 v9 x1).bind fun h11 =>
  (gI h11 x0 7 9).bind fun v13 =>
  (pF h11 x0 7 9 (.int (v13 + (1 : Int32)))).bind fun h15 =>
  F_X7_addToRow_36 n h15))
set_option maxRecDepth 20000 in
set_option maxHeartbeats 1600000 in
theorem g_X7_addToRow_0 {n d : Nat} : ∀ {x0 : Nat} {x1 : Int32} {h : gH} {rh : gH}, F_X7_addToRow_0 n x0 x1 h = some rh → G M_X7_addToRow d 0 0 0 0 0 [some (.ref x0), some (.int x1)] [] h (qV rh) := by
  intro x0 x1 h rh hf
  unfold F_X7_addToRow_0 at hf
  refine g_aload_n dX7_addToRow_0 rfl ?_
  replace hf := Option.bind_eq_some_iff.mp hf
  obtain ⟨v1, q2, hf⟩ := hf
  refine g_gI f_X7_55 dX7_addToRow_1 q2 ?_
  refine g_if_lt (tgt := 36) dX7_addToRow_4 (by decide) (fun c3 => ?_) (fun c3 => ?_)
  · rw [if_pos c3] at hf
    refine g_weak (lv2 := [none, none]) (trivial) ?_
    exact g_X7_addToRow_36 hf
  · rw [if_neg c3] at hf
    refine g_aload_n dX7_addToRow_7 rfl ?_
    replace hf := Option.bind_eq_some_iff.mp hf
    obtain ⟨v4, q5, hf⟩ := hf
    refine g_gI f_X7_55 dX7_addToRow_8 q5 ?_
    refine g_bipush (v := (8 : Int32)) dX7_addToRow_11 (by decide) ?_
    refine g_icmp_ge (tgt := 36) dX7_addToRow_13 (by decide) (fun c6 => ?_) (fun c6 => ?_)
    · rw [if_pos c6] at hf
      refine g_weak (lv2 := [none, none]) (trivial) ?_
      exact g_X7_addToRow_36 hf
    · rw [if_neg c6] at hf
      refine g_aload_n dX7_addToRow_16 rfl ?_
      replace hf := Option.bind_eq_some_iff.mp hf
      obtain ⟨v7, q8, hf⟩ := hf
      refine g_gR f_X7_31 dX7_addToRow_17 q8 ?_
      refine g_aload_n dX7_addToRow_20 rfl ?_
      replace hf := Option.bind_eq_some_iff.mp hf
      obtain ⟨v9, q10, hf⟩ := hf
      refine g_gI f_X7_55 dX7_addToRow_21 q10 ?_
      refine g_iload_n dX7_addToRow_24 rfl ?_
      replace hf := Option.bind_eq_some_iff.mp hf
      obtain ⟨h11, q12, hf⟩ := hf
      refine g_sI dX7_addToRow_25 q12 ?_
      refine g_aload_n dX7_addToRow_26 rfl ?_
      refine g_dup dX7_addToRow_27 rfl ?_
      replace hf := Option.bind_eq_some_iff.mp hf
      obtain ⟨v13, q14, hf⟩ := hf
      refine g_gI f_X7_55 dX7_addToRow_28 q14 ?_
      refine g_iconst (v := (1 : Int32)) dX7_addToRow_31 (by decide) ?_
      refine g_iadd dX7_addToRow_32 ?_
      replace hf := Option.bind_eq_some_iff.mp hf
      obtain ⟨h15, q16, hf⟩ := hf
      refine g_pF p_X7_55 dX7_addToRow_33 q16 (fun _ => rfl) (fun _ => rfl) ?_
      refine g_weak (lv2 := [none, none]) (trivial) ?_
      exact g_X7_addToRow_36 hf
def F_X7_addToRow (n : Nat) (a : Nat) (p0 : Int32) (h : gH) : Option (gH) := F_X7_addToRow_0 n  a p0 h
theorem t_X7_addToRow {n d : Nat} {a : Nat} {p0 : Int32} {h rh : gH} (hf : F_X7_addToRow n a p0 h = some rh) : T M_X7_addToRow d 0 0 [.ref a, .int p0] h (qV rh) := by
  refine T_of_G (L := 0) (by decide +kernel) rfl (Nat.le_of_ble_eq_true rfl) (g_lv (lv2 := [some (.ref a), some (.int p0)]) rfl ?_)
  exact g_X7_addToRow_0 hf
def F_X11_row_0 (n : Nat)  (x0 : Nat) (x1 : Int32) (h : gH) : Option (Int32 × gH) :=
  if x1 = (-1 : Int32) then
  ((gR h x0 11 0).bind fun v21 =>
  (pF h v21 7 9 (.int (0 : Int32))).bind fun h23 =>
  some ((0 : Int32), h23))
  else
  (gB (F_X11_isEffort n x1 h) fun v4 h2 =>
  if v4 = 0 then
  (some ((-2 : Int32), h2))
  else
  ((gR h2 x0 11 0).bind fun v6 =>
  (gI h2 v6 7 9).bind fun v8 =>
  if v8 < (8 : Int32) then
  ((gR h2 x0 11 0).bind fun v11 =>
  (gO h2 v11 7).bind fun f13 =>
  (F_X7_addToRow n v11 x1 h2).bind fun h15 =>
  (gR h15 x0 11 0).bind fun v17 =>
  (gI h15 v17 7 9).bind fun v19 =>
  some (v19, h15))
  else
  (some ((-4 : Int32), h2))))
set_option maxRecDepth 20000 in
set_option maxHeartbeats 1600000 in
theorem g_X11_row_0 {n d : Nat} : ∀ {x0 : Nat} {x1 : Int32} {h : gH} {rh : gH} {rv : Int32}, F_X11_row_0 n x0 x1 h = some (rv, rh) → G M_X11_row (d + 1) 0 0 0 0 0 [some (.ref x0), some (.int x1)] [] h (qI rv rh) := by
  intro x0 x1 h rh rv hf
  unfold F_X11_row_0 at hf
  refine g_iload_n dX11_row_0 rfl ?_
  refine g_iconst (v := (-1 : Int32)) dX11_row_1 (by decide) ?_
  refine g_icmp_ne (tgt := 15) dX11_row_2 (by decide) (fun c1 => ?_) (fun c1 => ?_)
  · rw [if_neg c1] at hf
    refine g_iload_n dX11_row_15 rfl ?_
    replace hf := gB_of hf
    obtain ⟨v4, h2, q3, hf⟩ := hf
    refine g_callS (as := [.int x1]) (mc1 := 0) (ms1 := 0) s_X11_117_X11_isEffort dX11_row_16 rfl (Nat.le_of_ble_eq_true rfl) (Nat.le_of_ble_eq_true rfl) (Nat.le_of_ble_eq_true rfl) (t_X11_isEffort (d := d + 0) q3) (fun r9 h9 q9 => ?_)
    obtain ⟨rfl, rfl⟩ := q9
    refine g_stp (st2 := [.int v4]) (pc2 := 19) (kc2 := 0) (kn2 := 0) rfl rfl rfl rfl ?_
    refine g_if_ne (tgt := 25) dX11_row_19 (by decide) (fun c5 => ?_) (fun c5 => ?_)
    · rw [if_neg c5] at hf
      refine g_aload_n dX11_row_25 rfl ?_
      replace hf := Option.bind_eq_some_iff.mp hf
      obtain ⟨v6, q7, hf⟩ := hf
      refine g_gR f_X11_12 dX11_row_26 q7 ?_
      replace hf := Option.bind_eq_some_iff.mp hf
      obtain ⟨v8, q9, hf⟩ := hf
      refine g_gI f_X11_187 dX11_row_29 q9 ?_
      refine g_bipush (v := (8 : Int32)) dX11_row_32 (by decide) ?_
      refine g_icmp_lt (tgt := 40) dX11_row_34 (by decide) (fun c10 => ?_) (fun c10 => ?_)
      · rw [if_pos c10] at hf
        refine g_aload_n dX11_row_40 rfl ?_
        replace hf := Option.bind_eq_some_iff.mp hf
        obtain ⟨v11, q12, hf⟩ := hf
        refine g_gR f_X11_12 dX11_row_41 q12 ?_
        refine g_iload_n dX11_row_44 rfl ?_
        replace hf := Option.bind_eq_some_iff.mp hf
        obtain ⟨f13, q14, hf⟩ := hf
        replace hf := Option.bind_eq_some_iff.mp hf
        obtain ⟨h15, q16, hf⟩ := hf
        refine g_callV (as := [.int x1]) (mc1 := 0) (ms1 := 0) s_X11_190_X7_addToRow_7 dX11_row_45 (gO_of q14) rfl (Nat.le_of_ble_eq_true rfl) (Nat.le_of_ble_eq_true rfl) (Nat.le_of_ble_eq_true rfl) (t_X7_addToRow (d := d + 0) q16) (fun r9 h9 q9 => ?_)
        obtain ⟨rfl, rfl⟩ := q9
        refine g_stp (st2 := []) (pc2 := 48) (kc2 := 0) (kn2 := 0) rfl rfl rfl rfl ?_
        refine g_aload_n dX11_row_48 rfl ?_
        replace hf := Option.bind_eq_some_iff.mp hf
        obtain ⟨v17, q18, hf⟩ := hf
        refine g_gR f_X11_12 dX11_row_49 q18 ?_
        replace hf := Option.bind_eq_some_iff.mp hf
        obtain ⟨v19, q20, hf⟩ := hf
        refine g_gI f_X11_187 dX11_row_52 q20 ?_
        obtain ⟨rfl, rfl⟩ := Prod.mk.inj (Option.some.inj hf)
        exact g_iret dX11_row_55 rfl ⟨rfl, rfl⟩ (Nat.le_of_ble_eq_true rfl) (Nat.le_of_ble_eq_true rfl)
      · rw [if_neg c10] at hf
        refine g_bipush (v := (-4 : Int32)) dX11_row_37 (by decide) ?_
        obtain ⟨rfl, rfl⟩ := Prod.mk.inj (Option.some.inj hf)
        exact g_iret dX11_row_39 rfl ⟨rfl, rfl⟩ (Nat.le_of_ble_eq_true rfl) (Nat.le_of_ble_eq_true rfl)
    · rw [if_pos c5] at hf
      refine g_bipush (v := (-2 : Int32)) dX11_row_22 (by decide) ?_
      obtain ⟨rfl, rfl⟩ := Prod.mk.inj (Option.some.inj hf)
      exact g_iret dX11_row_24 rfl ⟨rfl, rfl⟩ (Nat.le_of_ble_eq_true rfl) (Nat.le_of_ble_eq_true rfl)
  · rw [if_pos c1] at hf
    refine g_aload_n dX11_row_5 rfl ?_
    replace hf := Option.bind_eq_some_iff.mp hf
    obtain ⟨v21, q22, hf⟩ := hf
    refine g_gR f_X11_12 dX11_row_6 q22 ?_
    refine g_iconst (v := (0 : Int32)) dX11_row_9 (by decide) ?_
    replace hf := Option.bind_eq_some_iff.mp hf
    obtain ⟨h23, q24, hf⟩ := hf
    refine g_pF p_X11_187 dX11_row_10 q24 (fun _ => rfl) (fun _ => rfl) ?_
    refine g_iconst (v := (0 : Int32)) dX11_row_13 (by decide) ?_
    obtain ⟨rfl, rfl⟩ := Prod.mk.inj (Option.some.inj hf)
    exact g_iret dX11_row_14 rfl ⟨rfl, rfl⟩ (Nat.le_of_ble_eq_true rfl) (Nat.le_of_ble_eq_true rfl)
def F_X11_row (n : Nat) (a : Nat) (p0 : Int32) (h : gH) : Option (Int32 × gH) := F_X11_row_0 n  a p0 h
theorem t_X11_row {n d : Nat} {a : Nat} {p0 : Int32} {h rh : gH} {rv : Int32} (hf : F_X11_row n a p0 h = some (rv, rh)) : T M_X11_row (d + 1) 0 0 [.ref a, .int p0] h (qI rv rh) := by
  refine T_of_G (L := 0) (by decide +kernel) rfl (Nat.le_of_ble_eq_true rfl) (g_lv (lv2 := [some (.ref a), some (.int p0)]) rfl ?_)
  exact g_X11_row_0 hf
def F_X4_storeFrom_0 (n : Nat)  (x0 : Nat) (x1 : Int32) (x2 : Int32) (h : gH) : Option (Int32 × gH) :=
  (gR h x0 4 3).bind fun v1 =>
  gB (F_X4_spot n x1 x2 h) fun v5 h3 =>
  (aI h3 v1 v5).bind fun v6 =>
  some (v6, h3)
set_option maxRecDepth 20000 in
set_option maxHeartbeats 1600000 in
theorem g_X4_storeFrom_0 {n d : Nat} : ∀ {x0 : Nat} {x1 : Int32} {x2 : Int32} {h : gH} {rh : gH} {rv : Int32}, F_X4_storeFrom_0 n x0 x1 x2 h = some (rv, rh) → G M_X4_storeFrom (d + 1) 0 0 0 0 0 [some (.ref x0), some (.int x1), some (.int x2)] [] h (qI rv rh) := by
  intro x0 x1 x2 h rh rv hf
  unfold F_X4_storeFrom_0 at hf
  refine g_aload_n dX4_storeFrom_0 rfl ?_
  replace hf := Option.bind_eq_some_iff.mp hf
  obtain ⟨v1, q2, hf⟩ := hf
  refine g_gR f_X4_21 dX4_storeFrom_1 q2 ?_
  refine g_iload_n dX4_storeFrom_4 rfl ?_
  refine g_iload_n dX4_storeFrom_5 rfl ?_
  replace hf := gB_of hf
  obtain ⟨v5, h3, q4, hf⟩ := hf
  refine g_callS (as := [.int x1, .int x2]) (mc1 := 0) (ms1 := 0) s_X4_64_X4_spot dX4_storeFrom_6 rfl (Nat.le_of_ble_eq_true rfl) (Nat.le_of_ble_eq_true rfl) (Nat.le_of_ble_eq_true rfl) (t_X4_spot (d := d + 0) q4) (fun r9 h9 q9 => ?_)
  obtain ⟨rfl, rfl⟩ := q9
  refine g_stp (st2 := [.int v5, .ref v1]) (pc2 := 9) (kc2 := 0) (kn2 := 0) rfl rfl rfl rfl ?_
  replace hf := Option.bind_eq_some_iff.mp hf
  obtain ⟨v6, q7, hf⟩ := hf
  refine g_aI dX4_storeFrom_9 q7 ?_
  obtain ⟨rfl, rfl⟩ := Prod.mk.inj (Option.some.inj hf)
  exact g_iret dX4_storeFrom_10 rfl ⟨rfl, rfl⟩ (Nat.le_of_ble_eq_true rfl) (Nat.le_of_ble_eq_true rfl)
def F_X4_storeFrom (n : Nat) (a : Nat) (p0 : Int32) (p1 : Int32) (h : gH) : Option (Int32 × gH) := F_X4_storeFrom_0 n  a p0 p1 h
theorem t_X4_storeFrom {n d : Nat} {a : Nat} {p0 : Int32} {p1 : Int32} {h rh : gH} {rv : Int32} (hf : F_X4_storeFrom n a p0 p1 h = some (rv, rh)) : T M_X4_storeFrom (d + 1) 0 0 [.ref a, .int p0, .int p1] h (qI rv rh) := by
  refine T_of_G (L := 0) (by decide +kernel) rfl (Nat.le_of_ble_eq_true rfl) (g_lv (lv2 := [some (.ref a), some (.int p0), some (.int p1)]) rfl ?_)
  exact g_X4_storeFrom_0 hf
def F_X11_soonest_91 (n : Nat)  : Nat → Nat → Nat → Int32 → Int32 → Int32 → gH → Option (Int32 × gH)
  | 0, _, _, _, _, _, _ => none
  | m + 1, x0, x4, x5, x6, x7, h => if x5 ≤ x7 then
  ((gR h x0 11 3).bind fun v2 =>
  (gO h v2 4).bind fun f4 =>
  gB (F_X4_effortAt n v2 x5 x6 h) fun v8 h6 =>
  some (v8, h6))
  else
  ((gR h x0 11 3).bind fun v9 =>
  (gO h v9 4).bind fun f11 =>
  gB (F_X4_effortAt n v9 x7 x6 h) fun v15 h13 =>
  (gO h13 x4 6).bind fun f16 =>
  gB (F_X6_behind n x4 x7 v15 x6 h13) fun v20 h18 =>
  F_X11_soonest_91 n m x0 x4 x5 v20 (x7 + (1 : Int32)) h18)
set_option maxRecDepth 20000 in
set_option maxHeartbeats 1600000 in
theorem g_X11_soonest_91 {n d : Nat} : ∀ {m : Nat} {x0 : Nat} {x4 : Nat} {x5 : Int32} {x6 : Int32} {x7 : Int32} {h : gH} {rh : gH} {rv : Int32}, F_X11_soonest_91 n m x0 x4 x5 x6 x7 h = some (rv, rh) → G M_X11_soonest (d + 6) 0 0 0 0 91 [some (.ref x0), none, none, none, some (.ref x4), some (.int x5), some (.int x6), some (.int x7)] [] h (qI rv rh) := by
  intro m
  induction m with
  | zero => intro x0 x4 x5 x6 x7 h rh rv hf; cases hf
  | succ m t91 =>
    intro x0 x4 x5 x6 x7 h rh rv hf
    unfold F_X11_soonest_91 at hf
    refine g_iload dX11_soonest_91 rfl ?_
    refine g_iload dX11_soonest_93 rfl ?_
    refine g_icmp_ge (tgt := 126) dX11_soonest_95 (by decide) (fun c1 => ?_) (fun c1 => ?_)
    · rw [if_pos c1] at hf
      refine g_aload_n dX11_soonest_126 rfl ?_
      replace hf := Option.bind_eq_some_iff.mp hf
      obtain ⟨v2, q3, hf⟩ := hf
      refine g_gR f_X11_31 dX11_soonest_127 q3 ?_
      refine g_iload dX11_soonest_130 rfl ?_
      refine g_iload dX11_soonest_132 rfl ?_
      replace hf := Option.bind_eq_some_iff.mp hf
      obtain ⟨f4, q5, hf⟩ := hf
      replace hf := gB_of hf
      obtain ⟨v8, h6, q7, hf⟩ := hf
      refine g_callV (as := [.int x5, .int x6]) (mc1 := 0) (ms1 := 0) s_X11_184_X4_effortAt_4 dX11_soonest_134 (gO_of q5) rfl (Nat.le_of_ble_eq_true rfl) (Nat.le_of_ble_eq_true rfl) (Nat.le_of_ble_eq_true rfl) (t_X4_effortAt (d := d + 4) q7) (fun r9 h9 q9 => ?_)
      obtain ⟨rfl, rfl⟩ := q9
      refine g_stp (st2 := [.int v8]) (pc2 := 137) (kc2 := 0) (kn2 := 0) rfl rfl rfl rfl ?_
      obtain ⟨rfl, rfl⟩ := Prod.mk.inj (Option.some.inj hf)
      exact g_iret dX11_soonest_137 rfl ⟨rfl, rfl⟩ (Nat.le_of_ble_eq_true rfl) (Nat.le_of_ble_eq_true rfl)
    · rw [if_neg c1] at hf
      refine g_aload dX11_soonest_98 rfl ?_
      refine g_iload dX11_soonest_100 rfl ?_
      refine g_aload_n dX11_soonest_102 rfl ?_
      replace hf := Option.bind_eq_some_iff.mp hf
      obtain ⟨v9, q10, hf⟩ := hf
      refine g_gR f_X11_31 dX11_soonest_103 q10 ?_
      refine g_iload dX11_soonest_106 rfl ?_
      refine g_iload dX11_soonest_108 rfl ?_
      replace hf := Option.bind_eq_some_iff.mp hf
      obtain ⟨f11, q12, hf⟩ := hf
      replace hf := gB_of hf
      obtain ⟨v15, h13, q14, hf⟩ := hf
      refine g_callV (as := [.int x7, .int x6]) (mc1 := 0) (ms1 := 0) s_X11_184_X4_effortAt_4 dX11_soonest_110 (gO_of q12) rfl (Nat.le_of_ble_eq_true rfl) (Nat.le_of_ble_eq_true rfl) (Nat.le_of_ble_eq_true rfl) (t_X4_effortAt (d := d + 4) q14) (fun r9 h9 q9 => ?_)
      obtain ⟨rfl, rfl⟩ := q9
      refine g_stp (st2 := [.int v15, .int x7, .ref x4]) (pc2 := 113) (kc2 := 0) (kn2 := 0) rfl rfl rfl rfl ?_
      refine g_iload dX11_soonest_113 rfl ?_
      replace hf := Option.bind_eq_some_iff.mp hf
      obtain ⟨f16, q17, hf⟩ := hf
      replace hf := gB_of hf
      obtain ⟨v20, h18, q19, hf⟩ := hf
      refine g_callV (as := [.int x7, .int v15, .int x6]) (mc1 := 0) (ms1 := 0) s_X11_130_X6_behind_6 dX11_soonest_115 (gO_of q17) rfl (Nat.le_of_ble_eq_true rfl) (Nat.le_of_ble_eq_true rfl) (Nat.le_of_ble_eq_true rfl) (t_X6_behind (d := d + 3) q19) (fun r9 h9 q9 => ?_)
      obtain ⟨rfl, rfl⟩ := q9
      refine g_stp (st2 := [.int v20]) (pc2 := 118) (kc2 := 0) (kn2 := 0) rfl rfl rfl rfl ?_
      refine g_istore dX11_soonest_118 (by decide) (g_lvp (lv2 := [some (.ref x0), none, none, none, some (.ref x4), some (.int x5), some (.int v20), some (.int x7)]) (pc2 := 120) rfl rfl ?_)
      refine g_iinc2 (w := (1 : Int32)) dX11_soonest_120 (by decide) rfl (by decide) (g_lvp (lv2 := [some (.ref x0), none, none, none, some (.ref x4), some (.int x5), some (.int v20), some (.int (x7 + (1 : Int32)))]) (pc2 := 123) rfl rfl ?_)
      refine g_goto (tgt := 91) dX11_soonest_123 (by decide) ?_
      exact t91 hf
def F_X11_soonest_27 (n : Nat)   (h : gH) : Option (Int32 × gH) :=
  some ((-1 : Int32), h)
set_option maxRecDepth 20000 in
set_option maxHeartbeats 1600000 in
theorem g_X11_soonest_27 {n d : Nat} : ∀  {h : gH} {rh : gH} {rv : Int32}, F_X11_soonest_27 n  h = some (rv, rh) → G M_X11_soonest (d + 6) 0 0 0 0 27 [none, none, none, none, none, none, none, none] [] h (qI rv rh) := by
  intro  h rh rv hf
  unfold F_X11_soonest_27 at hf
  refine g_iconst (v := (-1 : Int32)) dX11_soonest_27 (by decide) ?_
  obtain ⟨rfl, rfl⟩ := Prod.mk.inj (Option.some.inj hf)
  exact g_iret dX11_soonest_28 rfl ⟨rfl, rfl⟩ (Nat.le_of_ble_eq_true rfl) (Nat.le_of_ble_eq_true rfl)
def F_X11_soonest_0 (n : Nat)  (x0 : Nat) (x1 : Int32) (x2 : Int32) (x3 : Int32) (h : gH) : Option (Int32 × gH) :=
  (gR h x0 11 0).bind fun v1 =>
  (gR h v1 7 1).bind fun v3 =>
  (gO h v3 6).bind fun f5 =>
  gB (F_X6_has n v3 x1 h) fun v9 h7 =>
  if v9 = 0 then
  (F_X11_soonest_27 n h7)
  else
  ((gO h7 x0 11).bind fun f11 =>
  gB (F_X11_isRideWhat n x0 x3 x1 h7) fun v15 h13 =>
  if v15 = 0 then
  (F_X11_soonest_27 n h13)
  else
  ((gO h13 v3 6).bind fun f17 =>
  gB (F_X6_holdsStore n v3 x2 h13) fun v21 h19 =>
  if v21 = 0 then
  (some ((-2 : Int32), h19))
  else
  ((gR h19 x0 11 3).bind fun v23 =>
  (gO h19 v23 4).bind fun f25 =>
  (F_X4_prepare n v23 v3 h19).bind fun h27 =>
  if x3 = 0 then
  ((gR h27 x0 11 3).bind fun v38 =>
  (gO h27 v38 4).bind fun f40 =>
  gB (F_X4_secondsFrom n v38 x1 x2 h27) fun v44 h42 =>
  some (v44, h42))
  else
  (if x3 = (1 : Int32) then
  ((gR h27 x0 11 3).bind fun v31 =>
  (gO h27 v31 4).bind fun f33 =>
  gB (F_X4_storeFrom n v31 x1 x2 h27) fun v37 h35 =>
  some (v37, h35))
  else
  (F_X11_soonest_91 n n x0 v3 (x3 - (10 : Int32)) x2 x1 h27)))))
set_option maxRecDepth 20000 in
set_option maxHeartbeats 1600000 in
theorem g_X11_soonest_0 {n d : Nat} : ∀ {x0 : Nat} {x1 : Int32} {x2 : Int32} {x3 : Int32} {h : gH} {rh : gH} {rv : Int32}, F_X11_soonest_0 n x0 x1 x2 x3 h = some (rv, rh) → G M_X11_soonest (d + 6) 0 0 0 0 0 [some (.ref x0), some (.int x1), some (.int x2), some (.int x3), none, none, none, none] [] h (qI rv rh) := by
  intro x0 x1 x2 x3 h rh rv hf
  unfold F_X11_soonest_0 at hf
  refine g_aload_n dX11_soonest_0 rfl ?_
  replace hf := Option.bind_eq_some_iff.mp hf
  obtain ⟨v1, q2, hf⟩ := hf
  refine g_gR f_X11_12 dX11_soonest_1 q2 ?_
  replace hf := Option.bind_eq_some_iff.mp hf
  obtain ⟨v3, q4, hf⟩ := hf
  refine g_gR f_X11_70 dX11_soonest_4 q4 ?_
  refine g_astore dX11_soonest_7 (by decide) (g_lvp (lv2 := [some (.ref x0), some (.int x1), some (.int x2), some (.int x3), some (.ref v3), none, none, none]) (pc2 := 9) rfl rfl ?_)
  refine g_aload dX11_soonest_9 rfl ?_
  refine g_iload_n dX11_soonest_11 rfl ?_
  replace hf := Option.bind_eq_some_iff.mp hf
  obtain ⟨f5, q6, hf⟩ := hf
  replace hf := gB_of hf
  obtain ⟨v9, h7, q8, hf⟩ := hf
  refine g_callV (as := [.int x1]) (mc1 := 0) (ms1 := 0) s_X11_86_X6_has_6 dX11_soonest_12 (gO_of q6) rfl (Nat.le_of_ble_eq_true rfl) (Nat.le_of_ble_eq_true rfl) (Nat.le_of_ble_eq_true rfl) (t_X6_has (d := d + 5) q8) (fun r9 h9 q9 => ?_)
  obtain ⟨rfl, rfl⟩ := q9
  refine g_stp (st2 := [.int v9]) (pc2 := 15) (kc2 := 0) (kn2 := 0) rfl rfl rfl rfl ?_
  refine g_if_eq (tgt := 27) dX11_soonest_15 (by decide) (fun c10 => ?_) (fun c10 => ?_)
  · rw [if_pos c10] at hf
    refine g_weak (lv2 := [none, none, none, none, none, none, none, none]) (trivial) ?_
    exact g_X11_soonest_27 hf
  · rw [if_neg c10] at hf
    refine g_aload_n dX11_soonest_18 rfl ?_
    refine g_iload_n dX11_soonest_19 rfl ?_
    refine g_iload_n dX11_soonest_20 rfl ?_
    replace hf := Option.bind_eq_some_iff.mp hf
    obtain ⟨f11, q12, hf⟩ := hf
    replace hf := gB_of hf
    obtain ⟨v15, h13, q14, hf⟩ := hf
    refine g_callV (as := [.int x3, .int x1]) (mc1 := 0) (ms1 := 0) s_X11_165_X11_isRideWhat_11 dX11_soonest_21 (gO_of q12) rfl (Nat.le_of_ble_eq_true rfl) (Nat.le_of_ble_eq_true rfl) (Nat.le_of_ble_eq_true rfl) (t_X11_isRideWhat (d := d + 4) q14) (fun r9 h9 q9 => ?_)
    obtain ⟨rfl, rfl⟩ := q9
    refine g_stp (st2 := [.int v15]) (pc2 := 24) (kc2 := 0) (kn2 := 0) rfl rfl rfl rfl ?_
    refine g_if_ne (tgt := 29) dX11_soonest_24 (by decide) (fun c16 => ?_) (fun c16 => ?_)
    · rw [if_neg c16] at hf
      refine g_aload dX11_soonest_29 rfl ?_
      refine g_iload_n dX11_soonest_31 rfl ?_
      replace hf := Option.bind_eq_some_iff.mp hf
      obtain ⟨f17, q18, hf⟩ := hf
      replace hf := gB_of hf
      obtain ⟨v21, h19, q20, hf⟩ := hf
      refine g_callV (as := [.int x2]) (mc1 := 0) (ms1 := 0) s_X11_120_X6_holdsStore_6 dX11_soonest_32 (gO_of q18) rfl (Nat.le_of_ble_eq_true rfl) (Nat.le_of_ble_eq_true rfl) (Nat.le_of_ble_eq_true rfl) (t_X6_holdsStore (d := d + 5) q20) (fun r9 h9 q9 => ?_)
      obtain ⟨rfl, rfl⟩ := q9
      refine g_stp (st2 := [.int v21]) (pc2 := 35) (kc2 := 0) (kn2 := 0) rfl rfl rfl rfl ?_
      refine g_if_ne (tgt := 41) dX11_soonest_35 (by decide) (fun c22 => ?_) (fun c22 => ?_)
      · rw [if_neg c22] at hf
        refine g_aload_n dX11_soonest_41 rfl ?_
        replace hf := Option.bind_eq_some_iff.mp hf
        obtain ⟨v23, q24, hf⟩ := hf
        refine g_gR f_X11_31 dX11_soonest_42 q24 ?_
        refine g_aload dX11_soonest_45 rfl ?_
        replace hf := Option.bind_eq_some_iff.mp hf
        obtain ⟨f25, q26, hf⟩ := hf
        replace hf := Option.bind_eq_some_iff.mp hf
        obtain ⟨h27, q28, hf⟩ := hf
        refine g_callV (as := [.ref v3]) (mc1 := 0) (ms1 := 0) s_X11_158_X4_prepare_4 dX11_soonest_47 (gO_of q26) rfl (Nat.le_of_ble_eq_true rfl) (Nat.le_of_ble_eq_true rfl) (Nat.le_of_ble_eq_true rfl) (t_X4_prepare (d := d + 0) q28) (fun r9 h9 q9 => ?_)
        obtain ⟨rfl, rfl⟩ := q9
        refine g_stp (st2 := []) (pc2 := 50) (kc2 := 0) (kn2 := 0) rfl rfl rfl rfl ?_
        refine g_iload_n dX11_soonest_50 rfl ?_
        refine g_if_ne (tgt := 64) dX11_soonest_51 (by decide) (fun c29 => ?_) (fun c29 => ?_)
        · rw [if_neg c29] at hf
          refine g_iload_n dX11_soonest_64 rfl ?_
          refine g_iconst (v := (1 : Int32)) dX11_soonest_65 (by decide) ?_
          refine g_icmp_ne (tgt := 79) dX11_soonest_66 (by decide) (fun c30 => ?_) (fun c30 => ?_)
          · rw [if_neg c30] at hf
            refine g_iload_n dX11_soonest_79 rfl ?_
            refine g_bipush (v := (10 : Int32)) dX11_soonest_80 (by decide) ?_
            refine g_isub dX11_soonest_82 ?_
            refine g_istore dX11_soonest_83 (by decide) (g_lvp (lv2 := [some (.ref x0), some (.int x1), some (.int x2), some (.int x3), some (.ref v3), some (.int (x3 - (10 : Int32))), none, none]) (pc2 := 85) rfl rfl ?_)
            refine g_iload_n dX11_soonest_85 rfl ?_
            refine g_istore dX11_soonest_86 (by decide) (g_lvp (lv2 := [some (.ref x0), some (.int x1), some (.int x2), some (.int x3), some (.ref v3), some (.int (x3 - (10 : Int32))), some (.int x2), none]) (pc2 := 88) rfl rfl ?_)
            refine g_iload_n dX11_soonest_88 rfl ?_
            refine g_istore dX11_soonest_89 (by decide) (g_lvp (lv2 := [some (.ref x0), some (.int x1), some (.int x2), some (.int x3), some (.ref v3), some (.int (x3 - (10 : Int32))), some (.int x2), some (.int x1)]) (pc2 := 91) rfl rfl ?_)
            refine g_weak (lv2 := [some (.ref x0), none, none, none, some (.ref v3), some (.int (x3 - (10 : Int32))), some (.int x2), some (.int x1)]) (And.intro rfl (And.intro rfl (And.intro rfl (And.intro rfl (And.intro rfl (trivial)))))) ?_
            exact g_X11_soonest_91 hf
          · rw [if_pos c30] at hf
            refine g_aload_n dX11_soonest_69 rfl ?_
            replace hf := Option.bind_eq_some_iff.mp hf
            obtain ⟨v31, q32, hf⟩ := hf
            refine g_gR f_X11_31 dX11_soonest_70 q32 ?_
            refine g_iload_n dX11_soonest_73 rfl ?_
            refine g_iload_n dX11_soonest_74 rfl ?_
            replace hf := Option.bind_eq_some_iff.mp hf
            obtain ⟨f33, q34, hf⟩ := hf
            replace hf := gB_of hf
            obtain ⟨v37, h35, q36, hf⟩ := hf
            refine g_callV (as := [.int x1, .int x2]) (mc1 := 0) (ms1 := 0) s_X11_181_X4_storeFrom_4 dX11_soonest_75 (gO_of q34) rfl (Nat.le_of_ble_eq_true rfl) (Nat.le_of_ble_eq_true rfl) (Nat.le_of_ble_eq_true rfl) (t_X4_storeFrom (d := d + 4) q36) (fun r9 h9 q9 => ?_)
            obtain ⟨rfl, rfl⟩ := q9
            refine g_stp (st2 := [.int v37]) (pc2 := 78) (kc2 := 0) (kn2 := 0) rfl rfl rfl rfl ?_
            obtain ⟨rfl, rfl⟩ := Prod.mk.inj (Option.some.inj hf)
            exact g_iret dX11_soonest_78 rfl ⟨rfl, rfl⟩ (Nat.le_of_ble_eq_true rfl) (Nat.le_of_ble_eq_true rfl)
        · rw [if_pos c29] at hf
          refine g_aload_n dX11_soonest_54 rfl ?_
          replace hf := Option.bind_eq_some_iff.mp hf
          obtain ⟨v38, q39, hf⟩ := hf
          refine g_gR f_X11_31 dX11_soonest_55 q39 ?_
          refine g_iload_n dX11_soonest_58 rfl ?_
          refine g_iload_n dX11_soonest_59 rfl ?_
          replace hf := Option.bind_eq_some_iff.mp hf
          obtain ⟨f40, q41, hf⟩ := hf
          replace hf := gB_of hf
          obtain ⟨v44, h42, q43, hf⟩ := hf
          refine g_callV (as := [.int x1, .int x2]) (mc1 := 0) (ms1 := 0) s_X11_178_X4_secondsFrom_4 dX11_soonest_60 (gO_of q41) rfl (Nat.le_of_ble_eq_true rfl) (Nat.le_of_ble_eq_true rfl) (Nat.le_of_ble_eq_true rfl) (t_X4_secondsFrom (d := d + 4) q43) (fun r9 h9 q9 => ?_)
          obtain ⟨rfl, rfl⟩ := q9
          refine g_stp (st2 := [.int v44]) (pc2 := 63) (kc2 := 0) (kn2 := 0) rfl rfl rfl rfl ?_
          obtain ⟨rfl, rfl⟩ := Prod.mk.inj (Option.some.inj hf)
          exact g_iret dX11_soonest_63 rfl ⟨rfl, rfl⟩ (Nat.le_of_ble_eq_true rfl) (Nat.le_of_ble_eq_true rfl)
      · rw [if_pos c22] at hf
        refine g_bipush (v := (-2 : Int32)) dX11_soonest_38 (by decide) ?_
        obtain ⟨rfl, rfl⟩ := Prod.mk.inj (Option.some.inj hf)
        exact g_iret dX11_soonest_40 rfl ⟨rfl, rfl⟩ (Nat.le_of_ble_eq_true rfl) (Nat.le_of_ble_eq_true rfl)
    · rw [if_pos c16] at hf
      refine g_weak (lv2 := [none, none, none, none, none, none, none, none]) (trivial) ?_
      exact g_X11_soonest_27 hf
def F_X11_soonest (n : Nat) (a : Nat) (p0 : Int32) (p1 : Int32) (p2 : Int32) (h : gH) : Option (Int32 × gH) := F_X11_soonest_0 n  a p0 p1 p2 h
theorem t_X11_soonest {n d : Nat} {a : Nat} {p0 : Int32} {p1 : Int32} {p2 : Int32} {h rh : gH} {rv : Int32} (hf : F_X11_soonest n a p0 p1 p2 h = some (rv, rh)) : T M_X11_soonest (d + 6) 0 0 [.ref a, .int p0, .int p1, .int p2] h (qI rv rh) := by
  refine T_of_G (L := 4) (by decide +kernel) rfl (Nat.le_of_ble_eq_true rfl) (g_lv (lv2 := [some (.ref a), some (.int p0), some (.int p1), some (.int p2), none, none, none, none]) rfl ?_)
  exact g_X11_soonest_0 hf
def F_X11_sure_114 (n : Nat)  (x0 : Nat) (x3 : Int32) (x6 : Int64) (h : gH) : Option (Int64 × gH) :=
  (gO h x0 11).bind fun f1 =>
  gB (F_X11_fraction n x0 x6 x3 h) fun v5 h3 =>
  some (v5, h3)
set_option maxRecDepth 20000 in
set_option maxHeartbeats 1600000 in
theorem g_X11_sure_114 {n d : Nat} : ∀ {x0 : Nat} {x3 : Int32} {x6 : Int64} {h : gH} {rh : gH} {rv : Int64}, F_X11_sure_114 n x0 x3 x6 h = some (rv, rh) → G M_X11_sure (d + 7) 0 0 0 0 114 [some (.ref x0), none, none, some (.int x3), none, none, some (.long x6), none, none] [] h (qL rv rh) := by
  intro x0 x3 x6 h rh rv hf
  unfold F_X11_sure_114 at hf
  refine g_aload_n dX11_sure_114 rfl ?_
  refine g_lload dX11_sure_115 rfl ?_
  refine g_iload_n dX11_sure_117 rfl ?_
  replace hf := Option.bind_eq_some_iff.mp hf
  obtain ⟨f1, q2, hf⟩ := hf
  replace hf := gB_of hf
  obtain ⟨v5, h3, q4, hf⟩ := hf
  refine g_callV (as := [.long x6, .int x3]) (mc1 := 0) (ms1 := 0) s_X11_210_X11_fraction_11 dX11_sure_118 (gO_of q2) rfl (Nat.le_of_ble_eq_true rfl) (Nat.le_of_ble_eq_true rfl) (Nat.le_of_ble_eq_true rfl) (t_X11_fraction (d := d + 5) q4) (fun r9 h9 q9 => ?_)
  obtain ⟨rfl, rfl⟩ := q9
  refine g_stp (st2 := [.long v5]) (pc2 := 121) (kc2 := 0) (kn2 := 0) rfl rfl rfl rfl ?_
  obtain ⟨rfl, rfl⟩ := Prod.mk.inj (Option.some.inj hf)
  exact g_lret dX11_sure_121 rfl ⟨rfl, rfl⟩ (Nat.le_of_ble_eq_true rfl) (Nat.le_of_ble_eq_true rfl)
def F_X11_sure_108 (n : Nat) (k70 : Nat → Int32 → Int32 → Int32 → Int64 → Int32 → gH → Option (Int64 × gH)) (x0 : Nat) (x2 : Int32) (x3 : Int32) (x5 : Int32) (x6 : Int64) (x8 : Int32) (h : gH) : Option (Int64 × gH) :=
  k70 x0 x2 x3 x5 x6 (x8 + (1 : Int32)) h
set_option maxRecDepth 20000 in
set_option maxHeartbeats 1600000 in
theorem g_X11_sure_108 {n d : Nat} {k70 : Nat → Int32 → Int32 → Int32 → Int64 → Int32 → gH → Option (Int64 × gH)} (t70 : ∀ {x0 : Nat} {x2 : Int32} {x3 : Int32} {x5 : Int32} {x6 : Int64} {x8 : Int32} {h : gH} {rh : gH} {rv : Int64}, k70 x0 x2 x3 x5 x6 x8 h = some (rv, rh) → G M_X11_sure (d + 7) 0 0 0 0 70 [some (.ref x0), none, some (.int x2), some (.int x3), none, some (.int x5), some (.long x6), none, some (.int x8)] [] h (qL rv rh)) : ∀ {x0 : Nat} {x2 : Int32} {x3 : Int32} {x5 : Int32} {x6 : Int64} {x8 : Int32} {h : gH} {rh : gH} {rv : Int64}, F_X11_sure_108 n k70 x0 x2 x3 x5 x6 x8 h = some (rv, rh) → G M_X11_sure (d + 7) 0 0 0 0 108 [some (.ref x0), none, some (.int x2), some (.int x3), none, some (.int x5), some (.long x6), none, some (.int x8)] [] h (qL rv rh) := by
  intro x0 x2 x3 x5 x6 x8 h rh rv hf
  unfold F_X11_sure_108 at hf
  refine g_iinc2 (w := (1 : Int32)) dX11_sure_108 (by decide) rfl (by decide) (g_lvp (lv2 := [some (.ref x0), none, some (.int x2), some (.int x3), none, some (.int x5), some (.long x6), none, some (.int (x8 + (1 : Int32)))]) (pc2 := 111) rfl rfl ?_)
  refine g_goto (tgt := 70) dX11_sure_111 (by decide) ?_
  exact t70 hf
def F_X11_sure_70 (n : Nat)  : Nat → Nat → Int32 → Int32 → Int32 → Int64 → Int32 → gH → Option (Int64 × gH)
  | 0, _, _, _, _, _, _, _ => none
  | m + 1, x0, x2, x3, x5, x6, x8, h => if x5 ≤ x8 then
  (F_X11_sure_114 n x0 x3 x6 h)
  else
  (if (256 : Int32) ≤ x8 then
  (F_X11_sure_114 n x0 x3 x6 h)
  else
  ((gR h x0 11 6).bind fun v3 =>
  (aI h v3 x8).bind fun v5 =>
  if x2 < v5 then
  (F_X11_sure_108 n (F_X11_sure_70 n m) x0 x2 x3 x5 x6 x8 h)
  else
  ((gR h x0 11 7).bind fun v8 =>
  (aL h v8 x8).bind fun v10 =>
  F_X11_sure_108 n (F_X11_sure_70 n m) x0 x2 x3 x5 (x6 + v10) x8 h)))
set_option maxRecDepth 20000 in
set_option maxHeartbeats 1600000 in
theorem g_X11_sure_70 {n d : Nat} : ∀ {m : Nat} {x0 : Nat} {x2 : Int32} {x3 : Int32} {x5 : Int32} {x6 : Int64} {x8 : Int32} {h : gH} {rh : gH} {rv : Int64}, F_X11_sure_70 n m x0 x2 x3 x5 x6 x8 h = some (rv, rh) → G M_X11_sure (d + 7) 0 0 0 0 70 [some (.ref x0), none, some (.int x2), some (.int x3), none, some (.int x5), some (.long x6), none, some (.int x8)] [] h (qL rv rh) := by
  intro m
  induction m with
  | zero => intro x0 x2 x3 x5 x6 x8 h rh rv hf; cases hf
  | succ m t70 =>
    intro x0 x2 x3 x5 x6 x8 h rh rv hf
    unfold F_X11_sure_70 at hf
    refine g_iload dX11_sure_70 rfl ?_
    refine g_iload dX11_sure_72 rfl ?_
    refine g_icmp_ge (tgt := 114) dX11_sure_74 (by decide) (fun c1 => ?_) (fun c1 => ?_)
    · rw [if_pos c1] at hf
      refine g_weak (lv2 := [some (.ref x0), none, none, some (.int x3), none, none, some (.long x6), none, none]) (And.intro rfl (And.intro rfl (And.intro rfl (trivial)))) ?_
      exact g_X11_sure_114 hf
    · rw [if_neg c1] at hf
      refine g_iload dX11_sure_77 rfl ?_
      refine g_sipush (v := (256 : Int32)) dX11_sure_79 (by decide) ?_
      refine g_icmp_ge (tgt := 114) dX11_sure_82 (by decide) (fun c2 => ?_) (fun c2 => ?_)
      · rw [if_pos c2] at hf
        refine g_weak (lv2 := [some (.ref x0), none, none, some (.int x3), none, none, some (.long x6), none, none]) (And.intro rfl (And.intro rfl (And.intro rfl (trivial)))) ?_
        exact g_X11_sure_114 hf
      · rw [if_neg c2] at hf
        refine g_aload_n dX11_sure_85 rfl ?_
        replace hf := Option.bind_eq_some_iff.mp hf
        obtain ⟨v3, q4, hf⟩ := hf
        refine g_gR f_X11_42 dX11_sure_86 q4 ?_
        refine g_iload dX11_sure_89 rfl ?_
        replace hf := Option.bind_eq_some_iff.mp hf
        obtain ⟨v5, q6, hf⟩ := hf
        refine g_aI dX11_sure_91 q6 ?_
        refine g_iload_n dX11_sure_92 rfl ?_
        refine g_icmp_gt (tgt := 108) dX11_sure_93 (by decide) (fun c7 => ?_) (fun c7 => ?_)
        · rw [if_pos c7] at hf
          exact g_X11_sure_108 t70 hf
        · rw [if_neg c7] at hf
          refine g_lload dX11_sure_96 rfl ?_
          refine g_aload_n dX11_sure_98 rfl ?_
          replace hf := Option.bind_eq_some_iff.mp hf
          obtain ⟨v8, q9, hf⟩ := hf
          refine g_gR f_X11_45 dX11_sure_99 q9 ?_
          refine g_iload dX11_sure_102 rfl ?_
          replace hf := Option.bind_eq_some_iff.mp hf
          obtain ⟨v10, q11, hf⟩ := hf
          refine g_aL dX11_sure_104 q11 ?_
          refine g_ladd dX11_sure_105 ?_
          refine g_lstore dX11_sure_106 (by decide) (g_lvp (lv2 := [some (.ref x0), none, some (.int x2), some (.int x3), none, some (.int x5), some (.long (x6 + v10)), none, some (.int x8)]) (pc2 := 108) rfl rfl ?_)
          exact g_X11_sure_108 t70 hf
def F_X11_sure_52 (n : Nat)   (h : gH) : Option (Int64 × gH) :=
  some ((-9223372036854775808 : Int64), h)
set_option maxRecDepth 20000 in
set_option maxHeartbeats 1600000 in
theorem g_X11_sure_52 {n d : Nat} : ∀  {h : gH} {rh : gH} {rv : Int64}, F_X11_sure_52 n  h = some (rv, rh) → G M_X11_sure (d + 7) 0 0 0 0 52 [none, none, none, none, none, none, none, none, none] [] h (qL rv rh) := by
  intro  h rh rv hf
  unfold F_X11_sure_52 at hf
  refine g_ldc2 (v := (-9223372036854775808 : Int64)) (gt_4 (List.mem_of_getElem? (i := 82) (by decide +kernel)) (by decide +kernel)) dX11_sure_52 ?_
  obtain ⟨rfl, rfl⟩ := Prod.mk.inj (Option.some.inj hf)
  exact g_lret dX11_sure_55 rfl ⟨rfl, rfl⟩ (Nat.le_of_ble_eq_true rfl) (Nat.le_of_ble_eq_true rfl)
def F_X11_sure_37 (n : Nat)   (h : gH) : Option (Int64 × gH) :=
  some ((-9223372036854775808 : Int64), h)
set_option maxRecDepth 20000 in
set_option maxHeartbeats 1600000 in
theorem g_X11_sure_37 {n d : Nat} : ∀  {h : gH} {rh : gH} {rv : Int64}, F_X11_sure_37 n  h = some (rv, rh) → G M_X11_sure (d + 7) 0 0 0 0 37 [none, none, none, none, none, none, none, none, none] [] h (qL rv rh) := by
  intro  h rh rv hf
  unfold F_X11_sure_37 at hf
  refine g_ldc2 (v := (-9223372036854775808 : Int64)) (gt_4 (List.mem_of_getElem? (i := 82) (by decide +kernel)) (by decide +kernel)) dX11_sure_37 ?_
  obtain ⟨rfl, rfl⟩ := Prod.mk.inj (Option.some.inj hf)
  exact g_lret dX11_sure_40 rfl ⟨rfl, rfl⟩ (Nat.le_of_ble_eq_true rfl) (Nat.le_of_ble_eq_true rfl)
def F_X11_sure_0 (n : Nat)  (x0 : Nat) (x1 : Int32) (x2 : Int32) (x3 : Int32) (h : gH) : Option (Int64 × gH) :=
  (gR h x0 11 0).bind fun v1 =>
  (gO h v1 7).bind fun f3 =>
  gB (F_X7_find n v1 x1 h) fun v7 h5 =>
  if v7 = none then
  (F_X11_sure_37 n h5)
  else
  (if x3 < 0 then
  (F_X11_sure_37 n h5)
  else
  (if (1 : Int32) < x3 then
  (F_X11_sure_37 n h5)
  else
  ((gR h5 x0 11 0).bind fun v11 =>
  (gR h5 v11 7 1).bind fun v13 =>
  (gI h5 v13 6 8).bind fun v15 =>
  if v15 = 0 then
  (F_X11_sure_37 n h5)
  else
  (if x2 < 0 then
  (F_X11_sure_52 n h5)
  else
  (if x2 ≤ (9999 : Int32) then
  ((v7).bind fun a20 =>
  (gO h5 x0 11).bind fun f22 =>
  gB (F_X11_spread n x0 a20 h5) fun v26 h24 =>
  F_X11_sure_70 n n x0 x2 x3 v26 (0 : Int64) (0 : Int32) h24)
  else
  (F_X11_sure_52 n h5))))))
set_option maxRecDepth 20000 in
set_option maxHeartbeats 1600000 in
theorem g_X11_sure_0 {n d : Nat} : ∀ {x0 : Nat} {x1 : Int32} {x2 : Int32} {x3 : Int32} {h : gH} {rh : gH} {rv : Int64}, F_X11_sure_0 n x0 x1 x2 x3 h = some (rv, rh) → G M_X11_sure (d + 7) 0 0 0 0 0 [some (.ref x0), some (.int x1), some (.int x2), some (.int x3), none, none, none, none, none] [] h (qL rv rh) := by
  intro x0 x1 x2 x3 h rh rv hf
  unfold F_X11_sure_0 at hf
  refine g_aload_n dX11_sure_0 rfl ?_
  replace hf := Option.bind_eq_some_iff.mp hf
  obtain ⟨v1, q2, hf⟩ := hf
  refine g_gR f_X11_12 dX11_sure_1 q2 ?_
  refine g_iload_n dX11_sure_4 rfl ?_
  replace hf := Option.bind_eq_some_iff.mp hf
  obtain ⟨f3, q4, hf⟩ := hf
  replace hf := gB_of hf
  obtain ⟨v7, h5, q6, hf⟩ := hf
  refine g_callV (as := [.int x1]) (mc1 := 0) (ms1 := 0) s_X11_144_X7_find_7 dX11_sure_5 (gO_of q4) rfl (Nat.le_of_ble_eq_true rfl) (Nat.le_of_ble_eq_true rfl) (Nat.le_of_ble_eq_true rfl) (t_X7_find (d := d + 6) q6) (fun r9 h9 q9 => ?_)
  obtain ⟨rfl, rfl⟩ := q9
  refine g_stp (st2 := [va_rf v7]) (pc2 := 8) (kc2 := 0) (kn2 := 0) rfl rfl rfl rfl ?_
  refine g_astoreq (r := v7) dX11_sure_8 (by decide) (g_lvp (lv2 := [some (.ref x0), some (.int x1), some (.int x2), some (.int x3), some (va_rf v7), none, none, none, none]) (pc2 := 10) rfl rfl ?_)
  refine g_aloadq (r := v7) dX11_sure_10 rfl ?_
  refine g_ifnullq (tgt := 37) dX11_sure_12 (by decide) (fun c8 => ?_) (fun c8 => ?_)
  · rw [if_pos c8] at hf
    refine g_weak (lv2 := [none, none, none, none, none, none, none, none, none]) (trivial) ?_
    exact g_X11_sure_37 hf
  · rw [if_neg c8] at hf
    refine g_iload_n dX11_sure_15 rfl ?_
    refine g_if_lt (tgt := 37) dX11_sure_16 (by decide) (fun c9 => ?_) (fun c9 => ?_)
    · rw [if_pos c9] at hf
      refine g_weak (lv2 := [none, none, none, none, none, none, none, none, none]) (trivial) ?_
      exact g_X11_sure_37 hf
    · rw [if_neg c9] at hf
      refine g_iload_n dX11_sure_19 rfl ?_
      refine g_iconst (v := (1 : Int32)) dX11_sure_20 (by decide) ?_
      refine g_icmp_gt (tgt := 37) dX11_sure_21 (by decide) (fun c10 => ?_) (fun c10 => ?_)
      · rw [if_pos c10] at hf
        refine g_weak (lv2 := [none, none, none, none, none, none, none, none, none]) (trivial) ?_
        exact g_X11_sure_37 hf
      · rw [if_neg c10] at hf
        refine g_aload_n dX11_sure_24 rfl ?_
        replace hf := Option.bind_eq_some_iff.mp hf
        obtain ⟨v11, q12, hf⟩ := hf
        refine g_gR f_X11_12 dX11_sure_25 q12 ?_
        replace hf := Option.bind_eq_some_iff.mp hf
        obtain ⟨v13, q14, hf⟩ := hf
        refine g_gR f_X11_70 dX11_sure_28 q14 ?_
        replace hf := Option.bind_eq_some_iff.mp hf
        obtain ⟨v15, q16, hf⟩ := hf
        refine g_gI f_X11_102 dX11_sure_31 q16 ?_
        refine g_if_ne (tgt := 41) dX11_sure_34 (by decide) (fun c17 => ?_) (fun c17 => ?_)
        · rw [if_neg c17] at hf
          refine g_iload_n dX11_sure_41 rfl ?_
          refine g_if_lt (tgt := 52) dX11_sure_42 (by decide) (fun c18 => ?_) (fun c18 => ?_)
          · rw [if_pos c18] at hf
            refine g_weak (lv2 := [none, none, none, none, none, none, none, none, none]) (trivial) ?_
            exact g_X11_sure_52 hf
          · rw [if_neg c18] at hf
            refine g_iload_n dX11_sure_45 rfl ?_
            refine g_sipush (v := (9999 : Int32)) dX11_sure_46 (by decide) ?_
            refine g_icmp_le (tgt := 56) dX11_sure_49 (by decide) (fun c19 => ?_) (fun c19 => ?_)
            · rw [if_pos c19] at hf
              refine g_aload_n dX11_sure_56 rfl ?_
              refine g_aloadq (r := v7) dX11_sure_57 rfl ?_
              replace hf := Option.bind_eq_some_iff.mp hf
              obtain ⟨a20, q21, hf⟩ := hf
              subst q21
              replace hf := Option.bind_eq_some_iff.mp hf
              obtain ⟨f22, q23, hf⟩ := hf
              replace hf := gB_of hf
              obtain ⟨v26, h24, q25, hf⟩ := hf
              refine g_callV (as := [.ref a20]) (mc1 := 0) (ms1 := 0) s_X11_206_X11_spread_11 dX11_sure_59 (gO_of q23) rfl (Nat.le_of_ble_eq_true rfl) (Nat.le_of_ble_eq_true rfl) (Nat.le_of_ble_eq_true rfl) (t_X11_spread (d := d + 0) q25) (fun r9 h9 q9 => ?_)
              obtain ⟨rfl, rfl⟩ := q9
              refine g_stp (st2 := [.int v26]) (pc2 := 62) (kc2 := 0) (kn2 := 0) rfl rfl rfl rfl ?_
              refine g_istore dX11_sure_62 (by decide) (g_lvp (lv2 := [some (.ref x0), some (.int x1), some (.int x2), some (.int x3), some (va_rf (some a20)), some (.int v26), none, none, none]) (pc2 := 64) rfl rfl ?_)
              refine g_lconst (v := (0 : Int64)) dX11_sure_64 (by decide) ?_
              refine g_lstore dX11_sure_65 (by decide) (g_lvp (lv2 := [some (.ref x0), some (.int x1), some (.int x2), some (.int x3), some (va_rf (some a20)), some (.int v26), some (.long (0 : Int64)), none, none]) (pc2 := 67) rfl rfl ?_)
              refine g_iconst (v := (0 : Int32)) dX11_sure_67 (by decide) ?_
              refine g_istore dX11_sure_68 (by decide) (g_lvp (lv2 := [some (.ref x0), some (.int x1), some (.int x2), some (.int x3), some (va_rf (some a20)), some (.int v26), some (.long (0 : Int64)), none, some (.int (0 : Int32))]) (pc2 := 70) rfl rfl ?_)
              refine g_weak (lv2 := [some (.ref x0), none, some (.int x2), some (.int x3), none, some (.int v26), some (.long (0 : Int64)), none, some (.int (0 : Int32))]) (And.intro rfl (And.intro rfl (And.intro rfl (And.intro rfl (And.intro rfl (And.intro rfl (trivial))))))) ?_
              exact g_X11_sure_70 hf
            · rw [if_neg c19] at hf
              refine g_weak (lv2 := [none, none, none, none, none, none, none, none, none]) (trivial) ?_
              exact g_X11_sure_52 hf
        · rw [if_pos c17] at hf
          refine g_weak (lv2 := [none, none, none, none, none, none, none, none, none]) (trivial) ?_
          exact g_X11_sure_37 hf
def F_X11_sure (n : Nat) (a : Nat) (p0 : Int32) (p1 : Int32) (p2 : Int32) (h : gH) : Option (Int64 × gH) := F_X11_sure_0 n  a p0 p1 p2 h
theorem t_X11_sure {n d : Nat} {a : Nat} {p0 : Int32} {p1 : Int32} {p2 : Int32} {h rh : gH} {rv : Int64} (hf : F_X11_sure n a p0 p1 p2 h = some (rv, rh)) : T M_X11_sure (d + 7) 0 0 [.ref a, .int p0, .int p1, .int p2] h (qL rv rh) := by
  refine T_of_G (L := 5) (by decide +kernel) rfl (Nat.le_of_ble_eq_true rfl) (g_lv (lv2 := [some (.ref a), some (.int p0), some (.int p1), some (.int p2), none, none, none, none, none]) rfl ?_)
  exact g_X11_sure_0 hf
def F_X11_takes_29 (n : Nat)   (h : gH) : Option (Int32 × gH) :=
  some ((-1 : Int32), h)
set_option maxRecDepth 20000 in
set_option maxHeartbeats 1600000 in
theorem g_X11_takes_29 {n d : Nat} : ∀  {h : gH} {rh : gH} {rv : Int32}, F_X11_takes_29 n  h = some (rv, rh) → G M_X11_takes (d + 6) 0 0 0 0 29 [none, none, none, none, none] [] h (qI rv rh) := by
  intro  h rh rv hf
  unfold F_X11_takes_29 at hf
  refine g_iconst (v := (-1 : Int32)) dX11_takes_29 (by decide) ?_
  obtain ⟨rfl, rfl⟩ := Prod.mk.inj (Option.some.inj hf)
  exact g_iret dX11_takes_30 rfl ⟨rfl, rfl⟩ (Nat.le_of_ble_eq_true rfl) (Nat.le_of_ble_eq_true rfl)
def F_X11_takes_0 (n : Nat)  (x0 : Nat) (x1 : Int32) (x2 : Int32) (x3 : Int32) (h : gH) : Option (Int32 × gH) :=
  (gR h x0 11 0).bind fun v1 =>
  (gO h v1 7).bind fun f3 =>
  gB (F_X7_find n v1 x1 h) fun v7 h5 =>
  if v7 = none then
  (F_X11_takes_29 n h5)
  else
  ((gR h5 x0 11 0).bind fun v9 =>
  (gR h5 v9 7 1).bind fun v11 =>
  (gO h5 v11 6).bind fun f13 =>
  gB (F_X6_has n v11 x2 h5) fun v17 h15 =>
  if v17 = 0 then
  (F_X11_takes_29 n h15)
  else
  ((gR h15 x0 11 0).bind fun v19 =>
  (gR h15 v19 7 1).bind fun v21 =>
  (gO h15 v21 6).bind fun f23 =>
  gB (F_X6_holdsStore n v21 x3 h15) fun v27 h25 =>
  if v27 = 0 then
  (some ((-2 : Int32), h25))
  else
  ((gR h25 x0 11 3).bind fun v29 =>
  (gR h25 x0 11 0).bind fun v31 =>
  (gR h25 v31 7 1).bind fun v33 =>
  (gO h25 v29 4).bind fun f35 =>
  (F_X4_prepare n v29 v33 h25).bind fun h37 =>
  (v7).bind fun a39 =>
  (gO h37 x0 11).bind fun f41 =>
  gB (F_X11_effortOf n x0 a39 x2 x3 h37) fun v45 h43 =>
  some (v45, h43))))
set_option maxRecDepth 20000 in
set_option maxHeartbeats 1600000 in
theorem g_X11_takes_0 {n d : Nat} : ∀ {x0 : Nat} {x1 : Int32} {x2 : Int32} {x3 : Int32} {h : gH} {rh : gH} {rv : Int32}, F_X11_takes_0 n x0 x1 x2 x3 h = some (rv, rh) → G M_X11_takes (d + 6) 0 0 0 0 0 [some (.ref x0), some (.int x1), some (.int x2), some (.int x3), none] [] h (qI rv rh) := by
  intro x0 x1 x2 x3 h rh rv hf
  unfold F_X11_takes_0 at hf
  refine g_aload_n dX11_takes_0 rfl ?_
  replace hf := Option.bind_eq_some_iff.mp hf
  obtain ⟨v1, q2, hf⟩ := hf
  refine g_gR f_X11_12 dX11_takes_1 q2 ?_
  refine g_iload_n dX11_takes_4 rfl ?_
  replace hf := Option.bind_eq_some_iff.mp hf
  obtain ⟨f3, q4, hf⟩ := hf
  replace hf := gB_of hf
  obtain ⟨v7, h5, q6, hf⟩ := hf
  refine g_callV (as := [.int x1]) (mc1 := 0) (ms1 := 0) s_X11_144_X7_find_7 dX11_takes_5 (gO_of q4) rfl (Nat.le_of_ble_eq_true rfl) (Nat.le_of_ble_eq_true rfl) (Nat.le_of_ble_eq_true rfl) (t_X7_find (d := d + 5) q6) (fun r9 h9 q9 => ?_)
  obtain ⟨rfl, rfl⟩ := q9
  refine g_stp (st2 := [va_rf v7]) (pc2 := 8) (kc2 := 0) (kn2 := 0) rfl rfl rfl rfl ?_
  refine g_astoreq (r := v7) dX11_takes_8 (by decide) (g_lvp (lv2 := [some (.ref x0), some (.int x1), some (.int x2), some (.int x3), some (va_rf v7)]) (pc2 := 10) rfl rfl ?_)
  refine g_aloadq (r := v7) dX11_takes_10 rfl ?_
  refine g_ifnullq (tgt := 29) dX11_takes_12 (by decide) (fun c8 => ?_) (fun c8 => ?_)
  · rw [if_pos c8] at hf
    refine g_weak (lv2 := [none, none, none, none, none]) (trivial) ?_
    exact g_X11_takes_29 hf
  · rw [if_neg c8] at hf
    refine g_aload_n dX11_takes_15 rfl ?_
    replace hf := Option.bind_eq_some_iff.mp hf
    obtain ⟨v9, q10, hf⟩ := hf
    refine g_gR f_X11_12 dX11_takes_16 q10 ?_
    replace hf := Option.bind_eq_some_iff.mp hf
    obtain ⟨v11, q12, hf⟩ := hf
    refine g_gR f_X11_70 dX11_takes_19 q12 ?_
    refine g_iload_n dX11_takes_22 rfl ?_
    replace hf := Option.bind_eq_some_iff.mp hf
    obtain ⟨f13, q14, hf⟩ := hf
    replace hf := gB_of hf
    obtain ⟨v17, h15, q16, hf⟩ := hf
    refine g_callV (as := [.int x2]) (mc1 := 0) (ms1 := 0) s_X11_86_X6_has_6 dX11_takes_23 (gO_of q14) rfl (Nat.le_of_ble_eq_true rfl) (Nat.le_of_ble_eq_true rfl) (Nat.le_of_ble_eq_true rfl) (t_X6_has (d := d + 5) q16) (fun r9 h9 q9 => ?_)
    obtain ⟨rfl, rfl⟩ := q9
    refine g_stp (st2 := [.int v17]) (pc2 := 26) (kc2 := 0) (kn2 := 0) rfl rfl rfl rfl ?_
    refine g_if_ne (tgt := 31) dX11_takes_26 (by decide) (fun c18 => ?_) (fun c18 => ?_)
    · rw [if_neg c18] at hf
      refine g_aload_n dX11_takes_31 rfl ?_
      replace hf := Option.bind_eq_some_iff.mp hf
      obtain ⟨v19, q20, hf⟩ := hf
      refine g_gR f_X11_12 dX11_takes_32 q20 ?_
      replace hf := Option.bind_eq_some_iff.mp hf
      obtain ⟨v21, q22, hf⟩ := hf
      refine g_gR f_X11_70 dX11_takes_35 q22 ?_
      refine g_iload_n dX11_takes_38 rfl ?_
      replace hf := Option.bind_eq_some_iff.mp hf
      obtain ⟨f23, q24, hf⟩ := hf
      replace hf := gB_of hf
      obtain ⟨v27, h25, q26, hf⟩ := hf
      refine g_callV (as := [.int x3]) (mc1 := 0) (ms1 := 0) s_X11_120_X6_holdsStore_6 dX11_takes_39 (gO_of q24) rfl (Nat.le_of_ble_eq_true rfl) (Nat.le_of_ble_eq_true rfl) (Nat.le_of_ble_eq_true rfl) (t_X6_holdsStore (d := d + 5) q26) (fun r9 h9 q9 => ?_)
      obtain ⟨rfl, rfl⟩ := q9
      refine g_stp (st2 := [.int v27]) (pc2 := 42) (kc2 := 0) (kn2 := 0) rfl rfl rfl rfl ?_
      refine g_if_ne (tgt := 48) dX11_takes_42 (by decide) (fun c28 => ?_) (fun c28 => ?_)
      · rw [if_neg c28] at hf
        refine g_aload_n dX11_takes_48 rfl ?_
        replace hf := Option.bind_eq_some_iff.mp hf
        obtain ⟨v29, q30, hf⟩ := hf
        refine g_gR f_X11_31 dX11_takes_49 q30 ?_
        refine g_aload_n dX11_takes_52 rfl ?_
        replace hf := Option.bind_eq_some_iff.mp hf
        obtain ⟨v31, q32, hf⟩ := hf
        refine g_gR f_X11_12 dX11_takes_53 q32 ?_
        replace hf := Option.bind_eq_some_iff.mp hf
        obtain ⟨v33, q34, hf⟩ := hf
        refine g_gR f_X11_70 dX11_takes_56 q34 ?_
        replace hf := Option.bind_eq_some_iff.mp hf
        obtain ⟨f35, q36, hf⟩ := hf
        replace hf := Option.bind_eq_some_iff.mp hf
        obtain ⟨h37, q38, hf⟩ := hf
        refine g_callV (as := [.ref v33]) (mc1 := 0) (ms1 := 0) s_X11_158_X4_prepare_4 dX11_takes_59 (gO_of q36) rfl (Nat.le_of_ble_eq_true rfl) (Nat.le_of_ble_eq_true rfl) (Nat.le_of_ble_eq_true rfl) (t_X4_prepare (d := d + 0) q38) (fun r9 h9 q9 => ?_)
        obtain ⟨rfl, rfl⟩ := q9
        refine g_stp (st2 := []) (pc2 := 62) (kc2 := 0) (kn2 := 0) rfl rfl rfl rfl ?_
        refine g_aload_n dX11_takes_62 rfl ?_
        refine g_aloadq (r := v7) dX11_takes_63 rfl ?_
        refine g_iload_n dX11_takes_65 rfl ?_
        refine g_iload_n dX11_takes_66 rfl ?_
        replace hf := Option.bind_eq_some_iff.mp hf
        obtain ⟨a39, q40, hf⟩ := hf
        subst q40
        replace hf := Option.bind_eq_some_iff.mp hf
        obtain ⟨f41, q42, hf⟩ := hf
        replace hf := gB_of hf
        obtain ⟨v45, h43, q44, hf⟩ := hf
        refine g_callV (as := [.ref a39, .int x2, .int x3]) (mc1 := 0) (ms1 := 0) s_X11_161_X11_effortOf_11 dX11_takes_67 (gO_of q42) rfl (Nat.le_of_ble_eq_true rfl) (Nat.le_of_ble_eq_true rfl) (Nat.le_of_ble_eq_true rfl) (t_X11_effortOf (d := d + 2) q44) (fun r9 h9 q9 => ?_)
        obtain ⟨rfl, rfl⟩ := q9
        refine g_stp (st2 := [.int v45]) (pc2 := 70) (kc2 := 0) (kn2 := 0) rfl rfl rfl rfl ?_
        obtain ⟨rfl, rfl⟩ := Prod.mk.inj (Option.some.inj hf)
        exact g_iret dX11_takes_70 rfl ⟨rfl, rfl⟩ (Nat.le_of_ble_eq_true rfl) (Nat.le_of_ble_eq_true rfl)
      · rw [if_pos c28] at hf
        refine g_bipush (v := (-2 : Int32)) dX11_takes_45 (by decide) ?_
        obtain ⟨rfl, rfl⟩ := Prod.mk.inj (Option.some.inj hf)
        exact g_iret dX11_takes_47 rfl ⟨rfl, rfl⟩ (Nat.le_of_ble_eq_true rfl) (Nat.le_of_ble_eq_true rfl)
    · rw [if_pos c18] at hf
      refine g_weak (lv2 := [none, none, none, none, none]) (trivial) ?_
      exact g_X11_takes_29 hf
def F_X11_takes (n : Nat) (a : Nat) (p0 : Int32) (p1 : Int32) (p2 : Int32) (h : gH) : Option (Int32 × gH) := F_X11_takes_0 n  a p0 p1 p2 h
theorem t_X11_takes {n d : Nat} {a : Nat} {p0 : Int32} {p1 : Int32} {p2 : Int32} {h rh : gH} {rv : Int32} (hf : F_X11_takes n a p0 p1 p2 h = some (rv, rh)) : T M_X11_takes (d + 6) 0 0 [.ref a, .int p0, .int p1, .int p2] h (qI rv rh) := by
  refine T_of_G (L := 1) (by decide +kernel) rfl (Nat.le_of_ble_eq_true rfl) (g_lv (lv2 := [some (.ref a), some (.int p0), some (.int p1), some (.int p2), none]) rfl ?_)
  exact g_X11_takes_0 hf
def F_X11_told_0 (n : Nat)  (x0 : Nat) (x1 : Int32) (h : gH) : Option (Int32 × gH) :=
  (gR h x0 11 0).bind fun v1 =>
  (gR h v1 7 1).bind fun v3 =>
  if x1 = (0 : Int32) then
  ((gI h v3 6 8).bind fun v6 =>
  some (v6, h))
  else if x1 = (1 : Int32) then
  ((gI h v3 6 11).bind fun v9 =>
  some (v9, h))
  else if x1 = (2 : Int32) then
  ((gI h v3 6 12).bind fun v12 =>
  some (v12, h))
  else if x1 = (3 : Int32) then
  ((gI h v3 6 13).bind fun v15 =>
  some (v15, h))
  else if x1 = (4 : Int32) then
  ((gI h v3 6 14).bind fun v18 =>
  some (v18, h))
  else (some ((-1 : Int32), h))
set_option maxRecDepth 20000 in
set_option maxHeartbeats 1600000 in
theorem g_X11_told_0 {n d : Nat} : ∀ {x0 : Nat} {x1 : Int32} {h : gH} {rh : gH} {rv : Int32}, F_X11_told_0 n x0 x1 h = some (rv, rh) → G M_X11_told d 0 0 0 0 0 [some (.ref x0), some (.int x1), none] [] h (qI rv rh) := by
  intro x0 x1 h rh rv hf
  unfold F_X11_told_0 at hf
  refine g_aload_n dX11_told_0 rfl ?_
  replace hf := Option.bind_eq_some_iff.mp hf
  obtain ⟨v1, q2, hf⟩ := hf
  refine g_gR f_X11_12 dX11_told_1 q2 ?_
  replace hf := Option.bind_eq_some_iff.mp hf
  obtain ⟨v3, q4, hf⟩ := hf
  refine g_gR f_X11_70 dX11_told_4 q4 ?_
  refine g_astore_n dX11_told_7 (by decide) (g_lvp (lv2 := [some (.ref x0), some (.int x1), some (.ref v3)]) (pc2 := 8) rfl rfl ?_)
  refine g_iload_n dX11_told_8 rfl ?_
  by_cases c5 : x1 = (0 : Int32)
  · rw [if_pos c5] at hf
    refine g_tswK (k := (0 : Int32)) (off := 35) (tgt := 44) dX11_told_9 c5 (by decide) (by decide) (by decide) (by decide) ?_
    refine g_aload_n dX11_told_44 rfl ?_
    replace hf := Option.bind_eq_some_iff.mp hf
    obtain ⟨v6, q7, hf⟩ := hf
    refine g_gI f_X11_102 dX11_told_45 q7 ?_
    obtain ⟨rfl, rfl⟩ := Prod.mk.inj (Option.some.inj hf)
    exact g_iret dX11_told_48 rfl ⟨rfl, rfl⟩ (Nat.le_of_ble_eq_true rfl) (Nat.le_of_ble_eq_true rfl)
  rw [if_neg c5] at hf
  by_cases c8 : x1 = (1 : Int32)
  · rw [if_pos c8] at hf
    refine g_tswK (k := (1 : Int32)) (off := 40) (tgt := 49) dX11_told_9 c8 (by decide) (by decide) (by decide) (by decide) ?_
    refine g_aload_n dX11_told_49 rfl ?_
    replace hf := Option.bind_eq_some_iff.mp hf
    obtain ⟨v9, q10, hf⟩ := hf
    refine g_gI f_X11_105 dX11_told_50 q10 ?_
    obtain ⟨rfl, rfl⟩ := Prod.mk.inj (Option.some.inj hf)
    exact g_iret dX11_told_53 rfl ⟨rfl, rfl⟩ (Nat.le_of_ble_eq_true rfl) (Nat.le_of_ble_eq_true rfl)
  rw [if_neg c8] at hf
  by_cases c11 : x1 = (2 : Int32)
  · rw [if_pos c11] at hf
    refine g_tswK (k := (2 : Int32)) (off := 45) (tgt := 54) dX11_told_9 c11 (by decide) (by decide) (by decide) (by decide) ?_
    refine g_aload_n dX11_told_54 rfl ?_
    replace hf := Option.bind_eq_some_iff.mp hf
    obtain ⟨v12, q13, hf⟩ := hf
    refine g_gI f_X11_108 dX11_told_55 q13 ?_
    obtain ⟨rfl, rfl⟩ := Prod.mk.inj (Option.some.inj hf)
    exact g_iret dX11_told_58 rfl ⟨rfl, rfl⟩ (Nat.le_of_ble_eq_true rfl) (Nat.le_of_ble_eq_true rfl)
  rw [if_neg c11] at hf
  by_cases c14 : x1 = (3 : Int32)
  · rw [if_pos c14] at hf
    refine g_tswK (k := (3 : Int32)) (off := 50) (tgt := 59) dX11_told_9 c14 (by decide) (by decide) (by decide) (by decide) ?_
    refine g_aload_n dX11_told_59 rfl ?_
    replace hf := Option.bind_eq_some_iff.mp hf
    obtain ⟨v15, q16, hf⟩ := hf
    refine g_gI f_X11_111 dX11_told_60 q16 ?_
    obtain ⟨rfl, rfl⟩ := Prod.mk.inj (Option.some.inj hf)
    exact g_iret dX11_told_63 rfl ⟨rfl, rfl⟩ (Nat.le_of_ble_eq_true rfl) (Nat.le_of_ble_eq_true rfl)
  rw [if_neg c14] at hf
  by_cases c17 : x1 = (4 : Int32)
  · rw [if_pos c17] at hf
    refine g_tswK (k := (4 : Int32)) (off := 55) (tgt := 64) dX11_told_9 c17 (by decide) (by decide) (by decide) (by decide) ?_
    refine g_aload_n dX11_told_64 rfl ?_
    replace hf := Option.bind_eq_some_iff.mp hf
    obtain ⟨v18, q19, hf⟩ := hf
    refine g_gI f_X11_114 dX11_told_65 q19 ?_
    obtain ⟨rfl, rfl⟩ := Prod.mk.inj (Option.some.inj hf)
    exact g_iret dX11_told_68 rfl ⟨rfl, rfl⟩ (Nat.le_of_ble_eq_true rfl) (Nat.le_of_ble_eq_true rfl)
  rw [if_neg c17] at hf
  have zc5 : (x1).toInt ≠ 0 := fun e => c5 (Int32.toInt_inj.mp (e.trans (by decide)))
  have zc8 : (x1).toInt ≠ 1 := fun e => c8 (Int32.toInt_inj.mp (e.trans (by decide)))
  have zc11 : (x1).toInt ≠ 2 := fun e => c11 (Int32.toInt_inj.mp (e.trans (by decide)))
  have zc14 : (x1).toInt ≠ 3 := fun e => c14 (Int32.toInt_inj.mp (e.trans (by decide)))
  have zc17 : (x1).toInt ≠ 4 := fun e => c17 (Int32.toInt_inj.mp (e.trans (by decide)))
  refine g_tableOut (tgt := 69) dX11_told_9 (by omega) (by decide) ?_
  refine g_iconst (v := (-1 : Int32)) dX11_told_69 (by decide) ?_
  obtain ⟨rfl, rfl⟩ := Prod.mk.inj (Option.some.inj hf)
  exact g_iret dX11_told_70 rfl ⟨rfl, rfl⟩ (Nat.le_of_ble_eq_true rfl) (Nat.le_of_ble_eq_true rfl)
def F_X11_told (n : Nat) (a : Nat) (p0 : Int32) (h : gH) : Option (Int32 × gH) := F_X11_told_0 n  a p0 h
theorem t_X11_told {n d : Nat} {a : Nat} {p0 : Int32} {h rh : gH} {rv : Int32} (hf : F_X11_told n a p0 h = some (rv, rh)) : T M_X11_told d 0 0 [.ref a, .int p0] h (qI rv rh) := by
  refine T_of_G (L := 1) (by decide +kernel) rfl (Nat.le_of_ble_eq_true rfl) (g_lv (lv2 := [some (.ref a), some (.int p0), none]) rfl ?_)
  exact g_X11_told_0 hf
def F_X11_trace_21 (n : Nat)   (h : gH) : Option (Int32 × gH) :=
  some ((-1 : Int32), h)
set_option maxRecDepth 20000 in
set_option maxHeartbeats 1600000 in
theorem g_X11_trace_21 {n d : Nat} : ∀  {h : gH} {rh : gH} {rv : Int32}, F_X11_trace_21 n  h = some (rv, rh) → G M_X11_trace d 0 0 0 0 21 [none, none] [] h (qI rv rh) := by
  intro  h rh rv hf
  unfold F_X11_trace_21 at hf
  refine g_iconst (v := (-1 : Int32)) dX11_trace_21 (by decide) ?_
  obtain ⟨rfl, rfl⟩ := Prod.mk.inj (Option.some.inj hf)
  exact g_iret dX11_trace_22 rfl ⟨rfl, rfl⟩ (Nat.le_of_ble_eq_true rfl) (Nat.le_of_ble_eq_true rfl)
def F_X11_trace_0 (n : Nat)  (x0 : Nat) (x1 : Int32) (h : gH) : Option (Int32 × gH) :=
  if x1 < 0 then
  (F_X11_trace_21 n h)
  else
  ((gR h x0 11 0).bind fun v2 =>
  (gI h v2 7 10).bind fun v4 =>
  if v4 ≤ x1 then
  (F_X11_trace_21 n h)
  else
  (if x1 < (20 : Int32) then
  ((gR h x0 11 0).bind fun v8 =>
  (gR h v8 7 5).bind fun v10 =>
  (aI h v10 x1).bind fun v12 =>
  some (v12, h))
  else
  (F_X11_trace_21 n h)))
set_option maxRecDepth 20000 in
set_option maxHeartbeats 1600000 in
theorem g_X11_trace_0 {n d : Nat} : ∀ {x0 : Nat} {x1 : Int32} {h : gH} {rh : gH} {rv : Int32}, F_X11_trace_0 n x0 x1 h = some (rv, rh) → G M_X11_trace d 0 0 0 0 0 [some (.ref x0), some (.int x1)] [] h (qI rv rh) := by
  intro x0 x1 h rh rv hf
  unfold F_X11_trace_0 at hf
  refine g_iload_n dX11_trace_0 rfl ?_
  refine g_if_lt (tgt := 21) dX11_trace_1 (by decide) (fun c1 => ?_) (fun c1 => ?_)
  · rw [if_pos c1] at hf
    refine g_weak (lv2 := [none, none]) (trivial) ?_
    exact g_X11_trace_21 hf
  · rw [if_neg c1] at hf
    refine g_iload_n dX11_trace_4 rfl ?_
    refine g_aload_n dX11_trace_5 rfl ?_
    replace hf := Option.bind_eq_some_iff.mp hf
    obtain ⟨v2, q3, hf⟩ := hf
    refine g_gR f_X11_12 dX11_trace_6 q3 ?_
    replace hf := Option.bind_eq_some_iff.mp hf
    obtain ⟨v4, q5, hf⟩ := hf
    refine g_gI f_X11_231 dX11_trace_9 q5 ?_
    refine g_icmp_ge (tgt := 21) dX11_trace_12 (by decide) (fun c6 => ?_) (fun c6 => ?_)
    · rw [if_pos c6] at hf
      refine g_weak (lv2 := [none, none]) (trivial) ?_
      exact g_X11_trace_21 hf
    · rw [if_neg c6] at hf
      refine g_iload_n dX11_trace_15 rfl ?_
      refine g_bipush (v := (20 : Int32)) dX11_trace_16 (by decide) ?_
      refine g_icmp_lt (tgt := 23) dX11_trace_18 (by decide) (fun c7 => ?_) (fun c7 => ?_)
      · rw [if_pos c7] at hf
        refine g_aload_n dX11_trace_23 rfl ?_
        replace hf := Option.bind_eq_some_iff.mp hf
        obtain ⟨v8, q9, hf⟩ := hf
        refine g_gR f_X11_12 dX11_trace_24 q9 ?_
        replace hf := Option.bind_eq_some_iff.mp hf
        obtain ⟨v10, q11, hf⟩ := hf
        refine g_gR f_X11_246 dX11_trace_27 q11 ?_
        refine g_iload_n dX11_trace_30 rfl ?_
        replace hf := Option.bind_eq_some_iff.mp hf
        obtain ⟨v12, q13, hf⟩ := hf
        refine g_aI dX11_trace_31 q13 ?_
        obtain ⟨rfl, rfl⟩ := Prod.mk.inj (Option.some.inj hf)
        exact g_iret dX11_trace_32 rfl ⟨rfl, rfl⟩ (Nat.le_of_ble_eq_true rfl) (Nat.le_of_ble_eq_true rfl)
      · rw [if_neg c7] at hf
        refine g_weak (lv2 := [none, none]) (trivial) ?_
        exact g_X11_trace_21 hf
def F_X11_trace (n : Nat) (a : Nat) (p0 : Int32) (h : gH) : Option (Int32 × gH) := F_X11_trace_0 n  a p0 h
theorem t_X11_trace {n d : Nat} {a : Nat} {p0 : Int32} {h rh : gH} {rv : Int32} (hf : F_X11_trace n a p0 h = some (rv, rh)) : T M_X11_trace d 0 0 [.ref a, .int p0] h (qI rv rh) := by
  refine T_of_G (L := 0) (by decide +kernel) rfl (Nat.le_of_ble_eq_true rfl) (g_lv (lv2 := [some (.ref a), some (.int p0)]) rfl ?_)
  exact g_X11_trace_0 hf
def F_X11_undo_0 (n : Nat)  (x0 : Nat) (h : gH) : Option (Int32 × gH) :=
  (gI h x0 11 11).bind fun v1 =>
  if v1 = 0 then
  (some ((-3 : Int32), h))
  else
  ((gR h x0 11 0).bind fun v4 =>
  (gR h x0 11 1).bind fun v6 =>
  (gO h v4 7).bind fun f8 =>
  (F_X7_copyFrom n v4 v6 h).bind fun h10 =>
  (gR h10 x0 11 0).bind fun v12 =>
  (gI h10 v12 7 8).bind fun v14 =>
  some (v14, h10))
set_option maxRecDepth 20000 in
set_option maxHeartbeats 1600000 in
theorem g_X11_undo_0 {n d : Nat} : ∀ {x0 : Nat} {h : gH} {rh : gH} {rv : Int32}, F_X11_undo_0 n x0 h = some (rv, rh) → G M_X11_undo (d + 3) 0 0 0 0 0 [some (.ref x0)] [] h (qI rv rh) := by
  intro x0 h rh rv hf
  unfold F_X11_undo_0 at hf
  refine g_aload_n dX11_undo_0 rfl ?_
  replace hf := Option.bind_eq_some_iff.mp hf
  obtain ⟨v1, q2, hf⟩ := hf
  refine g_gI f_X11_259 dX11_undo_1 q2 ?_
  refine g_if_ne (tgt := 10) dX11_undo_4 (by decide) (fun c3 => ?_) (fun c3 => ?_)
  · rw [if_neg c3] at hf
    refine g_aload_n dX11_undo_10 rfl ?_
    replace hf := Option.bind_eq_some_iff.mp hf
    obtain ⟨v4, q5, hf⟩ := hf
    refine g_gR f_X11_12 dX11_undo_11 q5 ?_
    refine g_aload_n dX11_undo_14 rfl ?_
    replace hf := Option.bind_eq_some_iff.mp hf
    obtain ⟨v6, q7, hf⟩ := hf
    refine g_gR f_X11_18 dX11_undo_15 q7 ?_
    replace hf := Option.bind_eq_some_iff.mp hf
    obtain ⟨f8, q9, hf⟩ := hf
    replace hf := Option.bind_eq_some_iff.mp hf
    obtain ⟨h10, q11, hf⟩ := hf
    refine g_callV (as := [.ref v6]) (mc1 := 0) (ms1 := 0) s_X11_256_X7_copyFrom_7 dX11_undo_18 (gO_of q9) rfl (Nat.le_of_ble_eq_true rfl) (Nat.le_of_ble_eq_true rfl) (Nat.le_of_ble_eq_true rfl) (t_X7_copyFrom (d := d + 0) q11) (fun r9 h9 q9 => ?_)
    obtain ⟨rfl, rfl⟩ := q9
    refine g_stp (st2 := []) (pc2 := 21) (kc2 := 0) (kn2 := 0) rfl rfl rfl rfl ?_
    refine g_aload_n dX11_undo_21 rfl ?_
    replace hf := Option.bind_eq_some_iff.mp hf
    obtain ⟨v12, q13, hf⟩ := hf
    refine g_gR f_X11_12 dX11_undo_22 q13 ?_
    replace hf := Option.bind_eq_some_iff.mp hf
    obtain ⟨v14, q15, hf⟩ := hf
    refine g_gI f_X11_133 dX11_undo_25 q15 ?_
    obtain ⟨rfl, rfl⟩ := Prod.mk.inj (Option.some.inj hf)
    exact g_iret dX11_undo_28 rfl ⟨rfl, rfl⟩ (Nat.le_of_ble_eq_true rfl) (Nat.le_of_ble_eq_true rfl)
  · rw [if_pos c3] at hf
    refine g_bipush (v := (-3 : Int32)) dX11_undo_7 (by decide) ?_
    obtain ⟨rfl, rfl⟩ := Prod.mk.inj (Option.some.inj hf)
    exact g_iret dX11_undo_9 rfl ⟨rfl, rfl⟩ (Nat.le_of_ble_eq_true rfl) (Nat.le_of_ble_eq_true rfl)
def F_X11_undo (n : Nat) (a : Nat) (h : gH) : Option (Int32 × gH) := F_X11_undo_0 n  a h
theorem t_X11_undo {n d : Nat} {a : Nat} {h rh : gH} {rv : Int32} (hf : F_X11_undo n a h = some (rv, rh)) : T M_X11_undo (d + 3) 0 0 [.ref a] h (qI rv rh) := by
  refine T_of_G (L := 0) (by decide +kernel) rfl (Nat.le_of_ble_eq_true rfl) (g_lv (lv2 := [some (.ref a)]) rfl ?_)
  exact g_X11_undo_0 hf
def F_X7_addWay_29 (n : Nat)  : Nat → Nat → Int32 → gH → Option (gH)
  | 0, _, _, _ => none
  | m + 1, x0, x2, h => if (8 : Int32) ≤ x2 then
  ((gI h x0 7 8).bind fun v2 =>
  (pF h x0 7 8 (.int (v2 + (1 : Int32)))).bind fun h4 =>
  some h4)
  else
  ((gI h x0 7 8).bind fun v6 =>
  (gO h x0 7).bind fun f8 =>
  (F_X7_setLine n x0 v6 x2 (-1 : Int32) h).bind fun h10 =>
  F_X7_addWay_29 n m x0 (x2 + (1 : Int32)) h10)
set_option maxRecDepth 20000 in
set_option maxHeartbeats 1600000 in
theorem g_X7_addWay_29 {n d : Nat} : ∀ {m : Nat} {x0 : Nat} {x2 : Int32} {h : gH} {rh : gH}, F_X7_addWay_29 n m x0 x2 h = some rh → G M_X7_addWay (d + 1) 0 0 0 0 29 [some (.ref x0), none, some (.int x2)] [] h (qV rh) := by
  intro m
  induction m with
  | zero => intro x0 x2 h rh hf; cases hf
  | succ m t29 =>
    intro x0 x2 h rh hf
    unfold F_X7_addWay_29 at hf
    refine g_iload_n dX7_addWay_29 rfl ?_
    refine g_bipush (v := (8 : Int32)) dX7_addWay_30 (by decide) ?_
    refine g_icmp_ge (tgt := 51) dX7_addWay_32 (by decide) (fun c1 => ?_) (fun c1 => ?_)
    · rw [if_pos c1] at hf
      refine g_aload_n dX7_addWay_51 rfl ?_
      refine g_dup dX7_addWay_52 rfl ?_
      replace hf := Option.bind_eq_some_iff.mp hf
      obtain ⟨v2, q3, hf⟩ := hf
      refine g_gI f_X7_52 dX7_addWay_53 q3 ?_
      refine g_iconst (v := (1 : Int32)) dX7_addWay_56 (by decide) ?_
      refine g_iadd dX7_addWay_57 ?_
      replace hf := Option.bind_eq_some_iff.mp hf
      obtain ⟨h4, q5, hf⟩ := hf
      refine g_pF p_X7_52 dX7_addWay_58 q5 (fun _ => rfl) (fun _ => rfl) ?_
      obtain rfl := Option.some.inj hf
      exact g_vret dX7_addWay_61 rfl ⟨rfl, rfl⟩ (Nat.le_of_ble_eq_true rfl) (Nat.le_of_ble_eq_true rfl)
    · rw [if_neg c1] at hf
      refine g_aload_n dX7_addWay_35 rfl ?_
      refine g_aload_n dX7_addWay_36 rfl ?_
      replace hf := Option.bind_eq_some_iff.mp hf
      obtain ⟨v6, q7, hf⟩ := hf
      refine g_gI f_X7_52 dX7_addWay_37 q7 ?_
      refine g_iload_n dX7_addWay_40 rfl ?_
      refine g_iconst (v := (-1 : Int32)) dX7_addWay_41 (by decide) ?_
      replace hf := Option.bind_eq_some_iff.mp hf
      obtain ⟨f8, q9, hf⟩ := hf
      replace hf := Option.bind_eq_some_iff.mp hf
      obtain ⟨h10, q11, hf⟩ := hf
      refine g_callV (as := [.int v6, .int x2, .int (-1 : Int32)]) (mc1 := 0) (ms1 := 0) s_X7_58_X7_setLine_7 dX7_addWay_42 (gO_of q9) rfl (Nat.le_of_ble_eq_true rfl) (Nat.le_of_ble_eq_true rfl) (Nat.le_of_ble_eq_true rfl) (t_X7_setLine (d := d + 0) q11) (fun r9 h9 q9 => ?_)
      obtain ⟨rfl, rfl⟩ := q9
      refine g_stp (st2 := []) (pc2 := 45) (kc2 := 0) (kn2 := 0) rfl rfl rfl rfl ?_
      refine g_iinc2 (w := (1 : Int32)) dX7_addWay_45 (by decide) rfl (by decide) (g_lvp (lv2 := [some (.ref x0), none, some (.int (x2 + (1 : Int32)))]) (pc2 := 48) rfl rfl ?_)
      refine g_goto (tgt := 29) dX7_addWay_48 (by decide) ?_
      exact t29 hf
def F_X7_addWay_16 (n : Nat)   (h : gH) : Option (gH) :=
  some h
set_option maxRecDepth 20000 in
set_option maxHeartbeats 1600000 in
theorem g_X7_addWay_16 {n d : Nat} : ∀  {h : gH} {rh : gH}, F_X7_addWay_16 n  h = some rh → G M_X7_addWay (d + 1) 0 0 0 0 16 [none, none, none] [] h (qV rh) := by
  intro  h rh hf
  unfold F_X7_addWay_16 at hf
  obtain rfl := Option.some.inj hf
  exact g_vret dX7_addWay_16 rfl ⟨rfl, rfl⟩ (Nat.le_of_ble_eq_true rfl) (Nat.le_of_ble_eq_true rfl)
def F_X7_addWay_0 (n : Nat)  (x0 : Nat) (x1 : Nat) (h : gH) : Option (gH) :=
  (gI h x0 7 8).bind fun v1 =>
  if v1 < 0 then
  (F_X7_addWay_16 n h)
  else
  ((gI h x0 7 8).bind fun v4 =>
  if v4 < (8 : Int32) then
  ((gR h x0 7 2).bind fun v7 =>
  (gI h x0 7 8).bind fun v9 =>
  (sQ h v7 v9 (some x1)).bind fun h11 =>
  F_X7_addWay_29 n n x0 (0 : Int32) h11)
  else
  (F_X7_addWay_16 n h))
set_option maxRecDepth 20000 in
set_option maxHeartbeats 1600000 in
theorem g_X7_addWay_0 {n d : Nat} : ∀ {x0 : Nat} {x1 : Nat} {h : gH} {rh : gH}, F_X7_addWay_0 n x0 x1 h = some rh → G M_X7_addWay (d + 1) 0 0 0 0 0 [some (.ref x0), some (.ref x1), none] [] h (qV rh) := by
  intro x0 x1 h rh hf
  unfold F_X7_addWay_0 at hf
  refine g_aload_n dX7_addWay_0 rfl ?_
  replace hf := Option.bind_eq_some_iff.mp hf
  obtain ⟨v1, q2, hf⟩ := hf
  refine g_gI f_X7_52 dX7_addWay_1 q2 ?_
  refine g_if_lt (tgt := 16) dX7_addWay_4 (by decide) (fun c3 => ?_) (fun c3 => ?_)
  · rw [if_pos c3] at hf
    refine g_weak (lv2 := [none, none, none]) (trivial) ?_
    exact g_X7_addWay_16 hf
  · rw [if_neg c3] at hf
    refine g_aload_n dX7_addWay_7 rfl ?_
    replace hf := Option.bind_eq_some_iff.mp hf
    obtain ⟨v4, q5, hf⟩ := hf
    refine g_gI f_X7_52 dX7_addWay_8 q5 ?_
    refine g_bipush (v := (8 : Int32)) dX7_addWay_11 (by decide) ?_
    refine g_icmp_lt (tgt := 17) dX7_addWay_13 (by decide) (fun c6 => ?_) (fun c6 => ?_)
    · rw [if_pos c6] at hf
      refine g_aload_n dX7_addWay_17 rfl ?_
      replace hf := Option.bind_eq_some_iff.mp hf
      obtain ⟨v7, q8, hf⟩ := hf
      refine g_gR f_X7_24 dX7_addWay_18 q8 ?_
      refine g_aload_n dX7_addWay_21 rfl ?_
      replace hf := Option.bind_eq_some_iff.mp hf
      obtain ⟨v9, q10, hf⟩ := hf
      refine g_gI f_X7_52 dX7_addWay_22 q10 ?_
      refine g_aload_n dX7_addWay_25 rfl ?_
      replace hf := Option.bind_eq_some_iff.mp hf
      obtain ⟨h11, q12, hf⟩ := hf
      refine g_sQ (x := (some x1)) dX7_addWay_26 q12 ?_
      refine g_iconst (v := (0 : Int32)) dX7_addWay_27 (by decide) ?_
      refine g_istore_n dX7_addWay_28 (by decide) (g_lvp (lv2 := [some (.ref x0), some (.ref x1), some (.int (0 : Int32))]) (pc2 := 29) rfl rfl ?_)
      refine g_weak (lv2 := [some (.ref x0), none, some (.int (0 : Int32))]) (And.intro rfl (And.intro rfl (trivial))) ?_
      exact g_X7_addWay_29 hf
    · rw [if_neg c6] at hf
      refine g_weak (lv2 := [none, none, none]) (trivial) ?_
      exact g_X7_addWay_16 hf
def F_X7_addWay (n : Nat) (a : Nat) (p0 : Nat) (h : gH) : Option (gH) := F_X7_addWay_0 n  a p0 h
theorem t_X7_addWay {n d : Nat} {a : Nat} {p0 : Nat} {h rh : gH} (hf : F_X7_addWay n a p0 h = some rh) : T M_X7_addWay (d + 1) 0 0 [.ref a, .ref p0] h (qV rh) := by
  refine T_of_G (L := 1) (by decide +kernel) rfl (Nat.le_of_ble_eq_true rfl) (g_lv (lv2 := [some (.ref a), some (.ref p0), none]) rfl ?_)
  exact g_X7_addWay_0 hf
def F_X11_way_22 (n : Nat)   (h : gH) : Option (Int32 × gH) :=
  some ((-2 : Int32), h)
set_option maxRecDepth 20000 in
set_option maxHeartbeats 1600000 in
theorem g_X11_way_22 {n d : Nat} : ∀  {h : gH} {rh : gH} {rv : Int32}, F_X11_way_22 n  h = some (rv, rh) → G M_X11_way (d + 5) 1 2 0 0 22 [none, none, none, none] [] h (qI rv rh) := by
  intro  h rh rv hf
  unfold F_X11_way_22 at hf
  refine g_bipush (v := (-2 : Int32)) dX11_way_22 (by decide) ?_
  obtain ⟨rfl, rfl⟩ := Prod.mk.inj (Option.some.inj hf)
  exact g_iret dX11_way_24 rfl ⟨rfl, rfl⟩ (Nat.le_of_ble_eq_true rfl) (Nat.le_of_ble_eq_true rfl)
def F_X11_way_10 (n : Nat)   (h : gH) : Option (Int32 × gH) :=
  some ((-1 : Int32), h)
set_option maxRecDepth 20000 in
set_option maxHeartbeats 1600000 in
theorem g_X11_way_10 {n d : Nat} : ∀  {h : gH} {rh : gH} {rv : Int32}, F_X11_way_10 n  h = some (rv, rh) → G M_X11_way (d + 5) 1 2 0 0 10 [none, none, none, none] [] h (qI rv rh) := by
  intro  h rh rv hf
  unfold F_X11_way_10 at hf
  refine g_iconst (v := (-1 : Int32)) dX11_way_10 (by decide) ?_
  obtain ⟨rfl, rfl⟩ := Prod.mk.inj (Option.some.inj hf)
  exact g_iret dX11_way_11 rfl ⟨rfl, rfl⟩ (Nat.le_of_ble_eq_true rfl) (Nat.le_of_ble_eq_true rfl)
def F_X11_way_0 (n : Nat)  (x0 : Nat) (x1 : Int32) (x2 : Int32) (h : gH) : Option (Int32 × gH) :=
  if x1 < 0 then
  (F_X11_way_10 n h)
  else
  (if x1 ≤ (6 : Int32) then
  (if x2 < 0 then
  (F_X11_way_22 n h)
  else
  (if x2 ≤ (9 : Int32) then
  ((gR h x0 11 0).bind fun v5 =>
  (gI h v5 7 8).bind fun v7 =>
  if v7 < (8 : Int32) then
  ((gR h x0 11 0).bind fun v10 =>
  gB (F_X11_newWay n x1 v7 x2 h) fun v14 h12 =>
  (gO h12 v10 7).bind fun f15 =>
  (F_X7_addWay n v10 v14 h12).bind fun h17 =>
  some (v7, h17))
  else
  (some ((-4 : Int32), h)))
  else
  (F_X11_way_22 n h)))
  else
  (F_X11_way_10 n h))
set_option maxRecDepth 20000 in
set_option maxHeartbeats 1600000 in
theorem g_X11_way_0 {n d : Nat} : ∀ {x0 : Nat} {x1 : Int32} {x2 : Int32} {h : gH} {rh : gH} {rv : Int32}, F_X11_way_0 n x0 x1 x2 h = some (rv, rh) → G M_X11_way (d + 5) 1 2 0 0 0 [some (.ref x0), some (.int x1), some (.int x2), none] [] h (qI rv rh) := by
  intro x0 x1 x2 h rh rv hf
  unfold F_X11_way_0 at hf
  refine g_iload_n dX11_way_0 rfl ?_
  refine g_if_lt (tgt := 10) dX11_way_1 (by decide) (fun c1 => ?_) (fun c1 => ?_)
  · rw [if_pos c1] at hf
    refine g_weak (lv2 := [none, none, none, none]) (trivial) ?_
    exact g_X11_way_10 hf
  · rw [if_neg c1] at hf
    refine g_iload_n dX11_way_4 rfl ?_
    refine g_bipush (v := (6 : Int32)) dX11_way_5 (by decide) ?_
    refine g_icmp_le (tgt := 12) dX11_way_7 (by decide) (fun c2 => ?_) (fun c2 => ?_)
    · rw [if_pos c2] at hf
      refine g_iload_n dX11_way_12 rfl ?_
      refine g_if_lt (tgt := 22) dX11_way_13 (by decide) (fun c3 => ?_) (fun c3 => ?_)
      · rw [if_pos c3] at hf
        refine g_weak (lv2 := [none, none, none, none]) (trivial) ?_
        exact g_X11_way_22 hf
      · rw [if_neg c3] at hf
        refine g_iload_n dX11_way_16 rfl ?_
        refine g_bipush (v := (9 : Int32)) dX11_way_17 (by decide) ?_
        refine g_icmp_le (tgt := 25) dX11_way_19 (by decide) (fun c4 => ?_) (fun c4 => ?_)
        · rw [if_pos c4] at hf
          refine g_aload_n dX11_way_25 rfl ?_
          replace hf := Option.bind_eq_some_iff.mp hf
          obtain ⟨v5, q6, hf⟩ := hf
          refine g_gR f_X11_12 dX11_way_26 q6 ?_
          replace hf := Option.bind_eq_some_iff.mp hf
          obtain ⟨v7, q8, hf⟩ := hf
          refine g_gI f_X11_133 dX11_way_29 q8 ?_
          refine g_istore_n dX11_way_32 (by decide) (g_lvp (lv2 := [some (.ref x0), some (.int x1), some (.int x2), some (.int v7)]) (pc2 := 33) rfl rfl ?_)
          refine g_iload_n dX11_way_33 rfl ?_
          refine g_bipush (v := (8 : Int32)) dX11_way_34 (by decide) ?_
          refine g_icmp_lt (tgt := 42) dX11_way_36 (by decide) (fun c9 => ?_) (fun c9 => ?_)
          · rw [if_pos c9] at hf
            refine g_aload_n dX11_way_42 rfl ?_
            replace hf := Option.bind_eq_some_iff.mp hf
            obtain ⟨v10, q11, hf⟩ := hf
            refine g_gR f_X11_12 dX11_way_43 q11 ?_
            refine g_iload_n dX11_way_46 rfl ?_
            refine g_iload_n dX11_way_47 rfl ?_
            refine g_iload_n dX11_way_48 rfl ?_
            replace hf := gB_of hf
            obtain ⟨v14, h12, q13, hf⟩ := hf
            refine g_callS (as := [.int x1, .int v7, .int x2]) (mc1 := 1) (ms1 := 2) s_X11_136_X11_newWay dX11_way_49 rfl (Nat.le_of_ble_eq_true rfl) (Nat.le_of_ble_eq_true rfl) (Nat.le_of_ble_eq_true rfl) (t_X11_newWay (d := d + 0) q13) (fun r9 h9 q9 => ?_)
            obtain ⟨rfl, rfl⟩ := q9
            refine g_stp (st2 := [.ref v14, .ref v10]) (pc2 := 52) (kc2 := 1) (kn2 := 2) rfl rfl rfl rfl ?_
            replace hf := Option.bind_eq_some_iff.mp hf
            obtain ⟨f15, q16, hf⟩ := hf
            replace hf := Option.bind_eq_some_iff.mp hf
            obtain ⟨h17, q18, hf⟩ := hf
            refine g_callV (as := [.ref v14]) (mc1 := 0) (ms1 := 0) s_X11_140_X7_addWay_7 dX11_way_52 (gO_of q16) rfl (Nat.le_of_ble_eq_true rfl) (Nat.le_of_ble_eq_true rfl) (Nat.le_of_ble_eq_true rfl) (t_X7_addWay (d := d + 3) q18) (fun r9 h9 q9 => ?_)
            obtain ⟨rfl, rfl⟩ := q9
            refine g_stp (st2 := []) (pc2 := 55) (kc2 := 1) (kn2 := 2) rfl rfl rfl rfl ?_
            refine g_iload_n dX11_way_55 rfl ?_
            obtain ⟨rfl, rfl⟩ := Prod.mk.inj (Option.some.inj hf)
            exact g_iret dX11_way_56 rfl ⟨rfl, rfl⟩ (Nat.le_of_ble_eq_true rfl) (Nat.le_of_ble_eq_true rfl)
          · rw [if_neg c9] at hf
            refine g_bipush (v := (-4 : Int32)) dX11_way_39 (by decide) ?_
            obtain ⟨rfl, rfl⟩ := Prod.mk.inj (Option.some.inj hf)
            exact g_iret dX11_way_41 rfl ⟨rfl, rfl⟩ (Nat.le_of_ble_eq_true rfl) (Nat.le_of_ble_eq_true rfl)
        · rw [if_neg c4] at hf
          refine g_weak (lv2 := [none, none, none, none]) (trivial) ?_
          exact g_X11_way_22 hf
    · rw [if_neg c2] at hf
      refine g_weak (lv2 := [none, none, none, none]) (trivial) ?_
      exact g_X11_way_10 hf
def F_X11_way (n : Nat) (a : Nat) (p0 : Int32) (p1 : Int32) (h : gH) : Option (Int32 × gH) := F_X11_way_0 n  a p0 p1 h
theorem t_X11_way {n d : Nat} {a : Nat} {p0 : Int32} {p1 : Int32} {h rh : gH} {rv : Int32} (hf : F_X11_way n a p0 p1 h = some (rv, rh)) : T M_X11_way (d + 5) 1 2 [.ref a, .int p0, .int p1] h (qI rv rh) := by
  refine T_of_G (L := 1) (by decide +kernel) rfl (Nat.le_of_ble_eq_true rfl) (g_lv (lv2 := [some (.ref a), some (.int p0), some (.int p1), none]) rfl ?_)
  exact g_X11_way_0 hf
def F_X11_wheel_179 (n : Nat)  (y0 : Int32) (h : gH) : Option (Int32 × gH) :=
  some (y0, h)
set_option maxRecDepth 20000 in
set_option maxHeartbeats 1600000 in
theorem g_X11_wheel_179 {n d : Nat} : ∀ {y0 : Int32} {h : gH} {rh : gH} {rv : Int32}, F_X11_wheel_179 n y0 h = some (rv, rh) → G M_X11_wheel (d + 6) 0 0 0 0 179 [none, none, none, none, none, none, none, none, none, none] [.int y0] h (qI rv rh) := by
  intro y0 h rh rv hf
  unfold F_X11_wheel_179 at hf
  obtain ⟨rfl, rfl⟩ := Prod.mk.inj (Option.some.inj hf)
  exact g_iret dX11_wheel_179 rfl ⟨rfl, rfl⟩ (Nat.le_of_ble_eq_true rfl) (Nat.le_of_ble_eq_true rfl)
def F_X11_wheel_159 (n : Nat) (k104 : Nat → Int32 → Int32 → Option Nat → Int32 → Int32 → Int32 → Int32 → Int32 → gH → Option (Int32 × gH)) (x0 : Nat) (x2 : Int32) (x3 : Int32) (x4 : Option Nat) (x5 : Int32) (x6 : Int32) (x7 : Int32) (x8 : Int32) (x9 : Int32) (h : gH) : Option (Int32 × gH) :=
  k104 x0 x2 x3 x4 x5 x6 x7 x8 (x9 + (1 : Int32)) h
set_option maxRecDepth 20000 in
set_option maxHeartbeats 1600000 in
theorem g_X11_wheel_159 {n d : Nat} {k104 : Nat → Int32 → Int32 → Option Nat → Int32 → Int32 → Int32 → Int32 → Int32 → gH → Option (Int32 × gH)} (t104 : ∀ {x0 : Nat} {x2 : Int32} {x3 : Int32} {x4 : Option Nat} {x5 : Int32} {x6 : Int32} {x7 : Int32} {x8 : Int32} {x9 : Int32} {h : gH} {rh : gH} {rv : Int32}, k104 x0 x2 x3 x4 x5 x6 x7 x8 x9 h = some (rv, rh) → G M_X11_wheel (d + 6) 0 0 0 0 104 [some (.ref x0), none, some (.int x2), some (.int x3), some (va_rf x4), some (.int x5), some (.int x6), some (.int x7), some (.int x8), some (.int x9)] [] h (qI rv rh)) : ∀ {x0 : Nat} {x2 : Int32} {x3 : Int32} {x4 : Option Nat} {x5 : Int32} {x6 : Int32} {x7 : Int32} {x8 : Int32} {x9 : Int32} {h : gH} {rh : gH} {rv : Int32}, F_X11_wheel_159 n k104 x0 x2 x3 x4 x5 x6 x7 x8 x9 h = some (rv, rh) → G M_X11_wheel (d + 6) 0 0 0 0 159 [some (.ref x0), none, some (.int x2), some (.int x3), some (va_rf x4), some (.int x5), some (.int x6), some (.int x7), some (.int x8), some (.int x9)] [] h (qI rv rh) := by
  intro x0 x2 x3 x4 x5 x6 x7 x8 x9 h rh rv hf
  unfold F_X11_wheel_159 at hf
  refine g_iinc2 (w := (1 : Int32)) dX11_wheel_159 (by decide) rfl (by decide) (g_lvp (lv2 := [some (.ref x0), none, some (.int x2), some (.int x3), some (va_rf x4), some (.int x5), some (.int x6), some (.int x7), some (.int x8), some (.int (x9 + (1 : Int32)))]) (pc2 := 162) rfl rfl ?_)
  refine g_goto (tgt := 104) dX11_wheel_162 (by decide) ?_
  exact t104 hf
def F_X11_wheel_149 (n : Nat) (k104 : Nat → Int32 → Int32 → Option Nat → Int32 → Int32 → Int32 → Int32 → Int32 → gH → Option (Int32 × gH)) (x0 : Nat) (x2 : Int32) (x3 : Int32) (x4 : Option Nat) (x5 : Int32) (x6 : Int32) (x9 : Int32) (h : gH) : Option (Int32 × gH) :=
  (gI h x0 11 8).bind fun v1 =>
  F_X11_wheel_159 n (k104) x0 x2 x3 x4 x5 x6 x9 v1 x9 h
set_option maxRecDepth 20000 in
set_option maxHeartbeats 1600000 in
theorem g_X11_wheel_149 {n d : Nat} {k104 : Nat → Int32 → Int32 → Option Nat → Int32 → Int32 → Int32 → Int32 → Int32 → gH → Option (Int32 × gH)} (t104 : ∀ {x0 : Nat} {x2 : Int32} {x3 : Int32} {x4 : Option Nat} {x5 : Int32} {x6 : Int32} {x7 : Int32} {x8 : Int32} {x9 : Int32} {h : gH} {rh : gH} {rv : Int32}, k104 x0 x2 x3 x4 x5 x6 x7 x8 x9 h = some (rv, rh) → G M_X11_wheel (d + 6) 0 0 0 0 104 [some (.ref x0), none, some (.int x2), some (.int x3), some (va_rf x4), some (.int x5), some (.int x6), some (.int x7), some (.int x8), some (.int x9)] [] h (qI rv rh)) : ∀ {x0 : Nat} {x2 : Int32} {x3 : Int32} {x4 : Option Nat} {x5 : Int32} {x6 : Int32} {x9 : Int32} {h : gH} {rh : gH} {rv : Int32}, F_X11_wheel_149 n k104 x0 x2 x3 x4 x5 x6 x9 h = some (rv, rh) → G M_X11_wheel (d + 6) 0 0 0 0 149 [some (.ref x0), none, some (.int x2), some (.int x3), some (va_rf x4), some (.int x5), some (.int x6), none, none, some (.int x9)] [] h (qI rv rh) := by
  intro x0 x2 x3 x4 x5 x6 x9 h rh rv hf
  unfold F_X11_wheel_149 at hf
  refine g_iload dX11_wheel_149 rfl ?_
  refine g_istore dX11_wheel_151 (by decide) (g_lvp (lv2 := [some (.ref x0), none, some (.int x2), some (.int x3), some (va_rf x4), some (.int x5), some (.int x6), some (.int x9), none, some (.int x9)]) (pc2 := 153) rfl rfl ?_)
  refine g_aload_n dX11_wheel_153 rfl ?_
  replace hf := Option.bind_eq_some_iff.mp hf
  obtain ⟨v1, q2, hf⟩ := hf
  refine g_gI f_X11_172 dX11_wheel_154 q2 ?_
  refine g_istore dX11_wheel_157 (by decide) (g_lvp (lv2 := [some (.ref x0), none, some (.int x2), some (.int x3), some (va_rf x4), some (.int x5), some (.int x6), some (.int x9), some (.int v1), some (.int x9)]) (pc2 := 159) rfl rfl ?_)
  exact g_X11_wheel_159 t104 hf
def F_X11_wheel_104 (n : Nat)  : Nat → Nat → Int32 → Int32 → Option Nat → Int32 → Int32 → Int32 → Int32 → Int32 → gH → Option (Int32 × gH)
  | 0, _, _, _, _, _, _, _, _, _, _ => none
  | m + 1, x0, x2, x3, x4, x5, x6, x7, x8, x9, h => if x5 < (x9 + x2) then
  (if x3 = 0 then
  (F_X11_wheel_179 n x7 h)
  else
  (F_X11_wheel_179 n (x6 - x8) h))
  else
  ((gR h x0 11 0).bind fun v3 =>
  (gR h v3 7 1).bind fun v5 =>
  (gI h v5 6 12).bind fun v7 =>
  (x4).bind fun a9 =>
  (gO h x0 11).bind fun f11 =>
  (F_X11_goFrom n x0 a9 v7 x9 (x9 + x2) h).bind fun h13 =>
  if x9 = 0 then
  (F_X11_wheel_149 n (F_X11_wheel_104 n m) x0 x2 x3 (some a9) x5 x6 x9 h13)
  else
  ((gI h13 x0 11 8).bind fun v16 =>
  if x8 ≤ v16 then
  (F_X11_wheel_159 n (F_X11_wheel_104 n m) x0 x2 x3 (some a9) x5 x6 x7 x8 x9 h13)
  else
  (F_X11_wheel_149 n (F_X11_wheel_104 n m) x0 x2 x3 (some a9) x5 x6 x9 h13)))
set_option maxRecDepth 20000 in
set_option maxHeartbeats 1600000 in
theorem g_X11_wheel_104 {n d : Nat} : ∀ {m : Nat} {x0 : Nat} {x2 : Int32} {x3 : Int32} {x4 : Option Nat} {x5 : Int32} {x6 : Int32} {x7 : Int32} {x8 : Int32} {x9 : Int32} {h : gH} {rh : gH} {rv : Int32}, F_X11_wheel_104 n m x0 x2 x3 x4 x5 x6 x7 x8 x9 h = some (rv, rh) → G M_X11_wheel (d + 6) 0 0 0 0 104 [some (.ref x0), none, some (.int x2), some (.int x3), some (va_rf x4), some (.int x5), some (.int x6), some (.int x7), some (.int x8), some (.int x9)] [] h (qI rv rh) := by
  intro m
  induction m with
  | zero => intro x0 x2 x3 x4 x5 x6 x7 x8 x9 h rh rv hf; cases hf
  | succ m t104 =>
    intro x0 x2 x3 x4 x5 x6 x7 x8 x9 h rh rv hf
    unfold F_X11_wheel_104 at hf
    refine g_iload dX11_wheel_104 rfl ?_
    refine g_iload_n dX11_wheel_106 rfl ?_
    refine g_iadd dX11_wheel_107 ?_
    refine g_iload dX11_wheel_108 rfl ?_
    refine g_icmp_gt (tgt := 165) dX11_wheel_110 (by decide) (fun c1 => ?_) (fun c1 => ?_)
    · rw [if_pos c1] at hf
      refine g_iload_n dX11_wheel_165 rfl ?_
      refine g_if_ne (tgt := 174) dX11_wheel_166 (by decide) (fun c2 => ?_) (fun c2 => ?_)
      · rw [if_neg c2] at hf
        refine g_iload dX11_wheel_174 rfl ?_
        refine g_iload dX11_wheel_176 rfl ?_
        refine g_isub dX11_wheel_178 ?_
        refine g_weak (lv2 := [none, none, none, none, none, none, none, none, none, none]) (trivial) ?_
        exact g_X11_wheel_179 hf
      · rw [if_pos c2] at hf
        refine g_iload dX11_wheel_169 rfl ?_
        refine g_goto (tgt := 179) dX11_wheel_171 (by decide) ?_
        refine g_weak (lv2 := [none, none, none, none, none, none, none, none, none, none]) (trivial) ?_
        exact g_X11_wheel_179 hf
    · rw [if_neg c1] at hf
      refine g_aload_n dX11_wheel_113 rfl ?_
      refine g_aloadq (r := x4) dX11_wheel_114 rfl ?_
      refine g_aload_n dX11_wheel_116 rfl ?_
      replace hf := Option.bind_eq_some_iff.mp hf
      obtain ⟨v3, q4, hf⟩ := hf
      refine g_gR f_X11_12 dX11_wheel_117 q4 ?_
      replace hf := Option.bind_eq_some_iff.mp hf
      obtain ⟨v5, q6, hf⟩ := hf
      refine g_gR f_X11_70 dX11_wheel_120 q6 ?_
      replace hf := Option.bind_eq_some_iff.mp hf
      obtain ⟨v7, q8, hf⟩ := hf
      refine g_gI f_X11_108 dX11_wheel_123 q8 ?_
      refine g_iload dX11_wheel_126 rfl ?_
      refine g_iload dX11_wheel_128 rfl ?_
      refine g_iload_n dX11_wheel_130 rfl ?_
      refine g_iadd dX11_wheel_131 ?_
      replace hf := Option.bind_eq_some_iff.mp hf
      obtain ⟨a9, q10, hf⟩ := hf
      subst q10
      replace hf := Option.bind_eq_some_iff.mp hf
      obtain ⟨f11, q12, hf⟩ := hf
      replace hf := Option.bind_eq_some_iff.mp hf
      obtain ⟨h13, q14, hf⟩ := hf
      refine g_callV (as := [.ref a9, .int v7, .int x9, .int (x9 + x2)]) (mc1 := 0) (ms1 := 0) s_X11_227_X11_goFrom_11 dX11_wheel_132 (gO_of q12) rfl (Nat.le_of_ble_eq_true rfl) (Nat.le_of_ble_eq_true rfl) (Nat.le_of_ble_eq_true rfl) (t_X11_goFrom (d := d + 1) q14) (fun r9 h9 q9 => ?_)
      obtain ⟨rfl, rfl⟩ := q9
      refine g_stp (st2 := []) (pc2 := 135) (kc2 := 0) (kn2 := 0) rfl rfl rfl rfl ?_
      refine g_iload dX11_wheel_135 rfl ?_
      refine g_if_eq (tgt := 149) dX11_wheel_137 (by decide) (fun c15 => ?_) (fun c15 => ?_)
      · rw [if_pos c15] at hf
        refine g_weak (lv2 := [some (.ref x0), none, some (.int x2), some (.int x3), some (va_rf (some a9)), some (.int x5), some (.int x6), none, none, some (.int x9)]) (And.intro rfl (And.intro rfl (And.intro rfl (And.intro rfl (And.intro rfl (And.intro rfl (And.intro rfl (trivial)))))))) ?_
        exact g_X11_wheel_149 t104 hf
      · rw [if_neg c15] at hf
        refine g_aload_n dX11_wheel_140 rfl ?_
        replace hf := Option.bind_eq_some_iff.mp hf
        obtain ⟨v16, q17, hf⟩ := hf
        refine g_gI f_X11_172 dX11_wheel_141 q17 ?_
        refine g_iload dX11_wheel_144 rfl ?_
        refine g_icmp_ge (tgt := 159) dX11_wheel_146 (by decide) (fun c18 => ?_) (fun c18 => ?_)
        · rw [if_pos c18] at hf
          exact g_X11_wheel_159 t104 hf
        · rw [if_neg c18] at hf
          refine g_weak (lv2 := [some (.ref x0), none, some (.int x2), some (.int x3), some (va_rf (some a9)), some (.int x5), some (.int x6), none, none, some (.int x9)]) (And.intro rfl (And.intro rfl (And.intro rfl (And.intro rfl (And.intro rfl (And.intro rfl (And.intro rfl (trivial)))))))) ?_
          exact g_X11_wheel_149 t104 hf
def F_X11_wheel_37 (n : Nat)   (h : gH) : Option (Int32 × gH) :=
  some ((-2 : Int32), h)
set_option maxRecDepth 20000 in
set_option maxHeartbeats 1600000 in
theorem g_X11_wheel_37 {n d : Nat} : ∀  {h : gH} {rh : gH} {rv : Int32}, F_X11_wheel_37 n  h = some (rv, rh) → G M_X11_wheel (d + 6) 0 0 0 0 37 [none, none, none, none, none, none, none, none, none, none] [] h (qI rv rh) := by
  intro  h rh rv hf
  unfold F_X11_wheel_37 at hf
  refine g_bipush (v := (-2 : Int32)) dX11_wheel_37 (by decide) ?_
  obtain ⟨rfl, rfl⟩ := Prod.mk.inj (Option.some.inj hf)
  exact g_iret dX11_wheel_39 rfl ⟨rfl, rfl⟩ (Nat.le_of_ble_eq_true rfl) (Nat.le_of_ble_eq_true rfl)
def F_X11_wheel_24 (n : Nat)   (h : gH) : Option (Int32 × gH) :=
  some ((-1 : Int32), h)
set_option maxRecDepth 20000 in
set_option maxHeartbeats 1600000 in
theorem g_X11_wheel_24 {n d : Nat} : ∀  {h : gH} {rh : gH} {rv : Int32}, F_X11_wheel_24 n  h = some (rv, rh) → G M_X11_wheel (d + 6) 0 0 0 0 24 [none, none, none, none, none, none, none, none, none, none] [] h (qI rv rh) := by
  intro  h rh rv hf
  unfold F_X11_wheel_24 at hf
  refine g_iconst (v := (-1 : Int32)) dX11_wheel_24 (by decide) ?_
  obtain ⟨rfl, rfl⟩ := Prod.mk.inj (Option.some.inj hf)
  exact g_iret dX11_wheel_25 rfl ⟨rfl, rfl⟩ (Nat.le_of_ble_eq_true rfl) (Nat.le_of_ble_eq_true rfl)
def F_X11_wheel_0 (n : Nat)  (x0 : Nat) (x1 : Int32) (x2 : Int32) (x3 : Int32) (h : gH) : Option (Int32 × gH) :=
  (gR h x0 11 0).bind fun v1 =>
  (gO h v1 7).bind fun f3 =>
  gB (F_X7_find n v1 x1 h) fun v7 h5 =>
  if v7 = none then
  (F_X11_wheel_24 n h5)
  else
  (if x3 < 0 then
  (F_X11_wheel_24 n h5)
  else
  (if x3 ≤ (1 : Int32) then
  (if x2 < (1 : Int32) then
  (F_X11_wheel_37 n h5)
  else
  (if x2 ≤ (8 : Int32) then
  ((gR h5 x0 11 0).bind fun v13 =>
  (gR h5 v13 7 1).bind fun v15 =>
  (gI h5 v15 6 8).bind fun v17 =>
  if v17 = 0 then
  (some ((-3 : Int32), h5))
  else
  (if x2 ≤ v17 then
  ((gR h5 x0 11 3).bind fun v21 =>
  (gR h5 x0 11 0).bind fun v23 =>
  (gR h5 v23 7 1).bind fun v25 =>
  (gO h5 v21 4).bind fun f27 =>
  (F_X4_prepare n v21 v25 h5).bind fun h29 =>
  (v7).bind fun a31 =>
  (gO h29 x0 11).bind fun f33 =>
  (F_X11_go n x0 a31 h29).bind fun h35 =>
  (gI h35 x0 11 8).bind fun v37 =>
  F_X11_wheel_104 n n x0 x2 x3 (some a31) v17 v37 (0 : Int32) (0 : Int32) (0 : Int32) h35)
  else
  (some ((-5 : Int32), h5))))
  else
  (F_X11_wheel_37 n h5)))
  else
  (F_X11_wheel_24 n h5)))
set_option maxRecDepth 20000 in
set_option maxHeartbeats 1600000 in
theorem g_X11_wheel_0 {n d : Nat} : ∀ {x0 : Nat} {x1 : Int32} {x2 : Int32} {x3 : Int32} {h : gH} {rh : gH} {rv : Int32}, F_X11_wheel_0 n x0 x1 x2 x3 h = some (rv, rh) → G M_X11_wheel (d + 6) 0 0 0 0 0 [some (.ref x0), some (.int x1), some (.int x2), some (.int x3), none, none, none, none, none, none] [] h (qI rv rh) := by
  intro x0 x1 x2 x3 h rh rv hf
  unfold F_X11_wheel_0 at hf
  refine g_aload_n dX11_wheel_0 rfl ?_
  replace hf := Option.bind_eq_some_iff.mp hf
  obtain ⟨v1, q2, hf⟩ := hf
  refine g_gR f_X11_12 dX11_wheel_1 q2 ?_
  refine g_iload_n dX11_wheel_4 rfl ?_
  replace hf := Option.bind_eq_some_iff.mp hf
  obtain ⟨f3, q4, hf⟩ := hf
  replace hf := gB_of hf
  obtain ⟨v7, h5, q6, hf⟩ := hf
  refine g_callV (as := [.int x1]) (mc1 := 0) (ms1 := 0) s_X11_144_X7_find_7 dX11_wheel_5 (gO_of q4) rfl (Nat.le_of_ble_eq_true rfl) (Nat.le_of_ble_eq_true rfl) (Nat.le_of_ble_eq_true rfl) (t_X7_find (d := d + 5) q6) (fun r9 h9 q9 => ?_)
  obtain ⟨rfl, rfl⟩ := q9
  refine g_stp (st2 := [va_rf v7]) (pc2 := 8) (kc2 := 0) (kn2 := 0) rfl rfl rfl rfl ?_
  refine g_astoreq (r := v7) dX11_wheel_8 (by decide) (g_lvp (lv2 := [some (.ref x0), some (.int x1), some (.int x2), some (.int x3), some (va_rf v7), none, none, none, none, none]) (pc2 := 10) rfl rfl ?_)
  refine g_aloadq (r := v7) dX11_wheel_10 rfl ?_
  refine g_ifnullq (tgt := 24) dX11_wheel_12 (by decide) (fun c8 => ?_) (fun c8 => ?_)
  · rw [if_pos c8] at hf
    refine g_weak (lv2 := [none, none, none, none, none, none, none, none, none, none]) (trivial) ?_
    exact g_X11_wheel_24 hf
  · rw [if_neg c8] at hf
    refine g_iload_n dX11_wheel_15 rfl ?_
    refine g_if_lt (tgt := 24) dX11_wheel_16 (by decide) (fun c9 => ?_) (fun c9 => ?_)
    · rw [if_pos c9] at hf
      refine g_weak (lv2 := [none, none, none, none, none, none, none, none, none, none]) (trivial) ?_
      exact g_X11_wheel_24 hf
    · rw [if_neg c9] at hf
      refine g_iload_n dX11_wheel_19 rfl ?_
      refine g_iconst (v := (1 : Int32)) dX11_wheel_20 (by decide) ?_
      refine g_icmp_le (tgt := 26) dX11_wheel_21 (by decide) (fun c10 => ?_) (fun c10 => ?_)
      · rw [if_pos c10] at hf
        refine g_iload_n dX11_wheel_26 rfl ?_
        refine g_iconst (v := (1 : Int32)) dX11_wheel_27 (by decide) ?_
        refine g_icmp_lt (tgt := 37) dX11_wheel_28 (by decide) (fun c11 => ?_) (fun c11 => ?_)
        · rw [if_pos c11] at hf
          refine g_weak (lv2 := [none, none, none, none, none, none, none, none, none, none]) (trivial) ?_
          exact g_X11_wheel_37 hf
        · rw [if_neg c11] at hf
          refine g_iload_n dX11_wheel_31 rfl ?_
          refine g_bipush (v := (8 : Int32)) dX11_wheel_32 (by decide) ?_
          refine g_icmp_le (tgt := 40) dX11_wheel_34 (by decide) (fun c12 => ?_) (fun c12 => ?_)
          · rw [if_pos c12] at hf
            refine g_aload_n dX11_wheel_40 rfl ?_
            replace hf := Option.bind_eq_some_iff.mp hf
            obtain ⟨v13, q14, hf⟩ := hf
            refine g_gR f_X11_12 dX11_wheel_41 q14 ?_
            replace hf := Option.bind_eq_some_iff.mp hf
            obtain ⟨v15, q16, hf⟩ := hf
            refine g_gR f_X11_70 dX11_wheel_44 q16 ?_
            replace hf := Option.bind_eq_some_iff.mp hf
            obtain ⟨v17, q18, hf⟩ := hf
            refine g_gI f_X11_102 dX11_wheel_47 q18 ?_
            refine g_istore dX11_wheel_50 (by decide) (g_lvp (lv2 := [some (.ref x0), some (.int x1), some (.int x2), some (.int x3), some (va_rf v7), some (.int v17), none, none, none, none]) (pc2 := 52) (by cases v7 <;> rfl) rfl ?_)
            refine g_iload dX11_wheel_52 rfl ?_
            refine g_if_ne (tgt := 60) dX11_wheel_54 (by decide) (fun c19 => ?_) (fun c19 => ?_)
            · rw [if_neg c19] at hf
              refine g_iload dX11_wheel_60 rfl ?_
              refine g_iload_n dX11_wheel_62 rfl ?_
              refine g_icmp_ge (tgt := 69) dX11_wheel_63 (by decide) (fun c20 => ?_) (fun c20 => ?_)
              · rw [if_pos c20] at hf
                refine g_aload_n dX11_wheel_69 rfl ?_
                replace hf := Option.bind_eq_some_iff.mp hf
                obtain ⟨v21, q22, hf⟩ := hf
                refine g_gR f_X11_31 dX11_wheel_70 q22 ?_
                refine g_aload_n dX11_wheel_73 rfl ?_
                replace hf := Option.bind_eq_some_iff.mp hf
                obtain ⟨v23, q24, hf⟩ := hf
                refine g_gR f_X11_12 dX11_wheel_74 q24 ?_
                replace hf := Option.bind_eq_some_iff.mp hf
                obtain ⟨v25, q26, hf⟩ := hf
                refine g_gR f_X11_70 dX11_wheel_77 q26 ?_
                replace hf := Option.bind_eq_some_iff.mp hf
                obtain ⟨f27, q28, hf⟩ := hf
                replace hf := Option.bind_eq_some_iff.mp hf
                obtain ⟨h29, q30, hf⟩ := hf
                refine g_callV (as := [.ref v25]) (mc1 := 0) (ms1 := 0) s_X11_158_X4_prepare_4 dX11_wheel_80 (gO_of q28) rfl (Nat.le_of_ble_eq_true rfl) (Nat.le_of_ble_eq_true rfl) (Nat.le_of_ble_eq_true rfl) (t_X4_prepare (d := d + 0) q30) (fun r9 h9 q9 => ?_)
                obtain ⟨rfl, rfl⟩ := q9
                refine g_stp (st2 := []) (pc2 := 83) (kc2 := 0) (kn2 := 0) rfl rfl rfl rfl ?_
                refine g_aload_n dX11_wheel_83 rfl ?_
                refine g_aloadq (r := v7) dX11_wheel_84 rfl ?_
                replace hf := Option.bind_eq_some_iff.mp hf
                obtain ⟨a31, q32, hf⟩ := hf
                subst q32
                replace hf := Option.bind_eq_some_iff.mp hf
                obtain ⟨f33, q34, hf⟩ := hf
                replace hf := Option.bind_eq_some_iff.mp hf
                obtain ⟨h35, q36, hf⟩ := hf
                refine g_callV (as := [.ref a31]) (mc1 := 0) (ms1 := 0) s_X11_169_X11_go_11 dX11_wheel_86 (gO_of q34) rfl (Nat.le_of_ble_eq_true rfl) (Nat.le_of_ble_eq_true rfl) (Nat.le_of_ble_eq_true rfl) (t_X11_go (d := d + 0) q36) (fun r9 h9 q9 => ?_)
                obtain ⟨rfl, rfl⟩ := q9
                refine g_stp (st2 := []) (pc2 := 89) (kc2 := 0) (kn2 := 0) rfl rfl rfl rfl ?_
                refine g_aload_n dX11_wheel_89 rfl ?_
                replace hf := Option.bind_eq_some_iff.mp hf
                obtain ⟨v37, q38, hf⟩ := hf
                refine g_gI f_X11_172 dX11_wheel_90 q38 ?_
                refine g_istore dX11_wheel_93 (by decide) (g_lvp (lv2 := [some (.ref x0), some (.int x1), some (.int x2), some (.int x3), some (va_rf (some a31)), some (.int v17), some (.int v37), none, none, none]) (pc2 := 95) rfl rfl ?_)
                refine g_iconst (v := (0 : Int32)) dX11_wheel_95 (by decide) ?_
                refine g_istore dX11_wheel_96 (by decide) (g_lvp (lv2 := [some (.ref x0), some (.int x1), some (.int x2), some (.int x3), some (va_rf (some a31)), some (.int v17), some (.int v37), some (.int (0 : Int32)), none, none]) (pc2 := 98) rfl rfl ?_)
                refine g_iconst (v := (0 : Int32)) dX11_wheel_98 (by decide) ?_
                refine g_istore dX11_wheel_99 (by decide) (g_lvp (lv2 := [some (.ref x0), some (.int x1), some (.int x2), some (.int x3), some (va_rf (some a31)), some (.int v17), some (.int v37), some (.int (0 : Int32)), some (.int (0 : Int32)), none]) (pc2 := 101) rfl rfl ?_)
                refine g_iconst (v := (0 : Int32)) dX11_wheel_101 (by decide) ?_
                refine g_istore dX11_wheel_102 (by decide) (g_lvp (lv2 := [some (.ref x0), some (.int x1), some (.int x2), some (.int x3), some (va_rf (some a31)), some (.int v17), some (.int v37), some (.int (0 : Int32)), some (.int (0 : Int32)), some (.int (0 : Int32))]) (pc2 := 104) rfl rfl ?_)
                refine g_weak (lv2 := [some (.ref x0), none, some (.int x2), some (.int x3), some (va_rf (some a31)), some (.int v17), some (.int v37), some (.int (0 : Int32)), some (.int (0 : Int32)), some (.int (0 : Int32))]) (And.intro rfl (And.intro rfl (And.intro rfl (And.intro rfl (And.intro rfl (And.intro rfl (And.intro rfl (And.intro rfl (And.intro rfl (trivial)))))))))) ?_
                exact g_X11_wheel_104 hf
              · rw [if_neg c20] at hf
                refine g_bipush (v := (-5 : Int32)) dX11_wheel_66 (by decide) ?_
                obtain ⟨rfl, rfl⟩ := Prod.mk.inj (Option.some.inj hf)
                exact g_iret dX11_wheel_68 rfl ⟨rfl, rfl⟩ (Nat.le_of_ble_eq_true rfl) (Nat.le_of_ble_eq_true rfl)
            · rw [if_pos c19] at hf
              refine g_bipush (v := (-3 : Int32)) dX11_wheel_57 (by decide) ?_
              obtain ⟨rfl, rfl⟩ := Prod.mk.inj (Option.some.inj hf)
              exact g_iret dX11_wheel_59 rfl ⟨rfl, rfl⟩ (Nat.le_of_ble_eq_true rfl) (Nat.le_of_ble_eq_true rfl)
          · rw [if_neg c12] at hf
            refine g_weak (lv2 := [none, none, none, none, none, none, none, none, none, none]) (trivial) ?_
            exact g_X11_wheel_37 hf
      · rw [if_neg c10] at hf
        refine g_weak (lv2 := [none, none, none, none, none, none, none, none, none, none]) (trivial) ?_
        exact g_X11_wheel_24 hf
def F_X11_wheel (n : Nat) (a : Nat) (p0 : Int32) (p1 : Int32) (p2 : Int32) (h : gH) : Option (Int32 × gH) := F_X11_wheel_0 n  a p0 p1 p2 h
theorem t_X11_wheel {n d : Nat} {a : Nat} {p0 : Int32} {p1 : Int32} {p2 : Int32} {h rh : gH} {rv : Int32} (hf : F_X11_wheel n a p0 p1 p2 h = some (rv, rh)) : T M_X11_wheel (d + 6) 0 0 [.ref a, .int p0, .int p1, .int p2] h (qI rv rh) := by
  refine T_of_G (L := 6) (by decide +kernel) rfl (Nat.le_of_ble_eq_true rfl) (g_lv (lv2 := [some (.ref a), some (.int p0), some (.int p1), some (.int p2), none, none, none, none, none, none]) rfl ?_)
  exact g_X11_wheel_0 hf
