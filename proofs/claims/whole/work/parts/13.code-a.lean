theorem s_X0_19_up : gCpU RX0 19 "HillRider$Even" M_X10_rests 2 := ⟨gt_4 (List.mem_of_getElem? (i := 213) (by decide +kernel)) (by decide +kernel), gt_1 (List.mem_of_getElem? (i := 13) (by decide +kernel)) (by decide +kernel), gt_4 (List.mem_of_getElem? (i := 197) (by decide +kernel)) (by decide +kernel), gt_4 (List.mem_of_getElem? (i := 198) (by decide +kernel)) (by decide +kernel), gt_3 (List.mem_of_getElem? (i := 136) (by decide +kernel)) (by decide +kernel), gt_4 (List.mem_of_getElem? (i := 190) (by decide +kernel)) (by decide +kernel), gt_3 (List.mem_of_getElem? (i := 118) (by decide +kernel)) (by decide +kernel), ⟨by decide +kernel, by decide +kernel⟩, by decide⟩
def F_J6_bitCount_0f7a4_0 (n : Nat)  (x0 : Int32) (h : gH) : Option (Int32 × gH) :=
  (some (((x0 - ((x0.toUInt32 >>> ((1 : Int32).toUInt32 &&& Int32.toUInt32 31)).toInt32 &&& (1431655765 : Int32))) &&& (858993459 : Int32)) + (((x0 - ((x0.toUInt32 >>> ((1 : Int32).toUInt32 &&& Int32.toUInt32 31)).toInt32 &&& (1431655765 : Int32))).toUInt32 >>> ((2 : Int32).toUInt32 &&& Int32.toUInt32 31)).toInt32 &&& (858993459 : Int32)))).bind fun v1 =>
  (some (((v1 + (v1.toUInt32 >>> ((4 : Int32).toUInt32 &&& Int32.toUInt32 31)).toInt32) &&& (252645135 : Int32)) + (((v1 + (v1.toUInt32 >>> ((4 : Int32).toUInt32 &&& Int32.toUInt32 31)).toInt32) &&& (252645135 : Int32)).toUInt32 >>> ((8 : Int32).toUInt32 &&& Int32.toUInt32 31)).toInt32)).bind fun v3 =>
  some (((v3 + (v3.toUInt32 >>> ((16 : Int32).toUInt32 &&& Int32.toUInt32 31)).toInt32) &&& (63 : Int32)), h)
set_option maxRecDepth 20000 in
set_option maxHeartbeats 1600000 in
theorem g_J6_bitCount_0f7a4_0 {n d : Nat} : ∀ {x0 : Int32} {h : gH} {rh : gH} {rv : Int32}, F_J6_bitCount_0f7a4_0 n x0 h = some (rv, rh) → G M_J6_bitCount_0f7a4 d 0 0 0 0 0 [some (.int x0)] [] h (qI rv rh) := by
  intro x0 h rh rv hf
  unfold F_J6_bitCount_0f7a4_0 at hf
  refine g_iload_n dJ6_bitCount_0f7a4_0 rfl ?_
  refine g_iload_n dJ6_bitCount_0f7a4_1 rfl ?_
  refine g_iconst (v := (1 : Int32)) dJ6_bitCount_0f7a4_2 (by decide) ?_
  refine g_iushr dJ6_bitCount_0f7a4_3 rfl ?_
  refine g_ldcw (v := (1431655765 : Int32)) (gt_4 (List.mem_of_getElem? (i := 115) (by decide +kernel)) (by decide +kernel)) dJ6_bitCount_0f7a4_4 ?_
  refine g_iand dJ6_bitCount_0f7a4_7 ?_
  refine g_isub dJ6_bitCount_0f7a4_8 ?_
  refine g_istore_n dJ6_bitCount_0f7a4_9 (by decide) (g_lvp (lv2 := [some (.int (x0 - ((x0.toUInt32 >>> ((1 : Int32).toUInt32 &&& Int32.toUInt32 31)).toInt32 &&& (1431655765 : Int32))))]) (pc2 := 10) rfl rfl ?_)
  refine g_iload_n dJ6_bitCount_0f7a4_10 rfl ?_
  refine g_ldcw (v := (858993459 : Int32)) (gt_4 (List.mem_of_getElem? (i := 116) (by decide +kernel)) (by decide +kernel)) dJ6_bitCount_0f7a4_11 ?_
  refine g_iand dJ6_bitCount_0f7a4_14 ?_
  refine g_iload_n dJ6_bitCount_0f7a4_15 rfl ?_
  refine g_iconst (v := (2 : Int32)) dJ6_bitCount_0f7a4_16 (by decide) ?_
  refine g_iushr dJ6_bitCount_0f7a4_17 rfl ?_
  refine g_ldcw (v := (858993459 : Int32)) (gt_4 (List.mem_of_getElem? (i := 116) (by decide +kernel)) (by decide +kernel)) dJ6_bitCount_0f7a4_18 ?_
  refine g_iand dJ6_bitCount_0f7a4_21 ?_
  refine g_iadd dJ6_bitCount_0f7a4_22 ?_
  replace hf := Option.bind_eq_some_iff.mp hf
  obtain ⟨v1, q2, hf⟩ := hf
  refine g_top (w := .int v1) (congrArg Value.int (Option.some.inj q2)) ?_
  refine g_istore_n dJ6_bitCount_0f7a4_23 (by decide) (g_lvp (lv2 := [some (.int v1)]) (pc2 := 24) rfl rfl ?_)
  refine g_iload_n dJ6_bitCount_0f7a4_24 rfl ?_
  refine g_iload_n dJ6_bitCount_0f7a4_25 rfl ?_
  refine g_iconst (v := (4 : Int32)) dJ6_bitCount_0f7a4_26 (by decide) ?_
  refine g_iushr dJ6_bitCount_0f7a4_27 rfl ?_
  refine g_iadd dJ6_bitCount_0f7a4_28 ?_
  refine g_ldcw (v := (252645135 : Int32)) (gt_4 (List.mem_of_getElem? (i := 117) (by decide +kernel)) (by decide +kernel)) dJ6_bitCount_0f7a4_29 ?_
  refine g_iand dJ6_bitCount_0f7a4_32 ?_
  refine g_istore_n dJ6_bitCount_0f7a4_33 (by decide) (g_lvp (lv2 := [some (.int ((v1 + (v1.toUInt32 >>> ((4 : Int32).toUInt32 &&& Int32.toUInt32 31)).toInt32) &&& (252645135 : Int32)))]) (pc2 := 34) rfl rfl ?_)
  refine g_iload_n dJ6_bitCount_0f7a4_34 rfl ?_
  refine g_iload_n dJ6_bitCount_0f7a4_35 rfl ?_
  refine g_bipush (v := (8 : Int32)) dJ6_bitCount_0f7a4_36 (by decide) ?_
  refine g_iushr dJ6_bitCount_0f7a4_38 rfl ?_
  refine g_iadd dJ6_bitCount_0f7a4_39 ?_
  replace hf := Option.bind_eq_some_iff.mp hf
  obtain ⟨v3, q4, hf⟩ := hf
  refine g_top (w := .int v3) (congrArg Value.int (Option.some.inj q4)) ?_
  refine g_istore_n dJ6_bitCount_0f7a4_40 (by decide) (g_lvp (lv2 := [some (.int v3)]) (pc2 := 41) rfl rfl ?_)
  refine g_iload_n dJ6_bitCount_0f7a4_41 rfl ?_
  refine g_iload_n dJ6_bitCount_0f7a4_42 rfl ?_
  refine g_bipush (v := (16 : Int32)) dJ6_bitCount_0f7a4_43 (by decide) ?_
  refine g_iushr dJ6_bitCount_0f7a4_45 rfl ?_
  refine g_iadd dJ6_bitCount_0f7a4_46 ?_
  refine g_istore_n dJ6_bitCount_0f7a4_47 (by decide) (g_lvp (lv2 := [some (.int (v3 + (v3.toUInt32 >>> ((16 : Int32).toUInt32 &&& Int32.toUInt32 31)).toInt32))]) (pc2 := 48) rfl rfl ?_)
  refine g_iload_n dJ6_bitCount_0f7a4_48 rfl ?_
  refine g_bipush (v := (63 : Int32)) dJ6_bitCount_0f7a4_49 (by decide) ?_
  refine g_iand dJ6_bitCount_0f7a4_51 ?_
  obtain ⟨rfl, rfl⟩ := Prod.mk.inj (Option.some.inj hf)
  exact g_iret dJ6_bitCount_0f7a4_52 rfl ⟨rfl, rfl⟩ (Nat.le_of_ble_eq_true rfl) (Nat.le_of_ble_eq_true rfl)
def F_J6_bitCount_0f7a4 (n : Nat) (p0 : Int32) (h : gH) : Option (Int32 × gH) := F_J6_bitCount_0f7a4_0 n  p0 h
theorem t_J6_bitCount_0f7a4 {n d : Nat} {p0 : Int32} {h rh : gH} {rv : Int32} (hf : F_J6_bitCount_0f7a4 n p0 h = some (rv, rh)) : T M_J6_bitCount_0f7a4 d 0 0 [.int p0] h (qI rv rh) := by
  refine T_of_G (L := 0) (by decide +kernel) rfl (Nat.le_of_ble_eq_true rfl) (g_lv (lv2 := [some (.int p0)]) rfl ?_)
  exact g_J6_bitCount_0f7a4_0 hf
def F_X10_init_0 (n : Nat)  (x0 : Nat) (x1 : Int32) (x2 : Int32) (h : gH) : Option (gH) :=
  (pFw h x0 0 (.int x1)).bind fun h1 =>
  (pFw h1 x0 1 (.int x2)).bind fun h3 =>
  some h3
set_option maxRecDepth 20000 in
set_option maxHeartbeats 1600000 in
theorem g_X10_init_0 {n d : Nat} : ∀ {x0 : Nat} {x1 : Int32} {x2 : Int32} {h : gH} {rh : gH}, F_X10_init_0 n x0 x1 x2 h = some rh → G M_X10_init (d + 1) 0 0 0 0 0 [some (.ref x0), some (.int x1), some (.int x2)] [] h (qV rh) := by
  intro x0 x1 x2 h rh hf
  unfold F_X10_init_0 at hf
  refine g_aload_n dX10_init_0 rfl ?_
  refine g_objInit (gt_3 (List.mem_of_getElem? (i := 98) (by decide +kernel)) (by decide +kernel)) ob_1 ob_2 dX10_init_1 (Nat.le_of_ble_eq_true rfl) ?_
  refine g_aload_n dX10_init_4 rfl ?_
  refine g_iload_n dX10_init_5 rfl ?_
  replace hf := Option.bind_eq_some_iff.mp hf
  obtain ⟨h1, q2, hf⟩ := hf
  refine g_pFw pw_X10_7 dX10_init_6 q2 rfl (fun _ => rfl) (fun _ => rfl) ?_
  refine g_aload_n dX10_init_9 rfl ?_
  refine g_iload_n dX10_init_10 rfl ?_
  replace hf := Option.bind_eq_some_iff.mp hf
  obtain ⟨h3, q4, hf⟩ := hf
  refine g_pFw pw_X10_13 dX10_init_11 q4 rfl (fun _ => rfl) (fun _ => rfl) ?_
  obtain rfl := Option.some.inj hf
  exact g_vret dX10_init_14 rfl ⟨rfl, rfl⟩ (Nat.le_of_ble_eq_true rfl) (Nat.le_of_ble_eq_true rfl)
def F_X10_init (n : Nat) (a : Nat) (p0 : Int32) (p1 : Int32) (h : gH) : Option (gH) := F_X10_init_0 n  a p0 p1 h
theorem t_X10_init {n d : Nat} {a : Nat} {p0 : Int32} {p1 : Int32} {h rh : gH} (hf : F_X10_init n a p0 p1 h = some rh) : T M_X10_init (d + 1) 0 0 [.ref a, .int p0, .int p1] h (qV rh) := by
  refine T_of_G (L := 0) (by decide +kernel) rfl (Nat.le_of_ble_eq_true rfl) (g_lv (lv2 := [some (.ref a), some (.int p0), some (.int p1)]) rfl ?_)
  exact g_X10_init_0 hf
def F_X1_init_0 (n : Nat)  (x0 : Nat) (x1 : Int32) (x2 : Int32) (h : gH) : Option (gH) :=
  (F_X10_init n x0 x1 x2 h).bind fun h1 =>
  some h1
set_option maxRecDepth 20000 in
set_option maxHeartbeats 1600000 in
theorem g_X1_init_0 {n d : Nat} : ∀ {x0 : Nat} {x1 : Int32} {x2 : Int32} {h : gH} {rh : gH}, F_X1_init_0 n x0 x1 x2 h = some rh → G M_X1_init (d + 2) 0 0 0 0 0 [some (.ref x0), some (.int x1), some (.int x2)] [] h (qV rh) := by
  intro x0 x1 x2 h rh hf
  unfold F_X1_init_0 at hf
  refine g_aload_n dX1_init_0 rfl ?_
  refine g_iload_n dX1_init_1 rfl ?_
  refine g_iload_n dX1_init_2 rfl ?_
  replace hf := Option.bind_eq_some_iff.mp hf
  obtain ⟨h1, q2, hf⟩ := hf
  refine g_callI (as := [.int x1, .int x2]) (mc1 := 0) (ms1 := 0) s_X1_1_X10_init dX1_init_3 rfl (Nat.le_of_ble_eq_true rfl) (Nat.le_of_ble_eq_true rfl) (Nat.le_of_ble_eq_true rfl) (t_X10_init (d := d + 0) q2) (fun r9 h9 q9 => ?_)
  obtain ⟨rfl, rfl⟩ := q9
  refine g_stp (st2 := []) (pc2 := 6) (kc2 := 0) (kn2 := 0) rfl rfl rfl rfl ?_
  obtain rfl := Option.some.inj hf
  exact g_vret dX1_init_6 rfl ⟨rfl, rfl⟩ (Nat.le_of_ble_eq_true rfl) (Nat.le_of_ble_eq_true rfl)
def F_X1_init (n : Nat) (a : Nat) (p0 : Int32) (p1 : Int32) (h : gH) : Option (gH) := F_X1_init_0 n  a p0 p1 h
theorem t_X1_init {n d : Nat} {a : Nat} {p0 : Int32} {p1 : Int32} {h rh : gH} (hf : F_X1_init n a p0 p1 h = some rh) : T M_X1_init (d + 2) 0 0 [.ref a, .int p0, .int p1] h (qV rh) := by
  refine T_of_G (L := 0) (by decide +kernel) rfl (Nat.le_of_ble_eq_true rfl) (g_lv (lv2 := [some (.ref a), some (.int p0), some (.int p1)]) rfl ?_)
  exact g_X1_init_0 hf
def F_X0_init_0 (n : Nat)  (x0 : Nat) (x1 : Int32) (x2 : Int32) (h : gH) : Option (gH) :=
  (F_X1_init n x0 x1 x2 h).bind fun h1 =>
  some h1
set_option maxRecDepth 20000 in
set_option maxHeartbeats 1600000 in
theorem g_X0_init_0 {n d : Nat} : ∀ {x0 : Nat} {x1 : Int32} {x2 : Int32} {h : gH} {rh : gH}, F_X0_init_0 n x0 x1 x2 h = some rh → G M_X0_init (d + 3) 0 0 0 0 0 [some (.ref x0), some (.int x1), some (.int x2)] [] h (qV rh) := by
  intro x0 x1 x2 h rh hf
  unfold F_X0_init_0 at hf
  refine g_aload_n dX0_init_0 rfl ?_
  refine g_iload_n dX0_init_1 rfl ?_
  refine g_iload_n dX0_init_2 rfl ?_
  replace hf := Option.bind_eq_some_iff.mp hf
  obtain ⟨h1, q2, hf⟩ := hf
  refine g_callI (as := [.int x1, .int x2]) (mc1 := 0) (ms1 := 0) s_X0_1_X1_init dX0_init_3 rfl (Nat.le_of_ble_eq_true rfl) (Nat.le_of_ble_eq_true rfl) (Nat.le_of_ble_eq_true rfl) (t_X1_init (d := d + 0) q2) (fun r9 h9 q9 => ?_)
  obtain ⟨rfl, rfl⟩ := q9
  refine g_stp (st2 := []) (pc2 := 6) (kc2 := 0) (kn2 := 0) rfl rfl rfl rfl ?_
  obtain rfl := Option.some.inj hf
  exact g_vret dX0_init_6 rfl ⟨rfl, rfl⟩ (Nat.le_of_ble_eq_true rfl) (Nat.le_of_ble_eq_true rfl)
def F_X0_init (n : Nat) (a : Nat) (p0 : Int32) (p1 : Int32) (h : gH) : Option (gH) := F_X0_init_0 n  a p0 p1 h
theorem t_X0_init {n d : Nat} {a : Nat} {p0 : Int32} {p1 : Int32} {h rh : gH} (hf : F_X0_init n a p0 p1 h = some rh) : T M_X0_init (d + 3) 0 0 [.ref a, .int p0, .int p1] h (qV rh) := by
  refine T_of_G (L := 0) (by decide +kernel) rfl (Nat.le_of_ble_eq_true rfl) (g_lv (lv2 := [some (.ref a), some (.int p0), some (.int p1)]) rfl ?_)
  exact g_X0_init_0 hf
def F_X7_began_26 (n : Nat)  (x0 : Nat) (h : gH) : Option (gH) :=
  (gI h x0 7 10).bind fun v1 =>
  (pF h x0 7 10 (.int (v1 + (1 : Int32)))).bind fun h3 =>
  some h3
set_option maxRecDepth 20000 in
set_option maxHeartbeats 1600000 in
theorem g_X7_began_26 {n d : Nat} : ∀ {x0 : Nat} {h : gH} {rh : gH}, F_X7_began_26 n x0 h = some rh → G M_X7_began d 0 0 0 0 26 [some (.ref x0), none] [] h (qV rh) := by
  intro x0 h rh hf
  unfold F_X7_began_26 at hf
  refine g_aload_n dX7_began_26 rfl ?_
  refine g_dup dX7_began_27 rfl ?_
  replace hf := Option.bind_eq_some_iff.mp hf
  obtain ⟨v1, q2, hf⟩ := hf
  refine g_gI f_X7_62 dX7_began_28 q2 ?_
  refine g_iconst (v := (1 : Int32)) dX7_began_31 (by decide) ?_
  refine g_iadd dX7_began_32 ?_
  replace hf := Option.bind_eq_some_iff.mp hf
  obtain ⟨h3, q4, hf⟩ := hf
  refine g_pF p_X7_62 dX7_began_33 q4 (fun _ => rfl) (fun _ => rfl) ?_
  obtain rfl := Option.some.inj hf
  exact g_vret dX7_began_36 rfl ⟨rfl, rfl⟩ (Nat.le_of_ble_eq_true rfl) (Nat.le_of_ble_eq_true rfl)
def F_X7_began_0 (n : Nat)  (x0 : Nat) (x1 : Int32) (h : gH) : Option (gH) :=
  (gI h x0 7 10).bind fun v1 =>
  if v1 < 0 then
  (F_X7_began_26 n x0 h)
  else
  ((gI h x0 7 10).bind fun v4 =>
  if (20 : Int32) ≤ v4 then
  (F_X7_began_26 n x0 h)
  else
  ((gR h x0 7 5).bind fun v7 =>
  (gI h x0 7 10).bind fun v9 =>
  (sI h v7 v9 x1).bind fun h11 =>
  F_X7_began_26 n x0 h11))
set_option maxRecDepth 20000 in
set_option maxHeartbeats 1600000 in
theorem g_X7_began_0 {n d : Nat} : ∀ {x0 : Nat} {x1 : Int32} {h : gH} {rh : gH}, F_X7_began_0 n x0 x1 h = some rh → G M_X7_began d 0 0 0 0 0 [some (.ref x0), some (.int x1)] [] h (qV rh) := by
  intro x0 x1 h rh hf
  unfold F_X7_began_0 at hf
  refine g_aload_n dX7_began_0 rfl ?_
  replace hf := Option.bind_eq_some_iff.mp hf
  obtain ⟨v1, q2, hf⟩ := hf
  refine g_gI f_X7_62 dX7_began_1 q2 ?_
  refine g_if_lt (tgt := 26) dX7_began_4 (by decide) (fun c3 => ?_) (fun c3 => ?_)
  · rw [if_pos c3] at hf
    refine g_weak (lv2 := [some (.ref x0), none]) (And.intro rfl (trivial)) ?_
    exact g_X7_began_26 hf
  · rw [if_neg c3] at hf
    refine g_aload_n dX7_began_7 rfl ?_
    replace hf := Option.bind_eq_some_iff.mp hf
    obtain ⟨v4, q5, hf⟩ := hf
    refine g_gI f_X7_62 dX7_began_8 q5 ?_
    refine g_bipush (v := (20 : Int32)) dX7_began_11 (by decide) ?_
    refine g_icmp_ge (tgt := 26) dX7_began_13 (by decide) (fun c6 => ?_) (fun c6 => ?_)
    · rw [if_pos c6] at hf
      refine g_weak (lv2 := [some (.ref x0), none]) (And.intro rfl (trivial)) ?_
      exact g_X7_began_26 hf
    · rw [if_neg c6] at hf
      refine g_aload_n dX7_began_16 rfl ?_
      replace hf := Option.bind_eq_some_iff.mp hf
      obtain ⟨v7, q8, hf⟩ := hf
      refine g_gR f_X7_34 dX7_began_17 q8 ?_
      refine g_aload_n dX7_began_20 rfl ?_
      replace hf := Option.bind_eq_some_iff.mp hf
      obtain ⟨v9, q10, hf⟩ := hf
      refine g_gI f_X7_62 dX7_began_21 q10 ?_
      refine g_iload_n dX7_began_24 rfl ?_
      replace hf := Option.bind_eq_some_iff.mp hf
      obtain ⟨h11, q12, hf⟩ := hf
      refine g_sI dX7_began_25 q12 ?_
      refine g_weak (lv2 := [some (.ref x0), none]) (And.intro rfl (trivial)) ?_
      exact g_X7_began_26 hf
def F_X7_began (n : Nat) (a : Nat) (p0 : Int32) (h : gH) : Option (gH) := F_X7_began_0 n  a p0 h
theorem t_X7_began {n d : Nat} {a : Nat} {p0 : Int32} {h rh : gH} (hf : F_X7_began n a p0 h = some rh) : T M_X7_began d 0 0 [.ref a, .int p0] h (qV rh) := by
  refine T_of_G (L := 0) (by decide +kernel) rfl (Nat.le_of_ble_eq_true rfl) (g_lv (lv2 := [some (.ref a), some (.int p0)]) rfl ?_)
  exact g_X7_began_0 hf
def F_X10_goes_0 (n : Nat)  (x0 : Nat) (x1 : Nat) (x2 : Int32) (h : gH) : Option (Int32 × gH) :=
  (gO h x1 7).bind fun f1 =>
  (F_X7_began n x1 (1 : Int32) h).bind fun h3 =>
  (gIw h3 x0 0).bind fun v5 =>
  some ((x2 + v5), h3)
set_option maxRecDepth 20000 in
set_option maxHeartbeats 1600000 in
theorem g_X10_goes_0 {n d : Nat} : ∀ {x0 : Nat} {x1 : Nat} {x2 : Int32} {h : gH} {rh : gH} {rv : Int32}, F_X10_goes_0 n x0 x1 x2 h = some (rv, rh) → G M_X10_goes (d + 1) 0 0 0 0 0 [some (.ref x0), some (.ref x1), some (.int x2)] [] h (qI rv rh) := by
  intro x0 x1 x2 h rh rv hf
  unfold F_X10_goes_0 at hf
  refine g_aload_n dX10_goes_0 rfl ?_
  refine g_iconst (v := (1 : Int32)) dX10_goes_1 (by decide) ?_
  replace hf := Option.bind_eq_some_iff.mp hf
  obtain ⟨f1, q2, hf⟩ := hf
  replace hf := Option.bind_eq_some_iff.mp hf
  obtain ⟨h3, q4, hf⟩ := hf
  refine g_callV (as := [.int (1 : Int32)]) (mc1 := 0) (ms1 := 0) s_X10_27_X7_began_7 dX10_goes_2 (gO_of q2) rfl (Nat.le_of_ble_eq_true rfl) (Nat.le_of_ble_eq_true rfl) (Nat.le_of_ble_eq_true rfl) (t_X7_began (d := d + 0) q4) (fun r9 h9 q9 => ?_)
  obtain ⟨rfl, rfl⟩ := q9
  refine g_stp (st2 := []) (pc2 := 5) (kc2 := 0) (kn2 := 0) rfl rfl rfl rfl ?_
  refine g_iload_n dX10_goes_5 rfl ?_
  refine g_aload_n dX10_goes_6 rfl ?_
  replace hf := Option.bind_eq_some_iff.mp hf
  obtain ⟨v5, q6, hf⟩ := hf
  refine g_gIw fw_X10_7 dX10_goes_7 q6 ?_
  refine g_iadd dX10_goes_10 ?_
  obtain ⟨rfl, rfl⟩ := Prod.mk.inj (Option.some.inj hf)
  exact g_iret dX10_goes_11 rfl ⟨rfl, rfl⟩ (Nat.le_of_ble_eq_true rfl) (Nat.le_of_ble_eq_true rfl)
def F_X10_goes (n : Nat) (a : Nat) (p0 : Nat) (p1 : Int32) (h : gH) : Option (Int32 × gH) := F_X10_goes_0 n  a p0 p1 h
theorem t_X10_goes {n d : Nat} {a : Nat} {p0 : Nat} {p1 : Int32} {h rh : gH} {rv : Int32} (hf : F_X10_goes n a p0 p1 h = some (rv, rh)) : T M_X10_goes (d + 1) 0 0 [.ref a, .ref p0, .int p1] h (qI rv rh) := by
  refine T_of_G (L := 0) (by decide +kernel) rfl (Nat.le_of_ble_eq_true rfl) (g_lv (lv2 := [some (.ref a), some (.ref p0), some (.int p1)]) rfl ?_)
  exact g_X10_goes_0 hf
def F_X1_goes_0 (n : Nat)  (x0 : Nat) (x1 : Nat) (x2 : Int32) (h : gH) : Option (Int32 × gH) :=
  (gO h x1 7).bind fun f1 =>
  (F_X7_began n x1 (11 : Int32) h).bind fun h3 =>
  (gOw h3 x0).bind fun f5 =>
  gB (F_X10_goes n x0 x1 (x2 * (3 : Int32)) h3) fun v9 h7 =>
  some (v9, h7)
set_option maxRecDepth 20000 in
set_option maxHeartbeats 1600000 in
theorem g_X1_goes_0 {n d : Nat} : ∀ {x0 : Nat} {x1 : Nat} {x2 : Int32} {h : gH} {rh : gH} {rv : Int32}, F_X1_goes_0 n x0 x1 x2 h = some (rv, rh) → G M_X1_goes (d + 2) 0 0 0 0 0 [some (.ref x0), some (.ref x1), some (.int x2)] [] h (qI rv rh) := by
  intro x0 x1 x2 h rh rv hf
  unfold F_X1_goes_0 at hf
  refine g_aload_n dX1_goes_0 rfl ?_
  refine g_bipush (v := (11 : Int32)) dX1_goes_1 (by decide) ?_
  replace hf := Option.bind_eq_some_iff.mp hf
  obtain ⟨f1, q2, hf⟩ := hf
  replace hf := Option.bind_eq_some_iff.mp hf
  obtain ⟨h3, q4, hf⟩ := hf
  refine g_callV (as := [.int (11 : Int32)]) (mc1 := 0) (ms1 := 0) s_X1_13_X7_began_7 dX1_goes_3 (gO_of q2) rfl (Nat.le_of_ble_eq_true rfl) (Nat.le_of_ble_eq_true rfl) (Nat.le_of_ble_eq_true rfl) (t_X7_began (d := d + 1) q4) (fun r9 h9 q9 => ?_)
  obtain ⟨rfl, rfl⟩ := q9
  refine g_stp (st2 := []) (pc2 := 6) (kc2 := 0) (kn2 := 0) rfl rfl rfl rfl ?_
  refine g_aload_n dX1_goes_6 rfl ?_
  refine g_aload_n dX1_goes_7 rfl ?_
  refine g_iload_n dX1_goes_8 rfl ?_
  refine g_iconst (v := (3 : Int32)) dX1_goes_9 (by decide) ?_
  refine g_imul dX1_goes_10 ?_
  replace hf := Option.bind_eq_some_iff.mp hf
  obtain ⟨f5, q6, hf⟩ := hf
  replace hf := gB_of hf
  obtain ⟨v9, h7, q8, hf⟩ := hf
  refine g_callP (as := [.ref x1, .int (x2 * (3 : Int32))]) (mc1 := 0) (ms1 := 0) s_X1_19_X10_goes dX1_goes_11 (gOw_of q6).2 (gWays_lt (gOw_of q6).1) rfl (Nat.le_of_ble_eq_true rfl) (Nat.le_of_ble_eq_true rfl) (Nat.le_of_ble_eq_true rfl) (t_X10_goes (d := d + 0) q8) (fun r9 h9 q9 => ?_)
  obtain ⟨rfl, rfl⟩ := q9
  refine g_stp (st2 := [.int v9]) (pc2 := 14) (kc2 := 0) (kn2 := 0) rfl rfl rfl rfl ?_
  obtain ⟨rfl, rfl⟩ := Prod.mk.inj (Option.some.inj hf)
  exact g_iret dX1_goes_14 rfl ⟨rfl, rfl⟩ (Nat.le_of_ble_eq_true rfl) (Nat.le_of_ble_eq_true rfl)
def F_X1_goes (n : Nat) (a : Nat) (p0 : Nat) (p1 : Int32) (h : gH) : Option (Int32 × gH) := F_X1_goes_0 n  a p0 p1 h
theorem t_X1_goes {n d : Nat} {a : Nat} {p0 : Nat} {p1 : Int32} {h rh : gH} {rv : Int32} (hf : F_X1_goes n a p0 p1 h = some (rv, rh)) : T M_X1_goes (d + 2) 0 0 [.ref a, .ref p0, .int p1] h (qI rv rh) := by
  refine T_of_G (L := 0) (by decide +kernel) rfl (Nat.le_of_ble_eq_true rfl) (g_lv (lv2 := [some (.ref a), some (.ref p0), some (.int p1)]) rfl ?_)
  exact g_X1_goes_0 hf
def F_X2_goes_0 (n : Nat)  (x0 : Nat) (x1 : Nat) (x2 : Int32) (h : gH) : Option (Int32 × gH) :=
  (gO h x1 7).bind fun f1 =>
  (F_X7_began n x1 (51 : Int32) h).bind fun h3 =>
  (gOw h3 x0).bind fun f5 =>
  gB (F_X1_goes n x0 x1 x2 h3) fun v9 h7 =>
  (gIw h7 x0 0).bind fun v10 =>
  some ((v9 ^^^ v10), h7)
set_option maxRecDepth 20000 in
set_option maxHeartbeats 1600000 in
theorem g_X2_goes_0 {n d : Nat} : ∀ {x0 : Nat} {x1 : Nat} {x2 : Int32} {h : gH} {rh : gH} {rv : Int32}, F_X2_goes_0 n x0 x1 x2 h = some (rv, rh) → G M_X2_goes (d + 3) 0 0 0 0 0 [some (.ref x0), some (.ref x1), some (.int x2)] [] h (qI rv rh) := by
  intro x0 x1 x2 h rh rv hf
  unfold F_X2_goes_0 at hf
  refine g_aload_n dX2_goes_0 rfl ?_
  refine g_bipush (v := (51 : Int32)) dX2_goes_1 (by decide) ?_
  replace hf := Option.bind_eq_some_iff.mp hf
  obtain ⟨f1, q2, hf⟩ := hf
  replace hf := Option.bind_eq_some_iff.mp hf
  obtain ⟨h3, q4, hf⟩ := hf
  refine g_callV (as := [.int (51 : Int32)]) (mc1 := 0) (ms1 := 0) s_X2_30_X7_began_7 dX2_goes_3 (gO_of q2) rfl (Nat.le_of_ble_eq_true rfl) (Nat.le_of_ble_eq_true rfl) (Nat.le_of_ble_eq_true rfl) (t_X7_began (d := d + 2) q4) (fun r9 h9 q9 => ?_)
  obtain ⟨rfl, rfl⟩ := q9
  refine g_stp (st2 := []) (pc2 := 6) (kc2 := 0) (kn2 := 0) rfl rfl rfl rfl ?_
  refine g_aload_n dX2_goes_6 rfl ?_
  refine g_aload_n dX2_goes_7 rfl ?_
  refine g_iload_n dX2_goes_8 rfl ?_
  replace hf := Option.bind_eq_some_iff.mp hf
  obtain ⟨f5, q6, hf⟩ := hf
  replace hf := gB_of hf
  obtain ⟨v9, h7, q8, hf⟩ := hf
  refine g_callP (as := [.ref x1, .int x2]) (mc1 := 0) (ms1 := 0) s_X2_34_X1_goes dX2_goes_9 (gOw_of q6).2 (gWays_lt (gOw_of q6).1) rfl (Nat.le_of_ble_eq_true rfl) (Nat.le_of_ble_eq_true rfl) (Nat.le_of_ble_eq_true rfl) (t_X1_goes (d := d + 0) q8) (fun r9 h9 q9 => ?_)
  obtain ⟨rfl, rfl⟩ := q9
  refine g_stp (st2 := [.int v9]) (pc2 := 12) (kc2 := 0) (kn2 := 0) rfl rfl rfl rfl ?_
  refine g_aload_n dX2_goes_12 rfl ?_
  replace hf := Option.bind_eq_some_iff.mp hf
  obtain ⟨v10, q11, hf⟩ := hf
  refine g_gIw fw_X2_38 dX2_goes_13 q11 ?_
  refine g_ixor dX2_goes_16 ?_
  obtain ⟨rfl, rfl⟩ := Prod.mk.inj (Option.some.inj hf)
  exact g_iret dX2_goes_17 rfl ⟨rfl, rfl⟩ (Nat.le_of_ble_eq_true rfl) (Nat.le_of_ble_eq_true rfl)
def F_X2_goes (n : Nat) (a : Nat) (p0 : Nat) (p1 : Int32) (h : gH) : Option (Int32 × gH) := F_X2_goes_0 n  a p0 p1 h
theorem t_X2_goes {n d : Nat} {a : Nat} {p0 : Nat} {p1 : Int32} {h rh : gH} {rv : Int32} (hf : F_X2_goes n a p0 p1 h = some (rv, rh)) : T M_X2_goes (d + 3) 0 0 [.ref a, .ref p0, .int p1] h (qI rv rh) := by
  refine T_of_G (L := 0) (by decide +kernel) rfl (Nat.le_of_ble_eq_true rfl) (g_lv (lv2 := [some (.ref a), some (.ref p0), some (.int p1)]) rfl ?_)
  exact g_X2_goes_0 hf
def DW_X10_goes (n : Nat) (a : Nat) (p0 : Nat) (p1 : Int32) (h : gH) : Option (Int32 × gH) := (gOw h a).bind fun q => if q.1 = 0 then F_X1_goes n a p0 p1 h else if q.1 = 1 then F_X1_goes n a p0 p1 h else if q.1 = 2 then F_X2_goes n a p0 p1 h else if q.1 = 3 then F_X10_goes n a p0 p1 h else if q.1 = 8 then F_X10_goes n a p0 p1 h else if q.1 = 9 then F_X10_goes n a p0 p1 h else if q.1 = 10 then F_X10_goes n a p0 p1 h else none
theorem g_DW_X10_goes_X10_31 {M : gM} {n d mc ms kc kn pc : Nat} {lv : List (Option Value)} {st : List Value} {h h2 : gH} {Q : Option Value → gH → Prop} {a : Nat} {p0 : Nat} {p1 : Int32} {v : Int32} (hdg : decode M.2.2.1 pc = .ok (.invokevirtual 31, 3)) (q : DW_X10_goes n a p0 p1 h = some (v, h2)) (hcat : (st.map fun v => v.category).sum ≤ 8) (hcm : kc ≤ mc) (hsm : kn ≤ ms) (kk : G M (d + 4) mc ms kc kn (pc + 3) lv (.int v :: st) h2 Q) (hM : M.1 = RX10 := by rfl) : G M (d + 4) mc ms kc kn pc lv (.int p1 :: .ref p0 :: .ref a :: st) h Q := by
  unfold DW_X10_goes at q
  obtain ⟨p, e1, q⟩ := Option.bind_eq_some_iff.mp q
  have e3 := (gOw_of e1).2
  by_cases c0 : p.1 = 0
  · rw [if_pos c0] at q
    rw [c0] at e3
    refine g_callU (M2 := M_X1_goes) (as := [.ref p0, .int p1]) (mc1 := 0) (ms1 := 0) (by rw [hM]; exact s_X10_31_X1_goes_0) hdg e3 rfl hcat hcm hsm (t_X1_goes (d := d + 1) q) (fun r9 h9 q9 => ?_)
    obtain ⟨rfl, rfl⟩ := q9
    exact kk
  rw [if_neg c0] at q
  by_cases c1 : p.1 = 1
  · rw [if_pos c1] at q
    rw [c1] at e3
    refine g_callU (M2 := M_X1_goes) (as := [.ref p0, .int p1]) (mc1 := 0) (ms1 := 0) (by rw [hM]; exact s_X10_31_X1_goes_1) hdg e3 rfl hcat hcm hsm (t_X1_goes (d := d + 1) q) (fun r9 h9 q9 => ?_)
    obtain ⟨rfl, rfl⟩ := q9
    exact kk
  rw [if_neg c1] at q
  by_cases c2 : p.1 = 2
  · rw [if_pos c2] at q
    rw [c2] at e3
    refine g_callU (M2 := M_X2_goes) (as := [.ref p0, .int p1]) (mc1 := 0) (ms1 := 0) (by rw [hM]; exact s_X10_31_X2_goes_2) hdg e3 rfl hcat hcm hsm (t_X2_goes (d := d + 0) q) (fun r9 h9 q9 => ?_)
    obtain ⟨rfl, rfl⟩ := q9
    exact kk
  rw [if_neg c2] at q
  by_cases c3 : p.1 = 3
  · rw [if_pos c3] at q
    rw [c3] at e3
    refine g_callU (M2 := M_X10_goes) (as := [.ref p0, .int p1]) (mc1 := 0) (ms1 := 0) (by rw [hM]; exact s_X10_31_X10_goes_3) hdg e3 rfl hcat hcm hsm (t_X10_goes (d := d + 2) q) (fun r9 h9 q9 => ?_)
    obtain ⟨rfl, rfl⟩ := q9
    exact kk
  rw [if_neg c3] at q
  by_cases c8 : p.1 = 8
  · rw [if_pos c8] at q
    rw [c8] at e3
    refine g_callU (M2 := M_X10_goes) (as := [.ref p0, .int p1]) (mc1 := 0) (ms1 := 0) (by rw [hM]; exact s_X10_31_X10_goes_8) hdg e3 rfl hcat hcm hsm (t_X10_goes (d := d + 2) q) (fun r9 h9 q9 => ?_)
    obtain ⟨rfl, rfl⟩ := q9
    exact kk
  rw [if_neg c8] at q
  by_cases c9 : p.1 = 9
  · rw [if_pos c9] at q
    rw [c9] at e3
    refine g_callU (M2 := M_X10_goes) (as := [.ref p0, .int p1]) (mc1 := 0) (ms1 := 0) (by rw [hM]; exact s_X10_31_X10_goes_9) hdg e3 rfl hcat hcm hsm (t_X10_goes (d := d + 2) q) (fun r9 h9 q9 => ?_)
    obtain ⟨rfl, rfl⟩ := q9
    exact kk
  rw [if_neg c9] at q
  by_cases c10 : p.1 = 10
  · rw [if_pos c10] at q
    rw [c10] at e3
    refine g_callV (M2 := M_X10_goes) (as := [.ref p0, .int p1]) (mc1 := 0) (ms1 := 0) (by rw [hM]; exact s_X10_31_X10_goes_10) hdg e3 rfl hcat hcm hsm (t_X10_goes (d := d + 2) q) (fun r9 h9 q9 => ?_)
    obtain ⟨rfl, rfl⟩ := q9
    exact kk
  rw [if_neg c10] at q
  cases q
def F_X10_spends_0 (n : Nat)  (x0 : Nat) (x1 : Nat) (x2 : Int32) (h : gH) : Option (Int32 × gH) :=
  (gO h x1 7).bind fun f1 =>
  (F_X7_began n x1 (2 : Int32) h).bind fun h3 =>
  gB (DW_X10_goes n x0 x1 x2 h3) fun v7 h5 =>
  (gIw h5 x0 1).bind fun v8 =>
  some ((v7 - v8), h5)
set_option maxRecDepth 20000 in
set_option maxHeartbeats 1600000 in
theorem g_X10_spends_0 {n d : Nat} : ∀ {x0 : Nat} {x1 : Nat} {x2 : Int32} {h : gH} {rh : gH} {rv : Int32}, F_X10_spends_0 n x0 x1 x2 h = some (rv, rh) → G M_X10_spends (d + 4) 0 0 0 0 0 [some (.ref x0), some (.ref x1), some (.int x2)] [] h (qI rv rh) := by
  intro x0 x1 x2 h rh rv hf
  unfold F_X10_spends_0 at hf
  refine g_aload_n dX10_spends_0 rfl ?_
  refine g_iconst (v := (2 : Int32)) dX10_spends_1 (by decide) ?_
  replace hf := Option.bind_eq_some_iff.mp hf
  obtain ⟨f1, q2, hf⟩ := hf
  replace hf := Option.bind_eq_some_iff.mp hf
  obtain ⟨h3, q4, hf⟩ := hf
  refine g_callV (as := [.int (2 : Int32)]) (mc1 := 0) (ms1 := 0) s_X10_27_X7_began_7 dX10_spends_2 (gO_of q2) rfl (Nat.le_of_ble_eq_true rfl) (Nat.le_of_ble_eq_true rfl) (Nat.le_of_ble_eq_true rfl) (t_X7_began (d := d + 3) q4) (fun r9 h9 q9 => ?_)
  obtain ⟨rfl, rfl⟩ := q9
  refine g_stp (st2 := []) (pc2 := 5) (kc2 := 0) (kn2 := 0) rfl rfl rfl rfl ?_
  refine g_aload_n dX10_spends_5 rfl ?_
  refine g_aload_n dX10_spends_6 rfl ?_
  refine g_iload_n dX10_spends_7 rfl ?_
  replace hf := gB_of hf
  obtain ⟨v7, h5, q6, hf⟩ := hf
  refine g_DW_X10_goes_X10_31 (d := d + 0) dX10_spends_8 q6 (Nat.le_of_ble_eq_true rfl) (Nat.le_of_ble_eq_true rfl) (Nat.le_of_ble_eq_true rfl) ?_
  refine g_stp (st2 := [.int v7]) (pc2 := 11) (kc2 := 0) (kn2 := 0) rfl rfl rfl rfl ?_
  refine g_aload_n dX10_spends_11 rfl ?_
  replace hf := Option.bind_eq_some_iff.mp hf
  obtain ⟨v8, q9, hf⟩ := hf
  refine g_gIw fw_X10_13 dX10_spends_12 q9 ?_
  refine g_isub dX10_spends_15 ?_
  obtain ⟨rfl, rfl⟩ := Prod.mk.inj (Option.some.inj hf)
  exact g_iret dX10_spends_16 rfl ⟨rfl, rfl⟩ (Nat.le_of_ble_eq_true rfl) (Nat.le_of_ble_eq_true rfl)
def F_X10_spends (n : Nat) (a : Nat) (p0 : Nat) (p1 : Int32) (h : gH) : Option (Int32 × gH) := F_X10_spends_0 n  a p0 p1 h
theorem t_X10_spends {n d : Nat} {a : Nat} {p0 : Nat} {p1 : Int32} {h rh : gH} {rv : Int32} (hf : F_X10_spends n a p0 p1 h = some (rv, rh)) : T M_X10_spends (d + 4) 0 0 [.ref a, .ref p0, .int p1] h (qI rv rh) := by
  refine T_of_G (L := 0) (by decide +kernel) rfl (Nat.le_of_ble_eq_true rfl) (g_lv (lv2 := [some (.ref a), some (.ref p0), some (.int p1)]) rfl ?_)
  exact g_X10_spends_0 hf
def F_X8_spends_0 (n : Nat)  (x0 : Nat) (x1 : Nat) (x2 : Int32) (h : gH) : Option (Int32 × gH) :=
  (gO h x1 7).bind fun f1 =>
  (F_X7_began n x1 (21 : Int32) h).bind fun h3 =>
  (gOw h3 x0).bind fun f5 =>
  gB (F_X10_spends n x0 x1 x2 h3) fun v9 h7 =>
  some ((-v9), h7)
set_option maxRecDepth 20000 in
set_option maxHeartbeats 1600000 in
theorem g_X8_spends_0 {n d : Nat} : ∀ {x0 : Nat} {x1 : Nat} {x2 : Int32} {h : gH} {rh : gH} {rv : Int32}, F_X8_spends_0 n x0 x1 x2 h = some (rv, rh) → G M_X8_spends (d + 5) 0 0 0 0 0 [some (.ref x0), some (.ref x1), some (.int x2)] [] h (qI rv rh) := by
  intro x0 x1 x2 h rh rv hf
  unfold F_X8_spends_0 at hf
  refine g_aload_n dX8_spends_0 rfl ?_
  refine g_bipush (v := (21 : Int32)) dX8_spends_1 (by decide) ?_
  replace hf := Option.bind_eq_some_iff.mp hf
  obtain ⟨f1, q2, hf⟩ := hf
  replace hf := Option.bind_eq_some_iff.mp hf
  obtain ⟨h3, q4, hf⟩ := hf
  refine g_callV (as := [.int (21 : Int32)]) (mc1 := 0) (ms1 := 0) s_X8_30_X7_began_7 dX8_spends_3 (gO_of q2) rfl (Nat.le_of_ble_eq_true rfl) (Nat.le_of_ble_eq_true rfl) (Nat.le_of_ble_eq_true rfl) (t_X7_began (d := d + 4) q4) (fun r9 h9 q9 => ?_)
  obtain ⟨rfl, rfl⟩ := q9
  refine g_stp (st2 := []) (pc2 := 6) (kc2 := 0) (kn2 := 0) rfl rfl rfl rfl ?_
  refine g_aload_n dX8_spends_6 rfl ?_
  refine g_aload_n dX8_spends_7 rfl ?_
  refine g_iload_n dX8_spends_8 rfl ?_
  replace hf := Option.bind_eq_some_iff.mp hf
  obtain ⟨f5, q6, hf⟩ := hf
  replace hf := gB_of hf
  obtain ⟨v9, h7, q8, hf⟩ := hf
  refine g_callP (as := [.ref x1, .int x2]) (mc1 := 0) (ms1 := 0) s_X8_34_X10_spends dX8_spends_9 (gOw_of q6).2 (gWays_lt (gOw_of q6).1) rfl (Nat.le_of_ble_eq_true rfl) (Nat.le_of_ble_eq_true rfl) (Nat.le_of_ble_eq_true rfl) (t_X10_spends (d := d + 0) q8) (fun r9 h9 q9 => ?_)
  obtain ⟨rfl, rfl⟩ := q9
  refine g_stp (st2 := [.int v9]) (pc2 := 12) (kc2 := 0) (kn2 := 0) rfl rfl rfl rfl ?_
  refine g_ineg dX8_spends_12 ?_
  obtain ⟨rfl, rfl⟩ := Prod.mk.inj (Option.some.inj hf)
  exact g_iret dX8_spends_13 rfl ⟨rfl, rfl⟩ (Nat.le_of_ble_eq_true rfl) (Nat.le_of_ble_eq_true rfl)
def F_X8_spends (n : Nat) (a : Nat) (p0 : Nat) (p1 : Int32) (h : gH) : Option (Int32 × gH) := F_X8_spends_0 n  a p0 p1 h
theorem t_X8_spends {n d : Nat} {a : Nat} {p0 : Nat} {p1 : Int32} {h rh : gH} {rv : Int32} (hf : F_X8_spends n a p0 p1 h = some (rv, rh)) : T M_X8_spends (d + 5) 0 0 [.ref a, .ref p0, .int p1] h (qI rv rh) := by
  refine T_of_G (L := 0) (by decide +kernel) rfl (Nat.le_of_ble_eq_true rfl) (g_lv (lv2 := [some (.ref a), some (.ref p0), some (.int p1)]) rfl ?_)
  exact g_X8_spends_0 hf
def F_X9_spends_0 (n : Nat)  (x0 : Nat) (x1 : Nat) (x2 : Int32) (h : gH) : Option (Int32 × gH) :=
  (gO h x1 7).bind fun f1 =>
  (F_X7_began n x1 (61 : Int32) h).bind fun h3 =>
  (gOw h3 x0).bind fun f5 =>
  gB (F_X8_spends n x0 x1 x2 h3) fun v9 h7 =>
  (gIw h7 x0 1).bind fun v10 =>
  some ((v9 + v10), h7)
set_option maxRecDepth 20000 in
set_option maxHeartbeats 1600000 in
theorem g_X9_spends_0 {n d : Nat} : ∀ {x0 : Nat} {x1 : Nat} {x2 : Int32} {h : gH} {rh : gH} {rv : Int32}, F_X9_spends_0 n x0 x1 x2 h = some (rv, rh) → G M_X9_spends (d + 6) 0 0 0 0 0 [some (.ref x0), some (.ref x1), some (.int x2)] [] h (qI rv rh) := by
  intro x0 x1 x2 h rh rv hf
  unfold F_X9_spends_0 at hf
  refine g_aload_n dX9_spends_0 rfl ?_
  refine g_bipush (v := (61 : Int32)) dX9_spends_1 (by decide) ?_
  replace hf := Option.bind_eq_some_iff.mp hf
  obtain ⟨f1, q2, hf⟩ := hf
  replace hf := Option.bind_eq_some_iff.mp hf
  obtain ⟨h3, q4, hf⟩ := hf
  refine g_callV (as := [.int (61 : Int32)]) (mc1 := 0) (ms1 := 0) s_X9_23_X7_began_7 dX9_spends_3 (gO_of q2) rfl (Nat.le_of_ble_eq_true rfl) (Nat.le_of_ble_eq_true rfl) (Nat.le_of_ble_eq_true rfl) (t_X7_began (d := d + 5) q4) (fun r9 h9 q9 => ?_)
  obtain ⟨rfl, rfl⟩ := q9
  refine g_stp (st2 := []) (pc2 := 6) (kc2 := 0) (kn2 := 0) rfl rfl rfl rfl ?_
  refine g_aload_n dX9_spends_6 rfl ?_
  refine g_aload_n dX9_spends_7 rfl ?_
  refine g_iload_n dX9_spends_8 rfl ?_
  replace hf := Option.bind_eq_some_iff.mp hf
  obtain ⟨f5, q6, hf⟩ := hf
  replace hf := gB_of hf
  obtain ⟨v9, h7, q8, hf⟩ := hf
  refine g_callP (as := [.ref x1, .int x2]) (mc1 := 0) (ms1 := 0) s_X9_27_X8_spends dX9_spends_9 (gOw_of q6).2 (gWays_lt (gOw_of q6).1) rfl (Nat.le_of_ble_eq_true rfl) (Nat.le_of_ble_eq_true rfl) (Nat.le_of_ble_eq_true rfl) (t_X8_spends (d := d + 0) q8) (fun r9 h9 q9 => ?_)
  obtain ⟨rfl, rfl⟩ := q9
  refine g_stp (st2 := [.int v9]) (pc2 := 12) (kc2 := 0) (kn2 := 0) rfl rfl rfl rfl ?_
  refine g_aload_n dX9_spends_12 rfl ?_
  replace hf := Option.bind_eq_some_iff.mp hf
  obtain ⟨v10, q11, hf⟩ := hf
  refine g_gIw fw_X9_31 dX9_spends_13 q11 ?_
  refine g_iadd dX9_spends_16 ?_
  obtain ⟨rfl, rfl⟩ := Prod.mk.inj (Option.some.inj hf)
  exact g_iret dX9_spends_17 rfl ⟨rfl, rfl⟩ (Nat.le_of_ble_eq_true rfl) (Nat.le_of_ble_eq_true rfl)
def F_X9_spends (n : Nat) (a : Nat) (p0 : Nat) (p1 : Int32) (h : gH) : Option (Int32 × gH) := F_X9_spends_0 n  a p0 p1 h
theorem t_X9_spends {n d : Nat} {a : Nat} {p0 : Nat} {p1 : Int32} {h rh : gH} {rv : Int32} (hf : F_X9_spends n a p0 p1 h = some (rv, rh)) : T M_X9_spends (d + 6) 0 0 [.ref a, .ref p0, .int p1] h (qI rv rh) := by
  refine T_of_G (L := 0) (by decide +kernel) rfl (Nat.le_of_ble_eq_true rfl) (g_lv (lv2 := [some (.ref a), some (.ref p0), some (.int p1)]) rfl ?_)
  exact g_X9_spends_0 hf
def DW_X10_spends (n : Nat) (a : Nat) (p0 : Nat) (p1 : Int32) (h : gH) : Option (Int32 × gH) := (gOw h a).bind fun q => if q.1 = 0 then F_X10_spends n a p0 p1 h else if q.1 = 1 then F_X10_spends n a p0 p1 h else if q.1 = 2 then F_X10_spends n a p0 p1 h else if q.1 = 3 then F_X10_spends n a p0 p1 h else if q.1 = 8 then F_X8_spends n a p0 p1 h else if q.1 = 9 then F_X9_spends n a p0 p1 h else if q.1 = 10 then F_X10_spends n a p0 p1 h else none
theorem g_DW_X10_spends_X10_35 {M : gM} {n d mc ms kc kn pc : Nat} {lv : List (Option Value)} {st : List Value} {h h2 : gH} {Q : Option Value → gH → Prop} {a : Nat} {p0 : Nat} {p1 : Int32} {v : Int32} (hdg : decode M.2.2.1 pc = .ok (.invokevirtual 35, 3)) (q : DW_X10_spends n a p0 p1 h = some (v, h2)) (hcat : (st.map fun v => v.category).sum ≤ 8) (hcm : kc ≤ mc) (hsm : kn ≤ ms) (kk : G M (d + 7) mc ms kc kn (pc + 3) lv (.int v :: st) h2 Q) (hM : M.1 = RX10 := by rfl) : G M (d + 7) mc ms kc kn pc lv (.int p1 :: .ref p0 :: .ref a :: st) h Q := by
  unfold DW_X10_spends at q
  obtain ⟨p, e1, q⟩ := Option.bind_eq_some_iff.mp q
  have e3 := (gOw_of e1).2
  by_cases c0 : p.1 = 0
  · rw [if_pos c0] at q
    rw [c0] at e3
    refine g_callU (M2 := M_X10_spends) (as := [.ref p0, .int p1]) (mc1 := 0) (ms1 := 0) (by rw [hM]; exact s_X10_35_X10_spends_0) hdg e3 rfl hcat hcm hsm (t_X10_spends (d := d + 2) q) (fun r9 h9 q9 => ?_)
    obtain ⟨rfl, rfl⟩ := q9
    exact kk
  rw [if_neg c0] at q
  by_cases c1 : p.1 = 1
  · rw [if_pos c1] at q
    rw [c1] at e3
    refine g_callU (M2 := M_X10_spends) (as := [.ref p0, .int p1]) (mc1 := 0) (ms1 := 0) (by rw [hM]; exact s_X10_35_X10_spends_1) hdg e3 rfl hcat hcm hsm (t_X10_spends (d := d + 2) q) (fun r9 h9 q9 => ?_)
    obtain ⟨rfl, rfl⟩ := q9
    exact kk
  rw [if_neg c1] at q
  by_cases c2 : p.1 = 2
  · rw [if_pos c2] at q
    rw [c2] at e3
    refine g_callU (M2 := M_X10_spends) (as := [.ref p0, .int p1]) (mc1 := 0) (ms1 := 0) (by rw [hM]; exact s_X10_35_X10_spends_2) hdg e3 rfl hcat hcm hsm (t_X10_spends (d := d + 2) q) (fun r9 h9 q9 => ?_)
    obtain ⟨rfl, rfl⟩ := q9
    exact kk
  rw [if_neg c2] at q
  by_cases c3 : p.1 = 3
  · rw [if_pos c3] at q
    rw [c3] at e3
    refine g_callU (M2 := M_X10_spends) (as := [.ref p0, .int p1]) (mc1 := 0) (ms1 := 0) (by rw [hM]; exact s_X10_35_X10_spends_3) hdg e3 rfl hcat hcm hsm (t_X10_spends (d := d + 2) q) (fun r9 h9 q9 => ?_)
    obtain ⟨rfl, rfl⟩ := q9
    exact kk
  rw [if_neg c3] at q
  by_cases c8 : p.1 = 8
  · rw [if_pos c8] at q
    rw [c8] at e3
    refine g_callU (M2 := M_X8_spends) (as := [.ref p0, .int p1]) (mc1 := 0) (ms1 := 0) (by rw [hM]; exact s_X10_35_X8_spends_8) hdg e3 rfl hcat hcm hsm (t_X8_spends (d := d + 1) q) (fun r9 h9 q9 => ?_)
    obtain ⟨rfl, rfl⟩ := q9
    exact kk
  rw [if_neg c8] at q
  by_cases c9 : p.1 = 9
  · rw [if_pos c9] at q
    rw [c9] at e3
    refine g_callU (M2 := M_X9_spends) (as := [.ref p0, .int p1]) (mc1 := 0) (ms1 := 0) (by rw [hM]; exact s_X10_35_X9_spends_9) hdg e3 rfl hcat hcm hsm (t_X9_spends (d := d + 0) q) (fun r9 h9 q9 => ?_)
    obtain ⟨rfl, rfl⟩ := q9
    exact kk
  rw [if_neg c9] at q
  by_cases c10 : p.1 = 10
  · rw [if_pos c10] at q
    rw [c10] at e3
    refine g_callV (M2 := M_X10_spends) (as := [.ref p0, .int p1]) (mc1 := 0) (ms1 := 0) (by rw [hM]; exact s_X10_35_X10_spends_10) hdg e3 rfl hcat hcm hsm (t_X10_spends (d := d + 2) q) (fun r9 h9 q9 => ?_)
    obtain ⟨rfl, rfl⟩ := q9
    exact kk
  rw [if_neg c10] at q
  cases q
def F_X10_rests_0 (n : Nat)  (x0 : Nat) (x1 : Nat) (x2 : Int32) (h : gH) : Option (Int32 × gH) :=
  (gO h x1 7).bind fun f1 =>
  (F_X7_began n x1 (3 : Int32) h).bind fun h3 =>
  gB (DW_X10_spends n x0 x1 x2 h3) fun v7 h5 =>
  some ((v7 * (2 : Int32)), h5)
set_option maxRecDepth 20000 in
set_option maxHeartbeats 1600000 in
theorem g_X10_rests_0 {n d : Nat} : ∀ {x0 : Nat} {x1 : Nat} {x2 : Int32} {h : gH} {rh : gH} {rv : Int32}, F_X10_rests_0 n x0 x1 x2 h = some (rv, rh) → G M_X10_rests (d + 7) 0 0 0 0 0 [some (.ref x0), some (.ref x1), some (.int x2)] [] h (qI rv rh) := by
  intro x0 x1 x2 h rh rv hf
  unfold F_X10_rests_0 at hf
  refine g_aload_n dX10_rests_0 rfl ?_
  refine g_iconst (v := (3 : Int32)) dX10_rests_1 (by decide) ?_
  replace hf := Option.bind_eq_some_iff.mp hf
  obtain ⟨f1, q2, hf⟩ := hf
  replace hf := Option.bind_eq_some_iff.mp hf
  obtain ⟨h3, q4, hf⟩ := hf
  refine g_callV (as := [.int (3 : Int32)]) (mc1 := 0) (ms1 := 0) s_X10_27_X7_began_7 dX10_rests_2 (gO_of q2) rfl (Nat.le_of_ble_eq_true rfl) (Nat.le_of_ble_eq_true rfl) (Nat.le_of_ble_eq_true rfl) (t_X7_began (d := d + 6) q4) (fun r9 h9 q9 => ?_)
  obtain ⟨rfl, rfl⟩ := q9
  refine g_stp (st2 := []) (pc2 := 5) (kc2 := 0) (kn2 := 0) rfl rfl rfl rfl ?_
  refine g_aload_n dX10_rests_5 rfl ?_
  refine g_aload_n dX10_rests_6 rfl ?_
  refine g_iload_n dX10_rests_7 rfl ?_
  replace hf := gB_of hf
  obtain ⟨v7, h5, q6, hf⟩ := hf
  refine g_DW_X10_spends_X10_35 (d := d + 0) dX10_rests_8 q6 (Nat.le_of_ble_eq_true rfl) (Nat.le_of_ble_eq_true rfl) (Nat.le_of_ble_eq_true rfl) ?_
  refine g_stp (st2 := [.int v7]) (pc2 := 11) (kc2 := 0) (kn2 := 0) rfl rfl rfl rfl ?_
  refine g_iconst (v := (2 : Int32)) dX10_rests_11 (by decide) ?_
  refine g_imul dX10_rests_12 ?_
  obtain ⟨rfl, rfl⟩ := Prod.mk.inj (Option.some.inj hf)
  exact g_iret dX10_rests_13 rfl ⟨rfl, rfl⟩ (Nat.le_of_ble_eq_true rfl) (Nat.le_of_ble_eq_true rfl)
def F_X10_rests (n : Nat) (a : Nat) (p0 : Nat) (p1 : Int32) (h : gH) : Option (Int32 × gH) := F_X10_rests_0 n  a p0 p1 h
theorem t_X10_rests {n d : Nat} {a : Nat} {p0 : Nat} {p1 : Int32} {h rh : gH} {rv : Int32} (hf : F_X10_rests n a p0 p1 h = some (rv, rh)) : T M_X10_rests (d + 7) 0 0 [.ref a, .ref p0, .int p1] h (qI rv rh) := by
  refine T_of_G (L := 0) (by decide +kernel) rfl (Nat.le_of_ble_eq_true rfl) (g_lv (lv2 := [some (.ref a), some (.ref p0), some (.int p1)]) rfl ?_)
  exact g_X10_rests_0 hf
def DW_X0_goes (n : Nat) (a : Nat) (p0 : Nat) (p1 : Int32) (h : gH) : Option (Int32 × gH) := (gOw h a).bind fun q => if q.1 = 0 then F_X1_goes n a p0 p1 h else none
theorem g_DW_X0_goes_X0_23 {M : gM} {n d mc ms kc kn pc : Nat} {lv : List (Option Value)} {st : List Value} {h h2 : gH} {Q : Option Value → gH → Prop} {a : Nat} {p0 : Nat} {p1 : Int32} {v : Int32} (hdg : decode M.2.2.1 pc = .ok (.invokevirtual 23, 3)) (q : DW_X0_goes n a p0 p1 h = some (v, h2)) (hcat : (st.map fun v => v.category).sum ≤ 8) (hcm : kc ≤ mc) (hsm : kn ≤ ms) (kk : G M (d + 3) mc ms kc kn (pc + 3) lv (.int v :: st) h2 Q) (hM : M.1 = RX0 := by rfl) : G M (d + 3) mc ms kc kn pc lv (.int p1 :: .ref p0 :: .ref a :: st) h Q := by
  unfold DW_X0_goes at q
  obtain ⟨p, e1, q⟩ := Option.bind_eq_some_iff.mp q
  have e3 := (gOw_of e1).2
  by_cases c0 : p.1 = 0
  · rw [if_pos c0] at q
    rw [c0] at e3
    refine g_callU (M2 := M_X1_goes) (as := [.ref p0, .int p1]) (mc1 := 0) (ms1 := 0) (by rw [hM]; exact s_X0_23_X1_goes_0) hdg e3 rfl hcat hcm hsm (t_X1_goes (d := d + 0) q) (fun r9 h9 q9 => ?_)
    obtain ⟨rfl, rfl⟩ := q9
    exact kk
  rw [if_neg c0] at q
  cases q
def F_X0_rests_0 (n : Nat)  (x0 : Nat) (x1 : Nat) (x2 : Int32) (h : gH) : Option (Int32 × gH) :=
  (gO h x1 7).bind fun f1 =>
  (F_X7_began n x1 (41 : Int32) h).bind fun h3 =>
  (gOw h3 x0).bind fun f5 =>
  gB (F_X10_rests n x0 x1 (x2 - (1 : Int32)) h3) fun v9 h7 =>
  gB (DW_X0_goes n x0 x1 (2 : Int32) h7) fun v12 h10 =>
  some ((v9 + v12), h10)
set_option maxRecDepth 20000 in
set_option maxHeartbeats 1600000 in
theorem g_X0_rests_0 {n d : Nat} : ∀ {x0 : Nat} {x1 : Nat} {x2 : Int32} {h : gH} {rh : gH} {rv : Int32}, F_X0_rests_0 n x0 x1 x2 h = some (rv, rh) → G M_X0_rests (d + 8) 0 0 0 0 0 [some (.ref x0), some (.ref x1), some (.int x2)] [] h (qI rv rh) := by
  intro x0 x1 x2 h rh rv hf
  unfold F_X0_rests_0 at hf
  refine g_aload_n dX0_rests_0 rfl ?_
  refine g_bipush (v := (41 : Int32)) dX0_rests_1 (by decide) ?_
  replace hf := Option.bind_eq_some_iff.mp hf
  obtain ⟨f1, q2, hf⟩ := hf
  replace hf := Option.bind_eq_some_iff.mp hf
  obtain ⟨h3, q4, hf⟩ := hf
  refine g_callV (as := [.int (41 : Int32)]) (mc1 := 0) (ms1 := 0) s_X0_13_X7_began_7 dX0_rests_3 (gO_of q2) rfl (Nat.le_of_ble_eq_true rfl) (Nat.le_of_ble_eq_true rfl) (Nat.le_of_ble_eq_true rfl) (t_X7_began (d := d + 7) q4) (fun r9 h9 q9 => ?_)
  obtain ⟨rfl, rfl⟩ := q9
  refine g_stp (st2 := []) (pc2 := 6) (kc2 := 0) (kn2 := 0) rfl rfl rfl rfl ?_
  refine g_aload_n dX0_rests_6 rfl ?_
  refine g_aload_n dX0_rests_7 rfl ?_
  refine g_iload_n dX0_rests_8 rfl ?_
  refine g_iconst (v := (1 : Int32)) dX0_rests_9 (by decide) ?_
  refine g_isub dX0_rests_10 ?_
  replace hf := Option.bind_eq_some_iff.mp hf
  obtain ⟨f5, q6, hf⟩ := hf
  replace hf := gB_of hf
  obtain ⟨v9, h7, q8, hf⟩ := hf
  refine g_callPU (as := [.ref x1, .int (x2 - (1 : Int32))]) (mc1 := 0) (ms1 := 0) s_X0_19_up dX0_rests_11 (gOw_of q6).2 (gWays_lt (gOw_of q6).1) rfl (Nat.le_of_ble_eq_true rfl) (Nat.le_of_ble_eq_true rfl) (Nat.le_of_ble_eq_true rfl) (t_X10_rests (d := d + 0) q8) (fun r9 h9 q9 => ?_)
  obtain ⟨rfl, rfl⟩ := q9
  refine g_stp (st2 := [.int v9]) (pc2 := 14) (kc2 := 0) (kn2 := 0) rfl rfl rfl rfl ?_
  refine g_aload_n dX0_rests_14 rfl ?_
  refine g_aload_n dX0_rests_15 rfl ?_
  refine g_iconst (v := (2 : Int32)) dX0_rests_16 (by decide) ?_
  replace hf := gB_of hf
  obtain ⟨v12, h10, q11, hf⟩ := hf
  refine g_DW_X0_goes_X0_23 (d := d + 5) dX0_rests_17 q11 (Nat.le_of_ble_eq_true rfl) (Nat.le_of_ble_eq_true rfl) (Nat.le_of_ble_eq_true rfl) ?_
  refine g_stp (st2 := [.int v12, .int v9]) (pc2 := 20) (kc2 := 0) (kn2 := 0) rfl rfl rfl rfl ?_
  refine g_iadd dX0_rests_20 ?_
  obtain ⟨rfl, rfl⟩ := Prod.mk.inj (Option.some.inj hf)
  exact g_iret dX0_rests_21 rfl ⟨rfl, rfl⟩ (Nat.le_of_ble_eq_true rfl) (Nat.le_of_ble_eq_true rfl)
def F_X0_rests (n : Nat) (a : Nat) (p0 : Nat) (p1 : Int32) (h : gH) : Option (Int32 × gH) := F_X0_rests_0 n  a p0 p1 h
theorem t_X0_rests {n d : Nat} {a : Nat} {p0 : Nat} {p1 : Int32} {h rh : gH} {rv : Int32} (hf : F_X0_rests n a p0 p1 h = some (rv, rh)) : T M_X0_rests (d + 8) 0 0 [.ref a, .ref p0, .int p1] h (qI rv rh) := by
  refine T_of_G (L := 0) (by decide +kernel) rfl (Nat.le_of_ble_eq_true rfl) (g_lv (lv2 := [some (.ref a), some (.ref p0), some (.int p1)]) rfl ?_)
  exact g_X0_rests_0 hf
def F_X4_spot_20 (n : Nat)   (h : gH) : Option (Int32 × gH) :=
  some ((0 : Int32), h)
set_option maxRecDepth 20000 in
set_option maxHeartbeats 1600000 in
theorem g_X4_spot_20 {n d : Nat} : ∀  {h : gH} {rh : gH} {rv : Int32}, F_X4_spot_20 n  h = some (rv, rh) → G M_X4_spot d 0 0 0 0 20 [none, none] [] h (qI rv rh) := by
  intro  h rh rv hf
  unfold F_X4_spot_20 at hf
  refine g_iconst (v := (0 : Int32)) dX4_spot_20 (by decide) ?_
  obtain ⟨rfl, rfl⟩ := Prod.mk.inj (Option.some.inj hf)
  exact g_iret dX4_spot_21 rfl ⟨rfl, rfl⟩ (Nat.le_of_ble_eq_true rfl) (Nat.le_of_ble_eq_true rfl)
def F_X4_spot_0 (n : Nat)  (x0 : Int32) (x1 : Int32) (h : gH) : Option (Int32 × gH) :=
  if x0 < 0 then
  (F_X4_spot_20 n h)
  else
  (if (8 : Int32) < x0 then
  (F_X4_spot_20 n h)
  else
  (if x1 < 0 then
  (F_X4_spot_20 n h)
  else
  (if x1 < (61 : Int32) then
  (some (((x0 * (61 : Int32)) + x1), h))
  else
  (F_X4_spot_20 n h))))
set_option maxRecDepth 20000 in
set_option maxHeartbeats 1600000 in
theorem g_X4_spot_0 {n d : Nat} : ∀ {x0 : Int32} {x1 : Int32} {h : gH} {rh : gH} {rv : Int32}, F_X4_spot_0 n x0 x1 h = some (rv, rh) → G M_X4_spot d 0 0 0 0 0 [some (.int x0), some (.int x1)] [] h (qI rv rh) := by
  intro x0 x1 h rh rv hf
  unfold F_X4_spot_0 at hf
  refine g_iload_n dX4_spot_0 rfl ?_
  refine g_if_lt (tgt := 20) dX4_spot_1 (by decide) (fun c1 => ?_) (fun c1 => ?_)
  · rw [if_pos c1] at hf
    refine g_weak (lv2 := [none, none]) (trivial) ?_
    exact g_X4_spot_20 hf
  · rw [if_neg c1] at hf
    refine g_iload_n dX4_spot_4 rfl ?_
    refine g_bipush (v := (8 : Int32)) dX4_spot_5 (by decide) ?_
    refine g_icmp_gt (tgt := 20) dX4_spot_7 (by decide) (fun c2 => ?_) (fun c2 => ?_)
    · rw [if_pos c2] at hf
      refine g_weak (lv2 := [none, none]) (trivial) ?_
      exact g_X4_spot_20 hf
    · rw [if_neg c2] at hf
      refine g_iload_n dX4_spot_10 rfl ?_
      refine g_if_lt (tgt := 20) dX4_spot_11 (by decide) (fun c3 => ?_) (fun c3 => ?_)
      · rw [if_pos c3] at hf
        refine g_weak (lv2 := [none, none]) (trivial) ?_
        exact g_X4_spot_20 hf
      · rw [if_neg c3] at hf
        refine g_iload_n dX4_spot_14 rfl ?_
        refine g_bipush (v := (61 : Int32)) dX4_spot_15 (by decide) ?_
        refine g_icmp_lt (tgt := 22) dX4_spot_17 (by decide) (fun c4 => ?_) (fun c4 => ?_)
        · rw [if_pos c4] at hf
          refine g_iload_n dX4_spot_22 rfl ?_
          refine g_bipush (v := (61 : Int32)) dX4_spot_23 (by decide) ?_
          refine g_imul dX4_spot_25 ?_
          refine g_iload_n dX4_spot_26 rfl ?_
          refine g_iadd dX4_spot_27 ?_
          obtain ⟨rfl, rfl⟩ := Prod.mk.inj (Option.some.inj hf)
          exact g_iret dX4_spot_28 rfl ⟨rfl, rfl⟩ (Nat.le_of_ble_eq_true rfl) (Nat.le_of_ble_eq_true rfl)
        · rw [if_neg c4] at hf
          refine g_weak (lv2 := [none, none]) (trivial) ?_
          exact g_X4_spot_20 hf
def F_X4_spot (n : Nat) (p0 : Int32) (p1 : Int32) (h : gH) : Option (Int32 × gH) := F_X4_spot_0 n  p0 p1 h
theorem t_X4_spot {n d : Nat} {p0 : Int32} {p1 : Int32} {h rh : gH} {rv : Int32} (hf : F_X4_spot n p0 p1 h = some (rv, rh)) : T M_X4_spot d 0 0 [.int p0, .int p1] h (qI rv rh) := by
  refine T_of_G (L := 0) (by decide +kernel) rfl (Nat.le_of_ble_eq_true rfl) (g_lv (lv2 := [some (.int p0), some (.int p1)]) rfl ?_)
  exact g_X4_spot_0 hf
def F_X4_effortAt_0 (n : Nat)  (x0 : Nat) (x1 : Int32) (x2 : Int32) (h : gH) : Option (Int32 × gH) :=
  (gR h x0 4 4).bind fun v1 =>
  gB (F_X4_spot n x1 x2 h) fun v5 h3 =>
  (aI h3 v1 v5).bind fun v6 =>
  some (v6, h3)
set_option maxRecDepth 20000 in
set_option maxHeartbeats 1600000 in
theorem g_X4_effortAt_0 {n d : Nat} : ∀ {x0 : Nat} {x1 : Int32} {x2 : Int32} {h : gH} {rh : gH} {rv : Int32}, F_X4_effortAt_0 n x0 x1 x2 h = some (rv, rh) → G M_X4_effortAt (d + 1) 0 0 0 0 0 [some (.ref x0), some (.int x1), some (.int x2)] [] h (qI rv rh) := by
  intro x0 x1 x2 h rh rv hf
  unfold F_X4_effortAt_0 at hf
  refine g_aload_n dX4_effortAt_0 rfl ?_
  replace hf := Option.bind_eq_some_iff.mp hf
  obtain ⟨v1, q2, hf⟩ := hf
  refine g_gR f_X4_24 dX4_effortAt_1 q2 ?_
  refine g_iload_n dX4_effortAt_4 rfl ?_
  refine g_iload_n dX4_effortAt_5 rfl ?_
  replace hf := gB_of hf
  obtain ⟨v5, h3, q4, hf⟩ := hf
  refine g_callS (as := [.int x1, .int x2]) (mc1 := 0) (ms1 := 0) s_X4_64_X4_spot dX4_effortAt_6 rfl (Nat.le_of_ble_eq_true rfl) (Nat.le_of_ble_eq_true rfl) (Nat.le_of_ble_eq_true rfl) (t_X4_spot (d := d + 0) q4) (fun r9 h9 q9 => ?_)
  obtain ⟨rfl, rfl⟩ := q9
  refine g_stp (st2 := [.int v5, .ref v1]) (pc2 := 9) (kc2 := 0) (kn2 := 0) rfl rfl rfl rfl ?_
  replace hf := Option.bind_eq_some_iff.mp hf
  obtain ⟨v6, q7, hf⟩ := hf
  refine g_aI dX4_effortAt_9 q7 ?_
  obtain ⟨rfl, rfl⟩ := Prod.mk.inj (Option.some.inj hf)
  exact g_iret dX4_effortAt_10 rfl ⟨rfl, rfl⟩ (Nat.le_of_ble_eq_true rfl) (Nat.le_of_ble_eq_true rfl)
def F_X4_effortAt (n : Nat) (a : Nat) (p0 : Int32) (p1 : Int32) (h : gH) : Option (Int32 × gH) := F_X4_effortAt_0 n  a p0 p1 h
theorem t_X4_effortAt {n d : Nat} {a : Nat} {p0 : Int32} {p1 : Int32} {h rh : gH} {rv : Int32} (hf : F_X4_effortAt n a p0 p1 h = some (rv, rh)) : T M_X4_effortAt (d + 1) 0 0 [.ref a, .int p0, .int p1] h (qI rv rh) := by
  refine T_of_G (L := 0) (by decide +kernel) rfl (Nat.le_of_ble_eq_true rfl) (g_lv (lv2 := [some (.ref a), some (.int p0), some (.int p1)]) rfl ?_)
  exact g_X4_effortAt_0 hf
def F_X0_wants_0 (n : Nat)  (x2 : Nat) (x3 : Int32) (x4 : Int32) (h : gH) : Option (Int32 × gH) :=
  (gO h x2 4).bind fun f1 =>
  gB (F_X4_effortAt n x2 x3 x4 h) fun v5 h3 =>
  some (v5, h3)
set_option maxRecDepth 20000 in
set_option maxHeartbeats 1600000 in
theorem g_X0_wants_0 {n d : Nat} : ∀ {x2 : Nat} {x3 : Int32} {x4 : Int32} {h : gH} {rh : gH} {rv : Int32}, F_X0_wants_0 n x2 x3 x4 h = some (rv, rh) → G M_X0_wants (d + 2) 0 0 0 0 0 [none, none, some (.ref x2), some (.int x3), some (.int x4)] [] h (qI rv rh) := by
  intro x2 x3 x4 h rh rv hf
  unfold F_X0_wants_0 at hf
  refine g_aload_n dX0_wants_0 rfl ?_
  refine g_iload_n dX0_wants_1 rfl ?_
  refine g_iload dX0_wants_2 rfl ?_
  replace hf := Option.bind_eq_some_iff.mp hf
  obtain ⟨f1, q2, hf⟩ := hf
  replace hf := gB_of hf
  obtain ⟨v5, h3, q4, hf⟩ := hf
  refine g_callV (as := [.int x3, .int x4]) (mc1 := 0) (ms1 := 0) s_X0_7_X4_effortAt_4 dX0_wants_4 (gO_of q2) rfl (Nat.le_of_ble_eq_true rfl) (Nat.le_of_ble_eq_true rfl) (Nat.le_of_ble_eq_true rfl) (t_X4_effortAt (d := d + 0) q4) (fun r9 h9 q9 => ?_)
  obtain ⟨rfl, rfl⟩ := q9
  refine g_stp (st2 := [.int v5]) (pc2 := 7) (kc2 := 0) (kn2 := 0) rfl rfl rfl rfl ?_
  obtain ⟨rfl, rfl⟩ := Prod.mk.inj (Option.some.inj hf)
  exact g_iret dX0_wants_7 rfl ⟨rfl, rfl⟩ (Nat.le_of_ble_eq_true rfl) (Nat.le_of_ble_eq_true rfl)
def F_X0_wants (n : Nat) (a : Nat) (p0 : Nat) (p1 : Nat) (p2 : Int32) (p3 : Int32) (h : gH) : Option (Int32 × gH) := F_X0_wants_0 n  p1 p2 p3 h
theorem t_X0_wants {n d : Nat} {a : Nat} {p0 : Nat} {p1 : Nat} {p2 : Int32} {p3 : Int32} {h rh : gH} {rv : Int32} (hf : F_X0_wants n a p0 p1 p2 p3 h = some (rv, rh)) : T M_X0_wants (d + 2) 0 0 [.ref a, .ref p0, .ref p1, .int p2, .int p3] h (qI rv rh) := by
  refine T_of_G (L := 0) (by decide +kernel) rfl (Nat.le_of_ble_eq_true rfl) (g_lv (lv2 := [some (.ref a), some (.ref p0), some (.ref p1), some (.int p2), some (.int p3)]) rfl ?_)
  refine g_weak (lv2 := [none, none, some (.ref p1), some (.int p2), some (.int p3)]) (And.intro rfl (And.intro rfl (And.intro rfl (trivial)))) ?_
  exact g_X0_wants_0 hf
def F_X10_wants_0 (n : Nat)  (x1 : Nat) (h : gH) : Option (Int32 × gH) :=
  (gR h x1 7 1).bind fun v1 =>
  (gI h v1 6 11).bind fun v3 =>
  some (v3, h)
set_option maxRecDepth 20000 in
set_option maxHeartbeats 1600000 in
theorem g_X10_wants_0 {n d : Nat} : ∀ {x1 : Nat} {h : gH} {rh : gH} {rv : Int32}, F_X10_wants_0 n x1 h = some (rv, rh) → G M_X10_wants d 0 0 0 0 0 [none, some (.ref x1), none, none, none] [] h (qI rv rh) := by
  intro x1 h rh rv hf
  unfold F_X10_wants_0 at hf
  refine g_aload_n dX10_wants_0 rfl ?_
  replace hf := Option.bind_eq_some_iff.mp hf
  obtain ⟨v1, q2, hf⟩ := hf
  refine g_gR f_X10_16 dX10_wants_1 q2 ?_
  replace hf := Option.bind_eq_some_iff.mp hf
  obtain ⟨v3, q4, hf⟩ := hf
  refine g_gI f_X10_22 dX10_wants_4 q4 ?_
  obtain ⟨rfl, rfl⟩ := Prod.mk.inj (Option.some.inj hf)
  exact g_iret dX10_wants_7 rfl ⟨rfl, rfl⟩ (Nat.le_of_ble_eq_true rfl) (Nat.le_of_ble_eq_true rfl)
def F_X10_wants (n : Nat) (a : Nat) (p0 : Nat) (p1 : Nat) (p2 : Int32) (p3 : Int32) (h : gH) : Option (Int32 × gH) := F_X10_wants_0 n  p0 h
theorem t_X10_wants {n d : Nat} {a : Nat} {p0 : Nat} {p1 : Nat} {p2 : Int32} {p3 : Int32} {h rh : gH} {rv : Int32} (hf : F_X10_wants n a p0 p1 p2 p3 h = some (rv, rh)) : T M_X10_wants d 0 0 [.ref a, .ref p0, .ref p1, .int p2, .int p3] h (qI rv rh) := by
  refine T_of_G (L := 0) (by decide +kernel) rfl (Nat.le_of_ble_eq_true rfl) (g_lv (lv2 := [some (.ref a), some (.ref p0), some (.ref p1), some (.int p2), some (.int p3)]) rfl ?_)
  refine g_weak (lv2 := [none, some (.ref p0), none, none, none]) (And.intro rfl (trivial)) ?_
  exact g_X10_wants_0 hf
def F_X3_rests_0 (n : Nat)  (x0 : Nat) (x1 : Nat) (x2 : Int32) (h : gH) : Option (Int32 × gH) :=
  (gO h x1 7).bind fun f1 =>
  (F_X7_began n x1 (31 : Int32) h).bind fun h3 =>
  (gOw h3 x0).bind fun f5 =>
  gB (F_X10_rests n x0 x1 x2 h3) fun v9 h7 =>
  some ((v9 ^^^ (7 : Int32)), h7)
set_option maxRecDepth 20000 in
set_option maxHeartbeats 1600000 in
theorem g_X3_rests_0 {n d : Nat} : ∀ {x0 : Nat} {x1 : Nat} {x2 : Int32} {h : gH} {rh : gH} {rv : Int32}, F_X3_rests_0 n x0 x1 x2 h = some (rv, rh) → G M_X3_rests (d + 8) 0 0 0 0 0 [some (.ref x0), some (.ref x1), some (.int x2)] [] h (qI rv rh) := by
  intro x0 x1 x2 h rh rv hf
  unfold F_X3_rests_0 at hf
  refine g_aload_n dX3_rests_0 rfl ?_
  refine g_bipush (v := (31 : Int32)) dX3_rests_1 (by decide) ?_
  replace hf := Option.bind_eq_some_iff.mp hf
  obtain ⟨f1, q2, hf⟩ := hf
  replace hf := Option.bind_eq_some_iff.mp hf
  obtain ⟨h3, q4, hf⟩ := hf
  refine g_callV (as := [.int (31 : Int32)]) (mc1 := 0) (ms1 := 0) s_X3_17_X7_began_7 dX3_rests_3 (gO_of q2) rfl (Nat.le_of_ble_eq_true rfl) (Nat.le_of_ble_eq_true rfl) (Nat.le_of_ble_eq_true rfl) (t_X7_began (d := d + 7) q4) (fun r9 h9 q9 => ?_)
  obtain ⟨rfl, rfl⟩ := q9
  refine g_stp (st2 := []) (pc2 := 6) (kc2 := 0) (kn2 := 0) rfl rfl rfl rfl ?_
  refine g_aload_n dX3_rests_6 rfl ?_
  refine g_aload_n dX3_rests_7 rfl ?_
  refine g_iload_n dX3_rests_8 rfl ?_
  replace hf := Option.bind_eq_some_iff.mp hf
  obtain ⟨f5, q6, hf⟩ := hf
  replace hf := gB_of hf
  obtain ⟨v9, h7, q8, hf⟩ := hf
  refine g_callP (as := [.ref x1, .int x2]) (mc1 := 0) (ms1 := 0) s_X3_23_X10_rests dX3_rests_9 (gOw_of q6).2 (gWays_lt (gOw_of q6).1) rfl (Nat.le_of_ble_eq_true rfl) (Nat.le_of_ble_eq_true rfl) (Nat.le_of_ble_eq_true rfl) (t_X10_rests (d := d + 0) q8) (fun r9 h9 q9 => ?_)
  obtain ⟨rfl, rfl⟩ := q9
  refine g_stp (st2 := [.int v9]) (pc2 := 12) (kc2 := 0) (kn2 := 0) rfl rfl rfl rfl ?_
  refine g_bipush (v := (7 : Int32)) dX3_rests_12 (by decide) ?_
  refine g_ixor dX3_rests_14 ?_
  obtain ⟨rfl, rfl⟩ := Prod.mk.inj (Option.some.inj hf)
  exact g_iret dX3_rests_15 rfl ⟨rfl, rfl⟩ (Nat.le_of_ble_eq_true rfl) (Nat.le_of_ble_eq_true rfl)
def F_X3_rests (n : Nat) (a : Nat) (p0 : Nat) (p1 : Int32) (h : gH) : Option (Int32 × gH) := F_X3_rests_0 n  a p0 p1 h
theorem t_X3_rests {n d : Nat} {a : Nat} {p0 : Nat} {p1 : Int32} {h rh : gH} {rv : Int32} (hf : F_X3_rests n a p0 p1 h = some (rv, rh)) : T M_X3_rests (d + 8) 0 0 [.ref a, .ref p0, .int p1] h (qI rv rh) := by
  refine T_of_G (L := 0) (by decide +kernel) rfl (Nat.le_of_ble_eq_true rfl) (g_lv (lv2 := [some (.ref a), some (.ref p0), some (.int p1)]) rfl ?_)
  exact g_X3_rests_0 hf
def F_X7_find_28 (n : Nat)  (y0 : Option Nat) (h : gH) : Option (Option Nat × gH) :=
  some (y0, h)
set_option maxRecDepth 20000 in
set_option maxHeartbeats 1600000 in
theorem g_X7_find_28 {n d : Nat} : ∀ {y0 : Option Nat} {h : gH} {rh : gH} {rv : Option Nat}, F_X7_find_28 n y0 h = some (rv, rh) → G M_X7_find d 0 0 0 0 28 [none, none] [va_rf y0] h (qO rv rh) := by
  intro y0 h rh rv hf
  unfold F_X7_find_28 at hf
  obtain ⟨e1, e2⟩ := Prod.mk.inj (Option.some.inj hf)
  exact g_aret (r := y0) dX7_find_28 rfl ⟨by subst e1; rfl, e2.symm⟩ (Nat.le_of_ble_eq_true rfl) (Nat.le_of_ble_eq_true rfl)
def F_X7_find_27 (n : Nat)   (h : gH) : Option (Option Nat × gH) :=
  F_X7_find_28 n none h
set_option maxRecDepth 20000 in
set_option maxHeartbeats 1600000 in
theorem g_X7_find_27 {n d : Nat} : ∀  {h : gH} {rh : gH} {rv : Option Nat}, F_X7_find_27 n  h = some (rv, rh) → G M_X7_find d 0 0 0 0 27 [none, none] [] h (qO rv rh) := by
  intro  h rh rv hf
  unfold F_X7_find_27 at hf
  refine g_null dX7_find_27 ?_
  exact g_X7_find_28 hf
def F_X7_find_0 (n : Nat)  (x0 : Nat) (x1 : Int32) (h : gH) : Option (Option Nat × gH) :=
  if x1 < 0 then
  (F_X7_find_27 n h)
  else
  ((gI h x0 7 8).bind fun v2 =>
  if v2 ≤ x1 then
  (F_X7_find_27 n h)
  else
  (if (8 : Int32) ≤ x1 then
  (F_X7_find_27 n h)
  else
  ((gR h x0 7 2).bind fun v6 =>
  (aQ h v6 x1).bind fun v8 =>
  F_X7_find_28 n v8 h)))
set_option maxRecDepth 20000 in
set_option maxHeartbeats 1600000 in
theorem g_X7_find_0 {n d : Nat} : ∀ {x0 : Nat} {x1 : Int32} {h : gH} {rh : gH} {rv : Option Nat}, F_X7_find_0 n x0 x1 h = some (rv, rh) → G M_X7_find d 0 0 0 0 0 [some (.ref x0), some (.int x1)] [] h (qO rv rh) := by
  intro x0 x1 h rh rv hf
  unfold F_X7_find_0 at hf
  refine g_iload_n dX7_find_0 rfl ?_
  refine g_if_lt (tgt := 27) dX7_find_1 (by decide) (fun c1 => ?_) (fun c1 => ?_)
  · rw [if_pos c1] at hf
    refine g_weak (lv2 := [none, none]) (trivial) ?_
    exact g_X7_find_27 hf
  · rw [if_neg c1] at hf
    refine g_iload_n dX7_find_4 rfl ?_
    refine g_aload_n dX7_find_5 rfl ?_
    replace hf := Option.bind_eq_some_iff.mp hf
    obtain ⟨v2, q3, hf⟩ := hf
    refine g_gI f_X7_52 dX7_find_6 q3 ?_
    refine g_icmp_ge (tgt := 27) dX7_find_9 (by decide) (fun c4 => ?_) (fun c4 => ?_)
    · rw [if_pos c4] at hf
      refine g_weak (lv2 := [none, none]) (trivial) ?_
      exact g_X7_find_27 hf
    · rw [if_neg c4] at hf
      refine g_iload_n dX7_find_12 rfl ?_
      refine g_bipush (v := (8 : Int32)) dX7_find_13 (by decide) ?_
      refine g_icmp_ge (tgt := 27) dX7_find_15 (by decide) (fun c5 => ?_) (fun c5 => ?_)
      · rw [if_pos c5] at hf
        refine g_weak (lv2 := [none, none]) (trivial) ?_
        exact g_X7_find_27 hf
      · rw [if_neg c5] at hf
        refine g_aload_n dX7_find_18 rfl ?_
        replace hf := Option.bind_eq_some_iff.mp hf
        obtain ⟨v6, q7, hf⟩ := hf
        refine g_gR f_X7_24 dX7_find_19 q7 ?_
        refine g_iload_n dX7_find_22 rfl ?_
        replace hf := Option.bind_eq_some_iff.mp hf
        obtain ⟨v8, q9, hf⟩ := hf
        refine g_aQ dX7_find_23 q9 ?_
        refine g_goto (tgt := 28) dX7_find_24 (by decide) ?_
        refine g_weak (lv2 := [none, none]) (trivial) ?_
        exact g_X7_find_28 hf
def F_X7_find (n : Nat) (a : Nat) (p0 : Int32) (h : gH) : Option (Option Nat × gH) := F_X7_find_0 n  a p0 h
theorem t_X7_find {n d : Nat} {a : Nat} {p0 : Int32} {h rh : gH} {rv : Option Nat} (hf : F_X7_find n a p0 h = some (rv, rh)) : T M_X7_find d 0 0 [.ref a, .int p0] h (qO rv rh) := by
  refine T_of_G (L := 0) (by decide +kernel) rfl (Nat.le_of_ble_eq_true rfl) (g_lv (lv2 := [some (.ref a), some (.int p0)]) rfl ?_)
  exact g_X7_find_0 hf
theorem g_DW_X10_goes_X11_234 {M : gM} {n d mc ms kc kn pc : Nat} {lv : List (Option Value)} {st : List Value} {h h2 : gH} {Q : Option Value → gH → Prop} {a : Nat} {p0 : Nat} {p1 : Int32} {v : Int32} (hdg : decode M.2.2.1 pc = .ok (.invokevirtual 234, 3)) (q : DW_X10_goes n a p0 p1 h = some (v, h2)) (hcat : (st.map fun v => v.category).sum ≤ 8) (hcm : kc ≤ mc) (hsm : kn ≤ ms) (kk : G M (d + 4) mc ms kc kn (pc + 3) lv (.int v :: st) h2 Q) (hM : M.1 = RX11 := by rfl) : G M (d + 4) mc ms kc kn pc lv (.int p1 :: .ref p0 :: .ref a :: st) h Q := by
  unfold DW_X10_goes at q
  obtain ⟨p, e1, q⟩ := Option.bind_eq_some_iff.mp q
  have e3 := (gOw_of e1).2
  by_cases c0 : p.1 = 0
  · rw [if_pos c0] at q
    rw [c0] at e3
    refine g_callU (M2 := M_X1_goes) (as := [.ref p0, .int p1]) (mc1 := 0) (ms1 := 0) (by rw [hM]; exact s_X11_234_X1_goes_0) hdg e3 rfl hcat hcm hsm (t_X1_goes (d := d + 1) q) (fun r9 h9 q9 => ?_)
    obtain ⟨rfl, rfl⟩ := q9
    exact kk
  rw [if_neg c0] at q
  by_cases c1 : p.1 = 1
  · rw [if_pos c1] at q
    rw [c1] at e3
    refine g_callU (M2 := M_X1_goes) (as := [.ref p0, .int p1]) (mc1 := 0) (ms1 := 0) (by rw [hM]; exact s_X11_234_X1_goes_1) hdg e3 rfl hcat hcm hsm (t_X1_goes (d := d + 1) q) (fun r9 h9 q9 => ?_)
    obtain ⟨rfl, rfl⟩ := q9
    exact kk
  rw [if_neg c1] at q
  by_cases c2 : p.1 = 2
  · rw [if_pos c2] at q
    rw [c2] at e3
    refine g_callU (M2 := M_X2_goes) (as := [.ref p0, .int p1]) (mc1 := 0) (ms1 := 0) (by rw [hM]; exact s_X11_234_X2_goes_2) hdg e3 rfl hcat hcm hsm (t_X2_goes (d := d + 0) q) (fun r9 h9 q9 => ?_)
    obtain ⟨rfl, rfl⟩ := q9
    exact kk
  rw [if_neg c2] at q
  by_cases c3 : p.1 = 3
  · rw [if_pos c3] at q
    rw [c3] at e3
    refine g_callU (M2 := M_X10_goes) (as := [.ref p0, .int p1]) (mc1 := 0) (ms1 := 0) (by rw [hM]; exact s_X11_234_X10_goes_3) hdg e3 rfl hcat hcm hsm (t_X10_goes (d := d + 2) q) (fun r9 h9 q9 => ?_)
    obtain ⟨rfl, rfl⟩ := q9
    exact kk
  rw [if_neg c3] at q
  by_cases c8 : p.1 = 8
  · rw [if_pos c8] at q
    rw [c8] at e3
    refine g_callU (M2 := M_X10_goes) (as := [.ref p0, .int p1]) (mc1 := 0) (ms1 := 0) (by rw [hM]; exact s_X11_234_X10_goes_8) hdg e3 rfl hcat hcm hsm (t_X10_goes (d := d + 2) q) (fun r9 h9 q9 => ?_)
    obtain ⟨rfl, rfl⟩ := q9
    exact kk
  rw [if_neg c8] at q
  by_cases c9 : p.1 = 9
  · rw [if_pos c9] at q
    rw [c9] at e3
    refine g_callU (M2 := M_X10_goes) (as := [.ref p0, .int p1]) (mc1 := 0) (ms1 := 0) (by rw [hM]; exact s_X11_234_X10_goes_9) hdg e3 rfl hcat hcm hsm (t_X10_goes (d := d + 2) q) (fun r9 h9 q9 => ?_)
    obtain ⟨rfl, rfl⟩ := q9
    exact kk
  rw [if_neg c9] at q
  by_cases c10 : p.1 = 10
  · rw [if_pos c10] at q
    rw [c10] at e3
    refine g_callV (M2 := M_X10_goes) (as := [.ref p0, .int p1]) (mc1 := 0) (ms1 := 0) (by rw [hM]; exact s_X11_234_X10_goes_10) hdg e3 rfl hcat hcm hsm (t_X10_goes (d := d + 2) q) (fun r9 h9 q9 => ?_)
    obtain ⟨rfl, rfl⟩ := q9
    exact kk
  rw [if_neg c10] at q
  cases q
theorem g_DW_X10_spends_X11_240 {M : gM} {n d mc ms kc kn pc : Nat} {lv : List (Option Value)} {st : List Value} {h h2 : gH} {Q : Option Value → gH → Prop} {a : Nat} {p0 : Nat} {p1 : Int32} {v : Int32} (hdg : decode M.2.2.1 pc = .ok (.invokevirtual 240, 3)) (q : DW_X10_spends n a p0 p1 h = some (v, h2)) (hcat : (st.map fun v => v.category).sum ≤ 8) (hcm : kc ≤ mc) (hsm : kn ≤ ms) (kk : G M (d + 7) mc ms kc kn (pc + 3) lv (.int v :: st) h2 Q) (hM : M.1 = RX11 := by rfl) : G M (d + 7) mc ms kc kn pc lv (.int p1 :: .ref p0 :: .ref a :: st) h Q := by
  unfold DW_X10_spends at q
  obtain ⟨p, e1, q⟩ := Option.bind_eq_some_iff.mp q
  have e3 := (gOw_of e1).2
  by_cases c0 : p.1 = 0
  · rw [if_pos c0] at q
    rw [c0] at e3
    refine g_callU (M2 := M_X10_spends) (as := [.ref p0, .int p1]) (mc1 := 0) (ms1 := 0) (by rw [hM]; exact s_X11_240_X10_spends_0) hdg e3 rfl hcat hcm hsm (t_X10_spends (d := d + 2) q) (fun r9 h9 q9 => ?_)
    obtain ⟨rfl, rfl⟩ := q9
    exact kk
  rw [if_neg c0] at q
  by_cases c1 : p.1 = 1
  · rw [if_pos c1] at q
    rw [c1] at e3
    refine g_callU (M2 := M_X10_spends) (as := [.ref p0, .int p1]) (mc1 := 0) (ms1 := 0) (by rw [hM]; exact s_X11_240_X10_spends_1) hdg e3 rfl hcat hcm hsm (t_X10_spends (d := d + 2) q) (fun r9 h9 q9 => ?_)
    obtain ⟨rfl, rfl⟩ := q9
    exact kk
  rw [if_neg c1] at q
  by_cases c2 : p.1 = 2
  · rw [if_pos c2] at q
    rw [c2] at e3
    refine g_callU (M2 := M_X10_spends) (as := [.ref p0, .int p1]) (mc1 := 0) (ms1 := 0) (by rw [hM]; exact s_X11_240_X10_spends_2) hdg e3 rfl hcat hcm hsm (t_X10_spends (d := d + 2) q) (fun r9 h9 q9 => ?_)
    obtain ⟨rfl, rfl⟩ := q9
    exact kk
  rw [if_neg c2] at q
  by_cases c3 : p.1 = 3
  · rw [if_pos c3] at q
    rw [c3] at e3
    refine g_callU (M2 := M_X10_spends) (as := [.ref p0, .int p1]) (mc1 := 0) (ms1 := 0) (by rw [hM]; exact s_X11_240_X10_spends_3) hdg e3 rfl hcat hcm hsm (t_X10_spends (d := d + 2) q) (fun r9 h9 q9 => ?_)
    obtain ⟨rfl, rfl⟩ := q9
    exact kk
  rw [if_neg c3] at q
  by_cases c8 : p.1 = 8
  · rw [if_pos c8] at q
    rw [c8] at e3
    refine g_callU (M2 := M_X8_spends) (as := [.ref p0, .int p1]) (mc1 := 0) (ms1 := 0) (by rw [hM]; exact s_X11_240_X8_spends_8) hdg e3 rfl hcat hcm hsm (t_X8_spends (d := d + 1) q) (fun r9 h9 q9 => ?_)
    obtain ⟨rfl, rfl⟩ := q9
    exact kk
  rw [if_neg c8] at q
  by_cases c9 : p.1 = 9
  · rw [if_pos c9] at q
    rw [c9] at e3
    refine g_callU (M2 := M_X9_spends) (as := [.ref p0, .int p1]) (mc1 := 0) (ms1 := 0) (by rw [hM]; exact s_X11_240_X9_spends_9) hdg e3 rfl hcat hcm hsm (t_X9_spends (d := d + 0) q) (fun r9 h9 q9 => ?_)
    obtain ⟨rfl, rfl⟩ := q9
    exact kk
  rw [if_neg c9] at q
  by_cases c10 : p.1 = 10
  · rw [if_pos c10] at q
    rw [c10] at e3
    refine g_callV (M2 := M_X10_spends) (as := [.ref p0, .int p1]) (mc1 := 0) (ms1 := 0) (by rw [hM]; exact s_X11_240_X10_spends_10) hdg e3 rfl hcat hcm hsm (t_X10_spends (d := d + 2) q) (fun r9 h9 q9 => ?_)
    obtain ⟨rfl, rfl⟩ := q9
    exact kk
  rw [if_neg c10] at q
  cases q
def DW_X10_rests (n : Nat) (a : Nat) (p0 : Nat) (p1 : Int32) (h : gH) : Option (Int32 × gH) := (gOw h a).bind fun q => if q.1 = 0 then F_X0_rests n a p0 p1 h else if q.1 = 1 then F_X10_rests n a p0 p1 h else if q.1 = 2 then F_X10_rests n a p0 p1 h else if q.1 = 3 then F_X3_rests n a p0 p1 h else if q.1 = 8 then F_X10_rests n a p0 p1 h else if q.1 = 9 then F_X10_rests n a p0 p1 h else if q.1 = 10 then F_X10_rests n a p0 p1 h else none
theorem g_DW_X10_rests_X11_243 {M : gM} {n d mc ms kc kn pc : Nat} {lv : List (Option Value)} {st : List Value} {h h2 : gH} {Q : Option Value → gH → Prop} {a : Nat} {p0 : Nat} {p1 : Int32} {v : Int32} (hdg : decode M.2.2.1 pc = .ok (.invokevirtual 243, 3)) (q : DW_X10_rests n a p0 p1 h = some (v, h2)) (hcat : (st.map fun v => v.category).sum ≤ 8) (hcm : kc ≤ mc) (hsm : kn ≤ ms) (kk : G M (d + 9) mc ms kc kn (pc + 3) lv (.int v :: st) h2 Q) (hM : M.1 = RX11 := by rfl) : G M (d + 9) mc ms kc kn pc lv (.int p1 :: .ref p0 :: .ref a :: st) h Q := by
  unfold DW_X10_rests at q
  obtain ⟨p, e1, q⟩ := Option.bind_eq_some_iff.mp q
  have e3 := (gOw_of e1).2
  by_cases c0 : p.1 = 0
  · rw [if_pos c0] at q
    rw [c0] at e3
    refine g_callU (M2 := M_X0_rests) (as := [.ref p0, .int p1]) (mc1 := 0) (ms1 := 0) (by rw [hM]; exact s_X11_243_X0_rests_0) hdg e3 rfl hcat hcm hsm (t_X0_rests (d := d + 0) q) (fun r9 h9 q9 => ?_)
    obtain ⟨rfl, rfl⟩ := q9
    exact kk
  rw [if_neg c0] at q
  by_cases c1 : p.1 = 1
  · rw [if_pos c1] at q
    rw [c1] at e3
    refine g_callU (M2 := M_X10_rests) (as := [.ref p0, .int p1]) (mc1 := 0) (ms1 := 0) (by rw [hM]; exact s_X11_243_X10_rests_1) hdg e3 rfl hcat hcm hsm (t_X10_rests (d := d + 1) q) (fun r9 h9 q9 => ?_)
    obtain ⟨rfl, rfl⟩ := q9
    exact kk
  rw [if_neg c1] at q
  by_cases c2 : p.1 = 2
  · rw [if_pos c2] at q
    rw [c2] at e3
    refine g_callU (M2 := M_X10_rests) (as := [.ref p0, .int p1]) (mc1 := 0) (ms1 := 0) (by rw [hM]; exact s_X11_243_X10_rests_2) hdg e3 rfl hcat hcm hsm (t_X10_rests (d := d + 1) q) (fun r9 h9 q9 => ?_)
    obtain ⟨rfl, rfl⟩ := q9
    exact kk
  rw [if_neg c2] at q
  by_cases c3 : p.1 = 3
  · rw [if_pos c3] at q
    rw [c3] at e3
    refine g_callU (M2 := M_X3_rests) (as := [.ref p0, .int p1]) (mc1 := 0) (ms1 := 0) (by rw [hM]; exact s_X11_243_X3_rests_3) hdg e3 rfl hcat hcm hsm (t_X3_rests (d := d + 0) q) (fun r9 h9 q9 => ?_)
    obtain ⟨rfl, rfl⟩ := q9
    exact kk
  rw [if_neg c3] at q
  by_cases c8 : p.1 = 8
  · rw [if_pos c8] at q
    rw [c8] at e3
    refine g_callU (M2 := M_X10_rests) (as := [.ref p0, .int p1]) (mc1 := 0) (ms1 := 0) (by rw [hM]; exact s_X11_243_X10_rests_8) hdg e3 rfl hcat hcm hsm (t_X10_rests (d := d + 1) q) (fun r9 h9 q9 => ?_)
    obtain ⟨rfl, rfl⟩ := q9
    exact kk
  rw [if_neg c8] at q
  by_cases c9 : p.1 = 9
  · rw [if_pos c9] at q
    rw [c9] at e3
    refine g_callU (M2 := M_X10_rests) (as := [.ref p0, .int p1]) (mc1 := 0) (ms1 := 0) (by rw [hM]; exact s_X11_243_X10_rests_9) hdg e3 rfl hcat hcm hsm (t_X10_rests (d := d + 1) q) (fun r9 h9 q9 => ?_)
    obtain ⟨rfl, rfl⟩ := q9
    exact kk
  rw [if_neg c9] at q
  by_cases c10 : p.1 = 10
  · rw [if_pos c10] at q
    rw [c10] at e3
    refine g_callV (M2 := M_X10_rests) (as := [.ref p0, .int p1]) (mc1 := 0) (ms1 := 0) (by rw [hM]; exact s_X11_243_X10_rests_10) hdg e3 rfl hcat hcm hsm (t_X10_rests (d := d + 1) q) (fun r9 h9 q9 => ?_)
    obtain ⟨rfl, rfl⟩ := q9
    exact kk
  rw [if_neg c10] at q
  cases q
def F_X11_act_0 (n : Nat)  (x0 : Nat) (x1 : Int32) (x2 : Int32) (x3 : Int32) (h : gH) : Option (Int32 × gH) :=
  (gR h x0 11 0).bind fun v1 =>
  (pF h v1 7 10 (.int (0 : Int32))).bind fun h3 =>
  (gR h3 x0 11 0).bind fun v5 =>
  (gO h3 v5 7).bind fun f7 =>
  gB (F_X7_find n v5 x1 h3) fun v11 h9 =>
  if v11 = none then
  (some ((0 : Int32), h9))
  else
  (if x2 = (0 : Int32) then
  ((gR h9 x0 11 0).bind fun v14 =>
  (v11).bind fun a16 =>
  gB (DW_X10_goes n a16 v14 x3 h9) fun v20 h18 =>
  some (v20, h18))
  else if x2 = (1 : Int32) then
  ((gR h9 x0 11 0).bind fun v22 =>
  (v11).bind fun a24 =>
  gB (DW_X10_spends n a24 v22 x3 h9) fun v28 h26 =>
  some (v28, h26))
  else if x2 = (2 : Int32) then
  ((gR h9 x0 11 0).bind fun v30 =>
  (v11).bind fun a32 =>
  gB (DW_X10_rests n a32 v30 x3 h9) fun v36 h34 =>
  some (v36, h34))
  else (some ((0 : Int32), h9)))
set_option maxRecDepth 20000 in
set_option maxHeartbeats 1600000 in
theorem g_X11_act_0 {n d : Nat} : ∀ {x0 : Nat} {x1 : Int32} {x2 : Int32} {x3 : Int32} {h : gH} {rh : gH} {rv : Int32}, F_X11_act_0 n x0 x1 x2 x3 h = some (rv, rh) → G M_X11_act (d + 9) 0 0 0 0 0 [some (.ref x0), some (.int x1), some (.int x2), some (.int x3), none] [] h (qI rv rh) := by
  intro x0 x1 x2 x3 h rh rv hf
  unfold F_X11_act_0 at hf
  refine g_aload_n dX11_act_0 rfl ?_
  replace hf := Option.bind_eq_some_iff.mp hf
  obtain ⟨v1, q2, hf⟩ := hf
  refine g_gR f_X11_12 dX11_act_1 q2 ?_
  refine g_iconst (v := (0 : Int32)) dX11_act_4 (by decide) ?_
  replace hf := Option.bind_eq_some_iff.mp hf
  obtain ⟨h3, q4, hf⟩ := hf
  refine g_pF p_X11_231 dX11_act_5 q4 (fun _ => rfl) (fun _ => rfl) ?_
  refine g_aload_n dX11_act_8 rfl ?_
  replace hf := Option.bind_eq_some_iff.mp hf
  obtain ⟨v5, q6, hf⟩ := hf
  refine g_gR f_X11_12 dX11_act_9 q6 ?_
  refine g_iload_n dX11_act_12 rfl ?_
  replace hf := Option.bind_eq_some_iff.mp hf
  obtain ⟨f7, q8, hf⟩ := hf
  replace hf := gB_of hf
  obtain ⟨v11, h9, q10, hf⟩ := hf
  refine g_callV (as := [.int x1]) (mc1 := 0) (ms1 := 0) s_X11_144_X7_find_7 dX11_act_13 (gO_of q8) rfl (Nat.le_of_ble_eq_true rfl) (Nat.le_of_ble_eq_true rfl) (Nat.le_of_ble_eq_true rfl) (t_X7_find (d := d + 8) q10) (fun r9 h9 q9 => ?_)
  obtain ⟨rfl, rfl⟩ := q9
  refine g_stp (st2 := [va_rf v11]) (pc2 := 16) (kc2 := 0) (kn2 := 0) rfl rfl rfl rfl ?_
  refine g_astoreq (r := v11) dX11_act_16 (by decide) (g_lvp (lv2 := [some (.ref x0), some (.int x1), some (.int x2), some (.int x3), some (va_rf v11)]) (pc2 := 18) rfl rfl ?_)
  refine g_aloadq (r := v11) dX11_act_18 rfl ?_
  refine g_ifnonnullq (tgt := 25) dX11_act_20 (by decide) (fun c12 => ?_) (fun c12 => ?_)
  · rw [if_neg c12] at hf
    refine g_iload_n dX11_act_25 rfl ?_
    by_cases c13 : x2 = (0 : Int32)
    · rw [if_pos c13] at hf
      refine g_tswK (k := (0 : Int32)) (off := 26) (tgt := 52) dX11_act_26 c13 (by decide) (by decide) (by decide) (by decide) ?_
      refine g_aloadq (r := v11) dX11_act_52 rfl ?_
      refine g_aload_n dX11_act_54 rfl ?_
      replace hf := Option.bind_eq_some_iff.mp hf
      obtain ⟨v14, q15, hf⟩ := hf
      refine g_gR f_X11_12 dX11_act_55 q15 ?_
      refine g_iload_n dX11_act_58 rfl ?_
      replace hf := Option.bind_eq_some_iff.mp hf
      obtain ⟨a16, q17, hf⟩ := hf
      subst q17
      replace hf := gB_of hf
      obtain ⟨v20, h18, q19, hf⟩ := hf
      refine g_DW_X10_goes_X11_234 (d := d + 5) dX11_act_59 q19 (Nat.le_of_ble_eq_true rfl) (Nat.le_of_ble_eq_true rfl) (Nat.le_of_ble_eq_true rfl) ?_
      refine g_stp (st2 := [.int v20]) (pc2 := 62) (kc2 := 0) (kn2 := 0) rfl rfl rfl rfl ?_
      obtain ⟨rfl, rfl⟩ := Prod.mk.inj (Option.some.inj hf)
      exact g_iret dX11_act_62 rfl ⟨rfl, rfl⟩ (Nat.le_of_ble_eq_true rfl) (Nat.le_of_ble_eq_true rfl)
    rw [if_neg c13] at hf
    by_cases c21 : x2 = (1 : Int32)
    · rw [if_pos c21] at hf
      refine g_tswK (k := (1 : Int32)) (off := 37) (tgt := 63) dX11_act_26 c21 (by decide) (by decide) (by decide) (by decide) ?_
      refine g_aloadq (r := v11) dX11_act_63 rfl ?_
      refine g_aload_n dX11_act_65 rfl ?_
      replace hf := Option.bind_eq_some_iff.mp hf
      obtain ⟨v22, q23, hf⟩ := hf
      refine g_gR f_X11_12 dX11_act_66 q23 ?_
      refine g_iload_n dX11_act_69 rfl ?_
      replace hf := Option.bind_eq_some_iff.mp hf
      obtain ⟨a24, q25, hf⟩ := hf
      subst q25
      replace hf := gB_of hf
      obtain ⟨v28, h26, q27, hf⟩ := hf
      refine g_DW_X10_spends_X11_240 (d := d + 2) dX11_act_70 q27 (Nat.le_of_ble_eq_true rfl) (Nat.le_of_ble_eq_true rfl) (Nat.le_of_ble_eq_true rfl) ?_
      refine g_stp (st2 := [.int v28]) (pc2 := 73) (kc2 := 0) (kn2 := 0) rfl rfl rfl rfl ?_
      obtain ⟨rfl, rfl⟩ := Prod.mk.inj (Option.some.inj hf)
      exact g_iret dX11_act_73 rfl ⟨rfl, rfl⟩ (Nat.le_of_ble_eq_true rfl) (Nat.le_of_ble_eq_true rfl)
    rw [if_neg c21] at hf
    by_cases c29 : x2 = (2 : Int32)
    · rw [if_pos c29] at hf
      refine g_tswK (k := (2 : Int32)) (off := 48) (tgt := 74) dX11_act_26 c29 (by decide) (by decide) (by decide) (by decide) ?_
      refine g_aloadq (r := v11) dX11_act_74 rfl ?_
      refine g_aload_n dX11_act_76 rfl ?_
      replace hf := Option.bind_eq_some_iff.mp hf
      obtain ⟨v30, q31, hf⟩ := hf
      refine g_gR f_X11_12 dX11_act_77 q31 ?_
      refine g_iload_n dX11_act_80 rfl ?_
      replace hf := Option.bind_eq_some_iff.mp hf
      obtain ⟨a32, q33, hf⟩ := hf
      subst q33
      replace hf := gB_of hf
      obtain ⟨v36, h34, q35, hf⟩ := hf
      refine g_DW_X10_rests_X11_243 (d := d + 0) dX11_act_81 q35 (Nat.le_of_ble_eq_true rfl) (Nat.le_of_ble_eq_true rfl) (Nat.le_of_ble_eq_true rfl) ?_
      refine g_stp (st2 := [.int v36]) (pc2 := 84) (kc2 := 0) (kn2 := 0) rfl rfl rfl rfl ?_
      obtain ⟨rfl, rfl⟩ := Prod.mk.inj (Option.some.inj hf)
      exact g_iret dX11_act_84 rfl ⟨rfl, rfl⟩ (Nat.le_of_ble_eq_true rfl) (Nat.le_of_ble_eq_true rfl)
    rw [if_neg c29] at hf
    have zc13 : (x2).toInt ≠ 0 := fun e => c13 (Int32.toInt_inj.mp (e.trans (by decide)))
    have zc21 : (x2).toInt ≠ 1 := fun e => c21 (Int32.toInt_inj.mp (e.trans (by decide)))
    have zc29 : (x2).toInt ≠ 2 := fun e => c29 (Int32.toInt_inj.mp (e.trans (by decide)))
    refine g_tableOut (tgt := 85) dX11_act_26 (by omega) (by decide) ?_
    refine g_iconst (v := (0 : Int32)) dX11_act_85 (by decide) ?_
    obtain ⟨rfl, rfl⟩ := Prod.mk.inj (Option.some.inj hf)
    exact g_iret dX11_act_86 rfl ⟨rfl, rfl⟩ (Nat.le_of_ble_eq_true rfl) (Nat.le_of_ble_eq_true rfl)
  · rw [if_pos c12] at hf
    refine g_iconst (v := (0 : Int32)) dX11_act_23 (by decide) ?_
    obtain ⟨rfl, rfl⟩ := Prod.mk.inj (Option.some.inj hf)
    exact g_iret dX11_act_24 rfl ⟨rfl, rfl⟩ (Nat.le_of_ble_eq_true rfl) (Nat.le_of_ble_eq_true rfl)
def F_X11_act (n : Nat) (a : Nat) (p0 : Int32) (p1 : Int32) (p2 : Int32) (h : gH) : Option (Int32 × gH) := F_X11_act_0 n  a p0 p1 p2 h
theorem t_X11_act {n d : Nat} {a : Nat} {p0 : Int32} {p1 : Int32} {p2 : Int32} {h rh : gH} {rv : Int32} (hf : F_X11_act n a p0 p1 p2 h = some (rv, rh)) : T M_X11_act (d + 9) 0 0 [.ref a, .int p0, .int p1, .int p2] h (qI rv rh) := by
  refine T_of_G (L := 1) (by decide +kernel) rfl (Nat.le_of_ble_eq_true rfl) (g_lv (lv2 := [some (.ref a), some (.int p0), some (.int p1), some (.int p2), none]) rfl ?_)
  exact g_X11_act_0 hf
def F_X11_isOfKind_0 (n : Nat)  (x0 : Nat) (x1 : Int32) (h : gH) : Option (Int32 × gH) :=
  if x1 = (0 : Int32) then
  (some ((1 : Int32), h))
  else if x1 = (1 : Int32) then
  ((gInst h x0 [0, 1, 2]).bind fun v3 =>
  if v3 = 0 ∨ v3 = 1 then some (v3, h) else none)
  else if x1 = (2 : Int32) then
  ((gInst h x0 [8, 9]).bind fun v7 =>
  if v7 = 0 ∨ v7 = 1 then some (v7, h) else none)
  else if x1 = (3 : Int32) then
  ((gInst h x0 [0]).bind fun v11 =>
  if v11 = 0 ∨ v11 = 1 then some (v11, h) else none)
  else if x1 = (4 : Int32) then
  ((gInst h x0 [2]).bind fun v15 =>
  if v15 = 0 ∨ v15 = 1 then some (v15, h) else none)
  else if x1 = (5 : Int32) then
  ((gInst h x0 [9]).bind fun v19 =>
  if v19 = 0 ∨ v19 = 1 then some (v19, h) else none)
  else if x1 = (6 : Int32) then
  ((gInst h x0 [3]).bind fun v23 =>
  if v23 = 0 ∨ v23 = 1 then some (v23, h) else none)
  else (some ((0 : Int32), h))
set_option maxRecDepth 20000 in
set_option maxHeartbeats 1600000 in
theorem g_X11_isOfKind_0 {n d : Nat} : ∀ {x0 : Nat} {x1 : Int32} {h : gH} {rh : gH} {rv : Int32}, F_X11_isOfKind_0 n x0 x1 h = some (rv, rh) → G M_X11_isOfKind d 0 0 0 0 0 [some (.ref x0), some (.int x1)] [] h (qI rv rh) := by
  intro x0 x1 h rh rv hf
  unfold F_X11_isOfKind_0 at hf
  refine g_iload_n dX11_isOfKind_0 rfl ?_
  by_cases c1 : x1 = (0 : Int32)
  · rw [if_pos c1] at hf
    refine g_tswK (k := (0 : Int32)) (off := 43) (tgt := 44) dX11_isOfKind_1 c1 (by decide) (by decide) (by decide) (by decide) ?_
    refine g_iconst (v := (1 : Int32)) dX11_isOfKind_44 (by decide) ?_
    obtain ⟨rfl, rfl⟩ := Prod.mk.inj (Option.some.inj hf)
    exact g_zret (ty := .boolean) dX11_isOfKind_45 rfl (by decide +kernel) ⟨rfl, rfl⟩ (Nat.le_of_ble_eq_true rfl) (Nat.le_of_ble_eq_true rfl)
  rw [if_neg c1] at hf
  by_cases c2 : x1 = (1 : Int32)
  · rw [if_pos c2] at hf
    refine g_tswK (k := (1 : Int32)) (off := 45) (tgt := 46) dX11_isOfKind_1 c2 (by decide) (by decide) (by decide) (by decide) ?_
    refine g_aload_n dX11_isOfKind_46 rfl ?_
    replace hf := Option.bind_eq_some_iff.mp hf
    obtain ⟨v3, q4, hf⟩ := hf
    refine g_inst i_X11_263 dX11_isOfKind_47 q4 ?_
    by_cases c5 : v3 = 0 ∨ v3 = 1
    · rw [if_pos c5] at hf
      obtain ⟨rfl, rfl⟩ := Prod.mk.inj (Option.some.inj hf)
      exact g_zret (ty := .boolean) dX11_isOfKind_50 rfl (gZ_nar c5) ⟨rfl, rfl⟩ (Nat.le_of_ble_eq_true rfl) (Nat.le_of_ble_eq_true rfl)
    · rw [if_neg c5] at hf; cases hf
  rw [if_neg c2] at hf
  by_cases c6 : x1 = (2 : Int32)
  · rw [if_pos c6] at hf
    refine g_tswK (k := (2 : Int32)) (off := 50) (tgt := 51) dX11_isOfKind_1 c6 (by decide) (by decide) (by decide) (by decide) ?_
    refine g_aload_n dX11_isOfKind_51 rfl ?_
    replace hf := Option.bind_eq_some_iff.mp hf
    obtain ⟨v7, q8, hf⟩ := hf
    refine g_inst i_X11_268 dX11_isOfKind_52 q8 ?_
    by_cases c9 : v7 = 0 ∨ v7 = 1
    · rw [if_pos c9] at hf
      obtain ⟨rfl, rfl⟩ := Prod.mk.inj (Option.some.inj hf)
      exact g_zret (ty := .boolean) dX11_isOfKind_55 rfl (gZ_nar c9) ⟨rfl, rfl⟩ (Nat.le_of_ble_eq_true rfl) (Nat.le_of_ble_eq_true rfl)
    · rw [if_neg c9] at hf; cases hf
  rw [if_neg c6] at hf
  by_cases c10 : x1 = (3 : Int32)
  · rw [if_pos c10] at hf
    refine g_tswK (k := (3 : Int32)) (off := 55) (tgt := 56) dX11_isOfKind_1 c10 (by decide) (by decide) (by decide) (by decide) ?_
    refine g_aload_n dX11_isOfKind_56 rfl ?_
    replace hf := Option.bind_eq_some_iff.mp hf
    obtain ⟨v11, q12, hf⟩ := hf
    refine g_inst i_X11_271 dX11_isOfKind_57 q12 ?_
    by_cases c13 : v11 = 0 ∨ v11 = 1
    · rw [if_pos c13] at hf
      obtain ⟨rfl, rfl⟩ := Prod.mk.inj (Option.some.inj hf)
      exact g_zret (ty := .boolean) dX11_isOfKind_60 rfl (gZ_nar c13) ⟨rfl, rfl⟩ (Nat.le_of_ble_eq_true rfl) (Nat.le_of_ble_eq_true rfl)
    · rw [if_neg c13] at hf; cases hf
  rw [if_neg c10] at hf
  by_cases c14 : x1 = (4 : Int32)
  · rw [if_pos c14] at hf
    refine g_tswK (k := (4 : Int32)) (off := 60) (tgt := 61) dX11_isOfKind_1 c14 (by decide) (by decide) (by decide) (by decide) ?_
    refine g_aload_n dX11_isOfKind_61 rfl ?_
    replace hf := Option.bind_eq_some_iff.mp hf
    obtain ⟨v15, q16, hf⟩ := hf
    refine g_inst i_X11_274 dX11_isOfKind_62 q16 ?_
    by_cases c17 : v15 = 0 ∨ v15 = 1
    · rw [if_pos c17] at hf
      obtain ⟨rfl, rfl⟩ := Prod.mk.inj (Option.some.inj hf)
      exact g_zret (ty := .boolean) dX11_isOfKind_65 rfl (gZ_nar c17) ⟨rfl, rfl⟩ (Nat.le_of_ble_eq_true rfl) (Nat.le_of_ble_eq_true rfl)
    · rw [if_neg c17] at hf; cases hf
  rw [if_neg c14] at hf
  by_cases c18 : x1 = (5 : Int32)
  · rw [if_pos c18] at hf
    refine g_tswK (k := (5 : Int32)) (off := 65) (tgt := 66) dX11_isOfKind_1 c18 (by decide) (by decide) (by decide) (by decide) ?_
    refine g_aload_n dX11_isOfKind_66 rfl ?_
    replace hf := Option.bind_eq_some_iff.mp hf
    obtain ⟨v19, q20, hf⟩ := hf
    refine g_inst i_X11_148 dX11_isOfKind_67 q20 ?_
    by_cases c21 : v19 = 0 ∨ v19 = 1
    · rw [if_pos c21] at hf
      obtain ⟨rfl, rfl⟩ := Prod.mk.inj (Option.some.inj hf)
      exact g_zret (ty := .boolean) dX11_isOfKind_70 rfl (gZ_nar c21) ⟨rfl, rfl⟩ (Nat.le_of_ble_eq_true rfl) (Nat.le_of_ble_eq_true rfl)
    · rw [if_neg c21] at hf; cases hf
  rw [if_neg c18] at hf
  by_cases c22 : x1 = (6 : Int32)
  · rw [if_pos c22] at hf
    refine g_tswK (k := (6 : Int32)) (off := 70) (tgt := 71) dX11_isOfKind_1 c22 (by decide) (by decide) (by decide) (by decide) ?_
    refine g_aload_n dX11_isOfKind_71 rfl ?_
    replace hf := Option.bind_eq_some_iff.mp hf
    obtain ⟨v23, q24, hf⟩ := hf
    refine g_inst i_X11_278 dX11_isOfKind_72 q24 ?_
    by_cases c25 : v23 = 0 ∨ v23 = 1
    · rw [if_pos c25] at hf
      obtain ⟨rfl, rfl⟩ := Prod.mk.inj (Option.some.inj hf)
      exact g_zret (ty := .boolean) dX11_isOfKind_75 rfl (gZ_nar c25) ⟨rfl, rfl⟩ (Nat.le_of_ble_eq_true rfl) (Nat.le_of_ble_eq_true rfl)
    · rw [if_neg c25] at hf; cases hf
  rw [if_neg c22] at hf
  have zc1 : (x1).toInt ≠ 0 := fun e => c1 (Int32.toInt_inj.mp (e.trans (by decide)))
  have zc2 : (x1).toInt ≠ 1 := fun e => c2 (Int32.toInt_inj.mp (e.trans (by decide)))
  have zc6 : (x1).toInt ≠ 2 := fun e => c6 (Int32.toInt_inj.mp (e.trans (by decide)))
  have zc10 : (x1).toInt ≠ 3 := fun e => c10 (Int32.toInt_inj.mp (e.trans (by decide)))
  have zc14 : (x1).toInt ≠ 4 := fun e => c14 (Int32.toInt_inj.mp (e.trans (by decide)))
  have zc18 : (x1).toInt ≠ 5 := fun e => c18 (Int32.toInt_inj.mp (e.trans (by decide)))
  have zc22 : (x1).toInt ≠ 6 := fun e => c22 (Int32.toInt_inj.mp (e.trans (by decide)))
  refine g_tableOut (tgt := 76) dX11_isOfKind_1 (by omega) (by decide) ?_
  refine g_iconst (v := (0 : Int32)) dX11_isOfKind_76 (by decide) ?_
  obtain ⟨rfl, rfl⟩ := Prod.mk.inj (Option.some.inj hf)
  exact g_zret (ty := .boolean) dX11_isOfKind_77 rfl (by decide +kernel) ⟨rfl, rfl⟩ (Nat.le_of_ble_eq_true rfl) (Nat.le_of_ble_eq_true rfl)
def F_X11_isOfKind (n : Nat) (p0 : Nat) (p1 : Int32) (h : gH) : Option (Int32 × gH) := F_X11_isOfKind_0 n  p0 p1 h
theorem t_X11_isOfKind {n d : Nat} {p0 : Nat} {p1 : Int32} {h rh : gH} {rv : Int32} (hf : F_X11_isOfKind n p0 p1 h = some (rv, rh)) : T M_X11_isOfKind d 0 0 [.ref p0, .int p1] h (qI rv rh) := by
  refine T_of_G (L := 0) (by decide +kernel) rfl (Nat.le_of_ble_eq_true rfl) (g_lv (lv2 := [some (.ref p0), some (.int p1)]) rfl ?_)
  exact g_X11_isOfKind_0 hf
def F_X11_as_42 (n : Nat)  (y0 : Int32) (h : gH) : Option (Int32 × gH) :=
  some (y0, h)
set_option maxRecDepth 20000 in
set_option maxHeartbeats 1600000 in
theorem g_X11_as_42 {n d : Nat} : ∀ {y0 : Int32} {h : gH} {rh : gH} {rv : Int32}, F_X11_as_42 n y0 h = some (rv, rh) → G M_X11_as (d + 1) 0 0 0 0 42 [none, none, none, none] [.int y0] h (qI rv rh) := by
  intro y0 h rh rv hf
  unfold F_X11_as_42 at hf
  obtain ⟨rfl, rfl⟩ := Prod.mk.inj (Option.some.inj hf)
  exact g_iret dX11_as_42 rfl ⟨rfl, rfl⟩ (Nat.le_of_ble_eq_true rfl) (Nat.le_of_ble_eq_true rfl)
def F_X11_as_23 (n : Nat)   (h : gH) : Option (Int32 × gH) :=
  some ((-1 : Int32), h)
set_option maxRecDepth 20000 in
set_option maxHeartbeats 1600000 in
theorem g_X11_as_23 {n d : Nat} : ∀  {h : gH} {rh : gH} {rv : Int32}, F_X11_as_23 n  h = some (rv, rh) → G M_X11_as (d + 1) 0 0 0 0 23 [none, none, none, none] [] h (qI rv rh) := by
  intro  h rh rv hf
  unfold F_X11_as_23 at hf
  refine g_iconst (v := (-1 : Int32)) dX11_as_23 (by decide) ?_
  obtain ⟨rfl, rfl⟩ := Prod.mk.inj (Option.some.inj hf)
  exact g_iret dX11_as_24 rfl ⟨rfl, rfl⟩ (Nat.le_of_ble_eq_true rfl) (Nat.le_of_ble_eq_true rfl)
def F_X11_as_0 (n : Nat)  (x0 : Nat) (x1 : Int32) (x2 : Int32) (h : gH) : Option (Int32 × gH) :=
  (gR h x0 11 0).bind fun v1 =>
  (gO h v1 7).bind fun f3 =>
  gB (F_X7_find n v1 x1 h) fun v7 h5 =>
  if v7 = none then
  (F_X11_as_23 n h5)
  else
  (if x2 < 0 then
  (F_X11_as_23 n h5)
  else
  (if x2 ≤ (6 : Int32) then
  ((v7).bind fun a11 =>
  gB (F_X11_isOfKind n a11 x2 h5) fun v15 h13 =>
  if v15 = 0 then
  (F_X11_as_42 n (-6 : Int32) h13)
  else
  ((gIw h13 a11 1).bind fun v17 =>
  F_X11_as_42 n v17 h13))
  else
  (F_X11_as_23 n h5)))
set_option maxRecDepth 20000 in
set_option maxHeartbeats 1600000 in
theorem g_X11_as_0 {n d : Nat} : ∀ {x0 : Nat} {x1 : Int32} {x2 : Int32} {h : gH} {rh : gH} {rv : Int32}, F_X11_as_0 n x0 x1 x2 h = some (rv, rh) → G M_X11_as (d + 1) 0 0 0 0 0 [some (.ref x0), some (.int x1), some (.int x2), none] [] h (qI rv rh) := by
  intro x0 x1 x2 h rh rv hf
  unfold F_X11_as_0 at hf
  refine g_aload_n dX11_as_0 rfl ?_
  replace hf := Option.bind_eq_some_iff.mp hf
  obtain ⟨v1, q2, hf⟩ := hf
  refine g_gR f_X11_12 dX11_as_1 q2 ?_
  refine g_iload_n dX11_as_4 rfl ?_
  replace hf := Option.bind_eq_some_iff.mp hf
  obtain ⟨f3, q4, hf⟩ := hf
  replace hf := gB_of hf
  obtain ⟨v7, h5, q6, hf⟩ := hf
  refine g_callV (as := [.int x1]) (mc1 := 0) (ms1 := 0) s_X11_144_X7_find_7 dX11_as_5 (gO_of q4) rfl (Nat.le_of_ble_eq_true rfl) (Nat.le_of_ble_eq_true rfl) (Nat.le_of_ble_eq_true rfl) (t_X7_find (d := d + 0) q6) (fun r9 h9 q9 => ?_)
  obtain ⟨rfl, rfl⟩ := q9
  refine g_stp (st2 := [va_rf v7]) (pc2 := 8) (kc2 := 0) (kn2 := 0) rfl rfl rfl rfl ?_
  refine g_astore_q (r := v7) dX11_as_8 (by decide) (g_lvp (lv2 := [some (.ref x0), some (.int x1), some (.int x2), some (va_rf v7)]) (pc2 := 9) rfl rfl ?_)
  refine g_aload_q (r := v7) dX11_as_9 rfl ?_
  refine g_ifnullq (tgt := 23) dX11_as_10 (by decide) (fun c8 => ?_) (fun c8 => ?_)
  · rw [if_pos c8] at hf
    refine g_weak (lv2 := [none, none, none, none]) (trivial) ?_
    exact g_X11_as_23 hf
  · rw [if_neg c8] at hf
    refine g_iload_n dX11_as_13 rfl ?_
    refine g_if_lt (tgt := 23) dX11_as_14 (by decide) (fun c9 => ?_) (fun c9 => ?_)
    · rw [if_pos c9] at hf
      refine g_weak (lv2 := [none, none, none, none]) (trivial) ?_
      exact g_X11_as_23 hf
    · rw [if_neg c9] at hf
      refine g_iload_n dX11_as_17 rfl ?_
      refine g_bipush (v := (6 : Int32)) dX11_as_18 (by decide) ?_
      refine g_icmp_le (tgt := 25) dX11_as_20 (by decide) (fun c10 => ?_) (fun c10 => ?_)
      · rw [if_pos c10] at hf
        refine g_aload_q (r := v7) dX11_as_25 rfl ?_
        refine g_iload_n dX11_as_26 rfl ?_
        replace hf := Option.bind_eq_some_iff.mp hf
        obtain ⟨a11, q12, hf⟩ := hf
        subst q12
        replace hf := gB_of hf
        obtain ⟨v15, h13, q14, hf⟩ := hf
        refine g_callS (as := [.ref a11, .int x2]) (mc1 := 0) (ms1 := 0) s_X11_249_X11_isOfKind dX11_as_27 rfl (Nat.le_of_ble_eq_true rfl) (Nat.le_of_ble_eq_true rfl) (Nat.le_of_ble_eq_true rfl) (t_X11_isOfKind (d := d + 0) q14) (fun r9 h9 q9 => ?_)
        obtain ⟨rfl, rfl⟩ := q9
        refine g_stp (st2 := [.int v15]) (pc2 := 30) (kc2 := 0) (kn2 := 0) rfl rfl rfl rfl ?_
        refine g_if_eq (tgt := 40) dX11_as_30 (by decide) (fun c16 => ?_) (fun c16 => ?_)
        · rw [if_pos c16] at hf
          refine g_bipush (v := (-6 : Int32)) dX11_as_40 (by decide) ?_
          refine g_weak (lv2 := [none, none, none, none]) (trivial) ?_
          exact g_X11_as_42 hf
        · rw [if_neg c16] at hf
          refine g_aload_q (r := (some a11)) dX11_as_33 rfl ?_
          replace hf := Option.bind_eq_some_iff.mp hf
          obtain ⟨v17, q18, hf⟩ := hf
          refine g_gIw fw_X11_253 dX11_as_34 q18 ?_
          refine g_goto (tgt := 42) dX11_as_37 (by decide) ?_
          refine g_weak (lv2 := [none, none, none, none]) (trivial) ?_
          exact g_X11_as_42 hf
      · rw [if_neg c10] at hf
        refine g_weak (lv2 := [none, none, none, none]) (trivial) ?_
        exact g_X11_as_23 hf
def F_X11_as (n : Nat) (a : Nat) (p0 : Int32) (p1 : Int32) (h : gH) : Option (Int32 × gH) := F_X11_as_0 n  a p0 p1 h
theorem t_X11_as {n d : Nat} {a : Nat} {p0 : Int32} {p1 : Int32} {h rh : gH} {rv : Int32} (hf : F_X11_as n a p0 p1 h = some (rv, rh)) : T M_X11_as (d + 1) 0 0 [.ref a, .int p0, .int p1] h (qI rv rh) := by
  refine T_of_G (L := 1) (by decide +kernel) rfl (Nat.le_of_ble_eq_true rfl) (g_lv (lv2 := [some (.ref a), some (.int p0), some (.int p1), none]) rfl ?_)
  exact g_X11_as_0 hf
def F_X4_empty_2 (n : Nat)  : Nat → Nat → Int32 → gH → Option (gH)
  | 0, _, _, _ => none
  | m + 1, x0, x1, h => (lenI h x0).bind fun v1 =>
  if v1 ≤ x1 then
  (some h)
  else
  ((sI h x0 x1 (-1 : Int32)).bind fun h4 =>
  F_X4_empty_2 n m x0 (x1 + (1 : Int32)) h4)
set_option maxRecDepth 20000 in
set_option maxHeartbeats 1600000 in
theorem g_X4_empty_2 {n d : Nat} : ∀ {m : Nat} {x0 : Nat} {x1 : Int32} {h : gH} {rh : gH}, F_X4_empty_2 n m x0 x1 h = some rh → G M_X4_empty d 0 0 0 0 2 [some (.ref x0), some (.int x1)] [] h (qV rh) := by
  intro m
  induction m with
  | zero => intro x0 x1 h rh hf; cases hf
  | succ m t2 =>
    intro x0 x1 h rh hf
    unfold F_X4_empty_2 at hf
    refine g_iload_n dX4_empty_2 rfl ?_
    refine g_aload_n dX4_empty_3 rfl ?_
    replace hf := Option.bind_eq_some_iff.mp hf
    obtain ⟨v1, q2, hf⟩ := hf
    refine g_lenI dX4_empty_4 q2 ?_
    refine g_icmp_ge (tgt := 18) dX4_empty_5 (by decide) (fun c3 => ?_) (fun c3 => ?_)
    · rw [if_pos c3] at hf
      obtain rfl := Option.some.inj hf
      exact g_vret dX4_empty_18 rfl ⟨rfl, rfl⟩ (Nat.le_of_ble_eq_true rfl) (Nat.le_of_ble_eq_true rfl)
    · rw [if_neg c3] at hf
      refine g_aload_n dX4_empty_8 rfl ?_
      refine g_iload_n dX4_empty_9 rfl ?_
      refine g_iconst (v := (-1 : Int32)) dX4_empty_10 (by decide) ?_
      replace hf := Option.bind_eq_some_iff.mp hf
      obtain ⟨h4, q5, hf⟩ := hf
      refine g_sI dX4_empty_11 q5 ?_
      refine g_iinc2 (w := (1 : Int32)) dX4_empty_12 (by decide) rfl (by decide) (g_lvp (lv2 := [some (.ref x0), some (.int (x1 + (1 : Int32)))]) (pc2 := 15) rfl rfl ?_)
      refine g_goto (tgt := 2) dX4_empty_15 (by decide) ?_
      exact t2 hf
def F_X4_empty_0 (n : Nat)  (x0 : Nat) (h : gH) : Option (gH) :=
  F_X4_empty_2 n n x0 (0 : Int32) h
set_option maxRecDepth 20000 in
set_option maxHeartbeats 1600000 in
theorem g_X4_empty_0 {n d : Nat} : ∀ {x0 : Nat} {h : gH} {rh : gH}, F_X4_empty_0 n x0 h = some rh → G M_X4_empty d 0 0 0 0 0 [some (.ref x0), none] [] h (qV rh) := by
  intro x0 h rh hf
  unfold F_X4_empty_0 at hf
  refine g_iconst (v := (0 : Int32)) dX4_empty_0 (by decide) ?_
  refine g_istore_n dX4_empty_1 (by decide) (g_lvp (lv2 := [some (.ref x0), some (.int (0 : Int32))]) (pc2 := 2) rfl rfl ?_)
  exact g_X4_empty_2 hf
def F_X4_empty (n : Nat) (p0 : Nat) (h : gH) : Option (gH) := F_X4_empty_0 n  p0 h
theorem t_X4_empty {n d : Nat} {p0 : Nat} {h rh : gH} (hf : F_X4_empty n p0 h = some rh) : T M_X4_empty d 0 0 [.ref p0] h (qV rh) := by
  refine T_of_G (L := 1) (by decide +kernel) rfl (Nat.le_of_ble_eq_true rfl) (g_lv (lv2 := [some (.ref p0), none]) rfl ?_)
  exact g_X4_empty_0 hf
def F_X4_step_30 (n : Nat)   (h : gH) : Option (Int32 × gH) :=
  some ((0 : Int32), h)
set_option maxRecDepth 20000 in
set_option maxHeartbeats 1600000 in
theorem g_X4_step_30 {n d : Nat} : ∀  {h : gH} {rh : gH} {rv : Int32}, F_X4_step_30 n  h = some (rv, rh) → G M_X4_step d 0 0 0 0 30 [none, none, none] [] h (qI rv rh) := by
  intro  h rh rv hf
  unfold F_X4_step_30 at hf
  refine g_iconst (v := (0 : Int32)) dX4_step_30 (by decide) ?_
  obtain ⟨rfl, rfl⟩ := Prod.mk.inj (Option.some.inj hf)
  exact g_iret dX4_step_31 rfl ⟨rfl, rfl⟩ (Nat.le_of_ble_eq_true rfl) (Nat.le_of_ble_eq_true rfl)
def F_X4_step_0 (n : Nat)  (x0 : Int32) (x1 : Int32) (x2 : Int32) (h : gH) : Option (Int32 × gH) :=
  if x0 < 0 then
  (F_X4_step_30 n h)
  else
  (if (8 : Int32) ≤ x0 then
  (F_X4_step_30 n h)
  else
  (if x1 < 0 then
  (F_X4_step_30 n h)
  else
  (if (9 : Int32) < x1 then
  (F_X4_step_30 n h)
  else
  (if x2 < 0 then
  (F_X4_step_30 n h)
  else
  (if x2 < (61 : Int32) then
  (some (((((x0 * (10 : Int32)) + x1) * (61 : Int32)) + x2), h))
  else
  (F_X4_step_30 n h))))))
set_option maxRecDepth 20000 in
set_option maxHeartbeats 1600000 in
theorem g_X4_step_0 {n d : Nat} : ∀ {x0 : Int32} {x1 : Int32} {x2 : Int32} {h : gH} {rh : gH} {rv : Int32}, F_X4_step_0 n x0 x1 x2 h = some (rv, rh) → G M_X4_step d 0 0 0 0 0 [some (.int x0), some (.int x1), some (.int x2)] [] h (qI rv rh) := by
  intro x0 x1 x2 h rh rv hf
  unfold F_X4_step_0 at hf
  refine g_iload_n dX4_step_0 rfl ?_
  refine g_if_lt (tgt := 30) dX4_step_1 (by decide) (fun c1 => ?_) (fun c1 => ?_)
  · rw [if_pos c1] at hf
    refine g_weak (lv2 := [none, none, none]) (trivial) ?_
    exact g_X4_step_30 hf
  · rw [if_neg c1] at hf
    refine g_iload_n dX4_step_4 rfl ?_
    refine g_bipush (v := (8 : Int32)) dX4_step_5 (by decide) ?_
    refine g_icmp_ge (tgt := 30) dX4_step_7 (by decide) (fun c2 => ?_) (fun c2 => ?_)
    · rw [if_pos c2] at hf
      refine g_weak (lv2 := [none, none, none]) (trivial) ?_
      exact g_X4_step_30 hf
    · rw [if_neg c2] at hf
      refine g_iload_n dX4_step_10 rfl ?_
      refine g_if_lt (tgt := 30) dX4_step_11 (by decide) (fun c3 => ?_) (fun c3 => ?_)
      · rw [if_pos c3] at hf
        refine g_weak (lv2 := [none, none, none]) (trivial) ?_
        exact g_X4_step_30 hf
      · rw [if_neg c3] at hf
        refine g_iload_n dX4_step_14 rfl ?_
        refine g_bipush (v := (9 : Int32)) dX4_step_15 (by decide) ?_
        refine g_icmp_gt (tgt := 30) dX4_step_17 (by decide) (fun c4 => ?_) (fun c4 => ?_)
        · rw [if_pos c4] at hf
          refine g_weak (lv2 := [none, none, none]) (trivial) ?_
          exact g_X4_step_30 hf
        · rw [if_neg c4] at hf
          refine g_iload_n dX4_step_20 rfl ?_
          refine g_if_lt (tgt := 30) dX4_step_21 (by decide) (fun c5 => ?_) (fun c5 => ?_)
          · rw [if_pos c5] at hf
            refine g_weak (lv2 := [none, none, none]) (trivial) ?_
            exact g_X4_step_30 hf
          · rw [if_neg c5] at hf
            refine g_iload_n dX4_step_24 rfl ?_
            refine g_bipush (v := (61 : Int32)) dX4_step_25 (by decide) ?_
            refine g_icmp_lt (tgt := 32) dX4_step_27 (by decide) (fun c6 => ?_) (fun c6 => ?_)
            · rw [if_pos c6] at hf
              refine g_iload_n dX4_step_32 rfl ?_
              refine g_bipush (v := (10 : Int32)) dX4_step_33 (by decide) ?_
              refine g_imul dX4_step_35 ?_
              refine g_iload_n dX4_step_36 rfl ?_
              refine g_iadd dX4_step_37 ?_
              refine g_bipush (v := (61 : Int32)) dX4_step_38 (by decide) ?_
              refine g_imul dX4_step_40 ?_
              refine g_iload_n dX4_step_41 rfl ?_
              refine g_iadd dX4_step_42 ?_
              obtain ⟨rfl, rfl⟩ := Prod.mk.inj (Option.some.inj hf)
              exact g_iret dX4_step_43 rfl ⟨rfl, rfl⟩ (Nat.le_of_ble_eq_true rfl) (Nat.le_of_ble_eq_true rfl)
            · rw [if_neg c6] at hf
              refine g_weak (lv2 := [none, none, none]) (trivial) ?_
              exact g_X4_step_30 hf
def F_X4_step (n : Nat) (p0 : Int32) (p1 : Int32) (p2 : Int32) (h : gH) : Option (Int32 × gH) := F_X4_step_0 n  p0 p1 p2 h
theorem t_X4_step {n d : Nat} {p0 : Int32} {p1 : Int32} {p2 : Int32} {h rh : gH} {rv : Int32} (hf : F_X4_step n p0 p1 p2 h = some (rv, rh)) : T M_X4_step d 0 0 [.int p0, .int p1, .int p2] h (qI rv rh) := by
  refine T_of_G (L := 0) (by decide +kernel) rfl (Nat.le_of_ble_eq_true rfl) (g_lv (lv2 := [some (.int p0), some (.int p1), some (.int p2)]) rfl ?_)
  exact g_X4_step_0 hf
def F_X4_spreadBy_108 (n : Nat)   (h : gH) : Option (gH) :=
  some h
set_option maxRecDepth 20000 in
set_option maxHeartbeats 1600000 in
theorem g_X4_spreadBy_108 {n d : Nat} : ∀  {h : gH} {rh : gH}, F_X4_spreadBy_108 n  h = some rh → G M_X4_spreadBy (d + 1) 0 0 0 0 108 [none, none, none, none, none, none, none, none, none] [] h (qV rh) := by
  intro  h rh hf
  unfold F_X4_spreadBy_108 at hf
  obtain rfl := Option.some.inj hf
  exact g_vret dX4_spreadBy_108 rfl ⟨rfl, rfl⟩ (Nat.le_of_ble_eq_true rfl) (Nat.le_of_ble_eq_true rfl)
def F_X4_spreadBy_102 (n : Nat) (k3 : Nat → Int32 → Int32 → Nat → Nat → Int32 → gH → Option (gH)) (x0 : Nat) (x1 : Int32) (x2 : Int32) (x3 : Nat) (x4 : Nat) (x5 : Int32) (h : gH) : Option (gH) :=
  k3 x0 x1 x2 x3 x4 (x5 + (1 : Int32)) h
set_option maxRecDepth 20000 in
set_option maxHeartbeats 1600000 in
theorem g_X4_spreadBy_102 {n d : Nat} {k3 : Nat → Int32 → Int32 → Nat → Nat → Int32 → gH → Option (gH)} (t3 : ∀ {x0 : Nat} {x1 : Int32} {x2 : Int32} {x3 : Nat} {x4 : Nat} {x5 : Int32} {h : gH} {rh : gH}, k3 x0 x1 x2 x3 x4 x5 h = some rh → G M_X4_spreadBy (d + 1) 0 0 0 0 3 [some (.ref x0), some (.int x1), some (.int x2), some (.ref x3), some (.ref x4), some (.int x5), none, none, none] [] h (qV rh)) : ∀ {x0 : Nat} {x1 : Int32} {x2 : Int32} {x3 : Nat} {x4 : Nat} {x5 : Int32} {h : gH} {rh : gH}, F_X4_spreadBy_102 n k3 x0 x1 x2 x3 x4 x5 h = some rh → G M_X4_spreadBy (d + 1) 0 0 0 0 102 [some (.ref x0), some (.int x1), some (.int x2), some (.ref x3), some (.ref x4), some (.int x5), none, none, none] [] h (qV rh) := by
  intro x0 x1 x2 x3 x4 x5 h rh hf
  unfold F_X4_spreadBy_102 at hf
  refine g_iinc2 (w := (1 : Int32)) dX4_spreadBy_102 (by decide) rfl (by decide) (g_lvp (lv2 := [some (.ref x0), some (.int x1), some (.int x2), some (.ref x3), some (.ref x4), some (.int (x5 + (1 : Int32))), none, none, none]) (pc2 := 105) rfl rfl ?_)
  refine g_goto (tgt := 3) dX4_spreadBy_105 (by decide) ?_
  exact t3 hf
def F_X4_spreadBy_95 (n : Nat) (k3 : Nat → Int32 → Int32 → Nat → Nat → Int32 → gH → Option (gH)) (x0 : Nat) (x1 : Int32) (x2 : Int32) (x3 : Nat) (x4 : Nat) (x5 : Int32) (x7 : Int32) (x8 : Int32) (h : gH) : Option (gH) :=
  (sI h x4 x7 x8).bind fun h1 =>
  F_X4_spreadBy_102 n (k3) x0 x1 x2 x3 x4 x5 h1
set_option maxRecDepth 20000 in
set_option maxHeartbeats 1600000 in
theorem g_X4_spreadBy_95 {n d : Nat} {k3 : Nat → Int32 → Int32 → Nat → Nat → Int32 → gH → Option (gH)} (t3 : ∀ {x0 : Nat} {x1 : Int32} {x2 : Int32} {x3 : Nat} {x4 : Nat} {x5 : Int32} {h : gH} {rh : gH}, k3 x0 x1 x2 x3 x4 x5 h = some rh → G M_X4_spreadBy (d + 1) 0 0 0 0 3 [some (.ref x0), some (.int x1), some (.int x2), some (.ref x3), some (.ref x4), some (.int x5), none, none, none] [] h (qV rh)) : ∀ {x0 : Nat} {x1 : Int32} {x2 : Int32} {x3 : Nat} {x4 : Nat} {x5 : Int32} {x7 : Int32} {x8 : Int32} {h : gH} {rh : gH}, F_X4_spreadBy_95 n k3 x0 x1 x2 x3 x4 x5 x7 x8 h = some rh → G M_X4_spreadBy (d + 1) 0 0 0 0 95 [some (.ref x0), some (.int x1), some (.int x2), some (.ref x3), some (.ref x4), some (.int x5), none, some (.int x7), some (.int x8)] [] h (qV rh) := by
  intro x0 x1 x2 x3 x4 x5 x7 x8 h rh hf
  unfold F_X4_spreadBy_95 at hf
  refine g_aload dX4_spreadBy_95 rfl ?_
  refine g_iload dX4_spreadBy_97 rfl ?_
  refine g_iload dX4_spreadBy_99 rfl ?_
  replace hf := Option.bind_eq_some_iff.mp hf
  obtain ⟨h1, q2, hf⟩ := hf
  refine g_sI dX4_spreadBy_101 q2 ?_
  refine g_weak (lv2 := [some (.ref x0), some (.int x1), some (.int x2), some (.ref x3), some (.ref x4), some (.int x5), none, none, none]) (And.intro rfl (And.intro rfl (And.intro rfl (And.intro rfl (And.intro rfl (And.intro rfl (trivial))))))) ?_
  exact g_X4_spreadBy_102 t3 hf
def F_X4_spreadBy_3 (n : Nat)  : Nat → Nat → Int32 → Int32 → Nat → Nat → Int32 → gH → Option (gH)
  | 0, _, _, _, _, _, _, _ => none
  | m + 1, x0, x1, x2, x3, x4, x5, h => (gI h x0 4 10).bind fun v1 =>
  if v1 < x5 then
  (F_X4_spreadBy_108 n h)
  else
  ((lenI h x3).bind fun v4 =>
  if v4 ≤ x5 then
  (F_X4_spreadBy_108 n h)
  else
  ((aI h x3 x5).bind fun v7 =>
  if 0 ≤ v7 then
  (gB (F_X4_step n x1 x2 x5 h) fun v12 h10 =>
  (gR h10 x0 4 1).bind fun v13 =>
  (aI h10 v13 v12).bind fun v15 =>
  if v15 < 0 then
  (F_X4_spreadBy_102 n (F_X4_spreadBy_3 n m) x0 x1 x2 x3 x4 x5 h10)
  else
  ((lenI h10 x4).bind fun v18 =>
  if v15 < v18 then
  ((aI h10 x3 x5).bind fun v21 =>
  (gR h10 x0 4 0).bind fun v23 =>
  (aI h10 v23 v12).bind fun v25 =>
  (aI h10 x4 v15).bind fun v27 =>
  if v27 < 0 then
  (F_X4_spreadBy_95 n (F_X4_spreadBy_3 n m) x0 x1 x2 x3 x4 x5 v15 (v21 + v25) h10)
  else
  ((aI h10 x4 v15).bind fun v30 =>
  if v30 ≤ (v21 + v25) then
  (F_X4_spreadBy_102 n (F_X4_spreadBy_3 n m) x0 x1 x2 x3 x4 x5 h10)
  else
  (F_X4_spreadBy_95 n (F_X4_spreadBy_3 n m) x0 x1 x2 x3 x4 x5 v15 (v21 + v25) h10)))
  else
  (F_X4_spreadBy_102 n (F_X4_spreadBy_3 n m) x0 x1 x2 x3 x4 x5 h10)))
  else
  (F_X4_spreadBy_102 n (F_X4_spreadBy_3 n m) x0 x1 x2 x3 x4 x5 h)))
set_option maxRecDepth 20000 in
set_option maxHeartbeats 1600000 in
theorem g_X4_spreadBy_3 {n d : Nat} : ∀ {m : Nat} {x0 : Nat} {x1 : Int32} {x2 : Int32} {x3 : Nat} {x4 : Nat} {x5 : Int32} {h : gH} {rh : gH}, F_X4_spreadBy_3 n m x0 x1 x2 x3 x4 x5 h = some rh → G M_X4_spreadBy (d + 1) 0 0 0 0 3 [some (.ref x0), some (.int x1), some (.int x2), some (.ref x3), some (.ref x4), some (.int x5), none, none, none] [] h (qV rh) := by
  intro m
  induction m with
  | zero => intro x0 x1 x2 x3 x4 x5 h rh hf; cases hf
  | succ m t3 =>
    intro x0 x1 x2 x3 x4 x5 h rh hf
    unfold F_X4_spreadBy_3 at hf
    refine g_iload dX4_spreadBy_3 rfl ?_
    refine g_aload_n dX4_spreadBy_5 rfl ?_
    replace hf := Option.bind_eq_some_iff.mp hf
    obtain ⟨v1, q2, hf⟩ := hf
    refine g_gI f_X4_63 dX4_spreadBy_6 q2 ?_
    refine g_icmp_gt (tgt := 108) dX4_spreadBy_9 (by decide) (fun c3 => ?_) (fun c3 => ?_)
    · rw [if_pos c3] at hf
      refine g_weak (lv2 := [none, none, none, none, none, none, none, none, none]) (trivial) ?_
      exact g_X4_spreadBy_108 hf
    · rw [if_neg c3] at hf
      refine g_iload dX4_spreadBy_12 rfl ?_
      refine g_aload_n dX4_spreadBy_14 rfl ?_
      replace hf := Option.bind_eq_some_iff.mp hf
      obtain ⟨v4, q5, hf⟩ := hf
      refine g_lenI dX4_spreadBy_15 q5 ?_
      refine g_icmp_ge (tgt := 108) dX4_spreadBy_16 (by decide) (fun c6 => ?_) (fun c6 => ?_)
      · rw [if_pos c6] at hf
        refine g_weak (lv2 := [none, none, none, none, none, none, none, none, none]) (trivial) ?_
        exact g_X4_spreadBy_108 hf
      · rw [if_neg c6] at hf
        refine g_aload_n dX4_spreadBy_19 rfl ?_
        refine g_iload dX4_spreadBy_20 rfl ?_
        replace hf := Option.bind_eq_some_iff.mp hf
        obtain ⟨v7, q8, hf⟩ := hf
        refine g_aI dX4_spreadBy_22 q8 ?_
        refine g_if_ge (tgt := 29) dX4_spreadBy_23 (by decide) (fun c9 => ?_) (fun c9 => ?_)
        · rw [if_pos c9] at hf
          refine g_iload_n dX4_spreadBy_29 rfl ?_
          refine g_iload_n dX4_spreadBy_30 rfl ?_
          refine g_iload dX4_spreadBy_31 rfl ?_
          replace hf := gB_of hf
          obtain ⟨v12, h10, q11, hf⟩ := hf
          refine g_callS (as := [.int x1, .int x2, .int x5]) (mc1 := 0) (ms1 := 0) s_X4_71_X4_step dX4_spreadBy_33 rfl (Nat.le_of_ble_eq_true rfl) (Nat.le_of_ble_eq_true rfl) (Nat.le_of_ble_eq_true rfl) (t_X4_step (d := d + 0) q11) (fun r9 h9 q9 => ?_)
          obtain ⟨rfl, rfl⟩ := q9
          refine g_stp (st2 := [.int v12]) (pc2 := 36) (kc2 := 0) (kn2 := 0) rfl rfl rfl rfl ?_
          refine g_istore dX4_spreadBy_36 (by decide) (g_lvp (lv2 := [some (.ref x0), some (.int x1), some (.int x2), some (.ref x3), some (.ref x4), some (.int x5), some (.int v12), none, none]) (pc2 := 38) rfl rfl ?_)
          refine g_aload_n dX4_spreadBy_38 rfl ?_
          replace hf := Option.bind_eq_some_iff.mp hf
          obtain ⟨v13, q14, hf⟩ := hf
          refine g_gR f_X4_15 dX4_spreadBy_39 q14 ?_
          refine g_iload dX4_spreadBy_42 rfl ?_
          replace hf := Option.bind_eq_some_iff.mp hf
          obtain ⟨v15, q16, hf⟩ := hf
          refine g_aI dX4_spreadBy_44 q16 ?_
          refine g_istore dX4_spreadBy_45 (by decide) (g_lvp (lv2 := [some (.ref x0), some (.int x1), some (.int x2), some (.ref x3), some (.ref x4), some (.int x5), some (.int v12), some (.int v15), none]) (pc2 := 47) rfl rfl ?_)
          refine g_iload dX4_spreadBy_47 rfl ?_
          refine g_if_lt (tgt := 102) dX4_spreadBy_49 (by decide) (fun c17 => ?_) (fun c17 => ?_)
          · rw [if_pos c17] at hf
            refine g_weak (lv2 := [some (.ref x0), some (.int x1), some (.int x2), some (.ref x3), some (.ref x4), some (.int x5), none, none, none]) (And.intro rfl (And.intro rfl (And.intro rfl (And.intro rfl (And.intro rfl (And.intro rfl (trivial))))))) ?_
            exact g_X4_spreadBy_102 t3 hf
          · rw [if_neg c17] at hf
            refine g_iload dX4_spreadBy_52 rfl ?_
            refine g_aload dX4_spreadBy_54 rfl ?_
            replace hf := Option.bind_eq_some_iff.mp hf
            obtain ⟨v18, q19, hf⟩ := hf
            refine g_lenI dX4_spreadBy_56 q19 ?_
            refine g_icmp_lt (tgt := 63) dX4_spreadBy_57 (by decide) (fun c20 => ?_) (fun c20 => ?_)
            · rw [if_pos c20] at hf
              refine g_aload_n dX4_spreadBy_63 rfl ?_
              refine g_iload dX4_spreadBy_64 rfl ?_
              replace hf := Option.bind_eq_some_iff.mp hf
              obtain ⟨v21, q22, hf⟩ := hf
              refine g_aI dX4_spreadBy_66 q22 ?_
              refine g_aload_n dX4_spreadBy_67 rfl ?_
              replace hf := Option.bind_eq_some_iff.mp hf
              obtain ⟨v23, q24, hf⟩ := hf
              refine g_gR f_X4_9 dX4_spreadBy_68 q24 ?_
              refine g_iload dX4_spreadBy_71 rfl ?_
              replace hf := Option.bind_eq_some_iff.mp hf
              obtain ⟨v25, q26, hf⟩ := hf
              refine g_aI dX4_spreadBy_73 q26 ?_
              refine g_iadd dX4_spreadBy_74 ?_
              refine g_istore dX4_spreadBy_75 (by decide) (g_lvp (lv2 := [some (.ref x0), some (.int x1), some (.int x2), some (.ref x3), some (.ref x4), some (.int x5), some (.int v12), some (.int v15), some (.int (v21 + v25))]) (pc2 := 77) rfl rfl ?_)
              refine g_aload dX4_spreadBy_77 rfl ?_
              refine g_iload dX4_spreadBy_79 rfl ?_
              replace hf := Option.bind_eq_some_iff.mp hf
              obtain ⟨v27, q28, hf⟩ := hf
              refine g_aI dX4_spreadBy_81 q28 ?_
              refine g_if_lt (tgt := 95) dX4_spreadBy_82 (by decide) (fun c29 => ?_) (fun c29 => ?_)
              · rw [if_pos c29] at hf
                refine g_weak (lv2 := [some (.ref x0), some (.int x1), some (.int x2), some (.ref x3), some (.ref x4), some (.int x5), none, some (.int v15), some (.int (v21 + v25))]) (And.intro rfl (And.intro rfl (And.intro rfl (And.intro rfl (And.intro rfl (And.intro rfl (And.intro rfl (And.intro rfl (trivial))))))))) ?_
                exact g_X4_spreadBy_95 t3 hf
              · rw [if_neg c29] at hf
                refine g_iload dX4_spreadBy_85 rfl ?_
                refine g_aload dX4_spreadBy_87 rfl ?_
                refine g_iload dX4_spreadBy_89 rfl ?_
                replace hf := Option.bind_eq_some_iff.mp hf
                obtain ⟨v30, q31, hf⟩ := hf
                refine g_aI dX4_spreadBy_91 q31 ?_
                refine g_icmp_ge (tgt := 102) dX4_spreadBy_92 (by decide) (fun c32 => ?_) (fun c32 => ?_)
                · rw [if_pos c32] at hf
                  refine g_weak (lv2 := [some (.ref x0), some (.int x1), some (.int x2), some (.ref x3), some (.ref x4), some (.int x5), none, none, none]) (And.intro rfl (And.intro rfl (And.intro rfl (And.intro rfl (And.intro rfl (And.intro rfl (trivial))))))) ?_
                  exact g_X4_spreadBy_102 t3 hf
                · rw [if_neg c32] at hf
                  refine g_weak (lv2 := [some (.ref x0), some (.int x1), some (.int x2), some (.ref x3), some (.ref x4), some (.int x5), none, some (.int v15), some (.int (v21 + v25))]) (And.intro rfl (And.intro rfl (And.intro rfl (And.intro rfl (And.intro rfl (And.intro rfl (And.intro rfl (And.intro rfl (trivial))))))))) ?_
                  exact g_X4_spreadBy_95 t3 hf
            · rw [if_neg c20] at hf
              refine g_goto (tgt := 102) dX4_spreadBy_60 (by decide) ?_
              refine g_weak (lv2 := [some (.ref x0), some (.int x1), some (.int x2), some (.ref x3), some (.ref x4), some (.int x5), none, none, none]) (And.intro rfl (And.intro rfl (And.intro rfl (And.intro rfl (And.intro rfl (And.intro rfl (trivial))))))) ?_
              exact g_X4_spreadBy_102 t3 hf
        · rw [if_neg c9] at hf
          refine g_goto (tgt := 102) dX4_spreadBy_26 (by decide) ?_
          exact g_X4_spreadBy_102 t3 hf
def F_X4_spreadBy_0 (n : Nat)  (x0 : Nat) (x1 : Int32) (x2 : Int32) (x3 : Nat) (x4 : Nat) (h : gH) : Option (gH) :=
  F_X4_spreadBy_3 n n x0 x1 x2 x3 x4 (0 : Int32) h
set_option maxRecDepth 20000 in
set_option maxHeartbeats 1600000 in
theorem g_X4_spreadBy_0 {n d : Nat} : ∀ {x0 : Nat} {x1 : Int32} {x2 : Int32} {x3 : Nat} {x4 : Nat} {h : gH} {rh : gH}, F_X4_spreadBy_0 n x0 x1 x2 x3 x4 h = some rh → G M_X4_spreadBy (d + 1) 0 0 0 0 0 [some (.ref x0), some (.int x1), some (.int x2), some (.ref x3), some (.ref x4), none, none, none, none] [] h (qV rh) := by
  intro x0 x1 x2 x3 x4 h rh hf
  unfold F_X4_spreadBy_0 at hf
  refine g_iconst (v := (0 : Int32)) dX4_spreadBy_0 (by decide) ?_
  refine g_istore dX4_spreadBy_1 (by decide) (g_lvp (lv2 := [some (.ref x0), some (.int x1), some (.int x2), some (.ref x3), some (.ref x4), some (.int (0 : Int32)), none, none, none]) (pc2 := 3) rfl rfl ?_)
  exact g_X4_spreadBy_3 hf
def F_X4_spreadBy (n : Nat) (a : Nat) (p0 : Int32) (p1 : Int32) (p2 : Nat) (p3 : Nat) (h : gH) : Option (gH) := F_X4_spreadBy_0 n  a p0 p1 p2 p3 h
theorem t_X4_spreadBy {n d : Nat} {a : Nat} {p0 : Int32} {p1 : Int32} {p2 : Nat} {p3 : Nat} {h rh : gH} (hf : F_X4_spreadBy n a p0 p1 p2 p3 h = some rh) : T M_X4_spreadBy (d + 1) 0 0 [.ref a, .int p0, .int p1, .ref p2, .ref p3] h (qV rh) := by
  refine T_of_G (L := 4) (by decide +kernel) rfl (Nat.le_of_ble_eq_true rfl) (g_lv (lv2 := [some (.ref a), some (.int p0), some (.int p1), some (.ref p2), some (.ref p3), none, none, none, none]) rfl ?_)
  exact g_X4_spreadBy_0 hf
def F_X4_fewestBy_158 (n : Nat)  (x4 : Int32) (h : gH) : Option (Int32 × gH) :=
  some (x4, h)
set_option maxRecDepth 20000 in
set_option maxHeartbeats 1600000 in
theorem g_X4_fewestBy_158 {n d : Nat} : ∀ {x4 : Int32} {h : gH} {rh : gH} {rv : Int32}, F_X4_fewestBy_158 n x4 h = some (rv, rh) → G M_X4_fewestBy (d + 2) 0 0 0 0 158 [none, none, none, none, some (.int x4), none] [] h (qI rv rh) := by
  intro x4 h rh rv hf
  unfold F_X4_fewestBy_158 at hf
  refine g_iload dX4_fewestBy_158 rfl ?_
  obtain ⟨rfl, rfl⟩ := Prod.mk.inj (Option.some.inj hf)
  exact g_iret dX4_fewestBy_160 rfl ⟨rfl, rfl⟩ (Nat.le_of_ble_eq_true rfl) (Nat.le_of_ble_eq_true rfl)
def F_X4_fewestBy_152 (n : Nat) (k109 : Nat → Nat → Int32 → Int32 → gH → Option (Int32 × gH)) (x0 : Nat) (x2 : Nat) (x4 : Int32) (x5 : Int32) (h : gH) : Option (Int32 × gH) :=
  k109 x0 x2 x4 (x5 + (1 : Int32)) h
set_option maxRecDepth 20000 in
set_option maxHeartbeats 1600000 in
theorem g_X4_fewestBy_152 {n d : Nat} {k109 : Nat → Nat → Int32 → Int32 → gH → Option (Int32 × gH)} (t109 : ∀ {x0 : Nat} {x2 : Nat} {x4 : Int32} {x5 : Int32} {h : gH} {rh : gH} {rv : Int32}, k109 x0 x2 x4 x5 h = some (rv, rh) → G M_X4_fewestBy (d + 2) 0 0 0 0 109 [some (.ref x0), none, some (.ref x2), none, some (.int x4), some (.int x5)] [] h (qI rv rh)) : ∀ {x0 : Nat} {x2 : Nat} {x4 : Int32} {x5 : Int32} {h : gH} {rh : gH} {rv : Int32}, F_X4_fewestBy_152 n k109 x0 x2 x4 x5 h = some (rv, rh) → G M_X4_fewestBy (d + 2) 0 0 0 0 152 [some (.ref x0), none, some (.ref x2), none, some (.int x4), some (.int x5)] [] h (qI rv rh) := by
  intro x0 x2 x4 x5 h rh rv hf
  unfold F_X4_fewestBy_152 at hf
  refine g_iinc2 (w := (1 : Int32)) dX4_fewestBy_152 (by decide) rfl (by decide) (g_lvp (lv2 := [some (.ref x0), none, some (.ref x2), none, some (.int x4), some (.int (x5 + (1 : Int32)))]) (pc2 := 155) rfl rfl ?_)
  refine g_goto (tgt := 109) dX4_fewestBy_155 (by decide) ?_
  exact t109 hf
def F_X4_fewestBy_146 (n : Nat) (k109 : Nat → Nat → Int32 → Int32 → gH → Option (Int32 × gH)) (x0 : Nat) (x2 : Nat) (x5 : Int32) (h : gH) : Option (Int32 × gH) :=
  (aI h x2 x5).bind fun v1 =>
  F_X4_fewestBy_152 n (k109) x0 x2 v1 x5 h
set_option maxRecDepth 20000 in
set_option maxHeartbeats 1600000 in
theorem g_X4_fewestBy_146 {n d : Nat} {k109 : Nat → Nat → Int32 → Int32 → gH → Option (Int32 × gH)} (t109 : ∀ {x0 : Nat} {x2 : Nat} {x4 : Int32} {x5 : Int32} {h : gH} {rh : gH} {rv : Int32}, k109 x0 x2 x4 x5 h = some (rv, rh) → G M_X4_fewestBy (d + 2) 0 0 0 0 109 [some (.ref x0), none, some (.ref x2), none, some (.int x4), some (.int x5)] [] h (qI rv rh)) : ∀ {x0 : Nat} {x2 : Nat} {x5 : Int32} {h : gH} {rh : gH} {rv : Int32}, F_X4_fewestBy_146 n k109 x0 x2 x5 h = some (rv, rh) → G M_X4_fewestBy (d + 2) 0 0 0 0 146 [some (.ref x0), none, some (.ref x2), none, none, some (.int x5)] [] h (qI rv rh) := by
  intro x0 x2 x5 h rh rv hf
  unfold F_X4_fewestBy_146 at hf
  refine g_aload_n dX4_fewestBy_146 rfl ?_
  refine g_iload dX4_fewestBy_147 rfl ?_
  replace hf := Option.bind_eq_some_iff.mp hf
  obtain ⟨v1, q2, hf⟩ := hf
  refine g_aI dX4_fewestBy_149 q2 ?_
  refine g_istore dX4_fewestBy_150 (by decide) (g_lvp (lv2 := [some (.ref x0), none, some (.ref x2), none, some (.int v1), some (.int x5)]) (pc2 := 152) rfl rfl ?_)
  exact g_X4_fewestBy_152 t109 hf
def F_X4_fewestBy_109 (n : Nat)  : Nat → Nat → Nat → Int32 → Int32 → gH → Option (Int32 × gH)
  | 0, _, _, _, _, _ => none
  | m + 1, x0, x2, x4, x5, h => (gI h x0 4 10).bind fun v1 =>
  if v1 < x5 then
  (F_X4_fewestBy_158 n x4 h)
  else
  (if (61 : Int32) ≤ x5 then
  (F_X4_fewestBy_158 n x4 h)
  else
  ((aI h x2 x5).bind fun v5 =>
  if v5 < 0 then
  (F_X4_fewestBy_152 n (F_X4_fewestBy_109 n m) x0 x2 x4 x5 h)
  else
  (if x4 < 0 then
  (F_X4_fewestBy_146 n (F_X4_fewestBy_109 n m) x0 x2 x5 h)
  else
  ((aI h x2 x5).bind fun v9 =>
  if x4 ≤ v9 then
  (F_X4_fewestBy_152 n (F_X4_fewestBy_109 n m) x0 x2 x4 x5 h)
  else
  (F_X4_fewestBy_146 n (F_X4_fewestBy_109 n m) x0 x2 x5 h)))))
set_option maxRecDepth 20000 in
set_option maxHeartbeats 1600000 in
theorem g_X4_fewestBy_109 {n d : Nat} : ∀ {m : Nat} {x0 : Nat} {x2 : Nat} {x4 : Int32} {x5 : Int32} {h : gH} {rh : gH} {rv : Int32}, F_X4_fewestBy_109 n m x0 x2 x4 x5 h = some (rv, rh) → G M_X4_fewestBy (d + 2) 0 0 0 0 109 [some (.ref x0), none, some (.ref x2), none, some (.int x4), some (.int x5)] [] h (qI rv rh) := by
  intro m
  induction m with
  | zero => intro x0 x2 x4 x5 h rh rv hf; cases hf
  | succ m t109 =>
    intro x0 x2 x4 x5 h rh rv hf
    unfold F_X4_fewestBy_109 at hf
    refine g_iload dX4_fewestBy_109 rfl ?_
    refine g_aload_n dX4_fewestBy_111 rfl ?_
    replace hf := Option.bind_eq_some_iff.mp hf
    obtain ⟨v1, q2, hf⟩ := hf
    refine g_gI f_X4_63 dX4_fewestBy_112 q2 ?_
    refine g_icmp_gt (tgt := 158) dX4_fewestBy_115 (by decide) (fun c3 => ?_) (fun c3 => ?_)
    · rw [if_pos c3] at hf
      refine g_weak (lv2 := [none, none, none, none, some (.int x4), none]) (And.intro rfl (trivial)) ?_
      exact g_X4_fewestBy_158 hf
    · rw [if_neg c3] at hf
      refine g_iload dX4_fewestBy_118 rfl ?_
      refine g_bipush (v := (61 : Int32)) dX4_fewestBy_120 (by decide) ?_
      refine g_icmp_ge (tgt := 158) dX4_fewestBy_122 (by decide) (fun c4 => ?_) (fun c4 => ?_)
      · rw [if_pos c4] at hf
        refine g_weak (lv2 := [none, none, none, none, some (.int x4), none]) (And.intro rfl (trivial)) ?_
        exact g_X4_fewestBy_158 hf
      · rw [if_neg c4] at hf
        refine g_aload_n dX4_fewestBy_125 rfl ?_
        refine g_iload dX4_fewestBy_126 rfl ?_
        replace hf := Option.bind_eq_some_iff.mp hf
        obtain ⟨v5, q6, hf⟩ := hf
        refine g_aI dX4_fewestBy_128 q6 ?_
        refine g_if_lt (tgt := 152) dX4_fewestBy_129 (by decide) (fun c7 => ?_) (fun c7 => ?_)
        · rw [if_pos c7] at hf
          exact g_X4_fewestBy_152 t109 hf
        · rw [if_neg c7] at hf
          refine g_iload dX4_fewestBy_132 rfl ?_
          refine g_if_lt (tgt := 146) dX4_fewestBy_134 (by decide) (fun c8 => ?_) (fun c8 => ?_)
          · rw [if_pos c8] at hf
            refine g_weak (lv2 := [some (.ref x0), none, some (.ref x2), none, none, some (.int x5)]) (And.intro rfl (And.intro rfl (And.intro rfl (trivial)))) ?_
            exact g_X4_fewestBy_146 t109 hf
          · rw [if_neg c8] at hf
            refine g_aload_n dX4_fewestBy_137 rfl ?_
            refine g_iload dX4_fewestBy_138 rfl ?_
            replace hf := Option.bind_eq_some_iff.mp hf
            obtain ⟨v9, q10, hf⟩ := hf
            refine g_aI dX4_fewestBy_140 q10 ?_
            refine g_iload dX4_fewestBy_141 rfl ?_
            refine g_icmp_ge (tgt := 152) dX4_fewestBy_143 (by decide) (fun c11 => ?_) (fun c11 => ?_)
            · rw [if_pos c11] at hf
              exact g_X4_fewestBy_152 t109 hf
            · rw [if_neg c11] at hf
              refine g_weak (lv2 := [some (.ref x0), none, some (.ref x2), none, none, some (.int x5)]) (And.intro rfl (And.intro rfl (And.intro rfl (trivial)))) ?_
              exact g_X4_fewestBy_146 t109 hf
def F_X4_fewestBy_83 (n : Nat) (k56 : Nat → Int32 → Nat → Nat → Int32 → Int32 → gH → Option (Int32 × gH)) (x0 : Nat) (x1 : Int32) (x2 : Nat) (x3 : Nat) (x4 : Int32) (x5 : Int32) (h : gH) : Option (Int32 × gH) :=
  k56 x0 x1 x2 x3 x4 (x5 + (1 : Int32)) h
set_option maxRecDepth 20000 in
set_option maxHeartbeats 1600000 in
theorem g_X4_fewestBy_83 {n d : Nat} {k56 : Nat → Int32 → Nat → Nat → Int32 → Int32 → gH → Option (Int32 × gH)} (t56 : ∀ {x0 : Nat} {x1 : Int32} {x2 : Nat} {x3 : Nat} {x4 : Int32} {x5 : Int32} {h : gH} {rh : gH} {rv : Int32}, k56 x0 x1 x2 x3 x4 x5 h = some (rv, rh) → G M_X4_fewestBy (d + 2) 0 0 0 0 56 [some (.ref x0), some (.int x1), some (.ref x2), some (.ref x3), some (.int x4), some (.int x5)] [] h (qI rv rh)) : ∀ {x0 : Nat} {x1 : Int32} {x2 : Nat} {x3 : Nat} {x4 : Int32} {x5 : Int32} {h : gH} {rh : gH} {rv : Int32}, F_X4_fewestBy_83 n k56 x0 x1 x2 x3 x4 x5 h = some (rv, rh) → G M_X4_fewestBy (d + 2) 0 0 0 0 83 [some (.ref x0), some (.int x1), some (.ref x2), some (.ref x3), some (.int x4), some (.int x5)] [] h (qI rv rh) := by
  intro x0 x1 x2 x3 x4 x5 h rh rv hf
  unfold F_X4_fewestBy_83 at hf
  refine g_iinc2 (w := (1 : Int32)) dX4_fewestBy_83 (by decide) rfl (by decide) (g_lvp (lv2 := [some (.ref x0), some (.int x1), some (.ref x2), some (.ref x3), some (.int x4), some (.int (x5 + (1 : Int32)))]) (pc2 := 86) rfl rfl ?_)
  refine g_goto (tgt := 56) dX4_fewestBy_86 (by decide) ?_
  exact t56 hf
def F_X4_fewestBy_56 (n : Nat) (k40 : Nat → Int32 → Nat → Nat → Int32 → gH → Option (Int32 × gH)) : Nat → Nat → Int32 → Nat → Nat → Int32 → Int32 → gH → Option (Int32 × gH)
  | 0, _, _, _, _, _, _, _ => none
  | m + 1, x0, x1, x2, x3, x4, x5, h => if (10 : Int32) ≤ x5 then
  (k40 x0 x1 x3 x2 (x4 + (1 : Int32)) h)
  else
  (if ((x1 >>> (x5 &&& 31)) &&& (1 : Int32)) = (1 : Int32) then
  ((gO h x0 4).bind fun f3 =>
  (F_X4_spreadBy n x0 x4 x5 x2 x3 h).bind fun h5 =>
  F_X4_fewestBy_83 n (F_X4_fewestBy_56 n k40 m) x0 x1 x2 x3 x4 x5 h5)
  else
  (F_X4_fewestBy_83 n (F_X4_fewestBy_56 n k40 m) x0 x1 x2 x3 x4 x5 h))
set_option maxRecDepth 20000 in
set_option maxHeartbeats 1600000 in
theorem g_X4_fewestBy_56 {n d : Nat} {k40 : Nat → Int32 → Nat → Nat → Int32 → gH → Option (Int32 × gH)} (t40 : ∀ {x0 : Nat} {x1 : Int32} {x2 : Nat} {x3 : Nat} {x4 : Int32} {h : gH} {rh : gH} {rv : Int32}, k40 x0 x1 x2 x3 x4 h = some (rv, rh) → G M_X4_fewestBy (d + 2) 0 0 0 0 40 [some (.ref x0), some (.int x1), some (.ref x2), some (.ref x3), some (.int x4), none] [] h (qI rv rh)) : ∀ {m : Nat} {x0 : Nat} {x1 : Int32} {x2 : Nat} {x3 : Nat} {x4 : Int32} {x5 : Int32} {h : gH} {rh : gH} {rv : Int32}, F_X4_fewestBy_56 n k40 m x0 x1 x2 x3 x4 x5 h = some (rv, rh) → G M_X4_fewestBy (d + 2) 0 0 0 0 56 [some (.ref x0), some (.int x1), some (.ref x2), some (.ref x3), some (.int x4), some (.int x5)] [] h (qI rv rh) := by
  intro m
  induction m with
  | zero => intro x0 x1 x2 x3 x4 x5 h rh rv hf; cases hf
  | succ m t56 =>
    intro x0 x1 x2 x3 x4 x5 h rh rv hf
    unfold F_X4_fewestBy_56 at hf
    refine g_iload dX4_fewestBy_56 rfl ?_
    refine g_bipush (v := (10 : Int32)) dX4_fewestBy_58 (by decide) ?_
    refine g_icmp_ge (tgt := 89) dX4_fewestBy_60 (by decide) (fun c1 => ?_) (fun c1 => ?_)
    · rw [if_pos c1] at hf
      refine g_aload_n dX4_fewestBy_89 rfl ?_
      refine g_astore dX4_fewestBy_90 (by decide) (g_lvp (lv2 := [some (.ref x0), some (.int x1), some (.ref x2), some (.ref x3), some (.int x4), some (.ref x2)]) (pc2 := 92) rfl rfl ?_)
      refine g_aload_n dX4_fewestBy_92 rfl ?_
      refine g_astore_n dX4_fewestBy_93 (by decide) (g_lvp (lv2 := [some (.ref x0), some (.int x1), some (.ref x3), some (.ref x3), some (.int x4), some (.ref x2)]) (pc2 := 94) rfl rfl ?_)
      refine g_aload dX4_fewestBy_94 rfl ?_
      refine g_astore_n dX4_fewestBy_96 (by decide) (g_lvp (lv2 := [some (.ref x0), some (.int x1), some (.ref x3), some (.ref x2), some (.int x4), some (.ref x2)]) (pc2 := 97) rfl rfl ?_)
      refine g_iinc2 (w := (1 : Int32)) dX4_fewestBy_97 (by decide) rfl (by decide) (g_lvp (lv2 := [some (.ref x0), some (.int x1), some (.ref x3), some (.ref x2), some (.int (x4 + (1 : Int32))), some (.ref x2)]) (pc2 := 100) rfl rfl ?_)
      refine g_goto (tgt := 40) dX4_fewestBy_100 (by decide) ?_
      refine g_weak (lv2 := [some (.ref x0), some (.int x1), some (.ref x3), some (.ref x2), some (.int (x4 + (1 : Int32))), none]) (And.intro rfl (And.intro rfl (And.intro rfl (And.intro rfl (And.intro rfl (trivial)))))) ?_
      exact t40 hf
    · rw [if_neg c1] at hf
      refine g_iload_n dX4_fewestBy_63 rfl ?_
      refine g_iload dX4_fewestBy_64 rfl ?_
      refine g_ishr dX4_fewestBy_66 ?_
      refine g_iconst (v := (1 : Int32)) dX4_fewestBy_67 (by decide) ?_
      refine g_iand dX4_fewestBy_68 ?_
      refine g_iconst (v := (1 : Int32)) dX4_fewestBy_69 (by decide) ?_
      refine g_icmp_ne (tgt := 83) dX4_fewestBy_70 (by decide) (fun c2 => ?_) (fun c2 => ?_)
      · rw [if_neg c2] at hf
        exact g_X4_fewestBy_83 t56 hf
      · rw [if_pos c2] at hf
        refine g_aload_n dX4_fewestBy_73 rfl ?_
        refine g_iload dX4_fewestBy_74 rfl ?_
        refine g_iload dX4_fewestBy_76 rfl ?_
        refine g_aload_n dX4_fewestBy_78 rfl ?_
        refine g_aload_n dX4_fewestBy_79 rfl ?_
        replace hf := Option.bind_eq_some_iff.mp hf
        obtain ⟨f3, q4, hf⟩ := hf
        replace hf := Option.bind_eq_some_iff.mp hf
        obtain ⟨h5, q6, hf⟩ := hf
        refine g_callV (as := [.int x4, .int x5, .ref x2, .ref x3]) (mc1 := 0) (ms1 := 0) s_X4_94_X4_spreadBy_4 dX4_fewestBy_80 (gO_of q4) rfl (Nat.le_of_ble_eq_true rfl) (Nat.le_of_ble_eq_true rfl) (Nat.le_of_ble_eq_true rfl) (t_X4_spreadBy (d := d + 0) q6) (fun r9 h9 q9 => ?_)
        obtain ⟨rfl, rfl⟩ := q9
        refine g_stp (st2 := []) (pc2 := 83) (kc2 := 0) (kn2 := 0) rfl rfl rfl rfl ?_
        exact g_X4_fewestBy_83 t56 hf
def F_X4_fewestBy_40 (n : Nat)  : Nat → Nat → Int32 → Nat → Nat → Int32 → gH → Option (Int32 × gH)
  | 0, _, _, _, _, _, _ => none
  | m + 1, x0, x1, x2, x3, x4, h => (gI h x0 4 9).bind fun v1 =>
  if v1 ≤ x4 then
  (F_X4_fewestBy_109 n n x0 x2 (-1 : Int32) (0 : Int32) h)
  else
  ((F_X4_empty n x3 h).bind fun h4 =>
  F_X4_fewestBy_56 n (F_X4_fewestBy_40 n m) n x0 x1 x2 x3 x4 (0 : Int32) h4)
set_option maxRecDepth 20000 in
set_option maxHeartbeats 1600000 in
theorem g_X4_fewestBy_40 {n d : Nat} : ∀ {m : Nat} {x0 : Nat} {x1 : Int32} {x2 : Nat} {x3 : Nat} {x4 : Int32} {h : gH} {rh : gH} {rv : Int32}, F_X4_fewestBy_40 n m x0 x1 x2 x3 x4 h = some (rv, rh) → G M_X4_fewestBy (d + 2) 0 0 0 0 40 [some (.ref x0), some (.int x1), some (.ref x2), some (.ref x3), some (.int x4), none] [] h (qI rv rh) := by
  intro m
  induction m with
  | zero => intro x0 x1 x2 x3 x4 h rh rv hf; cases hf
  | succ m t40 =>
    intro x0 x1 x2 x3 x4 h rh rv hf
    unfold F_X4_fewestBy_40 at hf
    refine g_iload dX4_fewestBy_40 rfl ?_
    refine g_aload_n dX4_fewestBy_42 rfl ?_
    replace hf := Option.bind_eq_some_iff.mp hf
    obtain ⟨v1, q2, hf⟩ := hf
    refine g_gI f_X4_59 dX4_fewestBy_43 q2 ?_
    refine g_icmp_ge (tgt := 103) dX4_fewestBy_46 (by decide) (fun c3 => ?_) (fun c3 => ?_)
    · rw [if_pos c3] at hf
      refine g_iconst (v := (-1 : Int32)) dX4_fewestBy_103 (by decide) ?_
      refine g_istore dX4_fewestBy_104 (by decide) (g_lvp (lv2 := [some (.ref x0), some (.int x1), some (.ref x2), some (.ref x3), some (.int (-1 : Int32)), none]) (pc2 := 106) rfl rfl ?_)
      refine g_iconst (v := (0 : Int32)) dX4_fewestBy_106 (by decide) ?_
      refine g_istore dX4_fewestBy_107 (by decide) (g_lvp (lv2 := [some (.ref x0), some (.int x1), some (.ref x2), some (.ref x3), some (.int (-1 : Int32)), some (.int (0 : Int32))]) (pc2 := 109) rfl rfl ?_)
      refine g_weak (lv2 := [some (.ref x0), none, some (.ref x2), none, some (.int (-1 : Int32)), some (.int (0 : Int32))]) (And.intro rfl (And.intro rfl (And.intro rfl (And.intro rfl (trivial))))) ?_
      exact g_X4_fewestBy_109 hf
    · rw [if_neg c3] at hf
      refine g_aload_n dX4_fewestBy_49 rfl ?_
      replace hf := Option.bind_eq_some_iff.mp hf
      obtain ⟨h4, q5, hf⟩ := hf
      refine g_callS (as := [.ref x3]) (mc1 := 0) (ms1 := 0) s_X4_90_X4_empty dX4_fewestBy_50 rfl (Nat.le_of_ble_eq_true rfl) (Nat.le_of_ble_eq_true rfl) (Nat.le_of_ble_eq_true rfl) (t_X4_empty (d := d + 1) q5) (fun r9 h9 q9 => ?_)
      obtain ⟨rfl, rfl⟩ := q9
      refine g_stp (st2 := []) (pc2 := 53) (kc2 := 0) (kn2 := 0) rfl rfl rfl rfl ?_
      refine g_iconst (v := (0 : Int32)) dX4_fewestBy_53 (by decide) ?_
      refine g_istore dX4_fewestBy_54 (by decide) (g_lvp (lv2 := [some (.ref x0), some (.int x1), some (.ref x2), some (.ref x3), some (.int x4), some (.int (0 : Int32))]) (pc2 := 56) rfl rfl ?_)
      exact g_X4_fewestBy_56 t40 hf
def F_X4_fewestBy_37 (n : Nat)  (x0 : Nat) (x1 : Int32) (x2 : Nat) (x3 : Nat) (h : gH) : Option (Int32 × gH) :=
  F_X4_fewestBy_40 n n x0 x1 x2 x3 (0 : Int32) h
set_option maxRecDepth 20000 in
set_option maxHeartbeats 1600000 in
theorem g_X4_fewestBy_37 {n d : Nat} : ∀ {x0 : Nat} {x1 : Int32} {x2 : Nat} {x3 : Nat} {h : gH} {rh : gH} {rv : Int32}, F_X4_fewestBy_37 n x0 x1 x2 x3 h = some (rv, rh) → G M_X4_fewestBy (d + 2) 0 0 0 0 37 [some (.ref x0), some (.int x1), some (.ref x2), some (.ref x3), none, none] [] h (qI rv rh) := by
  intro x0 x1 x2 x3 h rh rv hf
  unfold F_X4_fewestBy_37 at hf
  refine g_iconst (v := (0 : Int32)) dX4_fewestBy_37 (by decide) ?_
  refine g_istore dX4_fewestBy_38 (by decide) (g_lvp (lv2 := [some (.ref x0), some (.int x1), some (.ref x2), some (.ref x3), some (.int (0 : Int32)), none]) (pc2 := 40) rfl rfl ?_)
  exact g_X4_fewestBy_40 hf
def F_X4_fewestBy_0 (n : Nat)  (x0 : Nat) (x1 : Int32) (h : gH) : Option (Int32 × gH) :=
  (gR h x0 4 5).bind fun v1 =>
  (gR h x0 4 6).bind fun v3 =>
  (F_X4_empty n v1 h).bind fun h5 =>
  (gI h5 x0 4 10).bind fun v7 =>
  if v7 < 0 then
  (F_X4_fewestBy_37 n x0 x1 v1 v3 h5)
  else
  ((gI h5 x0 4 10).bind fun v10 =>
  if (61 : Int32) ≤ v10 then
  (F_X4_fewestBy_37 n x0 x1 v1 v3 h5)
  else
  ((gI h5 x0 4 10).bind fun v13 =>
  (sI h5 v1 v13 (0 : Int32)).bind fun h15 =>
  F_X4_fewestBy_37 n x0 x1 v1 v3 h15))
set_option maxRecDepth 20000 in
set_option maxHeartbeats 1600000 in
theorem g_X4_fewestBy_0 {n d : Nat} : ∀ {x0 : Nat} {x1 : Int32} {h : gH} {rh : gH} {rv : Int32}, F_X4_fewestBy_0 n x0 x1 h = some (rv, rh) → G M_X4_fewestBy (d + 2) 0 0 0 0 0 [some (.ref x0), some (.int x1), none, none, none, none] [] h (qI rv rh) := by
  intro x0 x1 h rh rv hf
  unfold F_X4_fewestBy_0 at hf
  refine g_aload_n dX4_fewestBy_0 rfl ?_
  replace hf := Option.bind_eq_some_iff.mp hf
  obtain ⟨v1, q2, hf⟩ := hf
  refine g_gR f_X4_27 dX4_fewestBy_1 q2 ?_
  refine g_astore_n dX4_fewestBy_4 (by decide) (g_lvp (lv2 := [some (.ref x0), some (.int x1), some (.ref v1), none, none, none]) (pc2 := 5) rfl rfl ?_)
  refine g_aload_n dX4_fewestBy_5 rfl ?_
  replace hf := Option.bind_eq_some_iff.mp hf
  obtain ⟨v3, q4, hf⟩ := hf
  refine g_gR f_X4_30 dX4_fewestBy_6 q4 ?_
  refine g_astore_n dX4_fewestBy_9 (by decide) (g_lvp (lv2 := [some (.ref x0), some (.int x1), some (.ref v1), some (.ref v3), none, none]) (pc2 := 10) rfl rfl ?_)
  refine g_aload_n dX4_fewestBy_10 rfl ?_
  replace hf := Option.bind_eq_some_iff.mp hf
  obtain ⟨h5, q6, hf⟩ := hf
  refine g_callS (as := [.ref v1]) (mc1 := 0) (ms1 := 0) s_X4_90_X4_empty dX4_fewestBy_11 rfl (Nat.le_of_ble_eq_true rfl) (Nat.le_of_ble_eq_true rfl) (Nat.le_of_ble_eq_true rfl) (t_X4_empty (d := d + 1) q6) (fun r9 h9 q9 => ?_)
  obtain ⟨rfl, rfl⟩ := q9
  refine g_stp (st2 := []) (pc2 := 14) (kc2 := 0) (kn2 := 0) rfl rfl rfl rfl ?_
  refine g_aload_n dX4_fewestBy_14 rfl ?_
  replace hf := Option.bind_eq_some_iff.mp hf
  obtain ⟨v7, q8, hf⟩ := hf
  refine g_gI f_X4_63 dX4_fewestBy_15 q8 ?_
  refine g_if_lt (tgt := 37) dX4_fewestBy_18 (by decide) (fun c9 => ?_) (fun c9 => ?_)
  · rw [if_pos c9] at hf
    exact g_X4_fewestBy_37 hf
  · rw [if_neg c9] at hf
    refine g_aload_n dX4_fewestBy_21 rfl ?_
    replace hf := Option.bind_eq_some_iff.mp hf
    obtain ⟨v10, q11, hf⟩ := hf
    refine g_gI f_X4_63 dX4_fewestBy_22 q11 ?_
    refine g_bipush (v := (61 : Int32)) dX4_fewestBy_25 (by decide) ?_
    refine g_icmp_ge (tgt := 37) dX4_fewestBy_27 (by decide) (fun c12 => ?_) (fun c12 => ?_)
    · rw [if_pos c12] at hf
      exact g_X4_fewestBy_37 hf
    · rw [if_neg c12] at hf
      refine g_aload_n dX4_fewestBy_30 rfl ?_
      refine g_aload_n dX4_fewestBy_31 rfl ?_
      replace hf := Option.bind_eq_some_iff.mp hf
      obtain ⟨v13, q14, hf⟩ := hf
      refine g_gI f_X4_63 dX4_fewestBy_32 q14 ?_
      refine g_iconst (v := (0 : Int32)) dX4_fewestBy_35 (by decide) ?_
      replace hf := Option.bind_eq_some_iff.mp hf
      obtain ⟨h15, q16, hf⟩ := hf
      refine g_sI dX4_fewestBy_36 q16 ?_
      exact g_X4_fewestBy_37 hf
def F_X4_fewestBy (n : Nat) (a : Nat) (p0 : Int32) (h : gH) : Option (Int32 × gH) := F_X4_fewestBy_0 n  a p0 h
theorem t_X4_fewestBy {n d : Nat} {a : Nat} {p0 : Int32} {h rh : gH} {rv : Int32} (hf : F_X4_fewestBy n a p0 h = some (rv, rh)) : T M_X4_fewestBy (d + 2) 0 0 [.ref a, .int p0] h (qI rv rh) := by
  refine T_of_G (L := 4) (by decide +kernel) rfl (Nat.le_of_ble_eq_true rfl) (g_lv (lv2 := [some (.ref a), some (.int p0), none, none, none, none]) rfl ?_)
  exact g_X4_fewestBy_0 hf
def F_X6_has_23 (n : Nat)  (y0 : Int32) (h : gH) : Option (Int32 × gH) :=
  if y0 = 0 ∨ y0 = 1 then some (y0, h) else none
set_option maxRecDepth 20000 in
set_option maxHeartbeats 1600000 in
theorem g_X6_has_23 {n d : Nat} : ∀ {y0 : Int32} {h : gH} {rh : gH} {rv : Int32}, F_X6_has_23 n y0 h = some (rv, rh) → G M_X6_has d 0 0 0 0 23 [none, none] [.int y0] h (qI rv rh) := by
  intro y0 h rh rv hf
  unfold F_X6_has_23 at hf
  by_cases c1 : y0 = 0 ∨ y0 = 1
  · rw [if_pos c1] at hf
    obtain ⟨rfl, rfl⟩ := Prod.mk.inj (Option.some.inj hf)
    exact g_zret (ty := .boolean) dX6_has_23 rfl (gZ_nar c1) ⟨rfl, rfl⟩ (Nat.le_of_ble_eq_true rfl) (Nat.le_of_ble_eq_true rfl)
  · rw [if_neg c1] at hf; cases hf
def F_X6_has_22 (n : Nat)   (h : gH) : Option (Int32 × gH) :=
  F_X6_has_23 n (0 : Int32) h
set_option maxRecDepth 20000 in
set_option maxHeartbeats 1600000 in
theorem g_X6_has_22 {n d : Nat} : ∀  {h : gH} {rh : gH} {rv : Int32}, F_X6_has_22 n  h = some (rv, rh) → G M_X6_has d 0 0 0 0 22 [none, none] [] h (qI rv rh) := by
  intro  h rh rv hf
  unfold F_X6_has_22 at hf
  refine g_iconst (v := (0 : Int32)) dX6_has_22 (by decide) ?_
  exact g_X6_has_23 hf
def F_X6_has_0 (n : Nat)  (x0 : Nat) (x1 : Int32) (h : gH) : Option (Int32 × gH) :=
  if x1 < 0 then
  (F_X6_has_22 n h)
  else
  ((gI h x0 6 8).bind fun v2 =>
  if v2 ≤ x1 then
  (F_X6_has_22 n h)
  else
  (if (8 : Int32) ≤ x1 then
  (F_X6_has_22 n h)
  else
  (F_X6_has_23 n (1 : Int32) h)))
set_option maxRecDepth 20000 in
set_option maxHeartbeats 1600000 in
theorem g_X6_has_0 {n d : Nat} : ∀ {x0 : Nat} {x1 : Int32} {h : gH} {rh : gH} {rv : Int32}, F_X6_has_0 n x0 x1 h = some (rv, rh) → G M_X6_has d 0 0 0 0 0 [some (.ref x0), some (.int x1)] [] h (qI rv rh) := by
  intro x0 x1 h rh rv hf
  unfold F_X6_has_0 at hf
  refine g_iload_n dX6_has_0 rfl ?_
  refine g_if_lt (tgt := 22) dX6_has_1 (by decide) (fun c1 => ?_) (fun c1 => ?_)
  · rw [if_pos c1] at hf
    refine g_weak (lv2 := [none, none]) (trivial) ?_
    exact g_X6_has_22 hf
  · rw [if_neg c1] at hf
    refine g_iload_n dX6_has_4 rfl ?_
    refine g_aload_n dX6_has_5 rfl ?_
    replace hf := Option.bind_eq_some_iff.mp hf
    obtain ⟨v2, q3, hf⟩ := hf
    refine g_gI f_X6_39 dX6_has_6 q3 ?_
    refine g_icmp_ge (tgt := 22) dX6_has_9 (by decide) (fun c4 => ?_) (fun c4 => ?_)
    · rw [if_pos c4] at hf
      refine g_weak (lv2 := [none, none]) (trivial) ?_
      exact g_X6_has_22 hf
    · rw [if_neg c4] at hf
      refine g_iload_n dX6_has_12 rfl ?_
      refine g_bipush (v := (8 : Int32)) dX6_has_13 (by decide) ?_
      refine g_icmp_ge (tgt := 22) dX6_has_15 (by decide) (fun c5 => ?_) (fun c5 => ?_)
      · rw [if_pos c5] at hf
        refine g_weak (lv2 := [none, none]) (trivial) ?_
        exact g_X6_has_22 hf
      · rw [if_neg c5] at hf
        refine g_iconst (v := (1 : Int32)) dX6_has_18 (by decide) ?_
        refine g_goto (tgt := 23) dX6_has_19 (by decide) ?_
        refine g_weak (lv2 := [none, none]) (trivial) ?_
        exact g_X6_has_23 hf
def F_X6_has (n : Nat) (a : Nat) (p0 : Int32) (h : gH) : Option (Int32 × gH) := F_X6_has_0 n  a p0 h
theorem t_X6_has {n d : Nat} {a : Nat} {p0 : Int32} {h rh : gH} {rv : Int32} (hf : F_X6_has n a p0 h = some (rv, rh)) : T M_X6_has d 0 0 [.ref a, .int p0] h (qI rv rh) := by
  refine T_of_G (L := 0) (by decide +kernel) rfl (Nat.le_of_ble_eq_true rfl) (g_lv (lv2 := [some (.ref a), some (.int p0)]) rfl ?_)
  exact g_X6_has_0 hf
def F_X6_cost_29 (n : Nat)  (y0 : Int32) (h : gH) : Option (Int32 × gH) :=
  some (y0, h)
set_option maxRecDepth 20000 in
set_option maxHeartbeats 1600000 in
theorem g_X6_cost_29 {n d : Nat} : ∀ {y0 : Int32} {h : gH} {rh : gH} {rv : Int32}, F_X6_cost_29 n y0 h = some (rv, rh) → G M_X6_cost (d + 1) 0 0 0 0 29 [none, none, none] [.int y0] h (qI rv rh) := by
  intro y0 h rh rv hf
  unfold F_X6_cost_29 at hf
  obtain ⟨rfl, rfl⟩ := Prod.mk.inj (Option.some.inj hf)
  exact g_iret dX6_cost_29 rfl ⟨rfl, rfl⟩ (Nat.le_of_ble_eq_true rfl) (Nat.le_of_ble_eq_true rfl)
def F_X6_cost_0 (n : Nat)  (x0 : Nat) (x1 : Int32) (x2 : Int32) (h : gH) : Option (Int32 × gH) :=
  (gO h x0 6).bind fun f1 =>
  gB (F_X6_has n x0 x1 h) fun v5 h3 =>
  if v5 = 0 then
  (F_X6_cost_29 n (0 : Int32) h3)
  else
  ((gR h3 x0 6 0).bind fun v7 =>
  (aI h3 v7 x1).bind fun v9 =>
  (gI h3 x0 6 11).bind fun v11 =>
  F_X6_cost_29 n (v9 * (gmax (0 : Int32) (x2 - v11))) h3)
set_option maxRecDepth 20000 in
set_option maxHeartbeats 1600000 in
theorem g_X6_cost_0 {n d : Nat} : ∀ {x0 : Nat} {x1 : Int32} {x2 : Int32} {h : gH} {rh : gH} {rv : Int32}, F_X6_cost_0 n x0 x1 x2 h = some (rv, rh) → G M_X6_cost (d + 1) 0 0 0 0 0 [some (.ref x0), some (.int x1), some (.int x2)] [] h (qI rv rh) := by
  intro x0 x1 x2 h rh rv hf
  unfold F_X6_cost_0 at hf
  refine g_aload_n dX6_cost_0 rfl ?_
  refine g_iload_n dX6_cost_1 rfl ?_
  replace hf := Option.bind_eq_some_iff.mp hf
  obtain ⟨f1, q2, hf⟩ := hf
  replace hf := gB_of hf
  obtain ⟨v5, h3, q4, hf⟩ := hf
  refine g_callV (as := [.int x1]) (mc1 := 0) (ms1 := 0) s_X6_78_X6_has_6 dX6_cost_2 (gO_of q2) rfl (Nat.le_of_ble_eq_true rfl) (Nat.le_of_ble_eq_true rfl) (Nat.le_of_ble_eq_true rfl) (t_X6_has (d := d + 0) q4) (fun r9 h9 q9 => ?_)
  obtain ⟨rfl, rfl⟩ := q9
  refine g_stp (st2 := [.int v5]) (pc2 := 5) (kc2 := 0) (kn2 := 0) rfl rfl rfl rfl ?_
  refine g_if_eq (tgt := 28) dX6_cost_5 (by decide) (fun c6 => ?_) (fun c6 => ?_)
  · rw [if_pos c6] at hf
    refine g_iconst (v := (0 : Int32)) dX6_cost_28 (by decide) ?_
    refine g_weak (lv2 := [none, none, none]) (trivial) ?_
    exact g_X6_cost_29 hf
  · rw [if_neg c6] at hf
    refine g_aload_n dX6_cost_8 rfl ?_
    replace hf := Option.bind_eq_some_iff.mp hf
    obtain ⟨v7, q8, hf⟩ := hf
    refine g_gR f_X6_9 dX6_cost_9 q8 ?_
    refine g_iload_n dX6_cost_12 rfl ?_
    replace hf := Option.bind_eq_some_iff.mp hf
    obtain ⟨v9, q10, hf⟩ := hf
    refine g_aI dX6_cost_13 q10 ?_
    refine g_iconst (v := (0 : Int32)) dX6_cost_14 (by decide) ?_
    refine g_iload_n dX6_cost_15 rfl ?_
    refine g_aload_n dX6_cost_16 rfl ?_
    replace hf := Option.bind_eq_some_iff.mp hf
    obtain ⟨v11, q12, hf⟩ := hf
    refine g_gI f_X6_49 dX6_cost_17 q12 ?_
    refine g_isub dX6_cost_20 ?_
    refine g_max m_X6_68 m_max.1 m_max.2.1 m_max.2.2 dX6_cost_21 (Nat.le_of_ble_eq_true rfl) (Nat.le_of_ble_eq_true rfl) (Nat.le_of_ble_eq_true rfl) ?_
    refine g_st (st2 := [.int (gmax (0 : Int32) (x2 - v11)), .int v9]) rfl ?_
    refine g_imul dX6_cost_24 ?_
    refine g_goto (tgt := 29) dX6_cost_25 (by decide) ?_
    refine g_weak (lv2 := [none, none, none]) (trivial) ?_
    exact g_X6_cost_29 hf
def F_X6_cost (n : Nat) (a : Nat) (p0 : Int32) (p1 : Int32) (h : gH) : Option (Int32 × gH) := F_X6_cost_0 n  a p0 p1 h
theorem t_X6_cost {n d : Nat} {a : Nat} {p0 : Int32} {p1 : Int32} {h rh : gH} {rv : Int32} (hf : F_X6_cost n a p0 p1 h = some (rv, rh)) : T M_X6_cost (d + 1) 0 0 [.ref a, .int p0, .int p1] h (qI rv rh) := by
  refine T_of_G (L := 0) (by decide +kernel) rfl (Nat.le_of_ble_eq_true rfl) (g_lv (lv2 := [some (.ref a), some (.int p0), some (.int p1)]) rfl ?_)
  exact g_X6_cost_0 hf
def F_X6_behind_0 (n : Nat)  (x0 : Nat) (x1 : Int32) (x2 : Int32) (x3 : Int32) (h : gH) : Option (Int32 × gH) :=
  (gO h x0 6).bind fun f1 =>
  gB (F_X6_has n x0 x1 h) fun v5 h3 =>
  if v5 = 0 then
  (some (x3, h3))
  else
  ((gI h3 x0 6 11).bind fun v7 =>
  if x2 ≤ v7 then
  ((gI h3 x0 6 12).bind fun v10 =>
  (gR h3 x0 6 0).bind fun v12 =>
  (aI h3 v12 x1).bind fun v14 =>
  (gI h3 x0 6 11).bind fun v16 =>
  (gI h3 x0 6 13).bind fun v18 =>
  some ((gmin v10 (x3 + (((v14 * (v16 - x2)) * v18) / (10 : Int32)))), h3))
  else
  ((gO h3 x0 6).bind fun f20 =>
  gB (F_X6_cost n x0 x1 x2 h3) fun v24 h22 =>
  some ((x3 - v24), h22)))
set_option maxRecDepth 20000 in
set_option maxHeartbeats 1600000 in
theorem g_X6_behind_0 {n d : Nat} : ∀ {x0 : Nat} {x1 : Int32} {x2 : Int32} {x3 : Int32} {h : gH} {rh : gH} {rv : Int32}, F_X6_behind_0 n x0 x1 x2 x3 h = some (rv, rh) → G M_X6_behind (d + 2) 0 0 0 0 0 [some (.ref x0), some (.int x1), some (.int x2), some (.int x3)] [] h (qI rv rh) := by
  intro x0 x1 x2 x3 h rh rv hf
  unfold F_X6_behind_0 at hf
  refine g_aload_n dX6_behind_0 rfl ?_
  refine g_iload_n dX6_behind_1 rfl ?_
  replace hf := Option.bind_eq_some_iff.mp hf
  obtain ⟨f1, q2, hf⟩ := hf
  replace hf := gB_of hf
  obtain ⟨v5, h3, q4, hf⟩ := hf
  refine g_callV (as := [.int x1]) (mc1 := 0) (ms1 := 0) s_X6_78_X6_has_6 dX6_behind_2 (gO_of q2) rfl (Nat.le_of_ble_eq_true rfl) (Nat.le_of_ble_eq_true rfl) (Nat.le_of_ble_eq_true rfl) (t_X6_has (d := d + 1) q4) (fun r9 h9 q9 => ?_)
  obtain ⟨rfl, rfl⟩ := q9
  refine g_stp (st2 := [.int v5]) (pc2 := 5) (kc2 := 0) (kn2 := 0) rfl rfl rfl rfl ?_
  refine g_if_ne (tgt := 10) dX6_behind_5 (by decide) (fun c6 => ?_) (fun c6 => ?_)
  · rw [if_neg c6] at hf
    refine g_iload_n dX6_behind_10 rfl ?_
    refine g_aload_n dX6_behind_11 rfl ?_
    replace hf := Option.bind_eq_some_iff.mp hf
    obtain ⟨v7, q8, hf⟩ := hf
    refine g_gI f_X6_49 dX6_behind_12 q8 ?_
    refine g_icmp_le (tgt := 27) dX6_behind_15 (by decide) (fun c9 => ?_) (fun c9 => ?_)
    · rw [if_pos c9] at hf
      refine g_aload_n dX6_behind_27 rfl ?_
      replace hf := Option.bind_eq_some_iff.mp hf
      obtain ⟨v10, q11, hf⟩ := hf
      refine g_gI f_X6_52 dX6_behind_28 q11 ?_
      refine g_iload_n dX6_behind_31 rfl ?_
      refine g_aload_n dX6_behind_32 rfl ?_
      replace hf := Option.bind_eq_some_iff.mp hf
      obtain ⟨v12, q13, hf⟩ := hf
      refine g_gR f_X6_9 dX6_behind_33 q13 ?_
      refine g_iload_n dX6_behind_36 rfl ?_
      replace hf := Option.bind_eq_some_iff.mp hf
      obtain ⟨v14, q15, hf⟩ := hf
      refine g_aI dX6_behind_37 q15 ?_
      refine g_aload_n dX6_behind_38 rfl ?_
      replace hf := Option.bind_eq_some_iff.mp hf
      obtain ⟨v16, q17, hf⟩ := hf
      refine g_gI f_X6_49 dX6_behind_39 q17 ?_
      refine g_iload_n dX6_behind_42 rfl ?_
      refine g_isub dX6_behind_43 ?_
      refine g_imul dX6_behind_44 ?_
      refine g_aload_n dX6_behind_45 rfl ?_
      replace hf := Option.bind_eq_some_iff.mp hf
      obtain ⟨v18, q19, hf⟩ := hf
      refine g_gI f_X6_55 dX6_behind_46 q19 ?_
      refine g_imul dX6_behind_49 ?_
      refine g_bipush (v := (10 : Int32)) dX6_behind_50 (by decide) ?_
      refine g_idiv dX6_behind_52 (by decide) ?_
      refine g_iadd dX6_behind_53 ?_
      refine g_min m_X6_90 m_min.1 m_min.2.1 m_min.2.2 dX6_behind_54 (Nat.le_of_ble_eq_true rfl) (Nat.le_of_ble_eq_true rfl) (Nat.le_of_ble_eq_true rfl) ?_
      refine g_st (st2 := [.int (gmin v10 (x3 + (((v14 * (v16 - x2)) * v18) / (10 : Int32))))]) rfl ?_
      obtain ⟨rfl, rfl⟩ := Prod.mk.inj (Option.some.inj hf)
      exact g_iret dX6_behind_57 rfl ⟨rfl, rfl⟩ (Nat.le_of_ble_eq_true rfl) (Nat.le_of_ble_eq_true rfl)
    · rw [if_neg c9] at hf
      refine g_iload_n dX6_behind_18 rfl ?_
      refine g_aload_n dX6_behind_19 rfl ?_
      refine g_iload_n dX6_behind_20 rfl ?_
      refine g_iload_n dX6_behind_21 rfl ?_
      replace hf := Option.bind_eq_some_iff.mp hf
      obtain ⟨f20, q21, hf⟩ := hf
      replace hf := gB_of hf
      obtain ⟨v24, h22, q23, hf⟩ := hf
      refine g_callV (as := [.int x1, .int x2]) (mc1 := 0) (ms1 := 0) s_X6_97_X6_cost_6 dX6_behind_22 (gO_of q21) rfl (Nat.le_of_ble_eq_true rfl) (Nat.le_of_ble_eq_true rfl) (Nat.le_of_ble_eq_true rfl) (t_X6_cost (d := d + 0) q23) (fun r9 h9 q9 => ?_)
      obtain ⟨rfl, rfl⟩ := q9
      refine g_stp (st2 := [.int v24, .int x3]) (pc2 := 25) (kc2 := 0) (kn2 := 0) rfl rfl rfl rfl ?_
      refine g_isub dX6_behind_25 ?_
      obtain ⟨rfl, rfl⟩ := Prod.mk.inj (Option.some.inj hf)
      exact g_iret dX6_behind_26 rfl ⟨rfl, rfl⟩ (Nat.le_of_ble_eq_true rfl) (Nat.le_of_ble_eq_true rfl)
  · rw [if_pos c6] at hf
    refine g_iload_n dX6_behind_8 rfl ?_
    obtain ⟨rfl, rfl⟩ := Prod.mk.inj (Option.some.inj hf)
    exact g_iret dX6_behind_9 rfl ⟨rfl, rfl⟩ (Nat.le_of_ble_eq_true rfl) (Nat.le_of_ble_eq_true rfl)
def F_X6_behind (n : Nat) (a : Nat) (p0 : Int32) (p1 : Int32) (p2 : Int32) (h : gH) : Option (Int32 × gH) := F_X6_behind_0 n  a p0 p1 p2 h
theorem t_X6_behind {n d : Nat} {a : Nat} {p0 : Int32} {p1 : Int32} {p2 : Int32} {h rh : gH} {rv : Int32} (hf : F_X6_behind n a p0 p1 p2 h = some (rv, rh)) : T M_X6_behind (d + 2) 0 0 [.ref a, .int p0, .int p1, .int p2] h (qI rv rh) := by
  refine T_of_G (L := 0) (by decide +kernel) rfl (Nat.le_of_ble_eq_true rfl) (g_lv (lv2 := [some (.ref a), some (.int p0), some (.int p1), some (.int p2)]) rfl ?_)
  exact g_X6_behind_0 hf
def F_X6_testHolds_99 (n : Nat)  (y0 : Int32) (h : gH) : Option (Int32 × gH) :=
  if y0 = 0 ∨ y0 = 1 then some (y0, h) else none
set_option maxRecDepth 20000 in
set_option maxHeartbeats 1600000 in
theorem g_X6_testHolds_99 {n d : Nat} : ∀ {y0 : Int32} {h : gH} {rh : gH} {rv : Int32}, F_X6_testHolds_99 n y0 h = some (rv, rh) → G M_X6_testHolds d 0 0 0 0 99 [none, none, none, none, none] [.int y0] h (qI rv rh) := by
  intro y0 h rh rv hf
  unfold F_X6_testHolds_99 at hf
  by_cases c1 : y0 = 0 ∨ y0 = 1
  · rw [if_pos c1] at hf
    obtain ⟨rfl, rfl⟩ := Prod.mk.inj (Option.some.inj hf)
    exact g_zret (ty := .boolean) dX6_testHolds_99 rfl (gZ_nar c1) ⟨rfl, rfl⟩ (Nat.le_of_ble_eq_true rfl) (Nat.le_of_ble_eq_true rfl)
  · rw [if_neg c1] at hf; cases hf
def F_X6_testHolds_87 (n : Nat)  (y0 : Int32) (h : gH) : Option (Int32 × gH) :=
  if y0 = 0 ∨ y0 = 1 then some (y0, h) else none
set_option maxRecDepth 20000 in
set_option maxHeartbeats 1600000 in
theorem g_X6_testHolds_87 {n d : Nat} : ∀ {y0 : Int32} {h : gH} {rh : gH} {rv : Int32}, F_X6_testHolds_87 n y0 h = some (rv, rh) → G M_X6_testHolds d 0 0 0 0 87 [none, none, none, none, none] [.int y0] h (qI rv rh) := by
  intro y0 h rh rv hf
  unfold F_X6_testHolds_87 at hf
  by_cases c1 : y0 = 0 ∨ y0 = 1
  · rw [if_pos c1] at hf
    obtain ⟨rfl, rfl⟩ := Prod.mk.inj (Option.some.inj hf)
    exact g_zret (ty := .boolean) dX6_testHolds_87 rfl (gZ_nar c1) ⟨rfl, rfl⟩ (Nat.le_of_ble_eq_true rfl) (Nat.le_of_ble_eq_true rfl)
  · rw [if_neg c1] at hf; cases hf
def F_X6_testHolds_75 (n : Nat)  (y0 : Int32) (h : gH) : Option (Int32 × gH) :=
  if y0 = 0 ∨ y0 = 1 then some (y0, h) else none
set_option maxRecDepth 20000 in
set_option maxHeartbeats 1600000 in
theorem g_X6_testHolds_75 {n d : Nat} : ∀ {y0 : Int32} {h : gH} {rh : gH} {rv : Int32}, F_X6_testHolds_75 n y0 h = some (rv, rh) → G M_X6_testHolds d 0 0 0 0 75 [none, none, none, none, none] [.int y0] h (qI rv rh) := by
  intro y0 h rh rv hf
  unfold F_X6_testHolds_75 at hf
  by_cases c1 : y0 = 0 ∨ y0 = 1
  · rw [if_pos c1] at hf
    obtain ⟨rfl, rfl⟩ := Prod.mk.inj (Option.some.inj hf)
    exact g_zret (ty := .boolean) dX6_testHolds_75 rfl (gZ_nar c1) ⟨rfl, rfl⟩ (Nat.le_of_ble_eq_true rfl) (Nat.le_of_ble_eq_true rfl)
  · rw [if_neg c1] at hf; cases hf
def F_X6_testHolds_26 (n : Nat)  (x1 : Int32) (y0 : Int32) (h : gH) : Option (Int32 × gH) :=
  if ((x1 >>> ((5 : Int32) &&& 31)) &&& (3 : Int32)) = (0 : Int32) then
  (if (x1 >>> ((7 : Int32) &&& 31)) ≤ y0 then
  (F_X6_testHolds_75 n (0 : Int32) h)
  else
  (F_X6_testHolds_75 n (1 : Int32) h))
  else if ((x1 >>> ((5 : Int32) &&& 31)) &&& (3 : Int32)) = (1 : Int32) then
  (if y0 = (x1 >>> ((7 : Int32) &&& 31)) then
  (F_X6_testHolds_87 n (1 : Int32) h)
  else
  (F_X6_testHolds_87 n (0 : Int32) h))
  else (if y0 ≤ (x1 >>> ((7 : Int32) &&& 31)) then
  (F_X6_testHolds_99 n (0 : Int32) h)
  else
  (F_X6_testHolds_99 n (1 : Int32) h))
set_option maxRecDepth 20000 in
set_option maxHeartbeats 1600000 in
theorem g_X6_testHolds_26 {n d : Nat} : ∀ {x1 : Int32} {y0 : Int32} {h : gH} {rh : gH} {rv : Int32}, F_X6_testHolds_26 n x1 y0 h = some (rv, rh) → G M_X6_testHolds d 0 0 0 0 26 [none, some (.int x1), none, none, none] [.int y0] h (qI rv rh) := by
  intro x1 y0 h rh rv hf
  unfold F_X6_testHolds_26 at hf
  refine g_istore_n dX6_testHolds_26 (by decide) (g_lvp (lv2 := [none, some (.int x1), none, some (.int y0), none]) (pc2 := 27) rfl rfl ?_)
  refine g_iload_n dX6_testHolds_27 rfl ?_
  refine g_bipush (v := (7 : Int32)) dX6_testHolds_28 (by decide) ?_
  refine g_ishr dX6_testHolds_30 ?_
  refine g_istore dX6_testHolds_31 (by decide) (g_lvp (lv2 := [none, some (.int x1), none, some (.int y0), some (.int (x1 >>> ((7 : Int32) &&& 31)))]) (pc2 := 33) rfl rfl ?_)
  refine g_iload_n dX6_testHolds_33 rfl ?_
  refine g_iconst (v := (5 : Int32)) dX6_testHolds_34 (by decide) ?_
  refine g_ishr dX6_testHolds_35 ?_
  refine g_iconst (v := (3 : Int32)) dX6_testHolds_36 (by decide) ?_
  refine g_iand dX6_testHolds_37 ?_
  by_cases c1 : ((x1 >>> ((5 : Int32) &&& 31)) &&& (3 : Int32)) = (0 : Int32)
  · rw [if_pos c1] at hf
    refine g_lswK (k := (0 : Int32)) (off := 26) (tgt := 64) dX6_testHolds_38 c1 (by decide) (by decide) (by decide) ?_
    refine g_iload_n dX6_testHolds_64 rfl ?_
    refine g_iload dX6_testHolds_65 rfl ?_
    refine g_icmp_ge (tgt := 74) dX6_testHolds_67 (by decide) (fun c2 => ?_) (fun c2 => ?_)
    · rw [if_pos c2] at hf
      refine g_iconst (v := (0 : Int32)) dX6_testHolds_74 (by decide) ?_
      refine g_weak (lv2 := [none, none, none, none, none]) (trivial) ?_
      exact g_X6_testHolds_75 hf
    · rw [if_neg c2] at hf
      refine g_iconst (v := (1 : Int32)) dX6_testHolds_70 (by decide) ?_
      refine g_goto (tgt := 75) dX6_testHolds_71 (by decide) ?_
      refine g_weak (lv2 := [none, none, none, none, none]) (trivial) ?_
      exact g_X6_testHolds_75 hf
  rw [if_neg c1] at hf
  by_cases c3 : ((x1 >>> ((5 : Int32) &&& 31)) &&& (3 : Int32)) = (1 : Int32)
  · rw [if_pos c3] at hf
    refine g_lswK (k := (1 : Int32)) (off := 38) (tgt := 76) dX6_testHolds_38 c3 (by decide) (by decide) (by decide) ?_
    refine g_iload_n dX6_testHolds_76 rfl ?_
    refine g_iload dX6_testHolds_77 rfl ?_
    refine g_icmp_ne (tgt := 86) dX6_testHolds_79 (by decide) (fun c4 => ?_) (fun c4 => ?_)
    · rw [if_neg c4] at hf
      refine g_iconst (v := (0 : Int32)) dX6_testHolds_86 (by decide) ?_
      refine g_weak (lv2 := [none, none, none, none, none]) (trivial) ?_
      exact g_X6_testHolds_87 hf
    · rw [if_pos c4] at hf
      refine g_iconst (v := (1 : Int32)) dX6_testHolds_82 (by decide) ?_
      refine g_goto (tgt := 87) dX6_testHolds_83 (by decide) ?_
      refine g_weak (lv2 := [none, none, none, none, none]) (trivial) ?_
      exact g_X6_testHolds_87 hf
  rw [if_neg c3] at hf
  refine g_lookup (off := 50) (tgt := 88) dX6_testHolds_38 (by decide) (by show Op.lookupswitch.offset [(0, 26), (1, 38)] 50 _ = _; rw [lv_osw c1 (by decide), lv_osw c3 (by decide)]; rfl) (by decide) ?_
  refine g_iload_n dX6_testHolds_88 rfl ?_
  refine g_iload dX6_testHolds_89 rfl ?_
  refine g_icmp_le (tgt := 98) dX6_testHolds_91 (by decide) (fun c5 => ?_) (fun c5 => ?_)
  · rw [if_pos c5] at hf
    refine g_iconst (v := (0 : Int32)) dX6_testHolds_98 (by decide) ?_
    refine g_weak (lv2 := [none, none, none, none, none]) (trivial) ?_
    exact g_X6_testHolds_99 hf
  · rw [if_neg c5] at hf
    refine g_iconst (v := (1 : Int32)) dX6_testHolds_94 (by decide) ?_
    refine g_goto (tgt := 99) dX6_testHolds_95 (by decide) ?_
    refine g_weak (lv2 := [none, none, none, none, none]) (trivial) ?_
    exact g_X6_testHolds_99 hf
def F_X6_testHolds_0 (n : Nat)  (x0 : Nat) (x1 : Int32) (h : gH) : Option (Int32 × gH) :=
  (gR h x0 6 7).bind fun v1 =>
  (lenI h v1).bind fun v3 =>
  if v3 ≤ ((x1 >>> ((2 : Int32) &&& 31)) &&& (7 : Int32)) then
  (F_X6_testHolds_26 n x1 (0 : Int32) h)
  else
  ((gR h x0 6 7).bind fun v6 =>
  (aI h v6 ((x1 >>> ((2 : Int32) &&& 31)) &&& (7 : Int32))).bind fun v8 =>
  F_X6_testHolds_26 n x1 v8 h)
set_option maxRecDepth 20000 in
set_option maxHeartbeats 1600000 in
theorem g_X6_testHolds_0 {n d : Nat} : ∀ {x0 : Nat} {x1 : Int32} {h : gH} {rh : gH} {rv : Int32}, F_X6_testHolds_0 n x0 x1 h = some (rv, rh) → G M_X6_testHolds d 0 0 0 0 0 [some (.ref x0), some (.int x1), none, none, none] [] h (qI rv rh) := by
  intro x0 x1 h rh rv hf
  unfold F_X6_testHolds_0 at hf
  refine g_iload_n dX6_testHolds_0 rfl ?_
  refine g_iconst (v := (2 : Int32)) dX6_testHolds_1 (by decide) ?_
  refine g_ishr dX6_testHolds_2 ?_
  refine g_bipush (v := (7 : Int32)) dX6_testHolds_3 (by decide) ?_
  refine g_iand dX6_testHolds_5 ?_
  refine g_istore_n dX6_testHolds_6 (by decide) (g_lvp (lv2 := [some (.ref x0), some (.int x1), some (.int ((x1 >>> ((2 : Int32) &&& 31)) &&& (7 : Int32))), none, none]) (pc2 := 7) rfl rfl ?_)
  refine g_iload_n dX6_testHolds_7 rfl ?_
  refine g_aload_n dX6_testHolds_8 rfl ?_
  replace hf := Option.bind_eq_some_iff.mp hf
  obtain ⟨v1, q2, hf⟩ := hf
  refine g_gR f_X6_33 dX6_testHolds_9 q2 ?_
  replace hf := Option.bind_eq_some_iff.mp hf
  obtain ⟨v3, q4, hf⟩ := hf
  refine g_lenI dX6_testHolds_12 q4 ?_
  refine g_icmp_ge (tgt := 25) dX6_testHolds_13 (by decide) (fun c5 => ?_) (fun c5 => ?_)
  · rw [if_pos c5] at hf
    refine g_iconst (v := (0 : Int32)) dX6_testHolds_25 (by decide) ?_
    refine g_weak (lv2 := [none, some (.int x1), none, none, none]) (And.intro rfl (trivial)) ?_
    exact g_X6_testHolds_26 hf
  · rw [if_neg c5] at hf
    refine g_aload_n dX6_testHolds_16 rfl ?_
    replace hf := Option.bind_eq_some_iff.mp hf
    obtain ⟨v6, q7, hf⟩ := hf
    refine g_gR f_X6_33 dX6_testHolds_17 q7 ?_
    refine g_iload_n dX6_testHolds_20 rfl ?_
    replace hf := Option.bind_eq_some_iff.mp hf
    obtain ⟨v8, q9, hf⟩ := hf
    refine g_aI dX6_testHolds_21 q9 ?_
    refine g_goto (tgt := 26) dX6_testHolds_22 (by decide) ?_
    refine g_weak (lv2 := [none, some (.int x1), none, none, none]) (And.intro rfl (trivial)) ?_
    exact g_X6_testHolds_26 hf
def F_X6_testHolds (n : Nat) (a : Nat) (p0 : Int32) (h : gH) : Option (Int32 × gH) := F_X6_testHolds_0 n  a p0 h
theorem t_X6_testHolds {n d : Nat} {a : Nat} {p0 : Int32} {h rh : gH} {rv : Int32} (hf : F_X6_testHolds n a p0 h = some (rv, rh)) : T M_X6_testHolds d 0 0 [.ref a, .int p0] h (qI rv rh) := by
  refine T_of_G (L := 3) (by decide +kernel) rfl (Nat.le_of_ble_eq_true rfl) (g_lv (lv2 := [some (.ref a), some (.int p0), none, none, none]) rfl ?_)
  exact g_X6_testHolds_0 hf
def F_X6_holds_134 (n : Nat)  (y0 : Int32) (h : gH) : Option (Int32 × gH) :=
  if y0 = 0 ∨ y0 = 1 then some (y0, h) else none
set_option maxRecDepth 20000 in
set_option maxHeartbeats 1600000 in
theorem g_X6_holds_134 {n d : Nat} : ∀ {y0 : Int32} {h : gH} {rh : gH} {rv : Int32}, F_X6_holds_134 n y0 h = some (rv, rh) → G M_X6_holds (d + 1) 0 0 0 0 134 [none, none, none, none, none, none, none] [.int y0] h (qI rv rh) := by
  intro y0 h rh rv hf
  unfold F_X6_holds_134 at hf
  by_cases c1 : y0 = 0 ∨ y0 = 1
  · rw [if_pos c1] at hf
    obtain ⟨rfl, rfl⟩ := Prod.mk.inj (Option.some.inj hf)
    exact g_zret (ty := .boolean) dX6_holds_134 rfl (gZ_nar c1) ⟨rfl, rfl⟩ (Nat.le_of_ble_eq_true rfl) (Nat.le_of_ble_eq_true rfl)
  · rw [if_neg c1] at hf; cases hf
def F_X6_holds_121 (n : Nat)  (x3 : Int64) (h : gH) : Option (Int32 × gH) :=
  if (lg_cmp (x3 &&& (1 : Int64)) (1 : Int64)) = 0 then
  (F_X6_holds_134 n (1 : Int32) h)
  else
  (F_X6_holds_134 n (0 : Int32) h)
set_option maxRecDepth 20000 in
set_option maxHeartbeats 1600000 in
theorem g_X6_holds_121 {n d : Nat} : ∀ {x3 : Int64} {h : gH} {rh : gH} {rv : Int32}, F_X6_holds_121 n x3 h = some (rv, rh) → G M_X6_holds (d + 1) 0 0 0 0 121 [none, none, none, some (.long x3), none, none, none] [] h (qI rv rh) := by
  intro x3 h rh rv hf
  unfold F_X6_holds_121 at hf
  refine g_lload_n dX6_holds_121 rfl ?_
  refine g_lconst (v := (1 : Int64)) dX6_holds_122 (by decide) ?_
  refine g_land dX6_holds_123 ?_
  refine g_lconst (v := (1 : Int64)) dX6_holds_124 (by decide) ?_
  refine g_lcmp dX6_holds_125 ?_
  refine g_if_ne (tgt := 133) dX6_holds_126 (by decide) (fun c1 => ?_) (fun c1 => ?_)
  · rw [if_neg c1] at hf
    refine g_iconst (v := (0 : Int32)) dX6_holds_133 (by decide) ?_
    refine g_weak (lv2 := [none, none, none, none, none, none, none]) (trivial) ?_
    exact g_X6_holds_134 hf
  · rw [if_pos c1] at hf
    refine g_iconst (v := (1 : Int32)) dX6_holds_129 (by decide) ?_
    refine g_goto (tgt := 134) dX6_holds_130 (by decide) ?_
    refine g_weak (lv2 := [none, none, none, none, none, none, none]) (trivial) ?_
    exact g_X6_holds_134 hf
def F_X6_holds_115 (n : Nat) (k5 : Nat → Int32 → Int64 → Int32 → gH → Option (Int32 × gH)) (x0 : Nat) (x2 : Int32) (x3 : Int64) (x5 : Int32) (h : gH) : Option (Int32 × gH) :=
  k5 x0 x2 x3 (x5 + (1 : Int32)) h
set_option maxRecDepth 20000 in
set_option maxHeartbeats 1600000 in
theorem g_X6_holds_115 {n d : Nat} {k5 : Nat → Int32 → Int64 → Int32 → gH → Option (Int32 × gH)} (t5 : ∀ {x0 : Nat} {x2 : Int32} {x3 : Int64} {x5 : Int32} {h : gH} {rh : gH} {rv : Int32}, k5 x0 x2 x3 x5 h = some (rv, rh) → G M_X6_holds (d + 1) 0 0 0 0 5 [some (.ref x0), none, some (.int x2), some (.long x3), none, some (.int x5), none] [] h (qI rv rh)) : ∀ {x0 : Nat} {x2 : Int32} {x3 : Int64} {x5 : Int32} {h : gH} {rh : gH} {rv : Int32}, F_X6_holds_115 n k5 x0 x2 x3 x5 h = some (rv, rh) → G M_X6_holds (d + 1) 0 0 0 0 115 [some (.ref x0), none, some (.int x2), some (.long x3), none, some (.int x5), none] [] h (qI rv rh) := by
  intro x0 x2 x3 x5 h rh rv hf
  unfold F_X6_holds_115 at hf
  refine g_iinc2 (w := (1 : Int32)) dX6_holds_115 (by decide) rfl (by decide) (g_lvp (lv2 := [some (.ref x0), none, some (.int x2), some (.long x3), none, some (.int (x5 + (1 : Int32))), none]) (pc2 := 118) rfl rfl ?_)
  refine g_goto (tgt := 5) dX6_holds_118 (by decide) ?_
  exact t5 hf
def F_X6_holds_112 (n : Nat) (k5 : Nat → Int32 → Int64 → Int32 → gH → Option (Int32 × gH)) (x0 : Nat) (x2 : Int32) (x5 : Int32) (y0 : Int64) (y1 : Int32) (h : gH) : Option (Int32 × gH) :=
  F_X6_holds_115 n (k5) x0 x2 (y0 ||| y1.toInt64) x5 h
set_option maxRecDepth 20000 in
set_option maxHeartbeats 1600000 in
theorem g_X6_holds_112 {n d : Nat} {k5 : Nat → Int32 → Int64 → Int32 → gH → Option (Int32 × gH)} (t5 : ∀ {x0 : Nat} {x2 : Int32} {x3 : Int64} {x5 : Int32} {h : gH} {rh : gH} {rv : Int32}, k5 x0 x2 x3 x5 h = some (rv, rh) → G M_X6_holds (d + 1) 0 0 0 0 5 [some (.ref x0), none, some (.int x2), some (.long x3), none, some (.int x5), none] [] h (qI rv rh)) : ∀ {x0 : Nat} {x2 : Int32} {x5 : Int32} {y0 : Int64} {y1 : Int32} {h : gH} {rh : gH} {rv : Int32}, F_X6_holds_112 n k5 x0 x2 x5 y0 y1 h = some (rv, rh) → G M_X6_holds (d + 1) 0 0 0 0 112 [some (.ref x0), none, some (.int x2), none, none, some (.int x5), none] [.int y1, .long y0] h (qI rv rh) := by
  intro x0 x2 x5 y0 y1 h rh rv hf
  unfold F_X6_holds_112 at hf
  refine g_i2l dX6_holds_112 rfl ?_
  refine g_lor dX6_holds_113 ?_
  refine g_lstore_n dX6_holds_114 (by decide) (g_lvp (lv2 := [some (.ref x0), none, some (.int x2), some (.long (y0 ||| y1.toInt64)), none, some (.int x5), none]) (pc2 := 115) rfl rfl ?_)
  exact g_X6_holds_115 t5 hf
def F_X6_holds_5 (n : Nat)  : Nat → Nat → Int32 → Int64 → Int32 → gH → Option (Int32 × gH)
  | 0, _, _, _, _, _ => none
  | m + 1, x0, x2, x3, x5, h => if x5 < 0 then
  (F_X6_holds_121 n x3 h)
  else
  (if x2 ≤ x5 then
  (F_X6_holds_121 n x3 h)
  else
  (if (120 : Int32) ≤ x5 then
  (F_X6_holds_121 n x3 h)
  else
  ((gR h x0 6 6).bind fun v4 =>
  (aI h v4 x5).bind fun v6 =>
  if (v6 &&& (3 : Int32)) = (1 : Int32) then
  (F_X6_holds_115 n (F_X6_holds_5 n m) x0 x2 (x3 ^^^ (1 : Int64)) x5 h)
  else if (v6 &&& (3 : Int32)) = (2 : Int32) then
  (F_X6_holds_115 n (F_X6_holds_5 n m) x0 x2 ((x3 >>> ((1 : Int32).toInt64 &&& 63)) &&& (x3 ||| (-2 : Int64))) x5 h)
  else if (v6 &&& (3 : Int32)) = (3 : Int32) then
  (F_X6_holds_115 n (F_X6_holds_5 n m) x0 x2 ((x3 >>> ((1 : Int32).toInt64 &&& 63)) ||| (x3 &&& (1 : Int64))) x5 h)
  else ((gO h x0 6).bind fun f11 =>
  gB (F_X6_testHolds n x0 v6 h) fun v15 h13 =>
  if v15 = 0 then
  (F_X6_holds_112 n (F_X6_holds_5 n m) x0 x2 x5 (x3 <<< ((1 : Int32).toInt64 &&& 63)) (0 : Int32) h13)
  else
  (F_X6_holds_112 n (F_X6_holds_5 n m) x0 x2 x5 (x3 <<< ((1 : Int32).toInt64 &&& 63)) (1 : Int32) h13)))))
set_option maxRecDepth 20000 in
set_option maxHeartbeats 1600000 in
theorem g_X6_holds_5 {n d : Nat} : ∀ {m : Nat} {x0 : Nat} {x2 : Int32} {x3 : Int64} {x5 : Int32} {h : gH} {rh : gH} {rv : Int32}, F_X6_holds_5 n m x0 x2 x3 x5 h = some (rv, rh) → G M_X6_holds (d + 1) 0 0 0 0 5 [some (.ref x0), none, some (.int x2), some (.long x3), none, some (.int x5), none] [] h (qI rv rh) := by
  intro m
  induction m with
  | zero => intro x0 x2 x3 x5 h rh rv hf; cases hf
  | succ m t5 =>
    intro x0 x2 x3 x5 h rh rv hf
    unfold F_X6_holds_5 at hf
    refine g_iload dX6_holds_5 rfl ?_
    refine g_if_lt (tgt := 121) dX6_holds_7 (by decide) (fun c1 => ?_) (fun c1 => ?_)
    · rw [if_pos c1] at hf
      refine g_weak (lv2 := [none, none, none, some (.long x3), none, none, none]) (And.intro rfl (trivial)) ?_
      exact g_X6_holds_121 hf
    · rw [if_neg c1] at hf
      refine g_iload dX6_holds_10 rfl ?_
      refine g_iload_n dX6_holds_12 rfl ?_
      refine g_icmp_ge (tgt := 121) dX6_holds_13 (by decide) (fun c2 => ?_) (fun c2 => ?_)
      · rw [if_pos c2] at hf
        refine g_weak (lv2 := [none, none, none, some (.long x3), none, none, none]) (And.intro rfl (trivial)) ?_
        exact g_X6_holds_121 hf
      · rw [if_neg c2] at hf
        refine g_iload dX6_holds_16 rfl ?_
        refine g_bipush (v := (120 : Int32)) dX6_holds_18 (by decide) ?_
        refine g_icmp_ge (tgt := 121) dX6_holds_20 (by decide) (fun c3 => ?_) (fun c3 => ?_)
        · rw [if_pos c3] at hf
          refine g_weak (lv2 := [none, none, none, some (.long x3), none, none, none]) (And.intro rfl (trivial)) ?_
          exact g_X6_holds_121 hf
        · rw [if_neg c3] at hf
          refine g_aload_n dX6_holds_23 rfl ?_
          replace hf := Option.bind_eq_some_iff.mp hf
          obtain ⟨v4, q5, hf⟩ := hf
          refine g_gR f_X6_30 dX6_holds_24 q5 ?_
          refine g_iload dX6_holds_27 rfl ?_
          replace hf := Option.bind_eq_some_iff.mp hf
          obtain ⟨v6, q7, hf⟩ := hf
          refine g_aI dX6_holds_29 q7 ?_
          refine g_istore dX6_holds_30 (by decide) (g_lvp (lv2 := [some (.ref x0), none, some (.int x2), some (.long x3), none, some (.int x5), some (.int v6)]) (pc2 := 32) rfl rfl ?_)
          refine g_iload dX6_holds_32 rfl ?_
          refine g_iconst (v := (3 : Int32)) dX6_holds_34 (by decide) ?_
          refine g_iand dX6_holds_35 ?_
          by_cases c8 : (v6 &&& (3 : Int32)) = (1 : Int32)
          · rw [if_pos c8] at hf
            refine g_tswK (k := (1 : Int32)) (off := 28) (tgt := 64) dX6_holds_36 c8 (by decide) (by decide) (by decide) (by decide) ?_
            refine g_lload_n dX6_holds_64 rfl ?_
            refine g_lconst (v := (1 : Int64)) dX6_holds_65 (by decide) ?_
            refine g_lxor dX6_holds_66 ?_
            refine g_lstore_n dX6_holds_67 (by decide) (g_lvp (lv2 := [some (.ref x0), none, some (.int x2), some (.long (x3 ^^^ (1 : Int64))), none, some (.int x5), some (.int v6)]) (pc2 := 68) rfl rfl ?_)
            refine g_goto (tgt := 115) dX6_holds_68 (by decide) ?_
            refine g_weak (lv2 := [some (.ref x0), none, some (.int x2), some (.long (x3 ^^^ (1 : Int64))), none, some (.int x5), none]) (And.intro rfl (And.intro rfl (And.intro rfl (And.intro rfl (trivial))))) ?_
            exact g_X6_holds_115 t5 hf
          rw [if_neg c8] at hf
          by_cases c9 : (v6 &&& (3 : Int32)) = (2 : Int32)
          · rw [if_pos c9] at hf
            refine g_tswK (k := (2 : Int32)) (off := 35) (tgt := 71) dX6_holds_36 c9 (by decide) (by decide) (by decide) (by decide) ?_
            refine g_lload_n dX6_holds_71 rfl ?_
            refine g_iconst (v := (1 : Int32)) dX6_holds_72 (by decide) ?_
            refine g_lshr dX6_holds_73 rfl ?_
            refine g_lload_n dX6_holds_74 rfl ?_
            refine g_ldc2 (v := (-2 : Int64)) (gt_3 (List.mem_of_getElem? (i := 64) (by decide +kernel)) (by decide +kernel)) dX6_holds_75 ?_
            refine g_lor dX6_holds_78 ?_
            refine g_land dX6_holds_79 ?_
            refine g_lstore_n dX6_holds_80 (by decide) (g_lvp (lv2 := [some (.ref x0), none, some (.int x2), some (.long ((x3 >>> ((1 : Int32).toInt64 &&& 63)) &&& (x3 ||| (-2 : Int64)))), none, some (.int x5), some (.int v6)]) (pc2 := 81) rfl rfl ?_)
            refine g_goto (tgt := 115) dX6_holds_81 (by decide) ?_
            refine g_weak (lv2 := [some (.ref x0), none, some (.int x2), some (.long ((x3 >>> ((1 : Int32).toInt64 &&& 63)) &&& (x3 ||| (-2 : Int64)))), none, some (.int x5), none]) (And.intro rfl (And.intro rfl (And.intro rfl (And.intro rfl (trivial))))) ?_
            exact g_X6_holds_115 t5 hf
          rw [if_neg c9] at hf
          by_cases c10 : (v6 &&& (3 : Int32)) = (3 : Int32)
          · rw [if_pos c10] at hf
            refine g_tswK (k := (3 : Int32)) (off := 48) (tgt := 84) dX6_holds_36 c10 (by decide) (by decide) (by decide) (by decide) ?_
            refine g_lload_n dX6_holds_84 rfl ?_
            refine g_iconst (v := (1 : Int32)) dX6_holds_85 (by decide) ?_
            refine g_lshr dX6_holds_86 rfl ?_
            refine g_lload_n dX6_holds_87 rfl ?_
            refine g_lconst (v := (1 : Int64)) dX6_holds_88 (by decide) ?_
            refine g_land dX6_holds_89 ?_
            refine g_lor dX6_holds_90 ?_
            refine g_lstore_n dX6_holds_91 (by decide) (g_lvp (lv2 := [some (.ref x0), none, some (.int x2), some (.long ((x3 >>> ((1 : Int32).toInt64 &&& 63)) ||| (x3 &&& (1 : Int64)))), none, some (.int x5), some (.int v6)]) (pc2 := 92) rfl rfl ?_)
            refine g_goto (tgt := 115) dX6_holds_92 (by decide) ?_
            refine g_weak (lv2 := [some (.ref x0), none, some (.int x2), some (.long ((x3 >>> ((1 : Int32).toInt64 &&& 63)) ||| (x3 &&& (1 : Int64)))), none, some (.int x5), none]) (And.intro rfl (And.intro rfl (And.intro rfl (And.intro rfl (trivial))))) ?_
            exact g_X6_holds_115 t5 hf
          rw [if_neg c10] at hf
          have zc8 : ((v6 &&& (3 : Int32))).toInt ≠ 1 := fun e => c8 (Int32.toInt_inj.mp (e.trans (by decide)))
          have zc9 : ((v6 &&& (3 : Int32))).toInt ≠ 2 := fun e => c9 (Int32.toInt_inj.mp (e.trans (by decide)))
          have zc10 : ((v6 &&& (3 : Int32))).toInt ≠ 3 := fun e => c10 (Int32.toInt_inj.mp (e.trans (by decide)))
          refine g_tableOut (tgt := 95) dX6_holds_36 (by omega) (by decide) ?_
          refine g_lload_n dX6_holds_95 rfl ?_
          refine g_iconst (v := (1 : Int32)) dX6_holds_96 (by decide) ?_
          refine g_lshl dX6_holds_97 rfl ?_
          refine g_aload_n dX6_holds_98 rfl ?_
          refine g_iload dX6_holds_99 rfl ?_
          replace hf := Option.bind_eq_some_iff.mp hf
          obtain ⟨f11, q12, hf⟩ := hf
          replace hf := gB_of hf
          obtain ⟨v15, h13, q14, hf⟩ := hf
          refine g_callV (as := [.int v6]) (mc1 := 0) (ms1 := 0) s_X6_102_X6_testHolds_6 dX6_holds_101 (gO_of q12) rfl (Nat.le_of_ble_eq_true rfl) (Nat.le_of_ble_eq_true rfl) (Nat.le_of_ble_eq_true rfl) (t_X6_testHolds (d := d + 0) q14) (fun r9 h9 q9 => ?_)
          obtain ⟨rfl, rfl⟩ := q9
          refine g_stp (st2 := [.int v15, .long (x3 <<< ((1 : Int32).toInt64 &&& 63))]) (pc2 := 104) (kc2 := 0) (kn2 := 0) rfl rfl rfl rfl ?_
          refine g_if_eq (tgt := 111) dX6_holds_104 (by decide) (fun c16 => ?_) (fun c16 => ?_)
          · rw [if_pos c16] at hf
            refine g_iconst (v := (0 : Int32)) dX6_holds_111 (by decide) ?_
            refine g_weak (lv2 := [some (.ref x0), none, some (.int x2), none, none, some (.int x5), none]) (And.intro rfl (And.intro rfl (And.intro rfl (trivial)))) ?_
            exact g_X6_holds_112 t5 hf
          · rw [if_neg c16] at hf
            refine g_iconst (v := (1 : Int32)) dX6_holds_107 (by decide) ?_
            refine g_goto (tgt := 112) dX6_holds_108 (by decide) ?_
            refine g_weak (lv2 := [some (.ref x0), none, some (.int x2), none, none, some (.int x5), none]) (And.intro rfl (And.intro rfl (And.intro rfl (trivial)))) ?_
            exact g_X6_holds_112 t5 hf
def F_X6_holds_0 (n : Nat)  (x0 : Nat) (x1 : Int32) (x2 : Int32) (h : gH) : Option (Int32 × gH) :=
  F_X6_holds_5 n n x0 x2 (0 : Int64) x1 h
set_option maxRecDepth 20000 in
set_option maxHeartbeats 1600000 in
theorem g_X6_holds_0 {n d : Nat} : ∀ {x0 : Nat} {x1 : Int32} {x2 : Int32} {h : gH} {rh : gH} {rv : Int32}, F_X6_holds_0 n x0 x1 x2 h = some (rv, rh) → G M_X6_holds (d + 1) 0 0 0 0 0 [some (.ref x0), some (.int x1), some (.int x2), none, none, none, none] [] h (qI rv rh) := by
  intro x0 x1 x2 h rh rv hf
  unfold F_X6_holds_0 at hf
  refine g_lconst (v := (0 : Int64)) dX6_holds_0 (by decide) ?_
  refine g_lstore_n dX6_holds_1 (by decide) (g_lvp (lv2 := [some (.ref x0), some (.int x1), some (.int x2), some (.long (0 : Int64)), none, none, none]) (pc2 := 2) rfl rfl ?_)
  refine g_iload_n dX6_holds_2 rfl ?_
  refine g_istore dX6_holds_3 (by decide) (g_lvp (lv2 := [some (.ref x0), some (.int x1), some (.int x2), some (.long (0 : Int64)), none, some (.int x1), none]) (pc2 := 5) rfl rfl ?_)
  refine g_weak (lv2 := [some (.ref x0), none, some (.int x2), some (.long (0 : Int64)), none, some (.int x1), none]) (And.intro rfl (And.intro rfl (And.intro rfl (And.intro rfl (trivial))))) ?_
  exact g_X6_holds_5 hf
def F_X6_holds (n : Nat) (a : Nat) (p0 : Int32) (p1 : Int32) (h : gH) : Option (Int32 × gH) := F_X6_holds_0 n  a p0 p1 h
theorem t_X6_holds {n d : Nat} {a : Nat} {p0 : Int32} {p1 : Int32} {h rh : gH} {rv : Int32} (hf : F_X6_holds n a p0 p1 h = some (rv, rh)) : T M_X6_holds (d + 1) 0 0 [.ref a, .int p0, .int p1] h (qI rv rh) := by
  refine T_of_G (L := 4) (by decide +kernel) rfl (Nat.le_of_ble_eq_true rfl) (g_lv (lv2 := [some (.ref a), some (.int p0), some (.int p1), none, none, none, none]) rfl ?_)
  exact g_X6_holds_0 hf
def F_X6_tell_0 (n : Nat)  (x0 : Nat) (x1 : Int32) (x2 : Int32) (x3 : Int32) (h : gH) : Option (gH) :=
  (gO h x0 6).bind fun f1 =>
  gB (F_X6_has n x0 x1 h) fun v5 h3 =>
  if v5 = 0 then
  (some h3)
  else
  ((gR h3 x0 6 7).bind fun v7 =>
  (sI h3 v7 (0 : Int32) x1).bind fun h9 =>
  (gR h9 x0 6 7).bind fun v11 =>
  (sI h9 v11 (1 : Int32) x2).bind fun h13 =>
  (gR h13 x0 6 7).bind fun v15 =>
  (gR h13 x0 6 1).bind fun v17 =>
  (aI h13 v17 x1).bind fun v19 =>
  (sI h13 v15 (2 : Int32) (v19 + (5 : Int32))).bind fun h21 =>
  (gR h21 x0 6 7).bind fun v23 =>
  (gR h21 x0 6 2).bind fun v25 =>
  (aI h21 v25 x1).bind fun v27 =>
  (sI h21 v23 (3 : Int32) (v27 + (5 : Int32))).bind fun h29 =>
  (gR h29 x0 6 7).bind fun v31 =>
  (sI h29 v31 (4 : Int32) x3).bind fun h33 =>
  some h33)
set_option maxRecDepth 20000 in
set_option maxHeartbeats 1600000 in
theorem g_X6_tell_0 {n d : Nat} : ∀ {x0 : Nat} {x1 : Int32} {x2 : Int32} {x3 : Int32} {h : gH} {rh : gH}, F_X6_tell_0 n x0 x1 x2 x3 h = some rh → G M_X6_tell (d + 1) 0 0 0 0 0 [some (.ref x0), some (.int x1), some (.int x2), some (.int x3)] [] h (qV rh) := by
  intro x0 x1 x2 x3 h rh hf
  unfold F_X6_tell_0 at hf
  refine g_aload_n dX6_tell_0 rfl ?_
  refine g_iload_n dX6_tell_1 rfl ?_
  replace hf := Option.bind_eq_some_iff.mp hf
  obtain ⟨f1, q2, hf⟩ := hf
  replace hf := gB_of hf
  obtain ⟨v5, h3, q4, hf⟩ := hf
  refine g_callV (as := [.int x1]) (mc1 := 0) (ms1 := 0) s_X6_78_X6_has_6 dX6_tell_2 (gO_of q2) rfl (Nat.le_of_ble_eq_true rfl) (Nat.le_of_ble_eq_true rfl) (Nat.le_of_ble_eq_true rfl) (t_X6_has (d := d + 0) q4) (fun r9 h9 q9 => ?_)
  obtain ⟨rfl, rfl⟩ := q9
  refine g_stp (st2 := [.int v5]) (pc2 := 5) (kc2 := 0) (kn2 := 0) rfl rfl rfl rfl ?_
  refine g_if_ne (tgt := 9) dX6_tell_5 (by decide) (fun c6 => ?_) (fun c6 => ?_)
  · rw [if_neg c6] at hf
    refine g_aload_n dX6_tell_9 rfl ?_
    replace hf := Option.bind_eq_some_iff.mp hf
    obtain ⟨v7, q8, hf⟩ := hf
    refine g_gR f_X6_33 dX6_tell_10 q8 ?_
    refine g_iconst (v := (0 : Int32)) dX6_tell_13 (by decide) ?_
    refine g_iload_n dX6_tell_14 rfl ?_
    replace hf := Option.bind_eq_some_iff.mp hf
    obtain ⟨h9, q10, hf⟩ := hf
    refine g_sI dX6_tell_15 q10 ?_
    refine g_aload_n dX6_tell_16 rfl ?_
    replace hf := Option.bind_eq_some_iff.mp hf
    obtain ⟨v11, q12, hf⟩ := hf
    refine g_gR f_X6_33 dX6_tell_17 q12 ?_
    refine g_iconst (v := (1 : Int32)) dX6_tell_20 (by decide) ?_
    refine g_iload_n dX6_tell_21 rfl ?_
    replace hf := Option.bind_eq_some_iff.mp hf
    obtain ⟨h13, q14, hf⟩ := hf
    refine g_sI dX6_tell_22 q14 ?_
    refine g_aload_n dX6_tell_23 rfl ?_
    replace hf := Option.bind_eq_some_iff.mp hf
    obtain ⟨v15, q16, hf⟩ := hf
    refine g_gR f_X6_33 dX6_tell_24 q16 ?_
    refine g_iconst (v := (2 : Int32)) dX6_tell_27 (by decide) ?_
    refine g_aload_n dX6_tell_28 rfl ?_
    replace hf := Option.bind_eq_some_iff.mp hf
    obtain ⟨v17, q18, hf⟩ := hf
    refine g_gR f_X6_15 dX6_tell_29 q18 ?_
    refine g_iload_n dX6_tell_32 rfl ?_
    replace hf := Option.bind_eq_some_iff.mp hf
    obtain ⟨v19, q20, hf⟩ := hf
    refine g_aI dX6_tell_33 q20 ?_
    refine g_iconst (v := (5 : Int32)) dX6_tell_34 (by decide) ?_
    refine g_iadd dX6_tell_35 ?_
    replace hf := Option.bind_eq_some_iff.mp hf
    obtain ⟨h21, q22, hf⟩ := hf
    refine g_sI dX6_tell_36 q22 ?_
    refine g_aload_n dX6_tell_37 rfl ?_
    replace hf := Option.bind_eq_some_iff.mp hf
    obtain ⟨v23, q24, hf⟩ := hf
    refine g_gR f_X6_33 dX6_tell_38 q24 ?_
    refine g_iconst (v := (3 : Int32)) dX6_tell_41 (by decide) ?_
    refine g_aload_n dX6_tell_42 rfl ?_
    replace hf := Option.bind_eq_some_iff.mp hf
    obtain ⟨v25, q26, hf⟩ := hf
    refine g_gR f_X6_18 dX6_tell_43 q26 ?_
    refine g_iload_n dX6_tell_46 rfl ?_
    replace hf := Option.bind_eq_some_iff.mp hf
    obtain ⟨v27, q28, hf⟩ := hf
    refine g_aI dX6_tell_47 q28 ?_
    refine g_iconst (v := (5 : Int32)) dX6_tell_48 (by decide) ?_
    refine g_iadd dX6_tell_49 ?_
    replace hf := Option.bind_eq_some_iff.mp hf
    obtain ⟨h29, q30, hf⟩ := hf
    refine g_sI dX6_tell_50 q30 ?_
    refine g_aload_n dX6_tell_51 rfl ?_
    replace hf := Option.bind_eq_some_iff.mp hf
    obtain ⟨v31, q32, hf⟩ := hf
    refine g_gR f_X6_33 dX6_tell_52 q32 ?_
    refine g_iconst (v := (4 : Int32)) dX6_tell_55 (by decide) ?_
    refine g_iload_n dX6_tell_56 rfl ?_
    replace hf := Option.bind_eq_some_iff.mp hf
    obtain ⟨h33, q34, hf⟩ := hf
    refine g_sI dX6_tell_57 q34 ?_
    obtain rfl := Option.some.inj hf
    exact g_vret dX6_tell_58 rfl ⟨rfl, rfl⟩ (Nat.le_of_ble_eq_true rfl) (Nat.le_of_ble_eq_true rfl)
  · rw [if_pos c6] at hf
    obtain rfl := Option.some.inj hf
    exact g_vret dX6_tell_8 rfl ⟨rfl, rfl⟩ (Nat.le_of_ble_eq_true rfl) (Nat.le_of_ble_eq_true rfl)
def F_X6_tell (n : Nat) (a : Nat) (p0 : Int32) (p1 : Int32) (p2 : Int32) (h : gH) : Option (gH) := F_X6_tell_0 n  a p0 p1 p2 h
theorem t_X6_tell {n d : Nat} {a : Nat} {p0 : Int32} {p1 : Int32} {p2 : Int32} {h rh : gH} (hf : F_X6_tell n a p0 p1 p2 h = some rh) : T M_X6_tell (d + 1) 0 0 [.ref a, .int p0, .int p1, .int p2] h (qV rh) := by
  refine T_of_G (L := 0) (by decide +kernel) rfl (Nat.le_of_ble_eq_true rfl) (g_lv (lv2 := [some (.ref a), some (.int p0), some (.int p1), some (.int p2)]) rfl ?_)
  exact g_X6_tell_0 hf
def F_X6_speed_108 (n : Nat)  (x0 : Nat) (x1 : Int32) (x4 : Int32) (h : gH) : Option (Int32 × gH) :=
  (gR h x0 6 3).bind fun v1 =>
  (aI h v1 x1).bind fun v3 =>
  some ((gmax (1 : Int32) (gmin v3 x4)), h)
set_option maxRecDepth 20000 in
set_option maxHeartbeats 1600000 in
theorem g_X6_speed_108 {n d : Nat} : ∀ {x0 : Nat} {x1 : Int32} {x4 : Int32} {h : gH} {rh : gH} {rv : Int32}, F_X6_speed_108 n x0 x1 x4 h = some (rv, rh) → G M_X6_speed (d + 2) 0 0 0 0 108 [some (.ref x0), some (.int x1), none, none, some (.int x4), none, none] [] h (qI rv rh) := by
  intro x0 x1 x4 h rh rv hf
  unfold F_X6_speed_108 at hf
  refine g_iconst (v := (1 : Int32)) dX6_speed_108 (by decide) ?_
  refine g_aload_n dX6_speed_109 rfl ?_
  replace hf := Option.bind_eq_some_iff.mp hf
  obtain ⟨v1, q2, hf⟩ := hf
  refine g_gR f_X6_21 dX6_speed_110 q2 ?_
  refine g_iload_n dX6_speed_113 rfl ?_
  replace hf := Option.bind_eq_some_iff.mp hf
  obtain ⟨v3, q4, hf⟩ := hf
  refine g_aI dX6_speed_114 q4 ?_
  refine g_iload dX6_speed_115 rfl ?_
  refine g_min m_X6_90 m_min.1 m_min.2.1 m_min.2.2 dX6_speed_117 (Nat.le_of_ble_eq_true rfl) (Nat.le_of_ble_eq_true rfl) (Nat.le_of_ble_eq_true rfl) ?_
  refine g_st (st2 := [.int (gmin v3 x4), .int (1 : Int32)]) rfl ?_
  refine g_max m_X6_68 m_max.1 m_max.2.1 m_max.2.2 dX6_speed_120 (Nat.le_of_ble_eq_true rfl) (Nat.le_of_ble_eq_true rfl) (Nat.le_of_ble_eq_true rfl) ?_
  refine g_st (st2 := [.int (gmax (1 : Int32) (gmin v3 x4))]) rfl ?_
  obtain ⟨rfl, rfl⟩ := Prod.mk.inj (Option.some.inj hf)
  exact g_iret dX6_speed_123 rfl ⟨rfl, rfl⟩ (Nat.le_of_ble_eq_true rfl) (Nat.le_of_ble_eq_true rfl)
def F_X6_speed_93 (n : Nat) (k49 : Nat → Int32 → Int32 → Int32 → Int32 → gH → Option (Int32 × gH)) (x0 : Nat) (x1 : Int32) (x4 : Int32) (x6 : Int32) (h : gH) : Option (Int32 × gH) :=
  (gR h x0 6 5).bind fun v1 =>
  (aI h v1 x6).bind fun v3 =>
  k49 x0 x1 x4 v3 (x6 + (1 : Int32)) h
set_option maxRecDepth 20000 in
set_option maxHeartbeats 1600000 in
theorem g_X6_speed_93 {n d : Nat} {k49 : Nat → Int32 → Int32 → Int32 → Int32 → gH → Option (Int32 × gH)} (t49 : ∀ {x0 : Nat} {x1 : Int32} {x4 : Int32} {x5 : Int32} {x6 : Int32} {h : gH} {rh : gH} {rv : Int32}, k49 x0 x1 x4 x5 x6 h = some (rv, rh) → G M_X6_speed (d + 2) 0 0 0 0 49 [some (.ref x0), some (.int x1), none, none, some (.int x4), some (.int x5), some (.int x6)] [] h (qI rv rh)) : ∀ {x0 : Nat} {x1 : Int32} {x4 : Int32} {x6 : Int32} {h : gH} {rh : gH} {rv : Int32}, F_X6_speed_93 n k49 x0 x1 x4 x6 h = some (rv, rh) → G M_X6_speed (d + 2) 0 0 0 0 93 [some (.ref x0), some (.int x1), none, none, some (.int x4), none, some (.int x6)] [] h (qI rv rh) := by
  intro x0 x1 x4 x6 h rh rv hf
  unfold F_X6_speed_93 at hf
  refine g_aload_n dX6_speed_93 rfl ?_
  replace hf := Option.bind_eq_some_iff.mp hf
  obtain ⟨v1, q2, hf⟩ := hf
  refine g_gR f_X6_27 dX6_speed_94 q2 ?_
  refine g_iload dX6_speed_97 rfl ?_
  replace hf := Option.bind_eq_some_iff.mp hf
  obtain ⟨v3, q4, hf⟩ := hf
  refine g_aI dX6_speed_99 q4 ?_
  refine g_istore dX6_speed_100 (by decide) (g_lvp (lv2 := [some (.ref x0), some (.int x1), none, none, some (.int x4), some (.int v3), some (.int x6)]) (pc2 := 102) rfl rfl ?_)
  refine g_iinc2 (w := (1 : Int32)) dX6_speed_102 (by decide) rfl (by decide) (g_lvp (lv2 := [some (.ref x0), some (.int x1), none, none, some (.int x4), some (.int v3), some (.int (x6 + (1 : Int32)))]) (pc2 := 105) rfl rfl ?_)
  refine g_goto (tgt := 49) dX6_speed_105 (by decide) ?_
  exact t49 hf
def F_X6_speed_49 (n : Nat)  : Nat → Nat → Int32 → Int32 → Int32 → Int32 → gH → Option (Int32 × gH)
  | 0, _, _, _, _, _, _ => none
  | m + 1, x0, x1, x4, x5, x6, h => (gI h x0 6 9).bind fun v1 =>
  if v1 ≤ x6 then
  (F_X6_speed_108 n x0 x1 x4 h)
  else
  (if (14 : Int32) ≤ x6 then
  (F_X6_speed_108 n x0 x1 x4 h)
  else
  ((gR h x0 6 5).bind fun v5 =>
  (aI h v5 x6).bind fun v7 =>
  (gO h x0 6).bind fun f9 =>
  gB (F_X6_holds n x0 x5 v7 h) fun v13 h11 =>
  if v13 = 0 then
  (F_X6_speed_93 n (F_X6_speed_49 n m) x0 x1 x4 x6 h11)
  else
  ((gR h11 x0 6 4).bind fun v15 =>
  (aI h11 v15 x6).bind fun v17 =>
  F_X6_speed_93 n (F_X6_speed_49 n m) x0 x1 (x4 - v17) x6 h11)))
set_option maxRecDepth 20000 in
set_option maxHeartbeats 1600000 in
theorem g_X6_speed_49 {n d : Nat} : ∀ {m : Nat} {x0 : Nat} {x1 : Int32} {x4 : Int32} {x5 : Int32} {x6 : Int32} {h : gH} {rh : gH} {rv : Int32}, F_X6_speed_49 n m x0 x1 x4 x5 x6 h = some (rv, rh) → G M_X6_speed (d + 2) 0 0 0 0 49 [some (.ref x0), some (.int x1), none, none, some (.int x4), some (.int x5), some (.int x6)] [] h (qI rv rh) := by
  intro m
  induction m with
  | zero => intro x0 x1 x4 x5 x6 h rh rv hf; cases hf
  | succ m t49 =>
    intro x0 x1 x4 x5 x6 h rh rv hf
    unfold F_X6_speed_49 at hf
    refine g_iload dX6_speed_49 rfl ?_
    refine g_aload_n dX6_speed_51 rfl ?_
    replace hf := Option.bind_eq_some_iff.mp hf
    obtain ⟨v1, q2, hf⟩ := hf
    refine g_gI f_X6_43 dX6_speed_52 q2 ?_
    refine g_icmp_ge (tgt := 108) dX6_speed_55 (by decide) (fun c3 => ?_) (fun c3 => ?_)
    · rw [if_pos c3] at hf
      refine g_weak (lv2 := [some (.ref x0), some (.int x1), none, none, some (.int x4), none, none]) (And.intro rfl (And.intro rfl (And.intro rfl (trivial)))) ?_
      exact g_X6_speed_108 hf
    · rw [if_neg c3] at hf
      refine g_iload dX6_speed_58 rfl ?_
      refine g_bipush (v := (14 : Int32)) dX6_speed_60 (by decide) ?_
      refine g_icmp_ge (tgt := 108) dX6_speed_62 (by decide) (fun c4 => ?_) (fun c4 => ?_)
      · rw [if_pos c4] at hf
        refine g_weak (lv2 := [some (.ref x0), some (.int x1), none, none, some (.int x4), none, none]) (And.intro rfl (And.intro rfl (And.intro rfl (trivial)))) ?_
        exact g_X6_speed_108 hf
      · rw [if_neg c4] at hf
        refine g_aload_n dX6_speed_65 rfl ?_
        refine g_iload dX6_speed_66 rfl ?_
        refine g_aload_n dX6_speed_68 rfl ?_
        replace hf := Option.bind_eq_some_iff.mp hf
        obtain ⟨v5, q6, hf⟩ := hf
        refine g_gR f_X6_27 dX6_speed_69 q6 ?_
        refine g_iload dX6_speed_72 rfl ?_
        replace hf := Option.bind_eq_some_iff.mp hf
        obtain ⟨v7, q8, hf⟩ := hf
        refine g_aI dX6_speed_74 q8 ?_
        replace hf := Option.bind_eq_some_iff.mp hf
        obtain ⟨f9, q10, hf⟩ := hf
        replace hf := gB_of hf
        obtain ⟨v13, h11, q12, hf⟩ := hf
        refine g_callV (as := [.int x5, .int v7]) (mc1 := 0) (ms1 := 0) s_X6_86_X6_holds_6 dX6_speed_75 (gO_of q10) rfl (Nat.le_of_ble_eq_true rfl) (Nat.le_of_ble_eq_true rfl) (Nat.le_of_ble_eq_true rfl) (t_X6_holds (d := d + 0) q12) (fun r9 h9 q9 => ?_)
        obtain ⟨rfl, rfl⟩ := q9
        refine g_stp (st2 := [.int v13]) (pc2 := 78) (kc2 := 0) (kn2 := 0) rfl rfl rfl rfl ?_
        refine g_if_eq (tgt := 93) dX6_speed_78 (by decide) (fun c14 => ?_) (fun c14 => ?_)
        · rw [if_pos c14] at hf
          refine g_weak (lv2 := [some (.ref x0), some (.int x1), none, none, some (.int x4), none, some (.int x6)]) (And.intro rfl (And.intro rfl (And.intro rfl (And.intro rfl (trivial))))) ?_
          exact g_X6_speed_93 t49 hf
        · rw [if_neg c14] at hf
          refine g_iload dX6_speed_81 rfl ?_
          refine g_aload_n dX6_speed_83 rfl ?_
          replace hf := Option.bind_eq_some_iff.mp hf
          obtain ⟨v15, q16, hf⟩ := hf
          refine g_gR f_X6_24 dX6_speed_84 q16 ?_
          refine g_iload dX6_speed_87 rfl ?_
          replace hf := Option.bind_eq_some_iff.mp hf
          obtain ⟨v17, q18, hf⟩ := hf
          refine g_aI dX6_speed_89 q18 ?_
          refine g_isub dX6_speed_90 ?_
          refine g_istore dX6_speed_91 (by decide) (g_lvp (lv2 := [some (.ref x0), some (.int x1), none, none, some (.int (x4 - v17)), some (.int x5), some (.int x6)]) (pc2 := 93) rfl rfl ?_)
          refine g_weak (lv2 := [some (.ref x0), some (.int x1), none, none, some (.int (x4 - v17)), none, some (.int x6)]) (And.intro rfl (And.intro rfl (And.intro rfl (And.intro rfl (trivial))))) ?_
          exact g_X6_speed_93 t49 hf
def F_X6_speed_0 (n : Nat)  (x0 : Nat) (x1 : Int32) (x2 : Int32) (x3 : Int32) (h : gH) : Option (Int32 × gH) :=
  (gO h x0 6).bind fun f1 =>
  gB (F_X6_has n x0 x1 h) fun v5 h3 =>
  if v5 = 0 then
  (some ((1 : Int32), h3))
  else
  ((gR h3 x0 6 1).bind fun v7 =>
  (aI h3 v7 x1).bind fun v9 =>
  (gR h3 x0 6 2).bind fun v11 =>
  (aI h3 v11 x1).bind fun v13 =>
  (gO h3 x0 6).bind fun f15 =>
  (F_X6_tell n x0 x1 x2 x3 h3).bind fun h17 =>
  F_X6_speed_49 n n x0 x1 ((((20 : Int32) + ((4 : Int32) * x2)) - ((5 : Int32) * v9)) - ((2 : Int32) * v13)) (0 : Int32) (0 : Int32) h17)
set_option maxRecDepth 20000 in
set_option maxHeartbeats 1600000 in
theorem g_X6_speed_0 {n d : Nat} : ∀ {x0 : Nat} {x1 : Int32} {x2 : Int32} {x3 : Int32} {h : gH} {rh : gH} {rv : Int32}, F_X6_speed_0 n x0 x1 x2 x3 h = some (rv, rh) → G M_X6_speed (d + 2) 0 0 0 0 0 [some (.ref x0), some (.int x1), some (.int x2), some (.int x3), none, none, none] [] h (qI rv rh) := by
  intro x0 x1 x2 x3 h rh rv hf
  unfold F_X6_speed_0 at hf
  refine g_aload_n dX6_speed_0 rfl ?_
  refine g_iload_n dX6_speed_1 rfl ?_
  replace hf := Option.bind_eq_some_iff.mp hf
  obtain ⟨f1, q2, hf⟩ := hf
  replace hf := gB_of hf
  obtain ⟨v5, h3, q4, hf⟩ := hf
  refine g_callV (as := [.int x1]) (mc1 := 0) (ms1 := 0) s_X6_78_X6_has_6 dX6_speed_2 (gO_of q2) rfl (Nat.le_of_ble_eq_true rfl) (Nat.le_of_ble_eq_true rfl) (Nat.le_of_ble_eq_true rfl) (t_X6_has (d := d + 1) q4) (fun r9 h9 q9 => ?_)
  obtain ⟨rfl, rfl⟩ := q9
  refine g_stp (st2 := [.int v5]) (pc2 := 5) (kc2 := 0) (kn2 := 0) rfl rfl rfl rfl ?_
  refine g_if_ne (tgt := 10) dX6_speed_5 (by decide) (fun c6 => ?_) (fun c6 => ?_)
  · rw [if_neg c6] at hf
    refine g_bipush (v := (20 : Int32)) dX6_speed_10 (by decide) ?_
    refine g_iconst (v := (4 : Int32)) dX6_speed_12 (by decide) ?_
    refine g_iload_n dX6_speed_13 rfl ?_
    refine g_imul dX6_speed_14 ?_
    refine g_iadd dX6_speed_15 ?_
    refine g_iconst (v := (5 : Int32)) dX6_speed_16 (by decide) ?_
    refine g_aload_n dX6_speed_17 rfl ?_
    replace hf := Option.bind_eq_some_iff.mp hf
    obtain ⟨v7, q8, hf⟩ := hf
    refine g_gR f_X6_15 dX6_speed_18 q8 ?_
    refine g_iload_n dX6_speed_21 rfl ?_
    replace hf := Option.bind_eq_some_iff.mp hf
    obtain ⟨v9, q10, hf⟩ := hf
    refine g_aI dX6_speed_22 q10 ?_
    refine g_imul dX6_speed_23 ?_
    refine g_isub dX6_speed_24 ?_
    refine g_iconst (v := (2 : Int32)) dX6_speed_25 (by decide) ?_
    refine g_aload_n dX6_speed_26 rfl ?_
    replace hf := Option.bind_eq_some_iff.mp hf
    obtain ⟨v11, q12, hf⟩ := hf
    refine g_gR f_X6_18 dX6_speed_27 q12 ?_
    refine g_iload_n dX6_speed_30 rfl ?_
    replace hf := Option.bind_eq_some_iff.mp hf
    obtain ⟨v13, q14, hf⟩ := hf
    refine g_aI dX6_speed_31 q14 ?_
    refine g_imul dX6_speed_32 ?_
    refine g_isub dX6_speed_33 ?_
    refine g_istore dX6_speed_34 (by decide) (g_lvp (lv2 := [some (.ref x0), some (.int x1), some (.int x2), some (.int x3), some (.int ((((20 : Int32) + ((4 : Int32) * x2)) - ((5 : Int32) * v9)) - ((2 : Int32) * v13))), none, none]) (pc2 := 36) rfl rfl ?_)
    refine g_aload_n dX6_speed_36 rfl ?_
    refine g_iload_n dX6_speed_37 rfl ?_
    refine g_iload_n dX6_speed_38 rfl ?_
    refine g_iload_n dX6_speed_39 rfl ?_
    replace hf := Option.bind_eq_some_iff.mp hf
    obtain ⟨f15, q16, hf⟩ := hf
    replace hf := Option.bind_eq_some_iff.mp hf
    obtain ⟨h17, q18, hf⟩ := hf
    refine g_callV (as := [.int x1, .int x2, .int x3]) (mc1 := 0) (ms1 := 0) s_X6_82_X6_tell_6 dX6_speed_40 (gO_of q16) rfl (Nat.le_of_ble_eq_true rfl) (Nat.le_of_ble_eq_true rfl) (Nat.le_of_ble_eq_true rfl) (t_X6_tell (d := d + 0) q18) (fun r9 h9 q9 => ?_)
    obtain ⟨rfl, rfl⟩ := q9
    refine g_stp (st2 := []) (pc2 := 43) (kc2 := 0) (kn2 := 0) rfl rfl rfl rfl ?_
    refine g_iconst (v := (0 : Int32)) dX6_speed_43 (by decide) ?_
    refine g_istore dX6_speed_44 (by decide) (g_lvp (lv2 := [some (.ref x0), some (.int x1), some (.int x2), some (.int x3), some (.int ((((20 : Int32) + ((4 : Int32) * x2)) - ((5 : Int32) * v9)) - ((2 : Int32) * v13))), some (.int (0 : Int32)), none]) (pc2 := 46) rfl rfl ?_)
    refine g_iconst (v := (0 : Int32)) dX6_speed_46 (by decide) ?_
    refine g_istore dX6_speed_47 (by decide) (g_lvp (lv2 := [some (.ref x0), some (.int x1), some (.int x2), some (.int x3), some (.int ((((20 : Int32) + ((4 : Int32) * x2)) - ((5 : Int32) * v9)) - ((2 : Int32) * v13))), some (.int (0 : Int32)), some (.int (0 : Int32))]) (pc2 := 49) rfl rfl ?_)
    refine g_weak (lv2 := [some (.ref x0), some (.int x1), none, none, some (.int ((((20 : Int32) + ((4 : Int32) * x2)) - ((5 : Int32) * v9)) - ((2 : Int32) * v13))), some (.int (0 : Int32)), some (.int (0 : Int32))]) (And.intro rfl (And.intro rfl (And.intro rfl (And.intro rfl (And.intro rfl (trivial)))))) ?_
    exact g_X6_speed_49 hf
  · rw [if_pos c6] at hf
    refine g_iconst (v := (1 : Int32)) dX6_speed_8 (by decide) ?_
    obtain ⟨rfl, rfl⟩ := Prod.mk.inj (Option.some.inj hf)
    exact g_iret dX6_speed_9 rfl ⟨rfl, rfl⟩ (Nat.le_of_ble_eq_true rfl) (Nat.le_of_ble_eq_true rfl)
def F_X6_speed (n : Nat) (a : Nat) (p0 : Int32) (p1 : Int32) (p2 : Int32) (h : gH) : Option (Int32 × gH) := F_X6_speed_0 n  a p0 p1 p2 h
theorem t_X6_speed {n d : Nat} {a : Nat} {p0 : Int32} {p1 : Int32} {p2 : Int32} {h rh : gH} {rv : Int32} (hf : F_X6_speed n a p0 p1 p2 h = some (rv, rh)) : T M_X6_speed (d + 2) 0 0 [.ref a, .int p0, .int p1, .int p2] h (qI rv rh) := by
  refine T_of_G (L := 3) (by decide +kernel) rfl (Nat.le_of_ble_eq_true rfl) (g_lv (lv2 := [some (.ref a), some (.int p0), some (.int p1), some (.int p2), none, none, none]) rfl ?_)
  exact g_X6_speed_0 hf
def F_X6_seconds_23 (n : Nat)   (h : gH) : Option (Int32 × gH) :=
  some ((0 : Int32), h)
set_option maxRecDepth 20000 in
set_option maxHeartbeats 1600000 in
theorem g_X6_seconds_23 {n d : Nat} : ∀  {h : gH} {rh : gH} {rv : Int32}, F_X6_seconds_23 n  h = some (rv, rh) → G M_X6_seconds (d + 3) 0 0 0 0 23 [none, none, none, none, none] [] h (qI rv rh) := by
  intro  h rh rv hf
  unfold F_X6_seconds_23 at hf
  refine g_iconst (v := (0 : Int32)) dX6_seconds_23 (by decide) ?_
  obtain ⟨rfl, rfl⟩ := Prod.mk.inj (Option.some.inj hf)
  exact g_iret dX6_seconds_24 rfl ⟨rfl, rfl⟩ (Nat.le_of_ble_eq_true rfl) (Nat.le_of_ble_eq_true rfl)
def F_X6_seconds_0 (n : Nat)  (x0 : Nat) (x1 : Int32) (x2 : Int32) (x3 : Int32) (h : gH) : Option (Int32 × gH) :=
  (gO h x0 6).bind fun f1 =>
  gB (F_X6_speed n x0 x1 x2 x3 h) fun v5 h3 =>
  (gO h3 x0 6).bind fun f6 =>
  gB (F_X6_has n x0 x1 h3) fun v10 h8 =>
  if v10 = 0 then
  (F_X6_seconds_23 n h8)
  else
  (if (1 : Int32) ≤ v5 then
  ((gR h8 x0 6 0).bind fun v13 =>
  (aI h8 v13 x1).bind fun v15 =>
  if v5 = (0 : Int32) then none else
  some ((((((100 : Int32) * v15) + v5) - (1 : Int32)) / v5), h8))
  else
  (F_X6_seconds_23 n h8))
set_option maxRecDepth 20000 in
set_option maxHeartbeats 1600000 in
theorem g_X6_seconds_0 {n d : Nat} : ∀ {x0 : Nat} {x1 : Int32} {x2 : Int32} {x3 : Int32} {h : gH} {rh : gH} {rv : Int32}, F_X6_seconds_0 n x0 x1 x2 x3 h = some (rv, rh) → G M_X6_seconds (d + 3) 0 0 0 0 0 [some (.ref x0), some (.int x1), some (.int x2), some (.int x3), none] [] h (qI rv rh) := by
  intro x0 x1 x2 x3 h rh rv hf
  unfold F_X6_seconds_0 at hf
  refine g_aload_n dX6_seconds_0 rfl ?_
  refine g_iload_n dX6_seconds_1 rfl ?_
  refine g_iload_n dX6_seconds_2 rfl ?_
  refine g_iload_n dX6_seconds_3 rfl ?_
  replace hf := Option.bind_eq_some_iff.mp hf
  obtain ⟨f1, q2, hf⟩ := hf
  replace hf := gB_of hf
  obtain ⟨v5, h3, q4, hf⟩ := hf
  refine g_callV (as := [.int x1, .int x2, .int x3]) (mc1 := 0) (ms1 := 0) s_X6_93_X6_speed_6 dX6_seconds_4 (gO_of q2) rfl (Nat.le_of_ble_eq_true rfl) (Nat.le_of_ble_eq_true rfl) (Nat.le_of_ble_eq_true rfl) (t_X6_speed (d := d + 0) q4) (fun r9 h9 q9 => ?_)
  obtain ⟨rfl, rfl⟩ := q9
  refine g_stp (st2 := [.int v5]) (pc2 := 7) (kc2 := 0) (kn2 := 0) rfl rfl rfl rfl ?_
  refine g_istore dX6_seconds_7 (by decide) (g_lvp (lv2 := [some (.ref x0), some (.int x1), some (.int x2), some (.int x3), some (.int v5)]) (pc2 := 9) rfl rfl ?_)
  refine g_aload_n dX6_seconds_9 rfl ?_
  refine g_iload_n dX6_seconds_10 rfl ?_
  replace hf := Option.bind_eq_some_iff.mp hf
  obtain ⟨f6, q7, hf⟩ := hf
  replace hf := gB_of hf
  obtain ⟨v10, h8, q9, hf⟩ := hf
  refine g_callV (as := [.int x1]) (mc1 := 0) (ms1 := 0) s_X6_78_X6_has_6 dX6_seconds_11 (gO_of q7) rfl (Nat.le_of_ble_eq_true rfl) (Nat.le_of_ble_eq_true rfl) (Nat.le_of_ble_eq_true rfl) (t_X6_has (d := d + 2) q9) (fun r9 h9 q9 => ?_)
  obtain ⟨rfl, rfl⟩ := q9
  refine g_stp (st2 := [.int v10]) (pc2 := 14) (kc2 := 0) (kn2 := 0) rfl rfl rfl rfl ?_
  refine g_if_eq (tgt := 23) dX6_seconds_14 (by decide) (fun c11 => ?_) (fun c11 => ?_)
  · rw [if_pos c11] at hf
    refine g_weak (lv2 := [none, none, none, none, none]) (trivial) ?_
    exact g_X6_seconds_23 hf
  · rw [if_neg c11] at hf
    refine g_iload dX6_seconds_17 rfl ?_
    refine g_iconst (v := (1 : Int32)) dX6_seconds_19 (by decide) ?_
    refine g_icmp_ge (tgt := 25) dX6_seconds_20 (by decide) (fun c12 => ?_) (fun c12 => ?_)
    · rw [if_pos c12] at hf
      refine g_bipush (v := (100 : Int32)) dX6_seconds_25 (by decide) ?_
      refine g_aload_n dX6_seconds_27 rfl ?_
      replace hf := Option.bind_eq_some_iff.mp hf
      obtain ⟨v13, q14, hf⟩ := hf
      refine g_gR f_X6_9 dX6_seconds_28 q14 ?_
      refine g_iload_n dX6_seconds_31 rfl ?_
      replace hf := Option.bind_eq_some_iff.mp hf
      obtain ⟨v15, q16, hf⟩ := hf
      refine g_aI dX6_seconds_32 q16 ?_
      refine g_imul dX6_seconds_33 ?_
      refine g_iload dX6_seconds_34 rfl ?_
      refine g_iadd dX6_seconds_36 ?_
      refine g_iconst (v := (1 : Int32)) dX6_seconds_37 (by decide) ?_
      refine g_isub dX6_seconds_38 ?_
      refine g_iload dX6_seconds_39 rfl ?_
      by_cases c17 : v5 = (0 : Int32)
      · rw [if_pos c17] at hf; cases hf
      rw [if_neg c17] at hf
      refine g_idiv dX6_seconds_41 c17 ?_
      obtain ⟨rfl, rfl⟩ := Prod.mk.inj (Option.some.inj hf)
      exact g_iret dX6_seconds_42 rfl ⟨rfl, rfl⟩ (Nat.le_of_ble_eq_true rfl) (Nat.le_of_ble_eq_true rfl)
    · rw [if_neg c12] at hf
      refine g_weak (lv2 := [none, none, none, none, none]) (trivial) ?_
      exact g_X6_seconds_23 hf
def F_X6_seconds (n : Nat) (a : Nat) (p0 : Int32) (p1 : Int32) (p2 : Int32) (h : gH) : Option (Int32 × gH) := F_X6_seconds_0 n  a p0 p1 p2 h
theorem t_X6_seconds {n d : Nat} {a : Nat} {p0 : Int32} {p1 : Int32} {p2 : Int32} {h rh : gH} {rv : Int32} (hf : F_X6_seconds n a p0 p1 p2 h = some (rv, rh)) : T M_X6_seconds (d + 3) 0 0 [.ref a, .int p0, .int p1, .int p2] h (qI rv rh) := by
  refine T_of_G (L := 1) (by decide +kernel) rfl (Nat.le_of_ble_eq_true rfl) (g_lv (lv2 := [some (.ref a), some (.int p0), some (.int p1), some (.int p2), none]) rfl ?_)
  exact g_X6_seconds_0 hf
def F_X4_fill_186 (n : Nat) (k10 : Nat → Nat → Int32 → Int32 → Int32 → Int32 → gH → Option (gH)) (x0 : Nat) (x1 : Nat) (x2 : Int32) (x3 : Int32) (x4 : Int32) (x5 : Int32) (h : gH) : Option (gH) :=
  k10 x0 x1 x2 x3 x4 (x5 + (1 : Int32)) h
set_option maxRecDepth 20000 in
set_option maxHeartbeats 1600000 in
theorem g_X4_fill_186 {n d : Nat} {k10 : Nat → Nat → Int32 → Int32 → Int32 → Int32 → gH → Option (gH)} (t10 : ∀ {x0 : Nat} {x1 : Nat} {x2 : Int32} {x3 : Int32} {x4 : Int32} {x5 : Int32} {h : gH} {rh : gH}, k10 x0 x1 x2 x3 x4 x5 h = some rh → G M_X4_fill (d + 4) 0 0 0 0 10 [some (.ref x0), some (.ref x1), some (.int x2), some (.int x3), some (.int x4), some (.int x5), none, none, none, none, none] [] h (qV rh)) : ∀ {x0 : Nat} {x1 : Nat} {x2 : Int32} {x3 : Int32} {x4 : Int32} {x5 : Int32} {h : gH} {rh : gH}, F_X4_fill_186 n k10 x0 x1 x2 x3 x4 x5 h = some rh → G M_X4_fill (d + 4) 0 0 0 0 186 [some (.ref x0), some (.ref x1), some (.int x2), some (.int x3), some (.int x4), some (.int x5), none, none, none, none, none] [] h (qV rh) := by
  intro x0 x1 x2 x3 x4 x5 h rh hf
  unfold F_X4_fill_186 at hf
  refine g_iinc2 (w := (1 : Int32)) dX4_fill_186 (by decide) rfl (by decide) (g_lvp (lv2 := [some (.ref x0), some (.ref x1), some (.int x2), some (.int x3), some (.int x4), some (.int (x5 + (1 : Int32))), none, none, none, none, none]) (pc2 := 189) rfl rfl ?_)
  refine g_goto (tgt := 10) dX4_fill_189 (by decide) ?_
  exact t10 hf
def F_X4_fill_159 (n : Nat) (k10 : Nat → Nat → Int32 → Int32 → Int32 → Int32 → gH → Option (gH)) (x0 : Nat) (x1 : Nat) (x2 : Int32) (x3 : Int32) (x4 : Int32) (x5 : Int32) (x8 : Int32) (x9 : Int32) (h : gH) : Option (gH) :=
  (gR h x0 4 2).bind fun v1 =>
  (sI h v1 x4 x8).bind fun h3 =>
  (gR h3 x0 4 3).bind fun v5 =>
  (sI h3 v5 x4 x9).bind fun h7 =>
  (gR h7 x0 4 4).bind fun v9 =>
  (sI h7 v9 x4 x5).bind fun h11 =>
  F_X4_fill_186 n (k10) x0 x1 x2 x3 x4 x5 h11
set_option maxRecDepth 20000 in
set_option maxHeartbeats 1600000 in
theorem g_X4_fill_159 {n d : Nat} {k10 : Nat → Nat → Int32 → Int32 → Int32 → Int32 → gH → Option (gH)} (t10 : ∀ {x0 : Nat} {x1 : Nat} {x2 : Int32} {x3 : Int32} {x4 : Int32} {x5 : Int32} {h : gH} {rh : gH}, k10 x0 x1 x2 x3 x4 x5 h = some rh → G M_X4_fill (d + 4) 0 0 0 0 10 [some (.ref x0), some (.ref x1), some (.int x2), some (.int x3), some (.int x4), some (.int x5), none, none, none, none, none] [] h (qV rh)) : ∀ {x0 : Nat} {x1 : Nat} {x2 : Int32} {x3 : Int32} {x4 : Int32} {x5 : Int32} {x8 : Int32} {x9 : Int32} {h : gH} {rh : gH}, F_X4_fill_159 n k10 x0 x1 x2 x3 x4 x5 x8 x9 h = some rh → G M_X4_fill (d + 4) 0 0 0 0 159 [some (.ref x0), some (.ref x1), some (.int x2), some (.int x3), some (.int x4), some (.int x5), none, none, some (.int x8), some (.int x9), none] [] h (qV rh) := by
  intro x0 x1 x2 x3 x4 x5 x8 x9 h rh hf
  unfold F_X4_fill_159 at hf
  refine g_aload_n dX4_fill_159 rfl ?_
  replace hf := Option.bind_eq_some_iff.mp hf
  obtain ⟨v1, q2, hf⟩ := hf
  refine g_gR f_X4_18 dX4_fill_160 q2 ?_
  refine g_iload dX4_fill_163 rfl ?_
  refine g_iload dX4_fill_165 rfl ?_
  replace hf := Option.bind_eq_some_iff.mp hf
  obtain ⟨h3, q4, hf⟩ := hf
  refine g_sI dX4_fill_167 q4 ?_
  refine g_aload_n dX4_fill_168 rfl ?_
  replace hf := Option.bind_eq_some_iff.mp hf
  obtain ⟨v5, q6, hf⟩ := hf
  refine g_gR f_X4_21 dX4_fill_169 q6 ?_
  refine g_iload dX4_fill_172 rfl ?_
  refine g_iload dX4_fill_174 rfl ?_
  replace hf := Option.bind_eq_some_iff.mp hf
  obtain ⟨h7, q8, hf⟩ := hf
  refine g_sI dX4_fill_176 q8 ?_
  refine g_aload_n dX4_fill_177 rfl ?_
  replace hf := Option.bind_eq_some_iff.mp hf
  obtain ⟨v9, q10, hf⟩ := hf
  refine g_gR f_X4_24 dX4_fill_178 q10 ?_
  refine g_iload dX4_fill_181 rfl ?_
  refine g_iload dX4_fill_183 rfl ?_
  replace hf := Option.bind_eq_some_iff.mp hf
  obtain ⟨h11, q12, hf⟩ := hf
  refine g_sI dX4_fill_185 q12 ?_
  refine g_weak (lv2 := [some (.ref x0), some (.ref x1), some (.int x2), some (.int x3), some (.int x4), some (.int x5), none, none, none, none, none]) (And.intro rfl (And.intro rfl (And.intro rfl (And.intro rfl (And.intro rfl (And.intro rfl (trivial))))))) ?_
  exact g_X4_fill_186 t10 hf
def F_X4_fill_147 (n : Nat) (k10 : Nat → Nat → Int32 → Int32 → Int32 → Int32 → gH → Option (gH)) (x0 : Nat) (x1 : Nat) (x2 : Int32) (x3 : Int32) (x4 : Int32) (x5 : Int32) (x8 : Int32) (x9 : Int32) (y0 : Int32) (h : gH) : Option (gH) :=
  if x5 = 0 then
  (F_X4_fill_159 n (k10) x0 x1 x2 x3 x4 x5 x8 x9 h)
  else
  (if y0 = 0 then
  (F_X4_fill_186 n (k10) x0 x1 x2 x3 x4 x5 h)
  else
  (F_X4_fill_159 n (k10) x0 x1 x2 x3 x4 x5 x8 x9 h))
set_option maxRecDepth 20000 in
set_option maxHeartbeats 1600000 in
theorem g_X4_fill_147 {n d : Nat} {k10 : Nat → Nat → Int32 → Int32 → Int32 → Int32 → gH → Option (gH)} (t10 : ∀ {x0 : Nat} {x1 : Nat} {x2 : Int32} {x3 : Int32} {x4 : Int32} {x5 : Int32} {h : gH} {rh : gH}, k10 x0 x1 x2 x3 x4 x5 h = some rh → G M_X4_fill (d + 4) 0 0 0 0 10 [some (.ref x0), some (.ref x1), some (.int x2), some (.int x3), some (.int x4), some (.int x5), none, none, none, none, none] [] h (qV rh)) : ∀ {x0 : Nat} {x1 : Nat} {x2 : Int32} {x3 : Int32} {x4 : Int32} {x5 : Int32} {x8 : Int32} {x9 : Int32} {y0 : Int32} {h : gH} {rh : gH}, F_X4_fill_147 n k10 x0 x1 x2 x3 x4 x5 x8 x9 y0 h = some rh → G M_X4_fill (d + 4) 0 0 0 0 147 [some (.ref x0), some (.ref x1), some (.int x2), some (.int x3), some (.int x4), some (.int x5), none, none, some (.int x8), some (.int x9), none] [.int y0] h (qV rh) := by
  intro x0 x1 x2 x3 x4 x5 x8 x9 y0 h rh hf
  unfold F_X4_fill_147 at hf
  refine g_istore dX4_fill_147 (by decide) (g_lvp (lv2 := [some (.ref x0), some (.ref x1), some (.int x2), some (.int x3), some (.int x4), some (.int x5), none, none, some (.int x8), some (.int x9), some (.int y0)]) (pc2 := 149) rfl rfl ?_)
  refine g_iload dX4_fill_149 rfl ?_
  refine g_if_eq (tgt := 159) dX4_fill_151 (by decide) (fun c1 => ?_) (fun c1 => ?_)
  · rw [if_pos c1] at hf
    refine g_weak (lv2 := [some (.ref x0), some (.ref x1), some (.int x2), some (.int x3), some (.int x4), some (.int x5), none, none, some (.int x8), some (.int x9), none]) (And.intro rfl (And.intro rfl (And.intro rfl (And.intro rfl (And.intro rfl (And.intro rfl (And.intro rfl (And.intro rfl (trivial))))))))) ?_
    exact g_X4_fill_159 t10 hf
  · rw [if_neg c1] at hf
    refine g_iload dX4_fill_154 rfl ?_
    refine g_if_eq (tgt := 186) dX4_fill_156 (by decide) (fun c2 => ?_) (fun c2 => ?_)
    · rw [if_pos c2] at hf
      refine g_weak (lv2 := [some (.ref x0), some (.ref x1), some (.int x2), some (.int x3), some (.int x4), some (.int x5), none, none, none, none, none]) (And.intro rfl (And.intro rfl (And.intro rfl (And.intro rfl (And.intro rfl (And.intro rfl (trivial))))))) ?_
      exact g_X4_fill_186 t10 hf
    · rw [if_neg c2] at hf
      refine g_weak (lv2 := [some (.ref x0), some (.ref x1), some (.int x2), some (.int x3), some (.int x4), some (.int x5), none, none, some (.int x8), some (.int x9), none]) (And.intro rfl (And.intro rfl (And.intro rfl (And.intro rfl (And.intro rfl (And.intro rfl (And.intro rfl (And.intro rfl (trivial))))))))) ?_
      exact g_X4_fill_159 t10 hf
def F_X4_fill_146 (n : Nat) (k10 : Nat → Nat → Int32 → Int32 → Int32 → Int32 → gH → Option (gH)) (x0 : Nat) (x1 : Nat) (x2 : Int32) (x3 : Int32) (x4 : Int32) (x5 : Int32) (x8 : Int32) (x9 : Int32) (h : gH) : Option (gH) :=
  F_X4_fill_147 n (k10) x0 x1 x2 x3 x4 x5 x8 x9 (0 : Int32) h
set_option maxRecDepth 20000 in
set_option maxHeartbeats 1600000 in
theorem g_X4_fill_146 {n d : Nat} {k10 : Nat → Nat → Int32 → Int32 → Int32 → Int32 → gH → Option (gH)} (t10 : ∀ {x0 : Nat} {x1 : Nat} {x2 : Int32} {x3 : Int32} {x4 : Int32} {x5 : Int32} {h : gH} {rh : gH}, k10 x0 x1 x2 x3 x4 x5 h = some rh → G M_X4_fill (d + 4) 0 0 0 0 10 [some (.ref x0), some (.ref x1), some (.int x2), some (.int x3), some (.int x4), some (.int x5), none, none, none, none, none] [] h (qV rh)) : ∀ {x0 : Nat} {x1 : Nat} {x2 : Int32} {x3 : Int32} {x4 : Int32} {x5 : Int32} {x8 : Int32} {x9 : Int32} {h : gH} {rh : gH}, F_X4_fill_146 n k10 x0 x1 x2 x3 x4 x5 x8 x9 h = some rh → G M_X4_fill (d + 4) 0 0 0 0 146 [some (.ref x0), some (.ref x1), some (.int x2), some (.int x3), some (.int x4), some (.int x5), none, none, some (.int x8), some (.int x9), none] [] h (qV rh) := by
  intro x0 x1 x2 x3 x4 x5 x8 x9 h rh hf
  unfold F_X4_fill_146 at hf
  refine g_iconst (v := (0 : Int32)) dX4_fill_146 (by decide) ?_
  exact g_X4_fill_147 t10 hf
def F_X4_fill_142 (n : Nat) (k10 : Nat → Nat → Int32 → Int32 → Int32 → Int32 → gH → Option (gH)) (x0 : Nat) (x1 : Nat) (x2 : Int32) (x3 : Int32) (x4 : Int32) (x5 : Int32) (x8 : Int32) (x9 : Int32) (h : gH) : Option (gH) :=
  F_X4_fill_147 n (k10) x0 x1 x2 x3 x4 x5 x8 x9 (1 : Int32) h
set_option maxRecDepth 20000 in
set_option maxHeartbeats 1600000 in
theorem g_X4_fill_142 {n d : Nat} {k10 : Nat → Nat → Int32 → Int32 → Int32 → Int32 → gH → Option (gH)} (t10 : ∀ {x0 : Nat} {x1 : Nat} {x2 : Int32} {x3 : Int32} {x4 : Int32} {x5 : Int32} {h : gH} {rh : gH}, k10 x0 x1 x2 x3 x4 x5 h = some rh → G M_X4_fill (d + 4) 0 0 0 0 10 [some (.ref x0), some (.ref x1), some (.int x2), some (.int x3), some (.int x4), some (.int x5), none, none, none, none, none] [] h (qV rh)) : ∀ {x0 : Nat} {x1 : Nat} {x2 : Int32} {x3 : Int32} {x4 : Int32} {x5 : Int32} {x8 : Int32} {x9 : Int32} {h : gH} {rh : gH}, F_X4_fill_142 n k10 x0 x1 x2 x3 x4 x5 x8 x9 h = some rh → G M_X4_fill (d + 4) 0 0 0 0 142 [some (.ref x0), some (.ref x1), some (.int x2), some (.int x3), some (.int x4), some (.int x5), none, none, some (.int x8), some (.int x9), none] [] h (qV rh) := by
  intro x0 x1 x2 x3 x4 x5 x8 x9 h rh hf
  unfold F_X4_fill_142 at hf
  refine g_iconst (v := (1 : Int32)) dX4_fill_142 (by decide) ?_
  refine g_goto (tgt := 147) dX4_fill_143 (by decide) ?_
  exact g_X4_fill_147 t10 hf
def F_X4_fill_10 (n : Nat)  : Nat → Nat → Nat → Int32 → Int32 → Int32 → Int32 → gH → Option (gH)
  | 0, _, _, _, _, _, _, _ => none
  | m + 1, x0, x1, x2, x3, x4, x5, h => if (10 : Int32) ≤ x5 then
  (some h)
  else
  (gB (F_X4_step n x2 x5 x3 h) fun v4 h2 =>
  (gO h2 x1 6).bind fun f5 =>
  gB (F_X6_behind n x1 x2 x5 x3 h2) fun v9 h7 =>
  (gR h7 x0 4 1).bind fun v10 =>
  (sI h7 v10 v4 v9).bind fun h12 =>
  if 0 ≤ v9 then
  ((gR h12 x0 4 0).bind fun v15 =>
  (gO h12 x1 6).bind fun f17 =>
  gB (F_X6_seconds n x1 x2 x5 x3 h12) fun v21 h19 =>
  (sI h19 v15 v4 v21).bind fun h22 =>
  (gR h22 x0 4 0).bind fun v24 =>
  (aI h22 v24 v4).bind fun v26 =>
  (gR h22 x0 4 2).bind fun v28 =>
  gB (F_X4_spot n (x2 + (1 : Int32)) v9 h22) fun v32 h30 =>
  (aI h30 v28 v32).bind fun v33 =>
  (gR h30 x0 4 3).bind fun v35 =>
  gB (F_X4_spot n (x2 + (1 : Int32)) v9 h30) fun v39 h37 =>
  (aI h37 v35 v39).bind fun v40 =>
  (gR h37 x0 4 2).bind fun v42 =>
  (aI h37 v42 x4).bind fun v44 =>
  if (v26 + v33) < v44 then
  (F_X4_fill_142 n (F_X4_fill_10 n m) x0 x1 x2 x3 x4 x5 (v26 + v33) v40 h37)
  else
  ((gR h37 x0 4 2).bind fun v47 =>
  (aI h37 v47 x4).bind fun v49 =>
  if (v26 + v33) = v49 then
  ((gR h37 x0 4 3).bind fun v52 =>
  (aI h37 v52 x4).bind fun v54 =>
  if v40 ≤ v54 then
  (F_X4_fill_146 n (F_X4_fill_10 n m) x0 x1 x2 x3 x4 x5 (v26 + v33) v40 h37)
  else
  (F_X4_fill_142 n (F_X4_fill_10 n m) x0 x1 x2 x3 x4 x5 (v26 + v33) v40 h37))
  else
  (F_X4_fill_146 n (F_X4_fill_10 n m) x0 x1 x2 x3 x4 x5 (v26 + v33) v40 h37)))
  else
  (F_X4_fill_186 n (F_X4_fill_10 n m) x0 x1 x2 x3 x4 x5 h12))
set_option maxRecDepth 20000 in
set_option maxHeartbeats 1600000 in
theorem g_X4_fill_10 {n d : Nat} : ∀ {m : Nat} {x0 : Nat} {x1 : Nat} {x2 : Int32} {x3 : Int32} {x4 : Int32} {x5 : Int32} {h : gH} {rh : gH}, F_X4_fill_10 n m x0 x1 x2 x3 x4 x5 h = some rh → G M_X4_fill (d + 4) 0 0 0 0 10 [some (.ref x0), some (.ref x1), some (.int x2), some (.int x3), some (.int x4), some (.int x5), none, none, none, none, none] [] h (qV rh) := by
  intro m
  induction m with
  | zero => intro x0 x1 x2 x3 x4 x5 h rh hf; cases hf
  | succ m t10 =>
    intro x0 x1 x2 x3 x4 x5 h rh hf
    unfold F_X4_fill_10 at hf
    refine g_iload dX4_fill_10 rfl ?_
    refine g_bipush (v := (10 : Int32)) dX4_fill_12 (by decide) ?_
    refine g_icmp_ge (tgt := 192) dX4_fill_14 (by decide) (fun c1 => ?_) (fun c1 => ?_)
    · rw [if_pos c1] at hf
      obtain rfl := Option.some.inj hf
      exact g_vret dX4_fill_192 rfl ⟨rfl, rfl⟩ (Nat.le_of_ble_eq_true rfl) (Nat.le_of_ble_eq_true rfl)
    · rw [if_neg c1] at hf
      refine g_iload_n dX4_fill_17 rfl ?_
      refine g_iload dX4_fill_18 rfl ?_
      refine g_iload_n dX4_fill_20 rfl ?_
      replace hf := gB_of hf
      obtain ⟨v4, h2, q3, hf⟩ := hf
      refine g_callS (as := [.int x2, .int x5, .int x3]) (mc1 := 0) (ms1 := 0) s_X4_71_X4_step dX4_fill_21 rfl (Nat.le_of_ble_eq_true rfl) (Nat.le_of_ble_eq_true rfl) (Nat.le_of_ble_eq_true rfl) (t_X4_step (d := d + 3) q3) (fun r9 h9 q9 => ?_)
      obtain ⟨rfl, rfl⟩ := q9
      refine g_stp (st2 := [.int v4]) (pc2 := 24) (kc2 := 0) (kn2 := 0) rfl rfl rfl rfl ?_
      refine g_istore dX4_fill_24 (by decide) (g_lvp (lv2 := [some (.ref x0), some (.ref x1), some (.int x2), some (.int x3), some (.int x4), some (.int x5), some (.int v4), none, none, none, none]) (pc2 := 26) rfl rfl ?_)
      refine g_aload_n dX4_fill_26 rfl ?_
      refine g_iload_n dX4_fill_27 rfl ?_
      refine g_iload dX4_fill_28 rfl ?_
      refine g_iload_n dX4_fill_30 rfl ?_
      replace hf := Option.bind_eq_some_iff.mp hf
      obtain ⟨f5, q6, hf⟩ := hf
      replace hf := gB_of hf
      obtain ⟨v9, h7, q8, hf⟩ := hf
      refine g_callV (as := [.int x2, .int x5, .int x3]) (mc1 := 0) (ms1 := 0) s_X4_75_X6_behind_6 dX4_fill_31 (gO_of q6) rfl (Nat.le_of_ble_eq_true rfl) (Nat.le_of_ble_eq_true rfl) (Nat.le_of_ble_eq_true rfl) (t_X6_behind (d := d + 1) q8) (fun r9 h9 q9 => ?_)
      obtain ⟨rfl, rfl⟩ := q9
      refine g_stp (st2 := [.int v9]) (pc2 := 34) (kc2 := 0) (kn2 := 0) rfl rfl rfl rfl ?_
      refine g_istore dX4_fill_34 (by decide) (g_lvp (lv2 := [some (.ref x0), some (.ref x1), some (.int x2), some (.int x3), some (.int x4), some (.int x5), some (.int v4), some (.int v9), none, none, none]) (pc2 := 36) rfl rfl ?_)
      refine g_aload_n dX4_fill_36 rfl ?_
      replace hf := Option.bind_eq_some_iff.mp hf
      obtain ⟨v10, q11, hf⟩ := hf
      refine g_gR f_X4_15 dX4_fill_37 q11 ?_
      refine g_iload dX4_fill_40 rfl ?_
      refine g_iload dX4_fill_42 rfl ?_
      replace hf := Option.bind_eq_some_iff.mp hf
      obtain ⟨h12, q13, hf⟩ := hf
      refine g_sI dX4_fill_44 q13 ?_
      refine g_iload dX4_fill_45 rfl ?_
      refine g_if_ge (tgt := 53) dX4_fill_47 (by decide) (fun c14 => ?_) (fun c14 => ?_)
      · rw [if_pos c14] at hf
        refine g_aload_n dX4_fill_53 rfl ?_
        replace hf := Option.bind_eq_some_iff.mp hf
        obtain ⟨v15, q16, hf⟩ := hf
        refine g_gR f_X4_9 dX4_fill_54 q16 ?_
        refine g_iload dX4_fill_57 rfl ?_
        refine g_aload_n dX4_fill_59 rfl ?_
        refine g_iload_n dX4_fill_60 rfl ?_
        refine g_iload dX4_fill_61 rfl ?_
        refine g_iload_n dX4_fill_63 rfl ?_
        replace hf := Option.bind_eq_some_iff.mp hf
        obtain ⟨f17, q18, hf⟩ := hf
        replace hf := gB_of hf
        obtain ⟨v21, h19, q20, hf⟩ := hf
        refine g_callV (as := [.int x2, .int x5, .int x3]) (mc1 := 0) (ms1 := 0) s_X4_78_X6_seconds_6 dX4_fill_64 (gO_of q18) rfl (Nat.le_of_ble_eq_true rfl) (Nat.le_of_ble_eq_true rfl) (Nat.le_of_ble_eq_true rfl) (t_X6_seconds (d := d + 0) q20) (fun r9 h9 q9 => ?_)
        obtain ⟨rfl, rfl⟩ := q9
        refine g_stp (st2 := [.int v21, .int v4, .ref v15]) (pc2 := 67) (kc2 := 0) (kn2 := 0) rfl rfl rfl rfl ?_
        replace hf := Option.bind_eq_some_iff.mp hf
        obtain ⟨h22, q23, hf⟩ := hf
        refine g_sI dX4_fill_67 q23 ?_
        refine g_aload_n dX4_fill_68 rfl ?_
        replace hf := Option.bind_eq_some_iff.mp hf
        obtain ⟨v24, q25, hf⟩ := hf
        refine g_gR f_X4_9 dX4_fill_69 q25 ?_
        refine g_iload dX4_fill_72 rfl ?_
        replace hf := Option.bind_eq_some_iff.mp hf
        obtain ⟨v26, q27, hf⟩ := hf
        refine g_aI dX4_fill_74 q27 ?_
        refine g_aload_n dX4_fill_75 rfl ?_
        replace hf := Option.bind_eq_some_iff.mp hf
        obtain ⟨v28, q29, hf⟩ := hf
        refine g_gR f_X4_18 dX4_fill_76 q29 ?_
        refine g_iload_n dX4_fill_79 rfl ?_
        refine g_iconst (v := (1 : Int32)) dX4_fill_80 (by decide) ?_
        refine g_iadd dX4_fill_81 ?_
        refine g_iload dX4_fill_82 rfl ?_
        replace hf := gB_of hf
        obtain ⟨v32, h30, q31, hf⟩ := hf
        refine g_callS (as := [.int (x2 + (1 : Int32)), .int v9]) (mc1 := 0) (ms1 := 0) s_X4_64_X4_spot dX4_fill_84 rfl (Nat.le_of_ble_eq_true rfl) (Nat.le_of_ble_eq_true rfl) (Nat.le_of_ble_eq_true rfl) (t_X4_spot (d := d + 3) q31) (fun r9 h9 q9 => ?_)
        obtain ⟨rfl, rfl⟩ := q9
        refine g_stp (st2 := [.int v32, .ref v28, .int v26]) (pc2 := 87) (kc2 := 0) (kn2 := 0) rfl rfl rfl rfl ?_
        replace hf := Option.bind_eq_some_iff.mp hf
        obtain ⟨v33, q34, hf⟩ := hf
        refine g_aI dX4_fill_87 q34 ?_
        refine g_iadd dX4_fill_88 ?_
        refine g_istore dX4_fill_89 (by decide) (g_lvp (lv2 := [some (.ref x0), some (.ref x1), some (.int x2), some (.int x3), some (.int x4), some (.int x5), some (.int v4), some (.int v9), some (.int (v26 + v33)), none, none]) (pc2 := 91) rfl rfl ?_)
        refine g_aload_n dX4_fill_91 rfl ?_
        replace hf := Option.bind_eq_some_iff.mp hf
        obtain ⟨v35, q36, hf⟩ := hf
        refine g_gR f_X4_21 dX4_fill_92 q36 ?_
        refine g_iload_n dX4_fill_95 rfl ?_
        refine g_iconst (v := (1 : Int32)) dX4_fill_96 (by decide) ?_
        refine g_iadd dX4_fill_97 ?_
        refine g_iload dX4_fill_98 rfl ?_
        replace hf := gB_of hf
        obtain ⟨v39, h37, q38, hf⟩ := hf
        refine g_callS (as := [.int (x2 + (1 : Int32)), .int v9]) (mc1 := 0) (ms1 := 0) s_X4_64_X4_spot dX4_fill_100 rfl (Nat.le_of_ble_eq_true rfl) (Nat.le_of_ble_eq_true rfl) (Nat.le_of_ble_eq_true rfl) (t_X4_spot (d := d + 3) q38) (fun r9 h9 q9 => ?_)
        obtain ⟨rfl, rfl⟩ := q9
        refine g_stp (st2 := [.int v39, .ref v35]) (pc2 := 103) (kc2 := 0) (kn2 := 0) rfl rfl rfl rfl ?_
        replace hf := Option.bind_eq_some_iff.mp hf
        obtain ⟨v40, q41, hf⟩ := hf
        refine g_aI dX4_fill_103 q41 ?_
        refine g_istore dX4_fill_104 (by decide) (g_lvp (lv2 := [some (.ref x0), some (.ref x1), some (.int x2), some (.int x3), some (.int x4), some (.int x5), some (.int v4), some (.int v9), some (.int (v26 + v33)), some (.int v40), none]) (pc2 := 106) rfl rfl ?_)
        refine g_iload dX4_fill_106 rfl ?_
        refine g_aload_n dX4_fill_108 rfl ?_
        replace hf := Option.bind_eq_some_iff.mp hf
        obtain ⟨v42, q43, hf⟩ := hf
        refine g_gR f_X4_18 dX4_fill_109 q43 ?_
        refine g_iload dX4_fill_112 rfl ?_
        replace hf := Option.bind_eq_some_iff.mp hf
        obtain ⟨v44, q45, hf⟩ := hf
        refine g_aI dX4_fill_114 q45 ?_
        refine g_icmp_lt (tgt := 142) dX4_fill_115 (by decide) (fun c46 => ?_) (fun c46 => ?_)
        · rw [if_pos c46] at hf
          refine g_weak (lv2 := [some (.ref x0), some (.ref x1), some (.int x2), some (.int x3), some (.int x4), some (.int x5), none, none, some (.int (v26 + v33)), some (.int v40), none]) (And.intro rfl (And.intro rfl (And.intro rfl (And.intro rfl (And.intro rfl (And.intro rfl (And.intro rfl (And.intro rfl (trivial))))))))) ?_
          exact g_X4_fill_142 t10 hf
        · rw [if_neg c46] at hf
          refine g_iload dX4_fill_118 rfl ?_
          refine g_aload_n dX4_fill_120 rfl ?_
          replace hf := Option.bind_eq_some_iff.mp hf
          obtain ⟨v47, q48, hf⟩ := hf
          refine g_gR f_X4_18 dX4_fill_121 q48 ?_
          refine g_iload dX4_fill_124 rfl ?_
          replace hf := Option.bind_eq_some_iff.mp hf
          obtain ⟨v49, q50, hf⟩ := hf
          refine g_aI dX4_fill_126 q50 ?_
          refine g_icmp_ne (tgt := 146) dX4_fill_127 (by decide) (fun c51 => ?_) (fun c51 => ?_)
          · rw [if_neg c51] at hf
            refine g_weak (lv2 := [some (.ref x0), some (.ref x1), some (.int x2), some (.int x3), some (.int x4), some (.int x5), none, none, some (.int (v26 + v33)), some (.int v40), none]) (And.intro rfl (And.intro rfl (And.intro rfl (And.intro rfl (And.intro rfl (And.intro rfl (And.intro rfl (And.intro rfl (trivial))))))))) ?_
            exact g_X4_fill_146 t10 hf
          · rw [if_pos c51] at hf
            refine g_iload dX4_fill_130 rfl ?_
            refine g_aload_n dX4_fill_132 rfl ?_
            replace hf := Option.bind_eq_some_iff.mp hf
            obtain ⟨v52, q53, hf⟩ := hf
            refine g_gR f_X4_21 dX4_fill_133 q53 ?_
            refine g_iload dX4_fill_136 rfl ?_
            replace hf := Option.bind_eq_some_iff.mp hf
            obtain ⟨v54, q55, hf⟩ := hf
            refine g_aI dX4_fill_138 q55 ?_
            refine g_icmp_le (tgt := 146) dX4_fill_139 (by decide) (fun c56 => ?_) (fun c56 => ?_)
            · rw [if_pos c56] at hf
              refine g_weak (lv2 := [some (.ref x0), some (.ref x1), some (.int x2), some (.int x3), some (.int x4), some (.int x5), none, none, some (.int (v26 + v33)), some (.int v40), none]) (And.intro rfl (And.intro rfl (And.intro rfl (And.intro rfl (And.intro rfl (And.intro rfl (And.intro rfl (And.intro rfl (trivial))))))))) ?_
              exact g_X4_fill_146 t10 hf
            · rw [if_neg c56] at hf
              refine g_weak (lv2 := [some (.ref x0), some (.ref x1), some (.int x2), some (.int x3), some (.int x4), some (.int x5), none, none, some (.int (v26 + v33)), some (.int v40), none]) (And.intro rfl (And.intro rfl (And.intro rfl (And.intro rfl (And.intro rfl (And.intro rfl (And.intro rfl (And.intro rfl (trivial))))))))) ?_
              exact g_X4_fill_142 t10 hf
      · rw [if_neg c14] at hf
        refine g_goto (tgt := 186) dX4_fill_50 (by decide) ?_
        refine g_weak (lv2 := [some (.ref x0), some (.ref x1), some (.int x2), some (.int x3), some (.int x4), some (.int x5), none, none, none, none, none]) (And.intro rfl (And.intro rfl (And.intro rfl (And.intro rfl (And.intro rfl (And.intro rfl (trivial))))))) ?_
        exact g_X4_fill_186 t10 hf
def F_X4_fill_0 (n : Nat)  (x0 : Nat) (x1 : Nat) (x2 : Int32) (x3 : Int32) (h : gH) : Option (gH) :=
  gB (F_X4_spot n x2 x3 h) fun v3 h1 =>
  F_X4_fill_10 n n x0 x1 x2 x3 v3 (0 : Int32) h1
set_option maxRecDepth 20000 in
set_option maxHeartbeats 1600000 in
theorem g_X4_fill_0 {n d : Nat} : ∀ {x0 : Nat} {x1 : Nat} {x2 : Int32} {x3 : Int32} {h : gH} {rh : gH}, F_X4_fill_0 n x0 x1 x2 x3 h = some rh → G M_X4_fill (d + 4) 0 0 0 0 0 [some (.ref x0), some (.ref x1), some (.int x2), some (.int x3), none, none, none, none, none, none, none] [] h (qV rh) := by
  intro x0 x1 x2 x3 h rh hf
  unfold F_X4_fill_0 at hf
  refine g_iload_n dX4_fill_0 rfl ?_
  refine g_iload_n dX4_fill_1 rfl ?_
  replace hf := gB_of hf
  obtain ⟨v3, h1, q2, hf⟩ := hf
  refine g_callS (as := [.int x2, .int x3]) (mc1 := 0) (ms1 := 0) s_X4_64_X4_spot dX4_fill_2 rfl (Nat.le_of_ble_eq_true rfl) (Nat.le_of_ble_eq_true rfl) (Nat.le_of_ble_eq_true rfl) (t_X4_spot (d := d + 3) q2) (fun r9 h9 q9 => ?_)
  obtain ⟨rfl, rfl⟩ := q9
  refine g_stp (st2 := [.int v3]) (pc2 := 5) (kc2 := 0) (kn2 := 0) rfl rfl rfl rfl ?_
  refine g_istore dX4_fill_5 (by decide) (g_lvp (lv2 := [some (.ref x0), some (.ref x1), some (.int x2), some (.int x3), some (.int v3), none, none, none, none, none, none]) (pc2 := 7) rfl rfl ?_)
  refine g_iconst (v := (0 : Int32)) dX4_fill_7 (by decide) ?_
  refine g_istore dX4_fill_8 (by decide) (g_lvp (lv2 := [some (.ref x0), some (.ref x1), some (.int x2), some (.int x3), some (.int v3), some (.int (0 : Int32)), none, none, none, none, none]) (pc2 := 10) rfl rfl ?_)
  exact g_X4_fill_10 hf
def F_X4_fill (n : Nat) (a : Nat) (p0 : Nat) (p1 : Int32) (p2 : Int32) (h : gH) : Option (gH) := F_X4_fill_0 n  a p0 p1 p2 h
theorem t_X4_fill {n d : Nat} {a : Nat} {p0 : Nat} {p1 : Int32} {p2 : Int32} {h rh : gH} (hf : F_X4_fill n a p0 p1 p2 h = some rh) : T M_X4_fill (d + 4) 0 0 [.ref a, .ref p0, .int p1, .int p2] h (qV rh) := by
  refine T_of_G (L := 7) (by decide +kernel) rfl (Nat.le_of_ble_eq_true rfl) (g_lv (lv2 := [some (.ref a), some (.ref p0), some (.int p1), some (.int p2), none, none, none, none, none, none, none]) rfl ?_)
  exact g_X4_fill_0 hf
def F_X4_prepare_108 (n : Nat) (k102 : Nat → Nat → Int32 → gH → Option (gH)) : Nat → Nat → Nat → Int32 → Int32 → gH → Option (gH)
  | 0, _, _, _, _, _ => none
  | m + 1, x0, x1, x2, x3, h => (gI h x0 4 10).bind fun v1 =>
  if v1 < x3 then
  (k102 x0 x1 (x2 + (-1 : Int32)) h)
  else
  ((gO h x0 4).bind fun f4 =>
  (F_X4_fill n x0 x1 x2 x3 h).bind fun h6 =>
  F_X4_prepare_108 n k102 m x0 x1 x2 (x3 + (1 : Int32)) h6)
set_option maxRecDepth 20000 in
set_option maxHeartbeats 1600000 in
theorem g_X4_prepare_108 {n d : Nat} {k102 : Nat → Nat → Int32 → gH → Option (gH)} (t102 : ∀ {x0 : Nat} {x1 : Nat} {x2 : Int32} {h : gH} {rh : gH}, k102 x0 x1 x2 h = some rh → G M_X4_prepare (d + 5) 0 0 0 0 102 [some (.ref x0), some (.ref x1), some (.int x2), none] [] h (qV rh)) : ∀ {m : Nat} {x0 : Nat} {x1 : Nat} {x2 : Int32} {x3 : Int32} {h : gH} {rh : gH}, F_X4_prepare_108 n k102 m x0 x1 x2 x3 h = some rh → G M_X4_prepare (d + 5) 0 0 0 0 108 [some (.ref x0), some (.ref x1), some (.int x2), some (.int x3)] [] h (qV rh) := by
  intro m
  induction m with
  | zero => intro x0 x1 x2 x3 h rh hf; cases hf
  | succ m t108 =>
    intro x0 x1 x2 x3 h rh hf
    unfold F_X4_prepare_108 at hf
    refine g_iload_n dX4_prepare_108 rfl ?_
    refine g_aload_n dX4_prepare_109 rfl ?_
    replace hf := Option.bind_eq_some_iff.mp hf
    obtain ⟨v1, q2, hf⟩ := hf
    refine g_gI f_X4_63 dX4_prepare_110 q2 ?_
    refine g_icmp_gt (tgt := 129) dX4_prepare_113 (by decide) (fun c3 => ?_) (fun c3 => ?_)
    · rw [if_pos c3] at hf
      refine g_iinc2 (w := (-1 : Int32)) dX4_prepare_129 (by decide) rfl (by decide) (g_lvp (lv2 := [some (.ref x0), some (.ref x1), some (.int (x2 + (-1 : Int32))), some (.int x3)]) (pc2 := 132) rfl rfl ?_)
      refine g_goto (tgt := 102) dX4_prepare_132 (by decide) ?_
      refine g_weak (lv2 := [some (.ref x0), some (.ref x1), some (.int (x2 + (-1 : Int32))), none]) (And.intro rfl (And.intro rfl (And.intro rfl (trivial)))) ?_
      exact t102 hf
    · rw [if_neg c3] at hf
      refine g_aload_n dX4_prepare_116 rfl ?_
      refine g_aload_n dX4_prepare_117 rfl ?_
      refine g_iload_n dX4_prepare_118 rfl ?_
      refine g_iload_n dX4_prepare_119 rfl ?_
      replace hf := Option.bind_eq_some_iff.mp hf
      obtain ⟨f4, q5, hf⟩ := hf
      replace hf := Option.bind_eq_some_iff.mp hf
      obtain ⟨h6, q7, hf⟩ := hf
      refine g_callV (as := [.ref x1, .int x2, .int x3]) (mc1 := 0) (ms1 := 0) s_X4_67_X4_fill_4 dX4_prepare_120 (gO_of q5) rfl (Nat.le_of_ble_eq_true rfl) (Nat.le_of_ble_eq_true rfl) (Nat.le_of_ble_eq_true rfl) (t_X4_fill (d := d + 0) q7) (fun r9 h9 q9 => ?_)
      obtain ⟨rfl, rfl⟩ := q9
      refine g_stp (st2 := []) (pc2 := 123) (kc2 := 0) (kn2 := 0) rfl rfl rfl rfl ?_
      refine g_iinc2 (w := (1 : Int32)) dX4_prepare_123 (by decide) rfl (by decide) (g_lvp (lv2 := [some (.ref x0), some (.ref x1), some (.int x2), some (.int (x3 + (1 : Int32)))]) (pc2 := 126) rfl rfl ?_)
      refine g_goto (tgt := 108) dX4_prepare_126 (by decide) ?_
      exact t108 hf
def F_X4_prepare_102 (n : Nat)  : Nat → Nat → Nat → Int32 → gH → Option (gH)
  | 0, _, _, _, _ => none
  | m + 1, x0, x1, x2, h => if x2 < 0 then
  (some h)
  else
  (F_X4_prepare_108 n (F_X4_prepare_102 n m) n x0 x1 x2 (0 : Int32) h)
set_option maxRecDepth 20000 in
set_option maxHeartbeats 1600000 in
theorem g_X4_prepare_102 {n d : Nat} : ∀ {m : Nat} {x0 : Nat} {x1 : Nat} {x2 : Int32} {h : gH} {rh : gH}, F_X4_prepare_102 n m x0 x1 x2 h = some rh → G M_X4_prepare (d + 5) 0 0 0 0 102 [some (.ref x0), some (.ref x1), some (.int x2), none] [] h (qV rh) := by
  intro m
  induction m with
  | zero => intro x0 x1 x2 h rh hf; cases hf
  | succ m t102 =>
    intro x0 x1 x2 h rh hf
    unfold F_X4_prepare_102 at hf
    refine g_iload_n dX4_prepare_102 rfl ?_
    refine g_if_lt (tgt := 135) dX4_prepare_103 (by decide) (fun c1 => ?_) (fun c1 => ?_)
    · rw [if_pos c1] at hf
      obtain rfl := Option.some.inj hf
      exact g_vret dX4_prepare_135 rfl ⟨rfl, rfl⟩ (Nat.le_of_ble_eq_true rfl) (Nat.le_of_ble_eq_true rfl)
    · rw [if_neg c1] at hf
      refine g_iconst (v := (0 : Int32)) dX4_prepare_106 (by decide) ?_
      refine g_istore_n dX4_prepare_107 (by decide) (g_lvp (lv2 := [some (.ref x0), some (.ref x1), some (.int x2), some (.int (0 : Int32))]) (pc2 := 108) rfl rfl ?_)
      exact g_X4_prepare_108 t102 hf
def F_X4_prepare_53 (n : Nat)  : Nat → Nat → Nat → Int32 → gH → Option (gH)
  | 0, _, _, _, _ => none
  | m + 1, x0, x1, x2, h => (gI h x0 4 10).bind fun v1 =>
  if v1 < x2 then
  ((gI h x0 4 9).bind fun v4 =>
  F_X4_prepare_102 n n x0 x1 (v4 - (1 : Int32)) h)
  else
  ((gR h x0 4 2).bind fun v6 =>
  (gI h x0 4 9).bind fun v8 =>
  gB (F_X4_spot n v8 x2 h) fun v12 h10 =>
  (sI h10 v6 v12 (0 : Int32)).bind fun h13 =>
  (gR h13 x0 4 3).bind fun v15 =>
  (gI h13 x0 4 9).bind fun v17 =>
  gB (F_X4_spot n v17 x2 h13) fun v21 h19 =>
  (sI h19 v15 v21 x2).bind fun h22 =>
  F_X4_prepare_53 n m x0 x1 (x2 + (1 : Int32)) h22)
set_option maxRecDepth 20000 in
set_option maxHeartbeats 1600000 in
theorem g_X4_prepare_53 {n d : Nat} : ∀ {m : Nat} {x0 : Nat} {x1 : Nat} {x2 : Int32} {h : gH} {rh : gH}, F_X4_prepare_53 n m x0 x1 x2 h = some rh → G M_X4_prepare (d + 5) 0 0 0 0 53 [some (.ref x0), some (.ref x1), some (.int x2), none] [] h (qV rh) := by
  intro m
  induction m with
  | zero => intro x0 x1 x2 h rh hf; cases hf
  | succ m t53 =>
    intro x0 x1 x2 h rh hf
    unfold F_X4_prepare_53 at hf
    refine g_iload_n dX4_prepare_53 rfl ?_
    refine g_aload_n dX4_prepare_54 rfl ?_
    replace hf := Option.bind_eq_some_iff.mp hf
    obtain ⟨v1, q2, hf⟩ := hf
    refine g_gI f_X4_63 dX4_prepare_55 q2 ?_
    refine g_icmp_gt (tgt := 95) dX4_prepare_58 (by decide) (fun c3 => ?_) (fun c3 => ?_)
    · rw [if_pos c3] at hf
      refine g_aload_n dX4_prepare_95 rfl ?_
      replace hf := Option.bind_eq_some_iff.mp hf
      obtain ⟨v4, q5, hf⟩ := hf
      refine g_gI f_X4_59 dX4_prepare_96 q5 ?_
      refine g_iconst (v := (1 : Int32)) dX4_prepare_99 (by decide) ?_
      refine g_isub dX4_prepare_100 ?_
      refine g_istore_n dX4_prepare_101 (by decide) (g_lvp (lv2 := [some (.ref x0), some (.ref x1), some (.int (v4 - (1 : Int32))), none]) (pc2 := 102) rfl rfl ?_)
      exact g_X4_prepare_102 hf
    · rw [if_neg c3] at hf
      refine g_aload_n dX4_prepare_61 rfl ?_
      replace hf := Option.bind_eq_some_iff.mp hf
      obtain ⟨v6, q7, hf⟩ := hf
      refine g_gR f_X4_18 dX4_prepare_62 q7 ?_
      refine g_aload_n dX4_prepare_65 rfl ?_
      replace hf := Option.bind_eq_some_iff.mp hf
      obtain ⟨v8, q9, hf⟩ := hf
      refine g_gI f_X4_59 dX4_prepare_66 q9 ?_
      refine g_iload_n dX4_prepare_69 rfl ?_
      replace hf := gB_of hf
      obtain ⟨v12, h10, q11, hf⟩ := hf
      refine g_callS (as := [.int v8, .int x2]) (mc1 := 0) (ms1 := 0) s_X4_64_X4_spot dX4_prepare_70 rfl (Nat.le_of_ble_eq_true rfl) (Nat.le_of_ble_eq_true rfl) (Nat.le_of_ble_eq_true rfl) (t_X4_spot (d := d + 4) q11) (fun r9 h9 q9 => ?_)
      obtain ⟨rfl, rfl⟩ := q9
      refine g_stp (st2 := [.int v12, .ref v6]) (pc2 := 73) (kc2 := 0) (kn2 := 0) rfl rfl rfl rfl ?_
      refine g_iconst (v := (0 : Int32)) dX4_prepare_73 (by decide) ?_
      replace hf := Option.bind_eq_some_iff.mp hf
      obtain ⟨h13, q14, hf⟩ := hf
      refine g_sI dX4_prepare_74 q14 ?_
      refine g_aload_n dX4_prepare_75 rfl ?_
      replace hf := Option.bind_eq_some_iff.mp hf
      obtain ⟨v15, q16, hf⟩ := hf
      refine g_gR f_X4_21 dX4_prepare_76 q16 ?_
      refine g_aload_n dX4_prepare_79 rfl ?_
      replace hf := Option.bind_eq_some_iff.mp hf
      obtain ⟨v17, q18, hf⟩ := hf
      refine g_gI f_X4_59 dX4_prepare_80 q18 ?_
      refine g_iload_n dX4_prepare_83 rfl ?_
      replace hf := gB_of hf
      obtain ⟨v21, h19, q20, hf⟩ := hf
      refine g_callS (as := [.int v17, .int x2]) (mc1 := 0) (ms1 := 0) s_X4_64_X4_spot dX4_prepare_84 rfl (Nat.le_of_ble_eq_true rfl) (Nat.le_of_ble_eq_true rfl) (Nat.le_of_ble_eq_true rfl) (t_X4_spot (d := d + 4) q20) (fun r9 h9 q9 => ?_)
      obtain ⟨rfl, rfl⟩ := q9
      refine g_stp (st2 := [.int v21, .ref v15]) (pc2 := 87) (kc2 := 0) (kn2 := 0) rfl rfl rfl rfl ?_
      refine g_iload_n dX4_prepare_87 rfl ?_
      replace hf := Option.bind_eq_some_iff.mp hf
      obtain ⟨h22, q23, hf⟩ := hf
      refine g_sI dX4_prepare_88 q23 ?_
      refine g_iinc2 (w := (1 : Int32)) dX4_prepare_89 (by decide) rfl (by decide) (g_lvp (lv2 := [some (.ref x0), some (.ref x1), some (.int (x2 + (1 : Int32))), none]) (pc2 := 92) rfl rfl ?_)
      refine g_goto (tgt := 53) dX4_prepare_92 (by decide) ?_
      exact t53 hf
def F_X4_prepare_0 (n : Nat)  (x0 : Nat) (x1 : Nat) (h : gH) : Option (gH) :=
  (gI h x0 4 11).bind fun v1 =>
  (gI h x1 6 15).bind fun v3 =>
  if v1 = v3 then
  (some h)
  else
  ((gI h x1 6 15).bind fun v6 =>
  (pF h x0 4 11 (.int v6)).bind fun h8 =>
  (pZ h8 x0 4 12 (0 : Int32)).bind fun h10 =>
  (gI h10 x1 6 8).bind fun v12 =>
  (pF h10 x0 4 9 (.int (gmin v12 (8 : Int32)))).bind fun h14 =>
  (gI h14 x1 6 12).bind fun v16 =>
  (pF h14 x0 4 10 (.int (gmin v16 (60 : Int32)))).bind fun h18 =>
  F_X4_prepare_53 n n x0 x1 (0 : Int32) h18)
set_option maxRecDepth 20000 in
set_option maxHeartbeats 1600000 in
theorem g_X4_prepare_0 {n d : Nat} : ∀ {x0 : Nat} {x1 : Nat} {h : gH} {rh : gH}, F_X4_prepare_0 n x0 x1 h = some rh → G M_X4_prepare (d + 5) 0 0 0 0 0 [some (.ref x0), some (.ref x1), none, none] [] h (qV rh) := by
  intro x0 x1 h rh hf
  unfold F_X4_prepare_0 at hf
  refine g_aload_n dX4_prepare_0 rfl ?_
  replace hf := Option.bind_eq_some_iff.mp hf
  obtain ⟨v1, q2, hf⟩ := hf
  refine g_gI f_X4_39 dX4_prepare_1 q2 ?_
  refine g_aload_n dX4_prepare_4 rfl ?_
  replace hf := Option.bind_eq_some_iff.mp hf
  obtain ⟨v3, q4, hf⟩ := hf
  refine g_gI f_X4_43 dX4_prepare_5 q4 ?_
  refine g_icmp_ne (tgt := 12) dX4_prepare_8 (by decide) (fun c5 => ?_) (fun c5 => ?_)
  · rw [if_neg c5] at hf
    refine g_aload_n dX4_prepare_12 rfl ?_
    refine g_aload_n dX4_prepare_13 rfl ?_
    replace hf := Option.bind_eq_some_iff.mp hf
    obtain ⟨v6, q7, hf⟩ := hf
    refine g_gI f_X4_43 dX4_prepare_14 q7 ?_
    replace hf := Option.bind_eq_some_iff.mp hf
    obtain ⟨h8, q9, hf⟩ := hf
    refine g_pF p_X4_39 dX4_prepare_17 q9 (fun _ => rfl) (fun _ => rfl) ?_
    refine g_aload_n dX4_prepare_20 rfl ?_
    refine g_iconst (v := (0 : Int32)) dX4_prepare_21 (by decide) ?_
    replace hf := Option.bind_eq_some_iff.mp hf
    obtain ⟨h10, q11, hf⟩ := hf
    refine g_pZ p_X4_46 dX4_prepare_22 q11 ?_
    refine g_aload_n dX4_prepare_25 rfl ?_
    refine g_aload_n dX4_prepare_26 rfl ?_
    replace hf := Option.bind_eq_some_iff.mp hf
    obtain ⟨v12, q13, hf⟩ := hf
    refine g_gI f_X4_50 dX4_prepare_27 q13 ?_
    refine g_bipush (v := (8 : Int32)) dX4_prepare_30 (by decide) ?_
    refine g_min m_X4_53 m_min.1 m_min.2.1 m_min.2.2 dX4_prepare_32 (Nat.le_of_ble_eq_true rfl) (Nat.le_of_ble_eq_true rfl) (Nat.le_of_ble_eq_true rfl) ?_
    refine g_st (st2 := [.int (gmin v12 (8 : Int32)), .ref x0]) rfl ?_
    replace hf := Option.bind_eq_some_iff.mp hf
    obtain ⟨h14, q15, hf⟩ := hf
    refine g_pF p_X4_59 dX4_prepare_35 q15 (fun _ => rfl) (fun _ => rfl) ?_
    refine g_aload_n dX4_prepare_38 rfl ?_
    refine g_aload_n dX4_prepare_39 rfl ?_
    replace hf := Option.bind_eq_some_iff.mp hf
    obtain ⟨v16, q17, hf⟩ := hf
    refine g_gI f_X4_60 dX4_prepare_40 q17 ?_
    refine g_bipush (v := (60 : Int32)) dX4_prepare_43 (by decide) ?_
    refine g_min m_X4_53 m_min.1 m_min.2.1 m_min.2.2 dX4_prepare_45 (Nat.le_of_ble_eq_true rfl) (Nat.le_of_ble_eq_true rfl) (Nat.le_of_ble_eq_true rfl) ?_
    refine g_st (st2 := [.int (gmin v16 (60 : Int32)), .ref x0]) rfl ?_
    replace hf := Option.bind_eq_some_iff.mp hf
    obtain ⟨h18, q19, hf⟩ := hf
    refine g_pF p_X4_63 dX4_prepare_48 q19 (fun _ => rfl) (fun _ => rfl) ?_
    refine g_iconst (v := (0 : Int32)) dX4_prepare_51 (by decide) ?_
    refine g_istore_n dX4_prepare_52 (by decide) (g_lvp (lv2 := [some (.ref x0), some (.ref x1), some (.int (0 : Int32)), none]) (pc2 := 53) rfl rfl ?_)
    exact g_X4_prepare_53 hf
  · rw [if_pos c5] at hf
    obtain rfl := Option.some.inj hf
    exact g_vret dX4_prepare_11 rfl ⟨rfl, rfl⟩ (Nat.le_of_ble_eq_true rfl) (Nat.le_of_ble_eq_true rfl)
def F_X4_prepare (n : Nat) (a : Nat) (p0 : Nat) (h : gH) : Option (gH) := F_X4_prepare_0 n  a p0 h
theorem t_X4_prepare {n d : Nat} {a : Nat} {p0 : Nat} {h rh : gH} (hf : F_X4_prepare n a p0 h = some rh) : T M_X4_prepare (d + 5) 0 0 [.ref a, .ref p0] h (qV rh) := by
  refine T_of_G (L := 2) (by decide +kernel) rfl (Nat.le_of_ble_eq_true rfl) (g_lv (lv2 := [some (.ref a), some (.ref p0), none, none]) rfl ?_)
  exact g_X4_prepare_0 hf
def F_X11_by_11 (n : Nat)   (h : gH) : Option (Int32 × gH) :=
  some ((-2 : Int32), h)
set_option maxRecDepth 20000 in
set_option maxHeartbeats 1600000 in
theorem g_X11_by_11 {n d : Nat} : ∀  {h : gH} {rh : gH} {rv : Int32}, F_X11_by_11 n  h = some (rv, rh) → G M_X11_by (d + 6) 0 0 0 0 11 [none, none] [] h (qI rv rh) := by
  intro  h rh rv hf
  unfold F_X11_by_11 at hf
  refine g_bipush (v := (-2 : Int32)) dX11_by_11 (by decide) ?_
  obtain ⟨rfl, rfl⟩ := Prod.mk.inj (Option.some.inj hf)
  exact g_iret dX11_by_13 rfl ⟨rfl, rfl⟩ (Nat.le_of_ble_eq_true rfl) (Nat.le_of_ble_eq_true rfl)
def F_X11_by_0 (n : Nat)  (x0 : Nat) (x1 : Int32) (h : gH) : Option (Int32 × gH) :=
  if x1 < 0 then
  (F_X11_by_11 n h)
  else
  (if x1 < (1024 : Int32) then
  ((gR h x0 11 0).bind fun v3 =>
  (gR h v3 7 1).bind fun v5 =>
  (gI h v5 6 8).bind fun v7 =>
  if v7 = 0 then
  (some ((-3 : Int32), h))
  else
  ((gR h x0 11 3).bind fun v10 =>
  (gR h x0 11 0).bind fun v12 =>
  (gR h v12 7 1).bind fun v14 =>
  (gO h v10 4).bind fun f16 =>
  (F_X4_prepare n v10 v14 h).bind fun h18 =>
  (gR h18 x0 11 3).bind fun v20 =>
  (gO h18 v20 4).bind fun f22 =>
  gB (F_X4_fewestBy n v20 (x1 ||| (1 : Int32)) h18) fun v26 h24 =>
  some (v26, h24)))
  else
  (F_X11_by_11 n h))
set_option maxRecDepth 20000 in
set_option maxHeartbeats 1600000 in
theorem g_X11_by_0 {n d : Nat} : ∀ {x0 : Nat} {x1 : Int32} {h : gH} {rh : gH} {rv : Int32}, F_X11_by_0 n x0 x1 h = some (rv, rh) → G M_X11_by (d + 6) 0 0 0 0 0 [some (.ref x0), some (.int x1)] [] h (qI rv rh) := by
  intro x0 x1 h rh rv hf
  unfold F_X11_by_0 at hf
  refine g_iload_n dX11_by_0 rfl ?_
  refine g_if_lt (tgt := 11) dX11_by_1 (by decide) (fun c1 => ?_) (fun c1 => ?_)
  · rw [if_pos c1] at hf
    refine g_weak (lv2 := [none, none]) (trivial) ?_
    exact g_X11_by_11 hf
  · rw [if_neg c1] at hf
    refine g_iload_n dX11_by_4 rfl ?_
    refine g_sipush (v := (1024 : Int32)) dX11_by_5 (by decide) ?_
    refine g_icmp_lt (tgt := 14) dX11_by_8 (by decide) (fun c2 => ?_) (fun c2 => ?_)
    · rw [if_pos c2] at hf
      refine g_aload_n dX11_by_14 rfl ?_
      replace hf := Option.bind_eq_some_iff.mp hf
      obtain ⟨v3, q4, hf⟩ := hf
      refine g_gR f_X11_12 dX11_by_15 q4 ?_
      replace hf := Option.bind_eq_some_iff.mp hf
      obtain ⟨v5, q6, hf⟩ := hf
      refine g_gR f_X11_70 dX11_by_18 q6 ?_
      replace hf := Option.bind_eq_some_iff.mp hf
      obtain ⟨v7, q8, hf⟩ := hf
      refine g_gI f_X11_102 dX11_by_21 q8 ?_
      refine g_if_ne (tgt := 30) dX11_by_24 (by decide) (fun c9 => ?_) (fun c9 => ?_)
      · rw [if_neg c9] at hf
        refine g_aload_n dX11_by_30 rfl ?_
        replace hf := Option.bind_eq_some_iff.mp hf
        obtain ⟨v10, q11, hf⟩ := hf
        refine g_gR f_X11_31 dX11_by_31 q11 ?_
        refine g_aload_n dX11_by_34 rfl ?_
        replace hf := Option.bind_eq_some_iff.mp hf
        obtain ⟨v12, q13, hf⟩ := hf
        refine g_gR f_X11_12 dX11_by_35 q13 ?_
        replace hf := Option.bind_eq_some_iff.mp hf
        obtain ⟨v14, q15, hf⟩ := hf
        refine g_gR f_X11_70 dX11_by_38 q15 ?_
        replace hf := Option.bind_eq_some_iff.mp hf
        obtain ⟨f16, q17, hf⟩ := hf
        replace hf := Option.bind_eq_some_iff.mp hf
        obtain ⟨h18, q19, hf⟩ := hf
        refine g_callV (as := [.ref v14]) (mc1 := 0) (ms1 := 0) s_X11_158_X4_prepare_4 dX11_by_41 (gO_of q17) rfl (Nat.le_of_ble_eq_true rfl) (Nat.le_of_ble_eq_true rfl) (Nat.le_of_ble_eq_true rfl) (t_X4_prepare (d := d + 0) q19) (fun r9 h9 q9 => ?_)
        obtain ⟨rfl, rfl⟩ := q9
        refine g_stp (st2 := []) (pc2 := 44) (kc2 := 0) (kn2 := 0) rfl rfl rfl rfl ?_
        refine g_aload_n dX11_by_44 rfl ?_
        replace hf := Option.bind_eq_some_iff.mp hf
        obtain ⟨v20, q21, hf⟩ := hf
        refine g_gR f_X11_31 dX11_by_45 q21 ?_
        refine g_iload_n dX11_by_48 rfl ?_
        refine g_iconst (v := (1 : Int32)) dX11_by_49 (by decide) ?_
        refine g_ior dX11_by_50 ?_
        replace hf := Option.bind_eq_some_iff.mp hf
        obtain ⟨f22, q23, hf⟩ := hf
        replace hf := gB_of hf
        obtain ⟨v26, h24, q25, hf⟩ := hf
        refine g_callV (as := [.int (x1 ||| (1 : Int32))]) (mc1 := 0) (ms1 := 0) s_X11_223_X4_fewestBy_4 dX11_by_51 (gO_of q23) rfl (Nat.le_of_ble_eq_true rfl) (Nat.le_of_ble_eq_true rfl) (Nat.le_of_ble_eq_true rfl) (t_X4_fewestBy (d := d + 3) q25) (fun r9 h9 q9 => ?_)
        obtain ⟨rfl, rfl⟩ := q9
        refine g_stp (st2 := [.int v26]) (pc2 := 54) (kc2 := 0) (kn2 := 0) rfl rfl rfl rfl ?_
        obtain ⟨rfl, rfl⟩ := Prod.mk.inj (Option.some.inj hf)
        exact g_iret dX11_by_54 rfl ⟨rfl, rfl⟩ (Nat.le_of_ble_eq_true rfl) (Nat.le_of_ble_eq_true rfl)
      · rw [if_pos c9] at hf
        refine g_bipush (v := (-3 : Int32)) dX11_by_27 (by decide) ?_
        obtain ⟨rfl, rfl⟩ := Prod.mk.inj (Option.some.inj hf)
        exact g_iret dX11_by_29 rfl ⟨rfl, rfl⟩ (Nat.le_of_ble_eq_true rfl) (Nat.le_of_ble_eq_true rfl)
    · rw [if_neg c2] at hf
      refine g_weak (lv2 := [none, none]) (trivial) ?_
      exact g_X11_by_11 hf
def F_X11_by (n : Nat) (a : Nat) (p0 : Int32) (h : gH) : Option (Int32 × gH) := F_X11_by_0 n  a p0 h
theorem t_X11_by {n d : Nat} {a : Nat} {p0 : Int32} {h rh : gH} {rv : Int32} (hf : F_X11_by n a p0 h = some (rv, rh)) : T M_X11_by (d + 6) 0 0 [.ref a, .int p0] h (qI rv rh) := by
  refine T_of_G (L := 0) (by decide +kernel) rfl (Nat.le_of_ble_eq_true rfl) (g_lv (lv2 := [some (.ref a), some (.int p0)]) rfl ?_)
  exact g_X11_by_0 hf
def F_X11_commonDivisor_45 (n : Nat)  (x4 : Int64) (h : gH) : Option (Int64 × gH) :=
  some (x4, h)
set_option maxRecDepth 20000 in
set_option maxHeartbeats 1600000 in
theorem g_X11_commonDivisor_45 {n d : Nat} : ∀ {x4 : Int64} {h : gH} {rh : gH} {rv : Int64}, F_X11_commonDivisor_45 n x4 h = some (rv, rh) → G M_X11_commonDivisor d 0 0 0 0 45 [none, none, none, none, some (.long x4), none, none, none, none, none, none] [] h (qL rv rh) := by
  intro x4 h rh rv hf
  unfold F_X11_commonDivisor_45 at hf
  refine g_lload dX11_commonDivisor_45 rfl ?_
  obtain ⟨rfl, rfl⟩ := Prod.mk.inj (Option.some.inj hf)
  exact g_lret dX11_commonDivisor_47 rfl ⟨rfl, rfl⟩ (Nat.le_of_ble_eq_true rfl) (Nat.le_of_ble_eq_true rfl)
def F_X11_commonDivisor_9 (n : Nat)  : Nat → Int64 → Int64 → Int32 → gH → Option (Int64 × gH)
  | 0, _, _, _, _ => none
  | m + 1, x4, x6, x8, h => if (1000 : Int32) ≤ x8 then
  (F_X11_commonDivisor_45 n x4 h)
  else
  (if (lg_cmp x6 (0 : Int64)) = 0 then
  (F_X11_commonDivisor_45 n x4 h)
  else
  (if x6 = (0 : Int64) then none else
  F_X11_commonDivisor_9 n m x6 (x4 - x4 / x6 * x6) (x8 + (1 : Int32)) h))
set_option maxRecDepth 20000 in
set_option maxHeartbeats 1600000 in
theorem g_X11_commonDivisor_9 {n d : Nat} : ∀ {m : Nat} {x4 : Int64} {x6 : Int64} {x8 : Int32} {h : gH} {rh : gH} {rv : Int64}, F_X11_commonDivisor_9 n m x4 x6 x8 h = some (rv, rh) → G M_X11_commonDivisor d 0 0 0 0 9 [none, none, none, none, some (.long x4), none, some (.long x6), none, some (.int x8), none, none] [] h (qL rv rh) := by
  intro m
  induction m with
  | zero => intro x4 x6 x8 h rh rv hf; cases hf
  | succ m t9 =>
    intro x4 x6 x8 h rh rv hf
    unfold F_X11_commonDivisor_9 at hf
    refine g_iload dX11_commonDivisor_9 rfl ?_
    refine g_sipush (v := (1000 : Int32)) dX11_commonDivisor_11 (by decide) ?_
    refine g_icmp_ge (tgt := 45) dX11_commonDivisor_14 (by decide) (fun c1 => ?_) (fun c1 => ?_)
    · rw [if_pos c1] at hf
      refine g_weak (lv2 := [none, none, none, none, some (.long x4), none, none, none, none, none, none]) (And.intro rfl (trivial)) ?_
      exact g_X11_commonDivisor_45 hf
    · rw [if_neg c1] at hf
      refine g_lload dX11_commonDivisor_17 rfl ?_
      refine g_lconst (v := (0 : Int64)) dX11_commonDivisor_19 (by decide) ?_
      refine g_lcmp dX11_commonDivisor_20 ?_
      refine g_if_eq (tgt := 45) dX11_commonDivisor_21 (by decide) (fun c2 => ?_) (fun c2 => ?_)
      · rw [if_pos c2] at hf
        refine g_weak (lv2 := [none, none, none, none, some (.long x4), none, none, none, none, none, none]) (And.intro rfl (trivial)) ?_
        exact g_X11_commonDivisor_45 hf
      · rw [if_neg c2] at hf
        refine g_lload dX11_commonDivisor_24 rfl ?_
        refine g_lload dX11_commonDivisor_26 rfl ?_
        by_cases c3 : x6 = (0 : Int64)
        · rw [if_pos c3] at hf; cases hf
        rw [if_neg c3] at hf
        refine g_lrem dX11_commonDivisor_28 c3 ?_
        refine g_lstore dX11_commonDivisor_29 (by decide) (g_lvp (lv2 := [none, none, none, none, some (.long x4), none, some (.long x6), none, some (.int x8), some (.long (x4 - x4 / x6 * x6)), none]) (pc2 := 31) rfl rfl ?_)
        refine g_lload dX11_commonDivisor_31 rfl ?_
        refine g_lstore dX11_commonDivisor_33 (by decide) (g_lvp (lv2 := [none, none, none, none, some (.long x6), none, some (.long x6), none, some (.int x8), some (.long (x4 - x4 / x6 * x6)), none]) (pc2 := 35) rfl rfl ?_)
        refine g_lload dX11_commonDivisor_35 rfl ?_
        refine g_lstore dX11_commonDivisor_37 (by decide) (g_lvp (lv2 := [none, none, none, none, some (.long x6), none, some (.long (x4 - x4 / x6 * x6)), none, some (.int x8), some (.long (x4 - x4 / x6 * x6)), none]) (pc2 := 39) rfl rfl ?_)
        refine g_iinc2 (w := (1 : Int32)) dX11_commonDivisor_39 (by decide) rfl (by decide) (g_lvp (lv2 := [none, none, none, none, some (.long x6), none, some (.long (x4 - x4 / x6 * x6)), none, some (.int (x8 + (1 : Int32))), some (.long (x4 - x4 / x6 * x6)), none]) (pc2 := 42) rfl rfl ?_)
        refine g_goto (tgt := 9) dX11_commonDivisor_42 (by decide) ?_
        refine g_weak (lv2 := [none, none, none, none, some (.long x6), none, some (.long (x4 - x4 / x6 * x6)), none, some (.int (x8 + (1 : Int32))), none, none]) (And.intro rfl (And.intro rfl (And.intro rfl (trivial)))) ?_
        exact t9 hf
def F_X11_commonDivisor_0 (n : Nat)  (x0 : Int64) (x2 : Int64) (h : gH) : Option (Int64 × gH) :=
  F_X11_commonDivisor_9 n n x0 x2 (0 : Int32) h
set_option maxRecDepth 20000 in
set_option maxHeartbeats 1600000 in
theorem g_X11_commonDivisor_0 {n d : Nat} : ∀ {x0 : Int64} {x2 : Int64} {h : gH} {rh : gH} {rv : Int64}, F_X11_commonDivisor_0 n x0 x2 h = some (rv, rh) → G M_X11_commonDivisor d 0 0 0 0 0 [some (.long x0), none, some (.long x2), none, none, none, none, none, none, none, none] [] h (qL rv rh) := by
  intro x0 x2 h rh rv hf
  unfold F_X11_commonDivisor_0 at hf
  refine g_lload_n dX11_commonDivisor_0 rfl ?_
  refine g_lstore dX11_commonDivisor_1 (by decide) (g_lvp (lv2 := [some (.long x0), none, some (.long x2), none, some (.long x0), none, none, none, none, none, none]) (pc2 := 3) rfl rfl ?_)
  refine g_lload_n dX11_commonDivisor_3 rfl ?_
  refine g_lstore dX11_commonDivisor_4 (by decide) (g_lvp (lv2 := [some (.long x0), none, some (.long x2), none, some (.long x0), none, some (.long x2), none, none, none, none]) (pc2 := 6) rfl rfl ?_)
  refine g_iconst (v := (0 : Int32)) dX11_commonDivisor_6 (by decide) ?_
  refine g_istore dX11_commonDivisor_7 (by decide) (g_lvp (lv2 := [some (.long x0), none, some (.long x2), none, some (.long x0), none, some (.long x2), none, some (.int (0 : Int32)), none, none]) (pc2 := 9) rfl rfl ?_)
  refine g_weak (lv2 := [none, none, none, none, some (.long x0), none, some (.long x2), none, some (.int (0 : Int32)), none, none]) (And.intro rfl (And.intro rfl (And.intro rfl (trivial)))) ?_
  exact g_X11_commonDivisor_9 hf
def F_X11_commonDivisor (n : Nat) (p0 : Int64) (p1 : Int64) (h : gH) : Option (Int64 × gH) := F_X11_commonDivisor_0 n  p0 p1 h
theorem t_X11_commonDivisor {n d : Nat} {p0 : Int64} {p1 : Int64} {h rh : gH} {rv : Int64} (hf : F_X11_commonDivisor n p0 p1 h = some (rv, rh)) : T M_X11_commonDivisor d 0 0 [.long p0, .long p1] h (qL rv rh) := by
  refine T_of_G (L := 7) (by decide +kernel) rfl (Nat.le_of_ble_eq_true rfl) (g_lv (lv2 := [some (.long p0), none, some (.long p1), none, none, none, none, none, none, none, none]) rfl ?_)
  exact g_X11_commonDivisor_0 hf
def F_X11_copyRow_26 (n : Nat)   (h : gH) : Option (gH) :=
  some h
set_option maxRecDepth 20000 in
set_option maxHeartbeats 1600000 in
theorem g_X11_copyRow_26 {n d : Nat} : ∀  {h : gH} {rh : gH}, F_X11_copyRow_26 n  h = some rh → G M_X11_copyRow d 0 0 0 0 26 [none, none, none] [] h (qV rh) := by
  intro  h rh hf
  unfold F_X11_copyRow_26 at hf
  obtain rfl := Option.some.inj hf
  exact g_vret dX11_copyRow_26 rfl ⟨rfl, rfl⟩ (Nat.le_of_ble_eq_true rfl) (Nat.le_of_ble_eq_true rfl)
def F_X11_copyRow_2 (n : Nat)  : Nat → Nat → Nat → Int32 → gH → Option (gH)
  | 0, _, _, _, _ => none
  | m + 1, x0, x1, x2, h => (lenI h x0).bind fun v1 =>
  if v1 ≤ x2 then
  (F_X11_copyRow_26 n h)
  else
  ((lenI h x1).bind fun v4 =>
  if v4 ≤ x2 then
  (F_X11_copyRow_26 n h)
  else
  ((aI h x0 x2).bind fun v7 =>
  (sI h x1 x2 v7).bind fun h9 =>
  F_X11_copyRow_2 n m x0 x1 (x2 + (1 : Int32)) h9))
set_option maxRecDepth 20000 in
set_option maxHeartbeats 1600000 in
theorem g_X11_copyRow_2 {n d : Nat} : ∀ {m : Nat} {x0 : Nat} {x1 : Nat} {x2 : Int32} {h : gH} {rh : gH}, F_X11_copyRow_2 n m x0 x1 x2 h = some rh → G M_X11_copyRow d 0 0 0 0 2 [some (.ref x0), some (.ref x1), some (.int x2)] [] h (qV rh) := by
  intro m
  induction m with
  | zero => intro x0 x1 x2 h rh hf; cases hf
  | succ m t2 =>
    intro x0 x1 x2 h rh hf
    unfold F_X11_copyRow_2 at hf
    refine g_iload_n dX11_copyRow_2 rfl ?_
    refine g_aload_n dX11_copyRow_3 rfl ?_
    replace hf := Option.bind_eq_some_iff.mp hf
    obtain ⟨v1, q2, hf⟩ := hf
    refine g_lenI dX11_copyRow_4 q2 ?_
    refine g_icmp_ge (tgt := 26) dX11_copyRow_5 (by decide) (fun c3 => ?_) (fun c3 => ?_)
    · rw [if_pos c3] at hf
      refine g_weak (lv2 := [none, none, none]) (trivial) ?_
      exact g_X11_copyRow_26 hf
    · rw [if_neg c3] at hf
      refine g_iload_n dX11_copyRow_8 rfl ?_
      refine g_aload_n dX11_copyRow_9 rfl ?_
      replace hf := Option.bind_eq_some_iff.mp hf
      obtain ⟨v4, q5, hf⟩ := hf
      refine g_lenI dX11_copyRow_10 q5 ?_
      refine g_icmp_ge (tgt := 26) dX11_copyRow_11 (by decide) (fun c6 => ?_) (fun c6 => ?_)
      · rw [if_pos c6] at hf
        refine g_weak (lv2 := [none, none, none]) (trivial) ?_
        exact g_X11_copyRow_26 hf
      · rw [if_neg c6] at hf
        refine g_aload_n dX11_copyRow_14 rfl ?_
        refine g_iload_n dX11_copyRow_15 rfl ?_
        refine g_aload_n dX11_copyRow_16 rfl ?_
        refine g_iload_n dX11_copyRow_17 rfl ?_
        replace hf := Option.bind_eq_some_iff.mp hf
        obtain ⟨v7, q8, hf⟩ := hf
        refine g_aI dX11_copyRow_18 q8 ?_
        replace hf := Option.bind_eq_some_iff.mp hf
        obtain ⟨h9, q10, hf⟩ := hf
        refine g_sI dX11_copyRow_19 q10 ?_
        refine g_iinc2 (w := (1 : Int32)) dX11_copyRow_20 (by decide) rfl (by decide) (g_lvp (lv2 := [some (.ref x0), some (.ref x1), some (.int (x2 + (1 : Int32)))]) (pc2 := 23) rfl rfl ?_)
        refine g_goto (tgt := 2) dX11_copyRow_23 (by decide) ?_
        exact t2 hf
def F_X11_copyRow_0 (n : Nat)  (x0 : Nat) (x1 : Nat) (h : gH) : Option (gH) :=
  F_X11_copyRow_2 n n x0 x1 (0 : Int32) h
set_option maxRecDepth 20000 in
set_option maxHeartbeats 1600000 in
theorem g_X11_copyRow_0 {n d : Nat} : ∀ {x0 : Nat} {x1 : Nat} {h : gH} {rh : gH}, F_X11_copyRow_0 n x0 x1 h = some rh → G M_X11_copyRow d 0 0 0 0 0 [some (.ref x0), some (.ref x1), none] [] h (qV rh) := by
  intro x0 x1 h rh hf
  unfold F_X11_copyRow_0 at hf
  refine g_iconst (v := (0 : Int32)) dX11_copyRow_0 (by decide) ?_
  refine g_istore_n dX11_copyRow_1 (by decide) (g_lvp (lv2 := [some (.ref x0), some (.ref x1), some (.int (0 : Int32))]) (pc2 := 2) rfl rfl ?_)
  exact g_X11_copyRow_2 hf
def F_X11_copyRow (n : Nat) (p0 : Nat) (p1 : Nat) (h : gH) : Option (gH) := F_X11_copyRow_0 n  p0 p1 h
theorem t_X11_copyRow {n d : Nat} {p0 : Nat} {p1 : Nat} {h rh : gH} (hf : F_X11_copyRow n p0 p1 h = some rh) : T M_X11_copyRow d 0 0 [.ref p0, .ref p1] h (qV rh) := by
  refine T_of_G (L := 1) (by decide +kernel) rfl (Nat.le_of_ble_eq_true rfl) (g_lv (lv2 := [some (.ref p0), some (.ref p1), none]) rfl ?_)
  exact g_X11_copyRow_0 hf
def F_X11_count_0 (n : Nat)  (x0 : Nat) (x1 : Int32) (h : gH) : Option (Int32 × gH) :=
  if x1 = (0 : Int32) then
  ((gR h x0 11 0).bind fun v2 =>
  (gR h v2 7 1).bind fun v4 =>
  (gI h v4 6 8).bind fun v6 =>
  some (v6, h))
  else if x1 = (1 : Int32) then
  ((gR h x0 11 0).bind fun v9 =>
  (gI h v9 7 8).bind fun v11 =>
  some (v11, h))
  else if x1 = (2 : Int32) then
  ((gR h x0 11 0).bind fun v14 =>
  (gI h v14 7 7).bind fun v16 =>
  some (v16, h))
  else if x1 = (3 : Int32) then
  ((gR h x0 11 0).bind fun v19 =>
  (gI h v19 7 9).bind fun v21 =>
  some (v21, h))
  else if x1 = (4 : Int32) then
  ((gR h x0 11 0).bind fun v24 =>
  (gI h v24 7 6).bind fun v26 =>
  some (v26, h))
  else if x1 = (5 : Int32) then
  ((gR h x0 11 0).bind fun v29 =>
  (gI h v29 7 10).bind fun v31 =>
  some (v31, h))
  else (some ((-1 : Int32), h))
set_option maxRecDepth 20000 in
set_option maxHeartbeats 1600000 in
theorem g_X11_count_0 {n d : Nat} : ∀ {x0 : Nat} {x1 : Int32} {h : gH} {rh : gH} {rv : Int32}, F_X11_count_0 n x0 x1 h = some (rv, rh) → G M_X11_count d 0 0 0 0 0 [some (.ref x0), some (.int x1)] [] h (qI rv rh) := by
  intro x0 x1 h rh rv hf
  unfold F_X11_count_0 at hf
  refine g_iload_n dX11_count_0 rfl ?_
  by_cases c1 : x1 = (0 : Int32)
  · rw [if_pos c1] at hf
    refine g_tswK (k := (0 : Int32)) (off := 39) (tgt := 40) dX11_count_1 c1 (by decide) (by decide) (by decide) (by decide) ?_
    refine g_aload_n dX11_count_40 rfl ?_
    replace hf := Option.bind_eq_some_iff.mp hf
    obtain ⟨v2, q3, hf⟩ := hf
    refine g_gR f_X11_12 dX11_count_41 q3 ?_
    replace hf := Option.bind_eq_some_iff.mp hf
    obtain ⟨v4, q5, hf⟩ := hf
    refine g_gR f_X11_70 dX11_count_44 q5 ?_
    replace hf := Option.bind_eq_some_iff.mp hf
    obtain ⟨v6, q7, hf⟩ := hf
    refine g_gI f_X11_102 dX11_count_47 q7 ?_
    obtain ⟨rfl, rfl⟩ := Prod.mk.inj (Option.some.inj hf)
    exact g_iret dX11_count_50 rfl ⟨rfl, rfl⟩ (Nat.le_of_ble_eq_true rfl) (Nat.le_of_ble_eq_true rfl)
  rw [if_neg c1] at hf
  by_cases c8 : x1 = (1 : Int32)
  · rw [if_pos c8] at hf
    refine g_tswK (k := (1 : Int32)) (off := 50) (tgt := 51) dX11_count_1 c8 (by decide) (by decide) (by decide) (by decide) ?_
    refine g_aload_n dX11_count_51 rfl ?_
    replace hf := Option.bind_eq_some_iff.mp hf
    obtain ⟨v9, q10, hf⟩ := hf
    refine g_gR f_X11_12 dX11_count_52 q10 ?_
    replace hf := Option.bind_eq_some_iff.mp hf
    obtain ⟨v11, q12, hf⟩ := hf
    refine g_gI f_X11_133 dX11_count_55 q12 ?_
    obtain ⟨rfl, rfl⟩ := Prod.mk.inj (Option.some.inj hf)
    exact g_iret dX11_count_58 rfl ⟨rfl, rfl⟩ (Nat.le_of_ble_eq_true rfl) (Nat.le_of_ble_eq_true rfl)
  rw [if_neg c8] at hf
  by_cases c13 : x1 = (2 : Int32)
  · rw [if_pos c13] at hf
    refine g_tswK (k := (2 : Int32)) (off := 58) (tgt := 59) dX11_count_1 c13 (by decide) (by decide) (by decide) (by decide) ?_
    refine g_aload_n dX11_count_59 rfl ?_
    replace hf := Option.bind_eq_some_iff.mp hf
    obtain ⟨v14, q15, hf⟩ := hf
    refine g_gR f_X11_12 dX11_count_60 q15 ?_
    replace hf := Option.bind_eq_some_iff.mp hf
    obtain ⟨v16, q17, hf⟩ := hf
    refine g_gI f_X11_57 dX11_count_63 q17 ?_
    obtain ⟨rfl, rfl⟩ := Prod.mk.inj (Option.some.inj hf)
    exact g_iret dX11_count_66 rfl ⟨rfl, rfl⟩ (Nat.le_of_ble_eq_true rfl) (Nat.le_of_ble_eq_true rfl)
  rw [if_neg c13] at hf
  by_cases c18 : x1 = (3 : Int32)
  · rw [if_pos c18] at hf
    refine g_tswK (k := (3 : Int32)) (off := 66) (tgt := 67) dX11_count_1 c18 (by decide) (by decide) (by decide) (by decide) ?_
    refine g_aload_n dX11_count_67 rfl ?_
    replace hf := Option.bind_eq_some_iff.mp hf
    obtain ⟨v19, q20, hf⟩ := hf
    refine g_gR f_X11_12 dX11_count_68 q20 ?_
    replace hf := Option.bind_eq_some_iff.mp hf
    obtain ⟨v21, q22, hf⟩ := hf
    refine g_gI f_X11_187 dX11_count_71 q22 ?_
    obtain ⟨rfl, rfl⟩ := Prod.mk.inj (Option.some.inj hf)
    exact g_iret dX11_count_74 rfl ⟨rfl, rfl⟩ (Nat.le_of_ble_eq_true rfl) (Nat.le_of_ble_eq_true rfl)
  rw [if_neg c18] at hf
  by_cases c23 : x1 = (4 : Int32)
  · rw [if_pos c23] at hf
    refine g_tswK (k := (4 : Int32)) (off := 74) (tgt := 75) dX11_count_1 c23 (by decide) (by decide) (by decide) (by decide) ?_
    refine g_aload_n dX11_count_75 rfl ?_
    replace hf := Option.bind_eq_some_iff.mp hf
    obtain ⟨v24, q25, hf⟩ := hf
    refine g_gR f_X11_12 dX11_count_76 q25 ?_
    replace hf := Option.bind_eq_some_iff.mp hf
    obtain ⟨v26, q27, hf⟩ := hf
    refine g_gI f_X11_49 dX11_count_79 q27 ?_
    obtain ⟨rfl, rfl⟩ := Prod.mk.inj (Option.some.inj hf)
    exact g_iret dX11_count_82 rfl ⟨rfl, rfl⟩ (Nat.le_of_ble_eq_true rfl) (Nat.le_of_ble_eq_true rfl)
  rw [if_neg c23] at hf
  by_cases c28 : x1 = (5 : Int32)
  · rw [if_pos c28] at hf
    refine g_tswK (k := (5 : Int32)) (off := 82) (tgt := 83) dX11_count_1 c28 (by decide) (by decide) (by decide) (by decide) ?_
    refine g_aload_n dX11_count_83 rfl ?_
    replace hf := Option.bind_eq_some_iff.mp hf
    obtain ⟨v29, q30, hf⟩ := hf
    refine g_gR f_X11_12 dX11_count_84 q30 ?_
    replace hf := Option.bind_eq_some_iff.mp hf
    obtain ⟨v31, q32, hf⟩ := hf
    refine g_gI f_X11_231 dX11_count_87 q32 ?_
    obtain ⟨rfl, rfl⟩ := Prod.mk.inj (Option.some.inj hf)
    exact g_iret dX11_count_90 rfl ⟨rfl, rfl⟩ (Nat.le_of_ble_eq_true rfl) (Nat.le_of_ble_eq_true rfl)
  rw [if_neg c28] at hf
  have zc1 : (x1).toInt ≠ 0 := fun e => c1 (Int32.toInt_inj.mp (e.trans (by decide)))
  have zc8 : (x1).toInt ≠ 1 := fun e => c8 (Int32.toInt_inj.mp (e.trans (by decide)))
  have zc13 : (x1).toInt ≠ 2 := fun e => c13 (Int32.toInt_inj.mp (e.trans (by decide)))
  have zc18 : (x1).toInt ≠ 3 := fun e => c18 (Int32.toInt_inj.mp (e.trans (by decide)))
  have zc23 : (x1).toInt ≠ 4 := fun e => c23 (Int32.toInt_inj.mp (e.trans (by decide)))
  have zc28 : (x1).toInt ≠ 5 := fun e => c28 (Int32.toInt_inj.mp (e.trans (by decide)))
  refine g_tableOut (tgt := 91) dX11_count_1 (by omega) (by decide) ?_
  refine g_iconst (v := (-1 : Int32)) dX11_count_91 (by decide) ?_
  obtain ⟨rfl, rfl⟩ := Prod.mk.inj (Option.some.inj hf)
  exact g_iret dX11_count_92 rfl ⟨rfl, rfl⟩ (Nat.le_of_ble_eq_true rfl) (Nat.le_of_ble_eq_true rfl)
def F_X11_count (n : Nat) (a : Nat) (p0 : Int32) (h : gH) : Option (Int32 × gH) := F_X11_count_0 n  a p0 h
theorem t_X11_count {n d : Nat} {a : Nat} {p0 : Int32} {h rh : gH} {rv : Int32} (hf : F_X11_count n a p0 h = some (rv, rh)) : T M_X11_count d 0 0 [.ref a, .int p0] h (qI rv rh) := by
  refine T_of_G (L := 0) (by decide +kernel) rfl (Nat.le_of_ble_eq_true rfl) (g_lv (lv2 := [some (.ref a), some (.int p0)]) rfl ?_)
  exact g_X11_count_0 hf
def F_X11_countedRow_0 (n : Nat)  (x0 : Nat) (h : gH) : Option (Int32 × gH) :=
  (gR h x0 11 0).bind fun v1 =>
  (gI h v1 7 9).bind fun v3 =>
  (gR h x0 11 0).bind fun v5 =>
  (gR h v5 7 1).bind fun v7 =>
  (gI h v7 6 8).bind fun v9 =>
  some ((gmin v3 v9), h)
set_option maxRecDepth 20000 in
set_option maxHeartbeats 1600000 in
theorem g_X11_countedRow_0 {n d : Nat} : ∀ {x0 : Nat} {h : gH} {rh : gH} {rv : Int32}, F_X11_countedRow_0 n x0 h = some (rv, rh) → G M_X11_countedRow (d + 1) 0 0 0 0 0 [some (.ref x0)] [] h (qI rv rh) := by
  intro x0 h rh rv hf
  unfold F_X11_countedRow_0 at hf
  refine g_aload_n dX11_countedRow_0 rfl ?_
  replace hf := Option.bind_eq_some_iff.mp hf
  obtain ⟨v1, q2, hf⟩ := hf
  refine g_gR f_X11_12 dX11_countedRow_1 q2 ?_
  replace hf := Option.bind_eq_some_iff.mp hf
  obtain ⟨v3, q4, hf⟩ := hf
  refine g_gI f_X11_187 dX11_countedRow_4 q4 ?_
  refine g_aload_n dX11_countedRow_7 rfl ?_
  replace hf := Option.bind_eq_some_iff.mp hf
  obtain ⟨v5, q6, hf⟩ := hf
  refine g_gR f_X11_12 dX11_countedRow_8 q6 ?_
  replace hf := Option.bind_eq_some_iff.mp hf
  obtain ⟨v7, q8, hf⟩ := hf
  refine g_gR f_X11_70 dX11_countedRow_11 q8 ?_
  replace hf := Option.bind_eq_some_iff.mp hf
  obtain ⟨v9, q10, hf⟩ := hf
  refine g_gI f_X11_102 dX11_countedRow_14 q10 ?_
  refine g_min m_X11_286 m_min.1 m_min.2.1 m_min.2.2 dX11_countedRow_17 (Nat.le_of_ble_eq_true rfl) (Nat.le_of_ble_eq_true rfl) (Nat.le_of_ble_eq_true rfl) ?_
  refine g_st (st2 := [.int (gmin v3 v9)]) rfl ?_
  obtain ⟨rfl, rfl⟩ := Prod.mk.inj (Option.some.inj hf)
  exact g_iret dX11_countedRow_20 rfl ⟨rfl, rfl⟩ (Nat.le_of_ble_eq_true rfl) (Nat.le_of_ble_eq_true rfl)
def F_X11_countedRow (n : Nat) (a : Nat) (h : gH) : Option (Int32 × gH) := F_X11_countedRow_0 n  a h
theorem t_X11_countedRow {n d : Nat} {a : Nat} {h rh : gH} {rv : Int32} (hf : F_X11_countedRow n a h = some (rv, rh)) : T M_X11_countedRow (d + 1) 0 0 [.ref a] h (qI rv rh) := by
  refine T_of_G (L := 0) (by decide +kernel) rfl (Nat.le_of_ble_eq_true rfl) (g_lv (lv2 := [some (.ref a)]) rfl ?_)
  exact g_X11_countedRow_0 hf
def F_X1_wants_0 (n : Nat)  (x0 : Nat) (h : gH) : Option (Int32 × gH) :=
  (gIw h x0 1).bind fun v1 =>
  some (v1, h)
set_option maxRecDepth 20000 in
set_option maxHeartbeats 1600000 in
theorem g_X1_wants_0 {n d : Nat} : ∀ {x0 : Nat} {h : gH} {rh : gH} {rv : Int32}, F_X1_wants_0 n x0 h = some (rv, rh) → G M_X1_wants d 0 0 0 0 0 [some (.ref x0), none, none, none, none] [] h (qI rv rh) := by
  intro x0 h rh rv hf
  unfold F_X1_wants_0 at hf
  refine g_aload_n dX1_wants_0 rfl ?_
  replace hf := Option.bind_eq_some_iff.mp hf
  obtain ⟨v1, q2, hf⟩ := hf
  refine g_gIw fw_X1_7 dX1_wants_1 q2 ?_
  obtain ⟨rfl, rfl⟩ := Prod.mk.inj (Option.some.inj hf)
  exact g_iret dX1_wants_4 rfl ⟨rfl, rfl⟩ (Nat.le_of_ble_eq_true rfl) (Nat.le_of_ble_eq_true rfl)
def F_X1_wants (n : Nat) (a : Nat) (p0 : Nat) (p1 : Nat) (p2 : Int32) (p3 : Int32) (h : gH) : Option (Int32 × gH) := F_X1_wants_0 n  a h
theorem t_X1_wants {n d : Nat} {a : Nat} {p0 : Nat} {p1 : Nat} {p2 : Int32} {p3 : Int32} {h rh : gH} {rv : Int32} (hf : F_X1_wants n a p0 p1 p2 p3 h = some (rv, rh)) : T M_X1_wants d 0 0 [.ref a, .ref p0, .ref p1, .int p2, .int p3] h (qI rv rh) := by
  refine T_of_G (L := 0) (by decide +kernel) rfl (Nat.le_of_ble_eq_true rfl) (g_lv (lv2 := [some (.ref a), some (.ref p0), some (.ref p1), some (.int p2), some (.int p3)]) rfl ?_)
  refine g_weak (lv2 := [some (.ref a), none, none, none, none]) (And.intro rfl (trivial)) ?_
  exact g_X1_wants_0 hf
def F_X2_wants_54 (n : Nat)  (y0 : Int32) (h : gH) : Option (Int32 × gH) :=
  some (y0, h)
set_option maxRecDepth 20000 in
set_option maxHeartbeats 1600000 in
theorem g_X2_wants_54 {n d : Nat} : ∀ {y0 : Int32} {h : gH} {rh : gH} {rv : Int32}, F_X2_wants_54 n y0 h = some (rv, rh) → G M_X2_wants d 0 0 0 0 54 [none, none, none, none, none, none, none] [.int y0] h (qI rv rh) := by
  intro y0 h rh rv hf
  unfold F_X2_wants_54 at hf
  obtain ⟨rfl, rfl⟩ := Prod.mk.inj (Option.some.inj hf)
  exact g_iret dX2_wants_54 rfl ⟨rfl, rfl⟩ (Nat.le_of_ble_eq_true rfl) (Nat.le_of_ble_eq_true rfl)
def F_X2_wants_35 (n : Nat)  (x0 : Nat) (x5 : Nat) (y0 : Int32) (h : gH) : Option (Int32 × gH) :=
  if y0 = 0 then
  ((gIw h x0 1).bind fun v2 =>
  F_X2_wants_54 n v2 h)
  else
  ((gI h x5 6 11).bind fun v4 =>
  F_X2_wants_54 n v4 h)
set_option maxRecDepth 20000 in
set_option maxHeartbeats 1600000 in
theorem g_X2_wants_35 {n d : Nat} : ∀ {x0 : Nat} {x5 : Nat} {y0 : Int32} {h : gH} {rh : gH} {rv : Int32}, F_X2_wants_35 n x0 x5 y0 h = some (rv, rh) → G M_X2_wants d 0 0 0 0 35 [some (.ref x0), none, none, none, none, some (.ref x5), none] [.int y0] h (qI rv rh) := by
  intro x0 x5 y0 h rh rv hf
  unfold F_X2_wants_35 at hf
  refine g_istore dX2_wants_35 (by decide) (g_lvp (lv2 := [some (.ref x0), none, none, none, none, some (.ref x5), some (.int y0)]) (pc2 := 37) rfl rfl ?_)
  refine g_iload dX2_wants_37 rfl ?_
  refine g_if_eq (tgt := 50) dX2_wants_39 (by decide) (fun c1 => ?_) (fun c1 => ?_)
  · rw [if_pos c1] at hf
    refine g_aload_n dX2_wants_50 rfl ?_
    replace hf := Option.bind_eq_some_iff.mp hf
    obtain ⟨v2, q3, hf⟩ := hf
    refine g_gIw fw_X2_25 dX2_wants_51 q3 ?_
    refine g_weak (lv2 := [none, none, none, none, none, none, none]) (trivial) ?_
    exact g_X2_wants_54 hf
  · rw [if_neg c1] at hf
    refine g_aload dX2_wants_42 rfl ?_
    replace hf := Option.bind_eq_some_iff.mp hf
    obtain ⟨v4, q5, hf⟩ := hf
    refine g_gI f_X2_22 dX2_wants_44 q5 ?_
    refine g_goto (tgt := 54) dX2_wants_47 (by decide) ?_
    refine g_weak (lv2 := [none, none, none, none, none, none, none]) (trivial) ?_
    exact g_X2_wants_54 hf
def F_X2_wants_0 (n : Nat)  (x0 : Nat) (x1 : Nat) (x3 : Int32) (x4 : Int32) (h : gH) : Option (Int32 × gH) :=
  (gR h x1 7 1).bind fun v1 =>
  (gI h v1 6 8).bind fun v3 =>
  (gI h v1 6 12).bind fun v5 =>
  (gI h v1 6 8).bind fun v7 =>
  if (v5 * (v7 - x3)) ≤ (x4 * v3) then
  (F_X2_wants_35 n x0 v1 (0 : Int32) h)
  else
  (F_X2_wants_35 n x0 v1 (1 : Int32) h)
set_option maxRecDepth 20000 in
set_option maxHeartbeats 1600000 in
theorem g_X2_wants_0 {n d : Nat} : ∀ {x0 : Nat} {x1 : Nat} {x3 : Int32} {x4 : Int32} {h : gH} {rh : gH} {rv : Int32}, F_X2_wants_0 n x0 x1 x3 x4 h = some (rv, rh) → G M_X2_wants d 0 0 0 0 0 [some (.ref x0), some (.ref x1), none, some (.int x3), some (.int x4), none, none] [] h (qI rv rh) := by
  intro x0 x1 x3 x4 h rh rv hf
  unfold F_X2_wants_0 at hf
  refine g_aload_n dX2_wants_0 rfl ?_
  replace hf := Option.bind_eq_some_iff.mp hf
  obtain ⟨v1, q2, hf⟩ := hf
  refine g_gR f_X2_7 dX2_wants_1 q2 ?_
  refine g_astore dX2_wants_4 (by decide) (g_lvp (lv2 := [some (.ref x0), some (.ref x1), none, some (.int x3), some (.int x4), some (.ref v1), none]) (pc2 := 6) rfl rfl ?_)
  refine g_iload dX2_wants_6 rfl ?_
  refine g_aload dX2_wants_8 rfl ?_
  replace hf := Option.bind_eq_some_iff.mp hf
  obtain ⟨v3, q4, hf⟩ := hf
  refine g_gI f_X2_13 dX2_wants_10 q4 ?_
  refine g_imul dX2_wants_13 ?_
  refine g_aload dX2_wants_14 rfl ?_
  replace hf := Option.bind_eq_some_iff.mp hf
  obtain ⟨v5, q6, hf⟩ := hf
  refine g_gI f_X2_19 dX2_wants_16 q6 ?_
  refine g_aload dX2_wants_19 rfl ?_
  replace hf := Option.bind_eq_some_iff.mp hf
  obtain ⟨v7, q8, hf⟩ := hf
  refine g_gI f_X2_13 dX2_wants_21 q8 ?_
  refine g_iload_n dX2_wants_24 rfl ?_
  refine g_isub dX2_wants_25 ?_
  refine g_imul dX2_wants_26 ?_
  refine g_icmp_ge (tgt := 34) dX2_wants_27 (by decide) (fun c9 => ?_) (fun c9 => ?_)
  · rw [if_pos c9] at hf
    refine g_iconst (v := (0 : Int32)) dX2_wants_34 (by decide) ?_
    refine g_weak (lv2 := [some (.ref x0), none, none, none, none, some (.ref v1), none]) (And.intro rfl (And.intro rfl (trivial))) ?_
    exact g_X2_wants_35 hf
  · rw [if_neg c9] at hf
    refine g_iconst (v := (1 : Int32)) dX2_wants_30 (by decide) ?_
    refine g_goto (tgt := 35) dX2_wants_31 (by decide) ?_
    refine g_weak (lv2 := [some (.ref x0), none, none, none, none, some (.ref v1), none]) (And.intro rfl (And.intro rfl (trivial))) ?_
    exact g_X2_wants_35 hf
def F_X2_wants (n : Nat) (a : Nat) (p0 : Nat) (p1 : Nat) (p2 : Int32) (p3 : Int32) (h : gH) : Option (Int32 × gH) := F_X2_wants_0 n  a p0 p2 p3 h
theorem t_X2_wants {n d : Nat} {a : Nat} {p0 : Nat} {p1 : Nat} {p2 : Int32} {p3 : Int32} {h rh : gH} {rv : Int32} (hf : F_X2_wants n a p0 p1 p2 p3 h = some (rv, rh)) : T M_X2_wants d 0 0 [.ref a, .ref p0, .ref p1, .int p2, .int p3] h (qI rv rh) := by
  refine T_of_G (L := 2) (by decide +kernel) rfl (Nat.le_of_ble_eq_true rfl) (g_lv (lv2 := [some (.ref a), some (.ref p0), some (.ref p1), some (.int p2), some (.int p3), none, none]) rfl ?_)
  refine g_weak (lv2 := [some (.ref a), some (.ref p0), none, some (.int p2), some (.int p3), none, none]) (And.intro rfl (And.intro rfl (And.intro rfl (And.intro rfl (trivial))))) ?_
  exact g_X2_wants_0 hf
def F_X3_wants_28 (n : Nat)  (y0 : Int32) (h : gH) : Option (Int32 × gH) :=
  some (y0, h)
set_option maxRecDepth 20000 in
set_option maxHeartbeats 1600000 in
theorem g_X3_wants_28 {n d : Nat} : ∀ {y0 : Int32} {h : gH} {rh : gH} {rv : Int32}, F_X3_wants_28 n y0 h = some (rv, rh) → G M_X3_wants (d + 1) 0 0 0 0 28 [none, none, none, none, none, none] [.int y0] h (qI rv rh) := by
  intro y0 h rh rv hf
  unfold F_X3_wants_28 at hf
  obtain ⟨rfl, rfl⟩ := Prod.mk.inj (Option.some.inj hf)
  exact g_iret dX3_wants_28 rfl ⟨rfl, rfl⟩ (Nat.le_of_ble_eq_true rfl) (Nat.le_of_ble_eq_true rfl)
def F_X3_wants_0 (n : Nat)  (x0 : Nat) (x1 : Nat) (x2 : Nat) (x3 : Int32) (x4 : Int32) (h : gH) : Option (Int32 × gH) :=
  (gOw h x0).bind fun f1 =>
  gB (F_X10_wants n x0 x1 x2 x3 x4 h) fun v5 h3 =>
  (gIw h3 x0 1).bind fun v6 =>
  if x3 < v6 then
  (F_X3_wants_28 n v5 h3)
  else
  (F_X3_wants_28 n (v5 + (2 : Int32)) h3)
set_option maxRecDepth 20000 in
set_option maxHeartbeats 1600000 in
theorem g_X3_wants_0 {n d : Nat} : ∀ {x0 : Nat} {x1 : Nat} {x2 : Nat} {x3 : Int32} {x4 : Int32} {h : gH} {rh : gH} {rv : Int32}, F_X3_wants_0 n x0 x1 x2 x3 x4 h = some (rv, rh) → G M_X3_wants (d + 1) 0 0 0 0 0 [some (.ref x0), some (.ref x1), some (.ref x2), some (.int x3), some (.int x4), none] [] h (qI rv rh) := by
  intro x0 x1 x2 x3 x4 h rh rv hf
  unfold F_X3_wants_0 at hf
  refine g_aload_n dX3_wants_0 rfl ?_
  refine g_aload_n dX3_wants_1 rfl ?_
  refine g_aload_n dX3_wants_2 rfl ?_
  refine g_iload_n dX3_wants_3 rfl ?_
  refine g_iload dX3_wants_4 rfl ?_
  replace hf := Option.bind_eq_some_iff.mp hf
  obtain ⟨f1, q2, hf⟩ := hf
  replace hf := gB_of hf
  obtain ⟨v5, h3, q4, hf⟩ := hf
  refine g_callP (as := [.ref x1, .ref x2, .int x3, .int x4]) (mc1 := 0) (ms1 := 0) s_X3_7_X10_wants dX3_wants_6 (gOw_of q2).2 (gWays_lt (gOw_of q2).1) rfl (Nat.le_of_ble_eq_true rfl) (Nat.le_of_ble_eq_true rfl) (Nat.le_of_ble_eq_true rfl) (t_X10_wants (d := d + 0) q4) (fun r9 h9 q9 => ?_)
  obtain ⟨rfl, rfl⟩ := q9
  refine g_stp (st2 := [.int v5]) (pc2 := 9) (kc2 := 0) (kn2 := 0) rfl rfl rfl rfl ?_
  refine g_istore dX3_wants_9 (by decide) (g_lvp (lv2 := [some (.ref x0), some (.ref x1), some (.ref x2), some (.int x3), some (.int x4), some (.int v5)]) (pc2 := 11) rfl rfl ?_)
  refine g_iload_n dX3_wants_11 rfl ?_
  refine g_aload_n dX3_wants_12 rfl ?_
  replace hf := Option.bind_eq_some_iff.mp hf
  obtain ⟨v6, q7, hf⟩ := hf
  refine g_gIw fw_X3_11 dX3_wants_13 q7 ?_
  refine g_icmp_lt (tgt := 26) dX3_wants_16 (by decide) (fun c8 => ?_) (fun c8 => ?_)
  · rw [if_pos c8] at hf
    refine g_iload dX3_wants_26 rfl ?_
    refine g_weak (lv2 := [none, none, none, none, none, none]) (trivial) ?_
    exact g_X3_wants_28 hf
  · rw [if_neg c8] at hf
    refine g_iload dX3_wants_19 rfl ?_
    refine g_iconst (v := (2 : Int32)) dX3_wants_21 (by decide) ?_
    refine g_iadd dX3_wants_22 ?_
    refine g_goto (tgt := 28) dX3_wants_23 (by decide) ?_
    refine g_weak (lv2 := [none, none, none, none, none, none]) (trivial) ?_
    exact g_X3_wants_28 hf
def F_X3_wants (n : Nat) (a : Nat) (p0 : Nat) (p1 : Nat) (p2 : Int32) (p3 : Int32) (h : gH) : Option (Int32 × gH) := F_X3_wants_0 n  a p0 p1 p2 p3 h
theorem t_X3_wants {n d : Nat} {a : Nat} {p0 : Nat} {p1 : Nat} {p2 : Int32} {p3 : Int32} {h rh : gH} {rv : Int32} (hf : F_X3_wants n a p0 p1 p2 p3 h = some (rv, rh)) : T M_X3_wants (d + 1) 0 0 [.ref a, .ref p0, .ref p1, .int p2, .int p3] h (qI rv rh) := by
  refine T_of_G (L := 1) (by decide +kernel) rfl (Nat.le_of_ble_eq_true rfl) (g_lv (lv2 := [some (.ref a), some (.ref p0), some (.ref p1), some (.int p2), some (.int p3), none]) rfl ?_)
  exact g_X3_wants_0 hf
def F_X8_wants_49 (n : Nat)  (y0 : Int32) (y1 : Int32) (h : gH) : Option (Int32 × gH) :=
  some ((y0 + y1), h)
set_option maxRecDepth 20000 in
set_option maxHeartbeats 1600000 in
theorem g_X8_wants_49 {n d : Nat} : ∀ {y0 : Int32} {y1 : Int32} {h : gH} {rh : gH} {rv : Int32}, F_X8_wants_49 n y0 y1 h = some (rv, rh) → G M_X8_wants (d + 1) 0 0 0 0 49 [none, none, none, none, none, none] [.int y1, .int y0] h (qI rv rh) := by
  intro y0 y1 h rh rv hf
  unfold F_X8_wants_49 at hf
  refine g_iadd dX8_wants_49 ?_
  obtain ⟨rfl, rfl⟩ := Prod.mk.inj (Option.some.inj hf)
  exact g_iret dX8_wants_50 rfl ⟨rfl, rfl⟩ (Nat.le_of_ble_eq_true rfl) (Nat.le_of_ble_eq_true rfl)
def F_X8_wants_0 (n : Nat)  (x1 : Nat) (x3 : Int32) (h : gH) : Option (Int32 × gH) :=
  (gR h x1 7 1).bind fun v1 =>
  (gO h v1 6).bind fun f3 =>
  gB (F_X6_has n v1 x3 h) fun v7 h5 =>
  if v7 = 0 then
  ((gI h5 v1 6 11).bind fun v20 =>
  some (v20, h5))
  else
  ((gI h5 v1 6 11).bind fun v9 =>
  (gR h5 v1 6 1).bind fun v11 =>
  (aI h5 v11 x3).bind fun v13 =>
  (gR h5 v1 6 2).bind fun v15 =>
  (aI h5 v15 x3).bind fun v17 =>
  if v17 ≤ 0 then
  (F_X8_wants_49 n (v9 + v13) (0 : Int32) h5)
  else
  (F_X8_wants_49 n (v9 + v13) (1 : Int32) h5))
set_option maxRecDepth 20000 in
set_option maxHeartbeats 1600000 in
theorem g_X8_wants_0 {n d : Nat} : ∀ {x1 : Nat} {x3 : Int32} {h : gH} {rh : gH} {rv : Int32}, F_X8_wants_0 n x1 x3 h = some (rv, rh) → G M_X8_wants (d + 1) 0 0 0 0 0 [none, some (.ref x1), none, some (.int x3), none, none] [] h (qI rv rh) := by
  intro x1 x3 h rh rv hf
  unfold F_X8_wants_0 at hf
  refine g_aload_n dX8_wants_0 rfl ?_
  replace hf := Option.bind_eq_some_iff.mp hf
  obtain ⟨v1, q2, hf⟩ := hf
  refine g_gR f_X8_7 dX8_wants_1 q2 ?_
  refine g_astore dX8_wants_4 (by decide) (g_lvp (lv2 := [none, some (.ref x1), none, some (.int x3), none, some (.ref v1)]) (pc2 := 6) rfl rfl ?_)
  refine g_aload dX8_wants_6 rfl ?_
  refine g_iload_n dX8_wants_8 rfl ?_
  replace hf := Option.bind_eq_some_iff.mp hf
  obtain ⟨f3, q4, hf⟩ := hf
  replace hf := gB_of hf
  obtain ⟨v7, h5, q6, hf⟩ := hf
  refine g_callV (as := [.int x3]) (mc1 := 0) (ms1 := 0) s_X8_13_X6_has_6 dX8_wants_9 (gO_of q4) rfl (Nat.le_of_ble_eq_true rfl) (Nat.le_of_ble_eq_true rfl) (Nat.le_of_ble_eq_true rfl) (t_X6_has (d := d + 0) q6) (fun r9 h9 q9 => ?_)
  obtain ⟨rfl, rfl⟩ := q9
  refine g_stp (st2 := [.int v7]) (pc2 := 12) (kc2 := 0) (kn2 := 0) rfl rfl rfl rfl ?_
  refine g_if_ne (tgt := 21) dX8_wants_12 (by decide) (fun c8 => ?_) (fun c8 => ?_)
  · rw [if_neg c8] at hf
    refine g_aload dX8_wants_21 rfl ?_
    replace hf := Option.bind_eq_some_iff.mp hf
    obtain ⟨v9, q10, hf⟩ := hf
    refine g_gI f_X8_19 dX8_wants_23 q10 ?_
    refine g_aload dX8_wants_26 rfl ?_
    replace hf := Option.bind_eq_some_iff.mp hf
    obtain ⟨v11, q12, hf⟩ := hf
    refine g_gR f_X8_23 dX8_wants_28 q12 ?_
    refine g_iload_n dX8_wants_31 rfl ?_
    replace hf := Option.bind_eq_some_iff.mp hf
    obtain ⟨v13, q14, hf⟩ := hf
    refine g_aI dX8_wants_32 q14 ?_
    refine g_iadd dX8_wants_33 ?_
    refine g_aload dX8_wants_34 rfl ?_
    replace hf := Option.bind_eq_some_iff.mp hf
    obtain ⟨v15, q16, hf⟩ := hf
    refine g_gR f_X8_27 dX8_wants_36 q16 ?_
    refine g_iload_n dX8_wants_39 rfl ?_
    replace hf := Option.bind_eq_some_iff.mp hf
    obtain ⟨v17, q18, hf⟩ := hf
    refine g_aI dX8_wants_40 q18 ?_
    refine g_if_le (tgt := 48) dX8_wants_41 (by decide) (fun c19 => ?_) (fun c19 => ?_)
    · rw [if_pos c19] at hf
      refine g_iconst (v := (0 : Int32)) dX8_wants_48 (by decide) ?_
      refine g_weak (lv2 := [none, none, none, none, none, none]) (trivial) ?_
      exact g_X8_wants_49 hf
    · rw [if_neg c19] at hf
      refine g_iconst (v := (1 : Int32)) dX8_wants_44 (by decide) ?_
      refine g_goto (tgt := 49) dX8_wants_45 (by decide) ?_
      refine g_weak (lv2 := [none, none, none, none, none, none]) (trivial) ?_
      exact g_X8_wants_49 hf
  · rw [if_pos c8] at hf
    refine g_aload dX8_wants_15 rfl ?_
    replace hf := Option.bind_eq_some_iff.mp hf
    obtain ⟨v20, q21, hf⟩ := hf
    refine g_gI f_X8_19 dX8_wants_17 q21 ?_
    obtain ⟨rfl, rfl⟩ := Prod.mk.inj (Option.some.inj hf)
    exact g_iret dX8_wants_20 rfl ⟨rfl, rfl⟩ (Nat.le_of_ble_eq_true rfl) (Nat.le_of_ble_eq_true rfl)
def F_X8_wants (n : Nat) (a : Nat) (p0 : Nat) (p1 : Nat) (p2 : Int32) (p3 : Int32) (h : gH) : Option (Int32 × gH) := F_X8_wants_0 n  p0 p2 h
theorem t_X8_wants {n d : Nat} {a : Nat} {p0 : Nat} {p1 : Nat} {p2 : Int32} {p3 : Int32} {h rh : gH} {rv : Int32} (hf : F_X8_wants n a p0 p1 p2 p3 h = some (rv, rh)) : T M_X8_wants (d + 1) 0 0 [.ref a, .ref p0, .ref p1, .int p2, .int p3] h (qI rv rh) := by
  refine T_of_G (L := 1) (by decide +kernel) rfl (Nat.le_of_ble_eq_true rfl) (g_lv (lv2 := [some (.ref a), some (.ref p0), some (.ref p1), some (.int p2), some (.int p3), none]) rfl ?_)
  refine g_weak (lv2 := [none, some (.ref p0), none, some (.int p2), none, none]) (And.intro rfl (And.intro rfl (trivial))) ?_
  exact g_X8_wants_0 hf
def F_X7_lineOf_20 (n : Nat)   (h : gH) : Option (Int32 × gH) :=
  some ((-1 : Int32), h)
set_option maxRecDepth 20000 in
set_option maxHeartbeats 1600000 in
theorem g_X7_lineOf_20 {n d : Nat} : ∀  {h : gH} {rh : gH} {rv : Int32}, F_X7_lineOf_20 n  h = some (rv, rh) → G M_X7_lineOf d 0 0 0 0 20 [none, none, none] [] h (qI rv rh) := by
  intro  h rh rv hf
  unfold F_X7_lineOf_20 at hf
  refine g_iconst (v := (-1 : Int32)) dX7_lineOf_20 (by decide) ?_
  obtain ⟨rfl, rfl⟩ := Prod.mk.inj (Option.some.inj hf)
  exact g_iret dX7_lineOf_21 rfl ⟨rfl, rfl⟩ (Nat.le_of_ble_eq_true rfl) (Nat.le_of_ble_eq_true rfl)
def F_X7_lineOf_0 (n : Nat)  (x0 : Nat) (x1 : Int32) (x2 : Int32) (h : gH) : Option (Int32 × gH) :=
  if x1 < 0 then
  (F_X7_lineOf_20 n h)
  else
  (if (8 : Int32) ≤ x1 then
  (F_X7_lineOf_20 n h)
  else
  (if x2 < 0 then
  (F_X7_lineOf_20 n h)
  else
  (if x2 < (8 : Int32) then
  ((gR h x0 7 3).bind fun v5 =>
  (aI h v5 ((x1 * (8 : Int32)) + x2)).bind fun v7 =>
  some (v7, h))
  else
  (F_X7_lineOf_20 n h))))
set_option maxRecDepth 20000 in
set_option maxHeartbeats 1600000 in
theorem g_X7_lineOf_0 {n d : Nat} : ∀ {x0 : Nat} {x1 : Int32} {x2 : Int32} {h : gH} {rh : gH} {rv : Int32}, F_X7_lineOf_0 n x0 x1 x2 h = some (rv, rh) → G M_X7_lineOf d 0 0 0 0 0 [some (.ref x0), some (.int x1), some (.int x2)] [] h (qI rv rh) := by
  intro x0 x1 x2 h rh rv hf
  unfold F_X7_lineOf_0 at hf
  refine g_iload_n dX7_lineOf_0 rfl ?_
  refine g_if_lt (tgt := 20) dX7_lineOf_1 (by decide) (fun c1 => ?_) (fun c1 => ?_)
  · rw [if_pos c1] at hf
    refine g_weak (lv2 := [none, none, none]) (trivial) ?_
    exact g_X7_lineOf_20 hf
  · rw [if_neg c1] at hf
    refine g_iload_n dX7_lineOf_4 rfl ?_
    refine g_bipush (v := (8 : Int32)) dX7_lineOf_5 (by decide) ?_
    refine g_icmp_ge (tgt := 20) dX7_lineOf_7 (by decide) (fun c2 => ?_) (fun c2 => ?_)
    · rw [if_pos c2] at hf
      refine g_weak (lv2 := [none, none, none]) (trivial) ?_
      exact g_X7_lineOf_20 hf
    · rw [if_neg c2] at hf
      refine g_iload_n dX7_lineOf_10 rfl ?_
      refine g_if_lt (tgt := 20) dX7_lineOf_11 (by decide) (fun c3 => ?_) (fun c3 => ?_)
      · rw [if_pos c3] at hf
        refine g_weak (lv2 := [none, none, none]) (trivial) ?_
        exact g_X7_lineOf_20 hf
      · rw [if_neg c3] at hf
        refine g_iload_n dX7_lineOf_14 rfl ?_
        refine g_bipush (v := (8 : Int32)) dX7_lineOf_15 (by decide) ?_
        refine g_icmp_lt (tgt := 22) dX7_lineOf_17 (by decide) (fun c4 => ?_) (fun c4 => ?_)
        · rw [if_pos c4] at hf
          refine g_aload_n dX7_lineOf_22 rfl ?_
          replace hf := Option.bind_eq_some_iff.mp hf
          obtain ⟨v5, q6, hf⟩ := hf
          refine g_gR f_X7_28 dX7_lineOf_23 q6 ?_
          refine g_iload_n dX7_lineOf_26 rfl ?_
          refine g_bipush (v := (8 : Int32)) dX7_lineOf_27 (by decide) ?_
          refine g_imul dX7_lineOf_29 ?_
          refine g_iload_n dX7_lineOf_30 rfl ?_
          refine g_iadd dX7_lineOf_31 ?_
          replace hf := Option.bind_eq_some_iff.mp hf
          obtain ⟨v7, q8, hf⟩ := hf
          refine g_aI dX7_lineOf_32 q8 ?_
          obtain ⟨rfl, rfl⟩ := Prod.mk.inj (Option.some.inj hf)
          exact g_iret dX7_lineOf_33 rfl ⟨rfl, rfl⟩ (Nat.le_of_ble_eq_true rfl) (Nat.le_of_ble_eq_true rfl)
        · rw [if_neg c4] at hf
          refine g_weak (lv2 := [none, none, none]) (trivial) ?_
          exact g_X7_lineOf_20 hf
def F_X7_lineOf (n : Nat) (a : Nat) (p0 : Int32) (p1 : Int32) (h : gH) : Option (Int32 × gH) := F_X7_lineOf_0 n  a p0 p1 h
theorem t_X7_lineOf {n d : Nat} {a : Nat} {p0 : Int32} {p1 : Int32} {h rh : gH} {rv : Int32} (hf : F_X7_lineOf n a p0 p1 h = some (rv, rh)) : T M_X7_lineOf d 0 0 [.ref a, .int p0, .int p1] h (qI rv rh) := by
  refine T_of_G (L := 0) (by decide +kernel) rfl (Nat.le_of_ble_eq_true rfl) (g_lv (lv2 := [some (.ref a), some (.int p0), some (.int p1)]) rfl ?_)
  exact g_X7_lineOf_0 hf
def F_X9_wants_30 (n : Nat)  (y0 : Int32) (h : gH) : Option (Int32 × gH) :=
  some (y0, h)
set_option maxRecDepth 20000 in
set_option maxHeartbeats 1600000 in
theorem g_X9_wants_30 {n d : Nat} : ∀ {y0 : Int32} {h : gH} {rh : gH} {rv : Int32}, F_X9_wants_30 n y0 h = some (rv, rh) → G M_X9_wants (d + 2) 0 0 0 0 30 [none, none, none, none, none, none] [.int y0] h (qI rv rh) := by
  intro y0 h rh rv hf
  unfold F_X9_wants_30 at hf
  obtain ⟨rfl, rfl⟩ := Prod.mk.inj (Option.some.inj hf)
  exact g_iret dX9_wants_30 rfl ⟨rfl, rfl⟩ (Nat.le_of_ble_eq_true rfl) (Nat.le_of_ble_eq_true rfl)
def F_X9_wants_0 (n : Nat)  (x0 : Nat) (x1 : Nat) (x2 : Nat) (x3 : Int32) (x4 : Int32) (h : gH) : Option (Int32 × gH) :=
  (gIw h x0 0).bind fun v1 =>
  (gO h x1 7).bind fun f3 =>
  gB (F_X7_lineOf n x1 v1 x3 h) fun v7 h5 =>
  if 0 ≤ v7 then
  (F_X9_wants_30 n v7 h5)
  else
  ((gOw h5 x0).bind fun f9 =>
  gB (F_X8_wants n x0 x1 x2 x3 x4 h5) fun v13 h11 =>
  F_X9_wants_30 n v13 h11)
set_option maxRecDepth 20000 in
set_option maxHeartbeats 1600000 in
theorem g_X9_wants_0 {n d : Nat} : ∀ {x0 : Nat} {x1 : Nat} {x2 : Nat} {x3 : Int32} {x4 : Int32} {h : gH} {rh : gH} {rv : Int32}, F_X9_wants_0 n x0 x1 x2 x3 x4 h = some (rv, rh) → G M_X9_wants (d + 2) 0 0 0 0 0 [some (.ref x0), some (.ref x1), some (.ref x2), some (.int x3), some (.int x4), none] [] h (qI rv rh) := by
  intro x0 x1 x2 x3 x4 h rh rv hf
  unfold F_X9_wants_0 at hf
  refine g_aload_n dX9_wants_0 rfl ?_
  refine g_aload_n dX9_wants_1 rfl ?_
  replace hf := Option.bind_eq_some_iff.mp hf
  obtain ⟨v1, q2, hf⟩ := hf
  refine g_gIw fw_X9_7 dX9_wants_2 q2 ?_
  refine g_iload_n dX9_wants_5 rfl ?_
  replace hf := Option.bind_eq_some_iff.mp hf
  obtain ⟨f3, q4, hf⟩ := hf
  replace hf := gB_of hf
  obtain ⟨v7, h5, q6, hf⟩ := hf
  refine g_callV (as := [.int v1, .int x3]) (mc1 := 0) (ms1 := 0) s_X9_13_X7_lineOf_7 dX9_wants_6 (gO_of q4) rfl (Nat.le_of_ble_eq_true rfl) (Nat.le_of_ble_eq_true rfl) (Nat.le_of_ble_eq_true rfl) (t_X7_lineOf (d := d + 1) q6) (fun r9 h9 q9 => ?_)
  obtain ⟨rfl, rfl⟩ := q9
  refine g_stp (st2 := [.int v7]) (pc2 := 9) (kc2 := 0) (kn2 := 0) rfl rfl rfl rfl ?_
  refine g_istore dX9_wants_9 (by decide) (g_lvp (lv2 := [some (.ref x0), some (.ref x1), some (.ref x2), some (.int x3), some (.int x4), some (.int v7)]) (pc2 := 11) rfl rfl ?_)
  refine g_iload dX9_wants_11 rfl ?_
  refine g_if_ge (tgt := 28) dX9_wants_13 (by decide) (fun c8 => ?_) (fun c8 => ?_)
  · rw [if_pos c8] at hf
    refine g_iload dX9_wants_28 rfl ?_
    refine g_weak (lv2 := [none, none, none, none, none, none]) (trivial) ?_
    exact g_X9_wants_30 hf
  · rw [if_neg c8] at hf
    refine g_aload_n dX9_wants_16 rfl ?_
    refine g_aload_n dX9_wants_17 rfl ?_
    refine g_aload_n dX9_wants_18 rfl ?_
    refine g_iload_n dX9_wants_19 rfl ?_
    refine g_iload dX9_wants_20 rfl ?_
    replace hf := Option.bind_eq_some_iff.mp hf
    obtain ⟨f9, q10, hf⟩ := hf
    replace hf := gB_of hf
    obtain ⟨v13, h11, q12, hf⟩ := hf
    refine g_callP (as := [.ref x1, .ref x2, .int x3, .int x4]) (mc1 := 0) (ms1 := 0) s_X9_19_X8_wants dX9_wants_22 (gOw_of q10).2 (gWays_lt (gOw_of q10).1) rfl (Nat.le_of_ble_eq_true rfl) (Nat.le_of_ble_eq_true rfl) (Nat.le_of_ble_eq_true rfl) (t_X8_wants (d := d + 0) q12) (fun r9 h9 q9 => ?_)
    obtain ⟨rfl, rfl⟩ := q9
    refine g_stp (st2 := [.int v13]) (pc2 := 25) (kc2 := 0) (kn2 := 0) rfl rfl rfl rfl ?_
    refine g_goto (tgt := 30) dX9_wants_25 (by decide) ?_
    refine g_weak (lv2 := [none, none, none, none, none, none]) (trivial) ?_
    exact g_X9_wants_30 hf
def F_X9_wants (n : Nat) (a : Nat) (p0 : Nat) (p1 : Nat) (p2 : Int32) (p3 : Int32) (h : gH) : Option (Int32 × gH) := F_X9_wants_0 n  a p0 p1 p2 p3 h
theorem t_X9_wants {n d : Nat} {a : Nat} {p0 : Nat} {p1 : Nat} {p2 : Int32} {p3 : Int32} {h rh : gH} {rv : Int32} (hf : F_X9_wants n a p0 p1 p2 p3 h = some (rv, rh)) : T M_X9_wants (d + 2) 0 0 [.ref a, .ref p0, .ref p1, .int p2, .int p3] h (qI rv rh) := by
  refine T_of_G (L := 1) (by decide +kernel) rfl (Nat.le_of_ble_eq_true rfl) (g_lv (lv2 := [some (.ref a), some (.ref p0), some (.ref p1), some (.int p2), some (.int p3), none]) rfl ?_)
  exact g_X9_wants_0 hf
def DW_X10_wants (n : Nat) (a : Nat) (p0 : Nat) (p1 : Nat) (p2 : Int32) (p3 : Int32) (h : gH) : Option (Int32 × gH) := (gOw h a).bind fun q => if q.1 = 0 then F_X0_wants n a p0 p1 p2 p3 h else if q.1 = 1 then F_X1_wants n a p0 p1 p2 p3 h else if q.1 = 2 then F_X2_wants n a p0 p1 p2 p3 h else if q.1 = 3 then F_X3_wants n a p0 p1 p2 p3 h else if q.1 = 8 then F_X8_wants n a p0 p1 p2 p3 h else if q.1 = 9 then F_X9_wants n a p0 p1 p2 p3 h else if q.1 = 10 then F_X10_wants n a p0 p1 p2 p3 h else none
theorem g_DW_X10_wants_X11_282 {M : gM} {n d mc ms kc kn pc : Nat} {lv : List (Option Value)} {st : List Value} {h h2 : gH} {Q : Option Value → gH → Prop} {a : Nat} {p0 : Nat} {p1 : Nat} {p2 : Int32} {p3 : Int32} {v : Int32} (hdg : decode M.2.2.1 pc = .ok (.invokevirtual 282, 3)) (q : DW_X10_wants n a p0 p1 p2 p3 h = some (v, h2)) (hcat : (st.map fun v => v.category).sum ≤ 8) (hcm : kc ≤ mc) (hsm : kn ≤ ms) (kk : G M (d + 3) mc ms kc kn (pc + 3) lv (.int v :: st) h2 Q) (hM : M.1 = RX11 := by rfl) : G M (d + 3) mc ms kc kn pc lv (.int p3 :: .int p2 :: .ref p1 :: .ref p0 :: .ref a :: st) h Q := by
  unfold DW_X10_wants at q
  obtain ⟨p, e1, q⟩ := Option.bind_eq_some_iff.mp q
  have e3 := (gOw_of e1).2
  by_cases c0 : p.1 = 0
  · rw [if_pos c0] at q
    rw [c0] at e3
    refine g_callU (M2 := M_X0_wants) (as := [.ref p0, .ref p1, .int p2, .int p3]) (mc1 := 0) (ms1 := 0) (by rw [hM]; exact s_X11_282_X0_wants_0) hdg e3 rfl hcat hcm hsm (t_X0_wants (d := d + 0) q) (fun r9 h9 q9 => ?_)
    obtain ⟨rfl, rfl⟩ := q9
    exact kk
  rw [if_neg c0] at q
  by_cases c1 : p.1 = 1
  · rw [if_pos c1] at q
    rw [c1] at e3
    refine g_callU (M2 := M_X1_wants) (as := [.ref p0, .ref p1, .int p2, .int p3]) (mc1 := 0) (ms1 := 0) (by rw [hM]; exact s_X11_282_X1_wants_1) hdg e3 rfl hcat hcm hsm (t_X1_wants (d := d + 2) q) (fun r9 h9 q9 => ?_)
    obtain ⟨rfl, rfl⟩ := q9
    exact kk
  rw [if_neg c1] at q
  by_cases c2 : p.1 = 2
  · rw [if_pos c2] at q
    rw [c2] at e3
    refine g_callU (M2 := M_X2_wants) (as := [.ref p0, .ref p1, .int p2, .int p3]) (mc1 := 0) (ms1 := 0) (by rw [hM]; exact s_X11_282_X2_wants_2) hdg e3 rfl hcat hcm hsm (t_X2_wants (d := d + 2) q) (fun r9 h9 q9 => ?_)
    obtain ⟨rfl, rfl⟩ := q9
    exact kk
  rw [if_neg c2] at q
  by_cases c3 : p.1 = 3
  · rw [if_pos c3] at q
    rw [c3] at e3
    refine g_callU (M2 := M_X3_wants) (as := [.ref p0, .ref p1, .int p2, .int p3]) (mc1 := 0) (ms1 := 0) (by rw [hM]; exact s_X11_282_X3_wants_3) hdg e3 rfl hcat hcm hsm (t_X3_wants (d := d + 1) q) (fun r9 h9 q9 => ?_)
    obtain ⟨rfl, rfl⟩ := q9
    exact kk
  rw [if_neg c3] at q
  by_cases c8 : p.1 = 8
  · rw [if_pos c8] at q
    rw [c8] at e3
    refine g_callU (M2 := M_X8_wants) (as := [.ref p0, .ref p1, .int p2, .int p3]) (mc1 := 0) (ms1 := 0) (by rw [hM]; exact s_X11_282_X8_wants_8) hdg e3 rfl hcat hcm hsm (t_X8_wants (d := d + 1) q) (fun r9 h9 q9 => ?_)
    obtain ⟨rfl, rfl⟩ := q9
    exact kk
  rw [if_neg c8] at q
  by_cases c9 : p.1 = 9
  · rw [if_pos c9] at q
    rw [c9] at e3
    refine g_callU (M2 := M_X9_wants) (as := [.ref p0, .ref p1, .int p2, .int p3]) (mc1 := 0) (ms1 := 0) (by rw [hM]; exact s_X11_282_X9_wants_9) hdg e3 rfl hcat hcm hsm (t_X9_wants (d := d + 0) q) (fun r9 h9 q9 => ?_)
    obtain ⟨rfl, rfl⟩ := q9
    exact kk
  rw [if_neg c9] at q
  by_cases c10 : p.1 = 10
  · rw [if_pos c10] at q
    rw [c10] at e3
    refine g_callV (M2 := M_X10_wants) (as := [.ref p0, .ref p1, .int p2, .int p3]) (mc1 := 0) (ms1 := 0) (by rw [hM]; exact s_X11_282_X10_wants_10) hdg e3 rfl hcat hcm hsm (t_X10_wants (d := d + 2) q) (fun r9 h9 q9 => ?_)
    obtain ⟨rfl, rfl⟩ := q9
    exact kk
  rw [if_neg c10] at q
  cases q
def F_X11_effortOf_25 (n : Nat)  : Nat → Nat → Int32 → Int32 → Int32 → gH → Option (Int32 × gH)
  | 0, _, _, _, _, _ => none
  | m + 1, x0, x2, x3, x5, h => if x5 ≤ 0 then
  (some ((0 : Int32), h))
  else
  ((gR h x0 11 0).bind fun v2 =>
  (gR h v2 7 1).bind fun v4 =>
  (gO h v4 6).bind fun f6 =>
  gB (F_X6_behind n v4 x2 x5 x3 h) fun v10 h8 =>
  if v10 < 0 then
  (F_X11_effortOf_25 n m x0 x2 x3 (x5 + (-1 : Int32)) h8)
  else
  (some (x5, h8)))
set_option maxRecDepth 20000 in
set_option maxHeartbeats 1600000 in
theorem g_X11_effortOf_25 {n d : Nat} : ∀ {m : Nat} {x0 : Nat} {x2 : Int32} {x3 : Int32} {x5 : Int32} {h : gH} {rh : gH} {rv : Int32}, F_X11_effortOf_25 n m x0 x2 x3 x5 h = some (rv, rh) → G M_X11_effortOf (d + 3) 0 0 0 0 25 [some (.ref x0), none, some (.int x2), some (.int x3), none, some (.int x5)] [] h (qI rv rh) := by
  intro m
  induction m with
  | zero => intro x0 x2 x3 x5 h rh rv hf; cases hf
  | succ m t25 =>
    intro x0 x2 x3 x5 h rh rv hf
    unfold F_X11_effortOf_25 at hf
    refine g_iload dX11_effortOf_25 rfl ?_
    refine g_if_le (tgt := 56) dX11_effortOf_27 (by decide) (fun c1 => ?_) (fun c1 => ?_)
    · rw [if_pos c1] at hf
      refine g_iconst (v := (0 : Int32)) dX11_effortOf_56 (by decide) ?_
      obtain ⟨rfl, rfl⟩ := Prod.mk.inj (Option.some.inj hf)
      exact g_iret dX11_effortOf_57 rfl ⟨rfl, rfl⟩ (Nat.le_of_ble_eq_true rfl) (Nat.le_of_ble_eq_true rfl)
    · rw [if_neg c1] at hf
      refine g_aload_n dX11_effortOf_30 rfl ?_
      replace hf := Option.bind_eq_some_iff.mp hf
      obtain ⟨v2, q3, hf⟩ := hf
      refine g_gR f_X11_12 dX11_effortOf_31 q3 ?_
      replace hf := Option.bind_eq_some_iff.mp hf
      obtain ⟨v4, q5, hf⟩ := hf
      refine g_gR f_X11_70 dX11_effortOf_34 q5 ?_
      refine g_iload_n dX11_effortOf_37 rfl ?_
      refine g_iload dX11_effortOf_38 rfl ?_
      refine g_iload_n dX11_effortOf_40 rfl ?_
      replace hf := Option.bind_eq_some_iff.mp hf
      obtain ⟨f6, q7, hf⟩ := hf
      replace hf := gB_of hf
      obtain ⟨v10, h8, q9, hf⟩ := hf
      refine g_callV (as := [.int x2, .int x5, .int x3]) (mc1 := 0) (ms1 := 0) s_X11_130_X6_behind_6 dX11_effortOf_41 (gO_of q7) rfl (Nat.le_of_ble_eq_true rfl) (Nat.le_of_ble_eq_true rfl) (Nat.le_of_ble_eq_true rfl) (t_X6_behind (d := d + 0) q9) (fun r9 h9 q9 => ?_)
      obtain ⟨rfl, rfl⟩ := q9
      refine g_stp (st2 := [.int v10]) (pc2 := 44) (kc2 := 0) (kn2 := 0) rfl rfl rfl rfl ?_
      refine g_if_lt (tgt := 50) dX11_effortOf_44 (by decide) (fun c11 => ?_) (fun c11 => ?_)
      · rw [if_pos c11] at hf
        refine g_iinc2 (w := (-1 : Int32)) dX11_effortOf_50 (by decide) rfl (by decide) (g_lvp (lv2 := [some (.ref x0), none, some (.int x2), some (.int x3), none, some (.int (x5 + (-1 : Int32)))]) (pc2 := 53) rfl rfl ?_)
        refine g_goto (tgt := 25) dX11_effortOf_53 (by decide) ?_
        exact t25 hf
      · rw [if_neg c11] at hf
        refine g_iload dX11_effortOf_47 rfl ?_
        obtain ⟨rfl, rfl⟩ := Prod.mk.inj (Option.some.inj hf)
        exact g_iret dX11_effortOf_49 rfl ⟨rfl, rfl⟩ (Nat.le_of_ble_eq_true rfl) (Nat.le_of_ble_eq_true rfl)
def F_X11_effortOf_0 (n : Nat)  (x0 : Nat) (x1 : Nat) (x2 : Int32) (x3 : Int32) (h : gH) : Option (Int32 × gH) :=
  (gR h x0 11 0).bind fun v1 =>
  (gR h x0 11 3).bind fun v3 =>
  gB (DW_X10_wants n x1 v1 v3 x2 x3 h) fun v7 h5 =>
  F_X11_effortOf_25 n n x0 x2 x3 (gmin v7 (9 : Int32)) h5
set_option maxRecDepth 20000 in
set_option maxHeartbeats 1600000 in
theorem g_X11_effortOf_0 {n d : Nat} : ∀ {x0 : Nat} {x1 : Nat} {x2 : Int32} {x3 : Int32} {h : gH} {rh : gH} {rv : Int32}, F_X11_effortOf_0 n x0 x1 x2 x3 h = some (rv, rh) → G M_X11_effortOf (d + 3) 0 0 0 0 0 [some (.ref x0), some (.ref x1), some (.int x2), some (.int x3), none, none] [] h (qI rv rh) := by
  intro x0 x1 x2 x3 h rh rv hf
  unfold F_X11_effortOf_0 at hf
  refine g_aload_n dX11_effortOf_0 rfl ?_
  refine g_aload_n dX11_effortOf_1 rfl ?_
  replace hf := Option.bind_eq_some_iff.mp hf
  obtain ⟨v1, q2, hf⟩ := hf
  refine g_gR f_X11_12 dX11_effortOf_2 q2 ?_
  refine g_aload_n dX11_effortOf_5 rfl ?_
  replace hf := Option.bind_eq_some_iff.mp hf
  obtain ⟨v3, q4, hf⟩ := hf
  refine g_gR f_X11_31 dX11_effortOf_6 q4 ?_
  refine g_iload_n dX11_effortOf_9 rfl ?_
  refine g_iload_n dX11_effortOf_10 rfl ?_
  replace hf := gB_of hf
  obtain ⟨v7, h5, q6, hf⟩ := hf
  refine g_DW_X10_wants_X11_282 (d := d + 0) dX11_effortOf_11 q6 (Nat.le_of_ble_eq_true rfl) (Nat.le_of_ble_eq_true rfl) (Nat.le_of_ble_eq_true rfl) ?_
  refine g_stp (st2 := [.int v7]) (pc2 := 14) (kc2 := 0) (kn2 := 0) rfl rfl rfl rfl ?_
  refine g_istore dX11_effortOf_14 (by decide) (g_lvp (lv2 := [some (.ref x0), some (.ref x1), some (.int x2), some (.int x3), some (.int v7), none]) (pc2 := 16) rfl rfl ?_)
  refine g_iload dX11_effortOf_16 rfl ?_
  refine g_bipush (v := (9 : Int32)) dX11_effortOf_18 (by decide) ?_
  refine g_min m_X11_286 m_min.1 m_min.2.1 m_min.2.2 dX11_effortOf_20 (Nat.le_of_ble_eq_true rfl) (Nat.le_of_ble_eq_true rfl) (Nat.le_of_ble_eq_true rfl) ?_
  refine g_st (st2 := [.int (gmin v7 (9 : Int32))]) rfl ?_
  refine g_istore dX11_effortOf_23 (by decide) (g_lvp (lv2 := [some (.ref x0), some (.ref x1), some (.int x2), some (.int x3), some (.int v7), some (.int (gmin v7 (9 : Int32)))]) (pc2 := 25) rfl rfl ?_)
  refine g_weak (lv2 := [some (.ref x0), none, some (.int x2), some (.int x3), none, some (.int (gmin v7 (9 : Int32)))]) (And.intro rfl (And.intro rfl (And.intro rfl (And.intro rfl (trivial))))) ?_
  exact g_X11_effortOf_25 hf
def F_X11_effortOf (n : Nat) (a : Nat) (p0 : Nat) (p1 : Int32) (p2 : Int32) (h : gH) : Option (Int32 × gH) := F_X11_effortOf_0 n  a p0 p1 p2 h
theorem t_X11_effortOf {n d : Nat} {a : Nat} {p0 : Nat} {p1 : Int32} {p2 : Int32} {h rh : gH} {rv : Int32} (hf : F_X11_effortOf n a p0 p1 p2 h = some (rv, rh)) : T M_X11_effortOf (d + 3) 0 0 [.ref a, .ref p0, .int p1, .int p2] h (qI rv rh) := by
  refine T_of_G (L := 2) (by decide +kernel) rfl (Nat.le_of_ble_eq_true rfl) (g_lv (lv2 := [some (.ref a), some (.ref p0), some (.int p1), some (.int p2), none, none]) rfl ?_)
  exact g_X11_effortOf_0 hf
def F_X7_addByte_36 (n : Nat)   (h : gH) : Option (gH) :=
  some h
set_option maxRecDepth 20000 in
set_option maxHeartbeats 1600000 in
theorem g_X7_addByte_36 {n d : Nat} : ∀  {h : gH} {rh : gH}, F_X7_addByte_36 n  h = some rh → G M_X7_addByte d 0 0 0 0 36 [none, none] [] h (qV rh) := by
  intro  h rh hf
  unfold F_X7_addByte_36 at hf
  obtain rfl := Option.some.inj hf
  exact g_vret dX7_addByte_36 rfl ⟨rfl, rfl⟩ (Nat.le_of_ble_eq_true rfl) (Nat.le_of_ble_eq_true rfl)
def F_X7_addByte_0 (n : Nat)  (x0 : Nat) (x1 : Int32) (h : gH) : Option (gH) :=
  (gI h x0 7 6).bind fun v1 =>
  if v1 < 0 then
  (F_X7_addByte_36 n h)
  else
  ((gI h x0 7 6).bind fun v4 =>
  if (120 : Int32) ≤ v4 then
  (F_X7_addByte_36 n h)
  else
  ((gR h x0 7 0).bind fun v7 =>
  (gI h x0 7 6).bind fun v9 =>
  (sI h v7 v9 x1).bind fun h11 =>
  (gI h11 x0 7 6).bind fun v13 =>
  (pF h11 x0 7 6 (.int (v13 + (1 : Int32)))).bind fun h15 =>
  F_X7_addByte_36 n h15))
set_option maxRecDepth 20000 in
set_option maxHeartbeats 1600000 in
theorem g_X7_addByte_0 {n d : Nat} : ∀ {x0 : Nat} {x1 : Int32} {h : gH} {rh : gH}, F_X7_addByte_0 n x0 x1 h = some rh → G M_X7_addByte d 0 0 0 0 0 [some (.ref x0), some (.int x1)] [] h (qV rh) := by
  intro x0 x1 h rh hf
  unfold F_X7_addByte_0 at hf
  refine g_aload_n dX7_addByte_0 rfl ?_
  replace hf := Option.bind_eq_some_iff.mp hf
  obtain ⟨v1, q2, hf⟩ := hf
  refine g_gI f_X7_45 dX7_addByte_1 q2 ?_
  refine g_if_lt (tgt := 36) dX7_addByte_4 (by decide) (fun c3 => ?_) (fun c3 => ?_)
  · rw [if_pos c3] at hf
    refine g_weak (lv2 := [none, none]) (trivial) ?_
    exact g_X7_addByte_36 hf
  · rw [if_neg c3] at hf
    refine g_aload_n dX7_addByte_7 rfl ?_
    replace hf := Option.bind_eq_some_iff.mp hf
    obtain ⟨v4, q5, hf⟩ := hf
    refine g_gI f_X7_45 dX7_addByte_8 q5 ?_
    refine g_bipush (v := (120 : Int32)) dX7_addByte_11 (by decide) ?_
    refine g_icmp_ge (tgt := 36) dX7_addByte_13 (by decide) (fun c6 => ?_) (fun c6 => ?_)
    · rw [if_pos c6] at hf
      refine g_weak (lv2 := [none, none]) (trivial) ?_
      exact g_X7_addByte_36 hf
    · rw [if_neg c6] at hf
      refine g_aload_n dX7_addByte_16 rfl ?_
      replace hf := Option.bind_eq_some_iff.mp hf
      obtain ⟨v7, q8, hf⟩ := hf
      refine g_gR f_X7_9 dX7_addByte_17 q8 ?_
      refine g_aload_n dX7_addByte_20 rfl ?_
      replace hf := Option.bind_eq_some_iff.mp hf
      obtain ⟨v9, q10, hf⟩ := hf
      refine g_gI f_X7_45 dX7_addByte_21 q10 ?_
      refine g_iload_n dX7_addByte_24 rfl ?_
      replace hf := Option.bind_eq_some_iff.mp hf
      obtain ⟨h11, q12, hf⟩ := hf
      refine g_sI dX7_addByte_25 q12 ?_
      refine g_aload_n dX7_addByte_26 rfl ?_
      refine g_dup dX7_addByte_27 rfl ?_
      replace hf := Option.bind_eq_some_iff.mp hf
      obtain ⟨v13, q14, hf⟩ := hf
      refine g_gI f_X7_45 dX7_addByte_28 q14 ?_
      refine g_iconst (v := (1 : Int32)) dX7_addByte_31 (by decide) ?_
      refine g_iadd dX7_addByte_32 ?_
      replace hf := Option.bind_eq_some_iff.mp hf
      obtain ⟨h15, q16, hf⟩ := hf
      refine g_pF p_X7_45 dX7_addByte_33 q16 (fun _ => rfl) (fun _ => rfl) ?_
      refine g_weak (lv2 := [none, none]) (trivial) ?_
      exact g_X7_addByte_36 hf
def F_X7_addByte (n : Nat) (a : Nat) (p0 : Int32) (h : gH) : Option (gH) := F_X7_addByte_0 n  a p0 h
theorem t_X7_addByte {n d : Nat} {a : Nat} {p0 : Int32} {h rh : gH} (hf : F_X7_addByte n a p0 h = some rh) : T M_X7_addByte d 0 0 [.ref a, .int p0] h (qV rh) := by
  refine T_of_G (L := 0) (by decide +kernel) rfl (Nat.le_of_ble_eq_true rfl) (g_lv (lv2 := [some (.ref a), some (.int p0)]) rfl ?_)
  exact g_X7_addByte_0 hf
def F_X11_feed_36 (n : Nat)  : Nat → Nat → Int64 → Int32 → gH → Option (Int32 × gH)
  | 0, _, _, _, _ => none
  | m + 1, x0, x1, x4, h => if x4 < 0 then
  ((gR h x0 11 0).bind fun v2 =>
  (gI h v2 7 6).bind fun v4 =>
  some (v4, h))
  else
  ((gR h x0 11 0).bind fun v6 =>
  (gO h v6 7).bind fun f8 =>
  (F_X7_addByte n v6 (((x1.toUInt64 >>> (((8 : Int32) * x4).toInt64.toUInt64 &&& Int64.toUInt64 63)).toInt64).toInt32 &&& (255 : Int32)) h).bind fun h10 =>
  F_X11_feed_36 n m x0 x1 (x4 + (-1 : Int32)) h10)
set_option maxRecDepth 20000 in
set_option maxHeartbeats 1600000 in
theorem g_X11_feed_36 {n d : Nat} : ∀ {m : Nat} {x0 : Nat} {x1 : Int64} {x4 : Int32} {h : gH} {rh : gH} {rv : Int32}, F_X11_feed_36 n m x0 x1 x4 h = some (rv, rh) → G M_X11_feed (d + 1) 0 0 0 0 36 [some (.ref x0), some (.long x1), none, none, some (.int x4)] [] h (qI rv rh) := by
  intro m
  induction m with
  | zero => intro x0 x1 x4 h rh rv hf; cases hf
  | succ m t36 =>
    intro x0 x1 x4 h rh rv hf
    unfold F_X11_feed_36 at hf
    refine g_iload dX11_feed_36 rfl ?_
    refine g_if_lt (tgt := 66) dX11_feed_38 (by decide) (fun c1 => ?_) (fun c1 => ?_)
    · rw [if_pos c1] at hf
      refine g_aload_n dX11_feed_66 rfl ?_
      replace hf := Option.bind_eq_some_iff.mp hf
      obtain ⟨v2, q3, hf⟩ := hf
      refine g_gR f_X11_12 dX11_feed_67 q3 ?_
      replace hf := Option.bind_eq_some_iff.mp hf
      obtain ⟨v4, q5, hf⟩ := hf
      refine g_gI f_X11_49 dX11_feed_70 q5 ?_
      obtain ⟨rfl, rfl⟩ := Prod.mk.inj (Option.some.inj hf)
      exact g_iret dX11_feed_73 rfl ⟨rfl, rfl⟩ (Nat.le_of_ble_eq_true rfl) (Nat.le_of_ble_eq_true rfl)
    · rw [if_neg c1] at hf
      refine g_aload_n dX11_feed_41 rfl ?_
      replace hf := Option.bind_eq_some_iff.mp hf
      obtain ⟨v6, q7, hf⟩ := hf
      refine g_gR f_X11_12 dX11_feed_42 q7 ?_
      refine g_lload_n dX11_feed_45 rfl ?_
      refine g_bipush (v := (8 : Int32)) dX11_feed_46 (by decide) ?_
      refine g_iload dX11_feed_48 rfl ?_
      refine g_imul dX11_feed_50 ?_
      refine g_lushr dX11_feed_51 rfl ?_
      refine g_l2i dX11_feed_52 rfl ?_
      refine g_sipush (v := (255 : Int32)) dX11_feed_53 (by decide) ?_
      refine g_iand dX11_feed_56 ?_
      replace hf := Option.bind_eq_some_iff.mp hf
      obtain ⟨f8, q9, hf⟩ := hf
      replace hf := Option.bind_eq_some_iff.mp hf
      obtain ⟨h10, q11, hf⟩ := hf
      refine g_callV (as := [.int (((x1.toUInt64 >>> (((8 : Int32) * x4).toInt64.toUInt64 &&& Int64.toUInt64 63)).toInt64).toInt32 &&& (255 : Int32))]) (mc1 := 0) (ms1 := 0) s_X11_53_X7_addByte_7 dX11_feed_57 (gO_of q9) rfl (Nat.le_of_ble_eq_true rfl) (Nat.le_of_ble_eq_true rfl) (Nat.le_of_ble_eq_true rfl) (t_X7_addByte (d := d + 0) q11) (fun r9 h9 q9 => ?_)
      obtain ⟨rfl, rfl⟩ := q9
      refine g_stp (st2 := []) (pc2 := 60) (kc2 := 0) (kn2 := 0) rfl rfl rfl rfl ?_
      refine g_iinc2 (w := (-1 : Int32)) dX11_feed_60 (by decide) rfl (by decide) (g_lvp (lv2 := [some (.ref x0), some (.long x1), none, none, some (.int (x4 + (-1 : Int32)))]) (pc2 := 63) rfl rfl ?_)
      refine g_goto (tgt := 36) dX11_feed_63 (by decide) ?_
      exact t36 hf
def F_X11_feed_11 (n : Nat)   (h : gH) : Option (Int32 × gH) :=
  some ((-2 : Int32), h)
set_option maxRecDepth 20000 in
set_option maxHeartbeats 1600000 in
theorem g_X11_feed_11 {n d : Nat} : ∀  {h : gH} {rh : gH} {rv : Int32}, F_X11_feed_11 n  h = some (rv, rh) → G M_X11_feed (d + 1) 0 0 0 0 11 [none, none, none, none, none] [] h (qI rv rh) := by
  intro  h rh rv hf
  unfold F_X11_feed_11 at hf
  refine g_bipush (v := (-2 : Int32)) dX11_feed_11 (by decide) ?_
  obtain ⟨rfl, rfl⟩ := Prod.mk.inj (Option.some.inj hf)
  exact g_iret dX11_feed_13 rfl ⟨rfl, rfl⟩ (Nat.le_of_ble_eq_true rfl) (Nat.le_of_ble_eq_true rfl)
def F_X11_feed_0 (n : Nat)  (x0 : Nat) (x1 : Int64) (x3 : Int32) (h : gH) : Option (Int32 × gH) :=
  if x3 < (1 : Int32) then
  (F_X11_feed_11 n h)
  else
  (if x3 ≤ (8 : Int32) then
  ((gR h x0 11 0).bind fun v3 =>
  (gI h v3 7 6).bind fun v5 =>
  if (v5 + x3) ≤ (120 : Int32) then
  (F_X11_feed_36 n n x0 x1 (x3 - (1 : Int32)) h)
  else
  (some ((-4 : Int32), h)))
  else
  (F_X11_feed_11 n h))
set_option maxRecDepth 20000 in
set_option maxHeartbeats 1600000 in
theorem g_X11_feed_0 {n d : Nat} : ∀ {x0 : Nat} {x1 : Int64} {x3 : Int32} {h : gH} {rh : gH} {rv : Int32}, F_X11_feed_0 n x0 x1 x3 h = some (rv, rh) → G M_X11_feed (d + 1) 0 0 0 0 0 [some (.ref x0), some (.long x1), none, some (.int x3), none] [] h (qI rv rh) := by
  intro x0 x1 x3 h rh rv hf
  unfold F_X11_feed_0 at hf
  refine g_iload_n dX11_feed_0 rfl ?_
  refine g_iconst (v := (1 : Int32)) dX11_feed_1 (by decide) ?_
  refine g_icmp_lt (tgt := 11) dX11_feed_2 (by decide) (fun c1 => ?_) (fun c1 => ?_)
  · rw [if_pos c1] at hf
    refine g_weak (lv2 := [none, none, none, none, none]) (trivial) ?_
    exact g_X11_feed_11 hf
  · rw [if_neg c1] at hf
    refine g_iload_n dX11_feed_5 rfl ?_
    refine g_bipush (v := (8 : Int32)) dX11_feed_6 (by decide) ?_
    refine g_icmp_le (tgt := 14) dX11_feed_8 (by decide) (fun c2 => ?_) (fun c2 => ?_)
    · rw [if_pos c2] at hf
      refine g_aload_n dX11_feed_14 rfl ?_
      replace hf := Option.bind_eq_some_iff.mp hf
      obtain ⟨v3, q4, hf⟩ := hf
      refine g_gR f_X11_12 dX11_feed_15 q4 ?_
      replace hf := Option.bind_eq_some_iff.mp hf
      obtain ⟨v5, q6, hf⟩ := hf
      refine g_gI f_X11_49 dX11_feed_18 q6 ?_
      refine g_iload_n dX11_feed_21 rfl ?_
      refine g_iadd dX11_feed_22 ?_
      refine g_bipush (v := (120 : Int32)) dX11_feed_23 (by decide) ?_
      refine g_icmp_le (tgt := 31) dX11_feed_25 (by decide) (fun c7 => ?_) (fun c7 => ?_)
      · rw [if_pos c7] at hf
        refine g_iload_n dX11_feed_31 rfl ?_
        refine g_iconst (v := (1 : Int32)) dX11_feed_32 (by decide) ?_
        refine g_isub dX11_feed_33 ?_
        refine g_istore dX11_feed_34 (by decide) (g_lvp (lv2 := [some (.ref x0), some (.long x1), none, some (.int x3), some (.int (x3 - (1 : Int32)))]) (pc2 := 36) rfl rfl ?_)
        refine g_weak (lv2 := [some (.ref x0), some (.long x1), none, none, some (.int (x3 - (1 : Int32)))]) (And.intro rfl (And.intro rfl (And.intro rfl (trivial)))) ?_
        exact g_X11_feed_36 hf
      · rw [if_neg c7] at hf
        refine g_bipush (v := (-4 : Int32)) dX11_feed_28 (by decide) ?_
        obtain ⟨rfl, rfl⟩ := Prod.mk.inj (Option.some.inj hf)
        exact g_iret dX11_feed_30 rfl ⟨rfl, rfl⟩ (Nat.le_of_ble_eq_true rfl) (Nat.le_of_ble_eq_true rfl)
    · rw [if_neg c2] at hf
      refine g_weak (lv2 := [none, none, none, none, none]) (trivial) ?_
      exact g_X11_feed_11 hf
def F_X11_feed (n : Nat) (a : Nat) (p0 : Int64) (p1 : Int32) (h : gH) : Option (Int32 × gH) := F_X11_feed_0 n  a p0 p1 h
theorem t_X11_feed {n d : Nat} {a : Nat} {p0 : Int64} {p1 : Int32} {h rh : gH} {rv : Int32} (hf : F_X11_feed n a p0 p1 h = some (rv, rh)) : T M_X11_feed (d + 1) 0 0 [.ref a, .long p0, .int p1] h (qI rv rh) := by
  refine T_of_G (L := 1) (by decide +kernel) rfl (Nat.le_of_ble_eq_true rfl) (g_lv (lv2 := [some (.ref a), some (.long p0), none, some (.int p1), none]) rfl ?_)
  exact g_X11_feed_0 hf
def F_X7_rowEffort_20 (n : Nat)  (y0 : Int32) (h : gH) : Option (Int32 × gH) :=
  some (y0, h)
set_option maxRecDepth 20000 in
set_option maxHeartbeats 1600000 in
theorem g_X7_rowEffort_20 {n d : Nat} : ∀ {y0 : Int32} {h : gH} {rh : gH} {rv : Int32}, F_X7_rowEffort_20 n y0 h = some (rv, rh) → G M_X7_rowEffort d 0 0 0 0 20 [none, none] [.int y0] h (qI rv rh) := by
  intro y0 h rh rv hf
  unfold F_X7_rowEffort_20 at hf
  obtain ⟨rfl, rfl⟩ := Prod.mk.inj (Option.some.inj hf)
  exact g_iret dX7_rowEffort_20 rfl ⟨rfl, rfl⟩ (Nat.le_of_ble_eq_true rfl) (Nat.le_of_ble_eq_true rfl)
def F_X7_rowEffort_19 (n : Nat)   (h : gH) : Option (Int32 × gH) :=
  F_X7_rowEffort_20 n (0 : Int32) h
set_option maxRecDepth 20000 in
set_option maxHeartbeats 1600000 in
theorem g_X7_rowEffort_19 {n d : Nat} : ∀  {h : gH} {rh : gH} {rv : Int32}, F_X7_rowEffort_19 n  h = some (rv, rh) → G M_X7_rowEffort d 0 0 0 0 19 [none, none] [] h (qI rv rh) := by
  intro  h rh rv hf
  unfold F_X7_rowEffort_19 at hf
  refine g_iconst (v := (0 : Int32)) dX7_rowEffort_19 (by decide) ?_
  exact g_X7_rowEffort_20 hf
def F_X7_rowEffort_0 (n : Nat)  (x0 : Nat) (x1 : Int32) (h : gH) : Option (Int32 × gH) :=
  if x1 < 0 then
  (F_X7_rowEffort_19 n h)
  else
  (if (8 : Int32) ≤ x1 then
  (F_X7_rowEffort_19 n h)
  else
  ((gR h x0 7 4).bind fun v3 =>
  (aI h v3 x1).bind fun v5 =>
  F_X7_rowEffort_20 n v5 h))
set_option maxRecDepth 20000 in
set_option maxHeartbeats 1600000 in
theorem g_X7_rowEffort_0 {n d : Nat} : ∀ {x0 : Nat} {x1 : Int32} {h : gH} {rh : gH} {rv : Int32}, F_X7_rowEffort_0 n x0 x1 h = some (rv, rh) → G M_X7_rowEffort d 0 0 0 0 0 [some (.ref x0), some (.int x1)] [] h (qI rv rh) := by
  intro x0 x1 h rh rv hf
  unfold F_X7_rowEffort_0 at hf
  refine g_iload_n dX7_rowEffort_0 rfl ?_
  refine g_if_lt (tgt := 19) dX7_rowEffort_1 (by decide) (fun c1 => ?_) (fun c1 => ?_)
  · rw [if_pos c1] at hf
    refine g_weak (lv2 := [none, none]) (trivial) ?_
    exact g_X7_rowEffort_19 hf
  · rw [if_neg c1] at hf
    refine g_iload_n dX7_rowEffort_4 rfl ?_
    refine g_bipush (v := (8 : Int32)) dX7_rowEffort_5 (by decide) ?_
    refine g_icmp_ge (tgt := 19) dX7_rowEffort_7 (by decide) (fun c2 => ?_) (fun c2 => ?_)
    · rw [if_pos c2] at hf
      refine g_weak (lv2 := [none, none]) (trivial) ?_
      exact g_X7_rowEffort_19 hf
    · rw [if_neg c2] at hf
      refine g_aload_n dX7_rowEffort_10 rfl ?_
      replace hf := Option.bind_eq_some_iff.mp hf
      obtain ⟨v3, q4, hf⟩ := hf
      refine g_gR f_X7_31 dX7_rowEffort_11 q4 ?_
      refine g_iload_n dX7_rowEffort_14 rfl ?_
      replace hf := Option.bind_eq_some_iff.mp hf
      obtain ⟨v5, q6, hf⟩ := hf
      refine g_aI dX7_rowEffort_15 q6 ?_
      refine g_goto (tgt := 20) dX7_rowEffort_16 (by decide) ?_
      refine g_weak (lv2 := [none, none]) (trivial) ?_
      exact g_X7_rowEffort_20 hf
def F_X7_rowEffort (n : Nat) (a : Nat) (p0 : Int32) (h : gH) : Option (Int32 × gH) := F_X7_rowEffort_0 n  a p0 h
theorem t_X7_rowEffort {n d : Nat} {a : Nat} {p0 : Int32} {h rh : gH} {rv : Int32} (hf : F_X7_rowEffort n a p0 h = some (rv, rh)) : T M_X7_rowEffort d 0 0 [.ref a, .int p0] h (qI rv rh) := by
  refine T_of_G (L := 0) (by decide +kernel) rfl (Nat.le_of_ble_eq_true rfl) (g_lv (lv2 := [some (.ref a), some (.int p0)]) rfl ?_)
  exact g_X7_rowEffort_0 hf
def F_X11_firstEmpty_60 (n : Nat)   (h : gH) : Option (Int32 × gH) :=
  some ((-5 : Int32), h)
set_option maxRecDepth 20000 in
set_option maxHeartbeats 1600000 in
theorem g_X11_firstEmpty_60 {n d : Nat} : ∀  {h : gH} {rh : gH} {rv : Int32}, F_X11_firstEmpty_60 n  h = some (rv, rh) → G M_X11_firstEmpty (d + 3) 0 0 0 0 60 [none, none, none, none] [] h (qI rv rh) := by
  intro  h rh rv hf
  unfold F_X11_firstEmpty_60 at hf
  refine g_bipush (v := (-5 : Int32)) dX11_firstEmpty_60 (by decide) ?_
  obtain ⟨rfl, rfl⟩ := Prod.mk.inj (Option.some.inj hf)
  exact g_iret dX11_firstEmpty_62 rfl ⟨rfl, rfl⟩ (Nat.le_of_ble_eq_true rfl) (Nat.le_of_ble_eq_true rfl)
def F_X11_firstEmpty_18 (n : Nat)  : Nat → Nat → Int32 → Int32 → Int32 → gH → Option (Int32 × gH)
  | 0, _, _, _, _, _ => none
  | m + 1, x0, x1, x2, x3, h => if x1 ≤ x3 then
  (F_X11_firstEmpty_60 n h)
  else
  (if x2 < 0 then
  (F_X11_firstEmpty_60 n h)
  else
  ((gR h x0 11 0).bind fun v3 =>
  (gR h v3 7 1).bind fun v5 =>
  (gR h x0 11 0).bind fun v7 =>
  (gO h v7 7).bind fun f9 =>
  gB (F_X7_rowEffort n v7 x3 h) fun v13 h11 =>
  (gO h11 v5 6).bind fun f14 =>
  gB (F_X6_behind n v5 x3 v13 x2 h11) fun v18 h16 =>
  if v18 = 0 then
  (some (x3, h16))
  else
  (F_X11_firstEmpty_18 n m x0 x1 v18 (x3 + (1 : Int32)) h16)))
set_option maxRecDepth 20000 in
set_option maxHeartbeats 1600000 in
theorem g_X11_firstEmpty_18 {n d : Nat} : ∀ {m : Nat} {x0 : Nat} {x1 : Int32} {x2 : Int32} {x3 : Int32} {h : gH} {rh : gH} {rv : Int32}, F_X11_firstEmpty_18 n m x0 x1 x2 x3 h = some (rv, rh) → G M_X11_firstEmpty (d + 3) 0 0 0 0 18 [some (.ref x0), some (.int x1), some (.int x2), some (.int x3)] [] h (qI rv rh) := by
  intro m
  induction m with
  | zero => intro x0 x1 x2 x3 h rh rv hf; cases hf
  | succ m t18 =>
    intro x0 x1 x2 x3 h rh rv hf
    unfold F_X11_firstEmpty_18 at hf
    refine g_iload_n dX11_firstEmpty_18 rfl ?_
    refine g_iload_n dX11_firstEmpty_19 rfl ?_
    refine g_icmp_ge (tgt := 60) dX11_firstEmpty_20 (by decide) (fun c1 => ?_) (fun c1 => ?_)
    · rw [if_pos c1] at hf
      refine g_weak (lv2 := [none, none, none, none]) (trivial) ?_
      exact g_X11_firstEmpty_60 hf
    · rw [if_neg c1] at hf
      refine g_iload_n dX11_firstEmpty_23 rfl ?_
      refine g_if_lt (tgt := 60) dX11_firstEmpty_24 (by decide) (fun c2 => ?_) (fun c2 => ?_)
      · rw [if_pos c2] at hf
        refine g_weak (lv2 := [none, none, none, none]) (trivial) ?_
        exact g_X11_firstEmpty_60 hf
      · rw [if_neg c2] at hf
        refine g_aload_n dX11_firstEmpty_27 rfl ?_
        replace hf := Option.bind_eq_some_iff.mp hf
        obtain ⟨v3, q4, hf⟩ := hf
        refine g_gR f_X11_12 dX11_firstEmpty_28 q4 ?_
        replace hf := Option.bind_eq_some_iff.mp hf
        obtain ⟨v5, q6, hf⟩ := hf
        refine g_gR f_X11_70 dX11_firstEmpty_31 q6 ?_
        refine g_iload_n dX11_firstEmpty_34 rfl ?_
        refine g_aload_n dX11_firstEmpty_35 rfl ?_
        replace hf := Option.bind_eq_some_iff.mp hf
        obtain ⟨v7, q8, hf⟩ := hf
        refine g_gR f_X11_12 dX11_firstEmpty_36 q8 ?_
        refine g_iload_n dX11_firstEmpty_39 rfl ?_
        replace hf := Option.bind_eq_some_iff.mp hf
        obtain ⟨f9, q10, hf⟩ := hf
        replace hf := gB_of hf
        obtain ⟨v13, h11, q12, hf⟩ := hf
        refine g_callV (as := [.int x3]) (mc1 := 0) (ms1 := 0) s_X11_297_X7_rowEffort_7 dX11_firstEmpty_40 (gO_of q10) rfl (Nat.le_of_ble_eq_true rfl) (Nat.le_of_ble_eq_true rfl) (Nat.le_of_ble_eq_true rfl) (t_X7_rowEffort (d := d + 2) q12) (fun r9 h9 q9 => ?_)
        obtain ⟨rfl, rfl⟩ := q9
        refine g_stp (st2 := [.int v13, .int x3, .ref v5]) (pc2 := 43) (kc2 := 0) (kn2 := 0) rfl rfl rfl rfl ?_
        refine g_iload_n dX11_firstEmpty_43 rfl ?_
        replace hf := Option.bind_eq_some_iff.mp hf
        obtain ⟨f14, q15, hf⟩ := hf
        replace hf := gB_of hf
        obtain ⟨v18, h16, q17, hf⟩ := hf
        refine g_callV (as := [.int x3, .int v13, .int x2]) (mc1 := 0) (ms1 := 0) s_X11_130_X6_behind_6 dX11_firstEmpty_44 (gO_of q15) rfl (Nat.le_of_ble_eq_true rfl) (Nat.le_of_ble_eq_true rfl) (Nat.le_of_ble_eq_true rfl) (t_X6_behind (d := d + 0) q17) (fun r9 h9 q9 => ?_)
        obtain ⟨rfl, rfl⟩ := q9
        refine g_stp (st2 := [.int v18]) (pc2 := 47) (kc2 := 0) (kn2 := 0) rfl rfl rfl rfl ?_
        refine g_istore_n dX11_firstEmpty_47 (by decide) (g_lvp (lv2 := [some (.ref x0), some (.int x1), some (.int v18), some (.int x3)]) (pc2 := 48) rfl rfl ?_)
        refine g_iload_n dX11_firstEmpty_48 rfl ?_
        refine g_if_ne (tgt := 54) dX11_firstEmpty_49 (by decide) (fun c19 => ?_) (fun c19 => ?_)
        · rw [if_neg c19] at hf
          refine g_iinc2 (w := (1 : Int32)) dX11_firstEmpty_54 (by decide) rfl (by decide) (g_lvp (lv2 := [some (.ref x0), some (.int x1), some (.int v18), some (.int (x3 + (1 : Int32)))]) (pc2 := 57) rfl rfl ?_)
          refine g_goto (tgt := 18) dX11_firstEmpty_57 (by decide) ?_
          exact t18 hf
        · rw [if_pos c19] at hf
          refine g_iload_n dX11_firstEmpty_52 rfl ?_
          obtain ⟨rfl, rfl⟩ := Prod.mk.inj (Option.some.inj hf)
          exact g_iret dX11_firstEmpty_53 rfl ⟨rfl, rfl⟩ (Nat.le_of_ble_eq_true rfl) (Nat.le_of_ble_eq_true rfl)
def F_X11_firstEmpty_0 (n : Nat)  (x0 : Nat) (h : gH) : Option (Int32 × gH) :=
  (gO h x0 11).bind fun f1 =>
  gB (F_X11_countedRow n x0  h) fun v5 h3 =>
  (gR h3 x0 11 0).bind fun v6 =>
  (gR h3 v6 7 1).bind fun v8 =>
  (gI h3 v8 6 12).bind fun v10 =>
  F_X11_firstEmpty_18 n n x0 v5 v10 (0 : Int32) h3
set_option maxRecDepth 20000 in
set_option maxHeartbeats 1600000 in
theorem g_X11_firstEmpty_0 {n d : Nat} : ∀ {x0 : Nat} {h : gH} {rh : gH} {rv : Int32}, F_X11_firstEmpty_0 n x0 h = some (rv, rh) → G M_X11_firstEmpty (d + 3) 0 0 0 0 0 [some (.ref x0), none, none, none] [] h (qI rv rh) := by
  intro x0 h rh rv hf
  unfold F_X11_firstEmpty_0 at hf
  refine g_aload_n dX11_firstEmpty_0 rfl ?_
  replace hf := Option.bind_eq_some_iff.mp hf
  obtain ⟨f1, q2, hf⟩ := hf
  replace hf := gB_of hf
  obtain ⟨v5, h3, q4, hf⟩ := hf
  refine g_callV (as := []) (mc1 := 0) (ms1 := 0) s_X11_294_X11_countedRow_11 dX11_firstEmpty_1 (gO_of q2) rfl (Nat.le_of_ble_eq_true rfl) (Nat.le_of_ble_eq_true rfl) (Nat.le_of_ble_eq_true rfl) (t_X11_countedRow (d := d + 1) q4) (fun r9 h9 q9 => ?_)
  obtain ⟨rfl, rfl⟩ := q9
  refine g_stp (st2 := [.int v5]) (pc2 := 4) (kc2 := 0) (kn2 := 0) rfl rfl rfl rfl ?_
  refine g_istore_n dX11_firstEmpty_4 (by decide) (g_lvp (lv2 := [some (.ref x0), some (.int v5), none, none]) (pc2 := 5) rfl rfl ?_)
  refine g_aload_n dX11_firstEmpty_5 rfl ?_
  replace hf := Option.bind_eq_some_iff.mp hf
  obtain ⟨v6, q7, hf⟩ := hf
  refine g_gR f_X11_12 dX11_firstEmpty_6 q7 ?_
  replace hf := Option.bind_eq_some_iff.mp hf
  obtain ⟨v8, q9, hf⟩ := hf
  refine g_gR f_X11_70 dX11_firstEmpty_9 q9 ?_
  replace hf := Option.bind_eq_some_iff.mp hf
  obtain ⟨v10, q11, hf⟩ := hf
  refine g_gI f_X11_108 dX11_firstEmpty_12 q11 ?_
  refine g_istore_n dX11_firstEmpty_15 (by decide) (g_lvp (lv2 := [some (.ref x0), some (.int v5), some (.int v10), none]) (pc2 := 16) rfl rfl ?_)
  refine g_iconst (v := (0 : Int32)) dX11_firstEmpty_16 (by decide) ?_
  refine g_istore_n dX11_firstEmpty_17 (by decide) (g_lvp (lv2 := [some (.ref x0), some (.int v5), some (.int v10), some (.int (0 : Int32))]) (pc2 := 18) rfl rfl ?_)
  exact g_X11_firstEmpty_18 hf
def F_X11_firstEmpty (n : Nat) (a : Nat) (h : gH) : Option (Int32 × gH) := F_X11_firstEmpty_0 n  a h
theorem t_X11_firstEmpty {n d : Nat} {a : Nat} {h rh : gH} {rv : Int32} (hf : F_X11_firstEmpty n a h = some (rv, rh)) : T M_X11_firstEmpty (d + 3) 0 0 [.ref a] h (qI rv rh) := by
  refine T_of_G (L := 3) (by decide +kernel) rfl (Nat.le_of_ble_eq_true rfl) (g_lv (lv2 := [some (.ref a), none, none, none]) rfl ?_)
  exact g_X11_firstEmpty_0 hf
def F_X11_firstThatCannotBe_18 (n : Nat)  : Nat → Nat → Int32 → Int32 → Int32 → gH → Option (Int32 × gH)
  | 0, _, _, _, _, _ => none
  | m + 1, x0, x1, x2, x3, h => if x1 ≤ x3 then
  (some ((-5 : Int32), h))
  else
  ((gR h x0 11 0).bind fun v2 =>
  (gR h v2 7 1).bind fun v4 =>
  (gR h x0 11 0).bind fun v6 =>
  (gO h v6 7).bind fun f8 =>
  gB (F_X7_rowEffort n v6 x3 h) fun v12 h10 =>
  (gO h10 v4 6).bind fun f13 =>
  gB (F_X6_behind n v4 x3 v12 x2 h10) fun v17 h15 =>
  if 0 ≤ v17 then
  (F_X11_firstThatCannotBe_18 n m x0 x1 v17 (x3 + (1 : Int32)) h15)
  else
  (some (x3, h15)))
set_option maxRecDepth 20000 in
set_option maxHeartbeats 1600000 in
theorem g_X11_firstThatCannotBe_18 {n d : Nat} : ∀ {m : Nat} {x0 : Nat} {x1 : Int32} {x2 : Int32} {x3 : Int32} {h : gH} {rh : gH} {rv : Int32}, F_X11_firstThatCannotBe_18 n m x0 x1 x2 x3 h = some (rv, rh) → G M_X11_firstThatCannotBe (d + 3) 0 0 0 0 18 [some (.ref x0), some (.int x1), some (.int x2), some (.int x3)] [] h (qI rv rh) := by
  intro m
  induction m with
  | zero => intro x0 x1 x2 x3 h rh rv hf; cases hf
  | succ m t18 =>
    intro x0 x1 x2 x3 h rh rv hf
    unfold F_X11_firstThatCannotBe_18 at hf
    refine g_iload_n dX11_firstThatCannotBe_18 rfl ?_
    refine g_iload_n dX11_firstThatCannotBe_19 rfl ?_
    refine g_icmp_ge (tgt := 56) dX11_firstThatCannotBe_20 (by decide) (fun c1 => ?_) (fun c1 => ?_)
    · rw [if_pos c1] at hf
      refine g_bipush (v := (-5 : Int32)) dX11_firstThatCannotBe_56 (by decide) ?_
      obtain ⟨rfl, rfl⟩ := Prod.mk.inj (Option.some.inj hf)
      exact g_iret dX11_firstThatCannotBe_58 rfl ⟨rfl, rfl⟩ (Nat.le_of_ble_eq_true rfl) (Nat.le_of_ble_eq_true rfl)
    · rw [if_neg c1] at hf
      refine g_aload_n dX11_firstThatCannotBe_23 rfl ?_
      replace hf := Option.bind_eq_some_iff.mp hf
      obtain ⟨v2, q3, hf⟩ := hf
      refine g_gR f_X11_12 dX11_firstThatCannotBe_24 q3 ?_
      replace hf := Option.bind_eq_some_iff.mp hf
      obtain ⟨v4, q5, hf⟩ := hf
      refine g_gR f_X11_70 dX11_firstThatCannotBe_27 q5 ?_
      refine g_iload_n dX11_firstThatCannotBe_30 rfl ?_
      refine g_aload_n dX11_firstThatCannotBe_31 rfl ?_
      replace hf := Option.bind_eq_some_iff.mp hf
      obtain ⟨v6, q7, hf⟩ := hf
      refine g_gR f_X11_12 dX11_firstThatCannotBe_32 q7 ?_
      refine g_iload_n dX11_firstThatCannotBe_35 rfl ?_
      replace hf := Option.bind_eq_some_iff.mp hf
      obtain ⟨f8, q9, hf⟩ := hf
      replace hf := gB_of hf
      obtain ⟨v12, h10, q11, hf⟩ := hf
      refine g_callV (as := [.int x3]) (mc1 := 0) (ms1 := 0) s_X11_297_X7_rowEffort_7 dX11_firstThatCannotBe_36 (gO_of q9) rfl (Nat.le_of_ble_eq_true rfl) (Nat.le_of_ble_eq_true rfl) (Nat.le_of_ble_eq_true rfl) (t_X7_rowEffort (d := d + 2) q11) (fun r9 h9 q9 => ?_)
      obtain ⟨rfl, rfl⟩ := q9
      refine g_stp (st2 := [.int v12, .int x3, .ref v4]) (pc2 := 39) (kc2 := 0) (kn2 := 0) rfl rfl rfl rfl ?_
      refine g_iload_n dX11_firstThatCannotBe_39 rfl ?_
      replace hf := Option.bind_eq_some_iff.mp hf
      obtain ⟨f13, q14, hf⟩ := hf
      replace hf := gB_of hf
      obtain ⟨v17, h15, q16, hf⟩ := hf
      refine g_callV (as := [.int x3, .int v12, .int x2]) (mc1 := 0) (ms1 := 0) s_X11_130_X6_behind_6 dX11_firstThatCannotBe_40 (gO_of q14) rfl (Nat.le_of_ble_eq_true rfl) (Nat.le_of_ble_eq_true rfl) (Nat.le_of_ble_eq_true rfl) (t_X6_behind (d := d + 0) q16) (fun r9 h9 q9 => ?_)
      obtain ⟨rfl, rfl⟩ := q9
      refine g_stp (st2 := [.int v17]) (pc2 := 43) (kc2 := 0) (kn2 := 0) rfl rfl rfl rfl ?_
      refine g_istore_n dX11_firstThatCannotBe_43 (by decide) (g_lvp (lv2 := [some (.ref x0), some (.int x1), some (.int v17), some (.int x3)]) (pc2 := 44) rfl rfl ?_)
      refine g_iload_n dX11_firstThatCannotBe_44 rfl ?_
      refine g_if_ge (tgt := 50) dX11_firstThatCannotBe_45 (by decide) (fun c18 => ?_) (fun c18 => ?_)
      · rw [if_pos c18] at hf
        refine g_iinc2 (w := (1 : Int32)) dX11_firstThatCannotBe_50 (by decide) rfl (by decide) (g_lvp (lv2 := [some (.ref x0), some (.int x1), some (.int v17), some (.int (x3 + (1 : Int32)))]) (pc2 := 53) rfl rfl ?_)
        refine g_goto (tgt := 18) dX11_firstThatCannotBe_53 (by decide) ?_
        exact t18 hf
      · rw [if_neg c18] at hf
        refine g_iload_n dX11_firstThatCannotBe_48 rfl ?_
        obtain ⟨rfl, rfl⟩ := Prod.mk.inj (Option.some.inj hf)
        exact g_iret dX11_firstThatCannotBe_49 rfl ⟨rfl, rfl⟩ (Nat.le_of_ble_eq_true rfl) (Nat.le_of_ble_eq_true rfl)
def F_X11_firstThatCannotBe_0 (n : Nat)  (x0 : Nat) (h : gH) : Option (Int32 × gH) :=
  (gO h x0 11).bind fun f1 =>
  gB (F_X11_countedRow n x0  h) fun v5 h3 =>
  (gR h3 x0 11 0).bind fun v6 =>
  (gR h3 v6 7 1).bind fun v8 =>
  (gI h3 v8 6 12).bind fun v10 =>
  F_X11_firstThatCannotBe_18 n n x0 v5 v10 (0 : Int32) h3
set_option maxRecDepth 20000 in
set_option maxHeartbeats 1600000 in
theorem g_X11_firstThatCannotBe_0 {n d : Nat} : ∀ {x0 : Nat} {h : gH} {rh : gH} {rv : Int32}, F_X11_firstThatCannotBe_0 n x0 h = some (rv, rh) → G M_X11_firstThatCannotBe (d + 3) 0 0 0 0 0 [some (.ref x0), none, none, none] [] h (qI rv rh) := by
  intro x0 h rh rv hf
  unfold F_X11_firstThatCannotBe_0 at hf
  refine g_aload_n dX11_firstThatCannotBe_0 rfl ?_
  replace hf := Option.bind_eq_some_iff.mp hf
  obtain ⟨f1, q2, hf⟩ := hf
  replace hf := gB_of hf
  obtain ⟨v5, h3, q4, hf⟩ := hf
  refine g_callV (as := []) (mc1 := 0) (ms1 := 0) s_X11_294_X11_countedRow_11 dX11_firstThatCannotBe_1 (gO_of q2) rfl (Nat.le_of_ble_eq_true rfl) (Nat.le_of_ble_eq_true rfl) (Nat.le_of_ble_eq_true rfl) (t_X11_countedRow (d := d + 1) q4) (fun r9 h9 q9 => ?_)
  obtain ⟨rfl, rfl⟩ := q9
  refine g_stp (st2 := [.int v5]) (pc2 := 4) (kc2 := 0) (kn2 := 0) rfl rfl rfl rfl ?_
  refine g_istore_n dX11_firstThatCannotBe_4 (by decide) (g_lvp (lv2 := [some (.ref x0), some (.int v5), none, none]) (pc2 := 5) rfl rfl ?_)
  refine g_aload_n dX11_firstThatCannotBe_5 rfl ?_
  replace hf := Option.bind_eq_some_iff.mp hf
  obtain ⟨v6, q7, hf⟩ := hf
  refine g_gR f_X11_12 dX11_firstThatCannotBe_6 q7 ?_
  replace hf := Option.bind_eq_some_iff.mp hf
  obtain ⟨v8, q9, hf⟩ := hf
  refine g_gR f_X11_70 dX11_firstThatCannotBe_9 q9 ?_
  replace hf := Option.bind_eq_some_iff.mp hf
  obtain ⟨v10, q11, hf⟩ := hf
  refine g_gI f_X11_108 dX11_firstThatCannotBe_12 q11 ?_
  refine g_istore_n dX11_firstThatCannotBe_15 (by decide) (g_lvp (lv2 := [some (.ref x0), some (.int v5), some (.int v10), none]) (pc2 := 16) rfl rfl ?_)
  refine g_iconst (v := (0 : Int32)) dX11_firstThatCannotBe_16 (by decide) ?_
  refine g_istore_n dX11_firstThatCannotBe_17 (by decide) (g_lvp (lv2 := [some (.ref x0), some (.int v5), some (.int v10), some (.int (0 : Int32))]) (pc2 := 18) rfl rfl ?_)
  exact g_X11_firstThatCannotBe_18 hf
def F_X11_firstThatCannotBe (n : Nat) (a : Nat) (h : gH) : Option (Int32 × gH) := F_X11_firstThatCannotBe_0 n  a h
theorem t_X11_firstThatCannotBe {n d : Nat} {a : Nat} {h rh : gH} {rv : Int32} (hf : F_X11_firstThatCannotBe n a h = some (rv, rh)) : T M_X11_firstThatCannotBe (d + 3) 0 0 [.ref a] h (qI rv rh) := by
  refine T_of_G (L := 3) (by decide +kernel) rfl (Nat.le_of_ble_eq_true rfl) (g_lv (lv2 := [some (.ref a), none, none, none]) rfl ?_)
  exact g_X11_firstThatCannotBe_0 hf
def F_X11_fraction_70 (n : Nat)  (y0 : Int64) (h : gH) : Option (Int64 × gH) :=
  some (y0, h)
set_option maxRecDepth 20000 in
set_option maxHeartbeats 1600000 in
theorem g_X11_fraction_70 {n d : Nat} : ∀ {y0 : Int64} {h : gH} {rh : gH} {rv : Int64}, F_X11_fraction_70 n y0 h = some (rv, rh) → G M_X11_fraction (d + 1) 0 0 0 0 70 [none, none, none, none, none, none, none, none] [.long y0] h (qL rv rh) := by
  intro y0 h rh rv hf
  unfold F_X11_fraction_70 at hf
  obtain ⟨rfl, rfl⟩ := Prod.mk.inj (Option.some.inj hf)
  exact g_lret dX11_fraction_70 rfl ⟨rfl, rfl⟩ (Nat.le_of_ble_eq_true rfl) (Nat.le_of_ble_eq_true rfl)
def F_X11_fraction_6 (n : Nat)  : Nat → Nat → Int64 → Int32 → Int64 → Int32 → gH → Option (Int64 × gH)
  | 0, _, _, _, _, _, _ => none
  | m + 1, x0, x1, x3, x4, x6, h => (gR h x0 11 0).bind fun v1 =>
  (gR h v1 7 1).bind fun v3 =>
  (gI h v3 6 8).bind fun v5 =>
  if v5 ≤ x6 then
  (gB (F_X11_commonDivisor n x1 x4 h) fun v10 h8 =>
  if 0 ≤ (lg_cmp v10 (1 : Int64)) then
  (if x3 = 0 then
  (if v10 = (0 : Int64) then none else
  F_X11_fraction_70 n (x1 / v10) h8)
  else
  (if v10 = (0 : Int64) then none else
  F_X11_fraction_70 n (x4 / v10) h8))
  else
  (some ((-9223372036854775808 : Int64), h8)))
  else
  (F_X11_fraction_6 n m x0 x1 x3 (x4 * (10 : Int64)) (x6 + (1 : Int32)) h)
set_option maxRecDepth 20000 in
set_option maxHeartbeats 1600000 in
theorem g_X11_fraction_6 {n d : Nat} : ∀ {m : Nat} {x0 : Nat} {x1 : Int64} {x3 : Int32} {x4 : Int64} {x6 : Int32} {h : gH} {rh : gH} {rv : Int64}, F_X11_fraction_6 n m x0 x1 x3 x4 x6 h = some (rv, rh) → G M_X11_fraction (d + 1) 0 0 0 0 6 [some (.ref x0), some (.long x1), none, some (.int x3), some (.long x4), none, some (.int x6), none] [] h (qL rv rh) := by
  intro m
  induction m with
  | zero => intro x0 x1 x3 x4 x6 h rh rv hf; cases hf
  | succ m t6 =>
    intro x0 x1 x3 x4 x6 h rh rv hf
    unfold F_X11_fraction_6 at hf
    refine g_iload dX11_fraction_6 rfl ?_
    refine g_aload_n dX11_fraction_8 rfl ?_
    replace hf := Option.bind_eq_some_iff.mp hf
    obtain ⟨v1, q2, hf⟩ := hf
    refine g_gR f_X11_12 dX11_fraction_9 q2 ?_
    replace hf := Option.bind_eq_some_iff.mp hf
    obtain ⟨v3, q4, hf⟩ := hf
    refine g_gR f_X11_70 dX11_fraction_12 q4 ?_
    replace hf := Option.bind_eq_some_iff.mp hf
    obtain ⟨v5, q6, hf⟩ := hf
    refine g_gI f_X11_102 dX11_fraction_15 q6 ?_
    refine g_icmp_ge (tgt := 35) dX11_fraction_18 (by decide) (fun c7 => ?_) (fun c7 => ?_)
    · rw [if_pos c7] at hf
      refine g_lload_n dX11_fraction_35 rfl ?_
      refine g_lload dX11_fraction_36 rfl ?_
      replace hf := gB_of hf
      obtain ⟨v10, h8, q9, hf⟩ := hf
      refine g_callS (as := [.long x1, .long x4]) (mc1 := 0) (ms1 := 0) s_X11_308_X11_commonDivisor dX11_fraction_38 rfl (Nat.le_of_ble_eq_true rfl) (Nat.le_of_ble_eq_true rfl) (Nat.le_of_ble_eq_true rfl) (t_X11_commonDivisor (d := d + 0) q9) (fun r9 h9 q9 => ?_)
      obtain ⟨rfl, rfl⟩ := q9
      refine g_stp (st2 := [.long v10]) (pc2 := 41) (kc2 := 0) (kn2 := 0) rfl rfl rfl rfl ?_
      refine g_lstore dX11_fraction_41 (by decide) (g_lvp (lv2 := [some (.ref x0), some (.long x1), none, some (.int x3), some (.long x4), none, some (.long v10), none]) (pc2 := 43) rfl rfl ?_)
      refine g_lload dX11_fraction_43 rfl ?_
      refine g_lconst (v := (1 : Int64)) dX11_fraction_45 (by decide) ?_
      refine g_lcmp dX11_fraction_46 ?_
      refine g_if_ge (tgt := 54) dX11_fraction_47 (by decide) (fun c11 => ?_) (fun c11 => ?_)
      · rw [if_pos c11] at hf
        refine g_iload_n dX11_fraction_54 rfl ?_
        refine g_if_ne (tgt := 65) dX11_fraction_55 (by decide) (fun c12 => ?_) (fun c12 => ?_)
        · rw [if_neg c12] at hf
          refine g_lload dX11_fraction_65 rfl ?_
          refine g_lload dX11_fraction_67 rfl ?_
          by_cases c13 : v10 = (0 : Int64)
          · rw [if_pos c13] at hf; cases hf
          rw [if_neg c13] at hf
          refine g_ldiv dX11_fraction_69 c13 ?_
          refine g_weak (lv2 := [none, none, none, none, none, none, none, none]) (trivial) ?_
          exact g_X11_fraction_70 hf
        · rw [if_pos c12] at hf
          refine g_lload_n dX11_fraction_58 rfl ?_
          refine g_lload dX11_fraction_59 rfl ?_
          by_cases c14 : v10 = (0 : Int64)
          · rw [if_pos c14] at hf; cases hf
          rw [if_neg c14] at hf
          refine g_ldiv dX11_fraction_61 c14 ?_
          refine g_goto (tgt := 70) dX11_fraction_62 (by decide) ?_
          refine g_weak (lv2 := [none, none, none, none, none, none, none, none]) (trivial) ?_
          exact g_X11_fraction_70 hf
      · rw [if_neg c11] at hf
        refine g_ldc2 (v := (-9223372036854775808 : Int64)) (gt_4 (List.mem_of_getElem? (i := 82) (by decide +kernel)) (by decide +kernel)) dX11_fraction_50 ?_
        obtain ⟨rfl, rfl⟩ := Prod.mk.inj (Option.some.inj hf)
        exact g_lret dX11_fraction_53 rfl ⟨rfl, rfl⟩ (Nat.le_of_ble_eq_true rfl) (Nat.le_of_ble_eq_true rfl)
    · rw [if_neg c7] at hf
      refine g_lload dX11_fraction_21 rfl ?_
      refine g_ldc2 (v := (10 : Int64)) (gt_4 (List.mem_of_getElem? (i := 96) (by decide +kernel)) (by decide +kernel)) dX11_fraction_23 ?_
      refine g_lmul dX11_fraction_26 ?_
      refine g_lstore dX11_fraction_27 (by decide) (g_lvp (lv2 := [some (.ref x0), some (.long x1), none, some (.int x3), some (.long (x4 * (10 : Int64))), none, some (.int x6), none]) (pc2 := 29) rfl rfl ?_)
      refine g_iinc2 (w := (1 : Int32)) dX11_fraction_29 (by decide) rfl (by decide) (g_lvp (lv2 := [some (.ref x0), some (.long x1), none, some (.int x3), some (.long (x4 * (10 : Int64))), none, some (.int (x6 + (1 : Int32))), none]) (pc2 := 32) rfl rfl ?_)
      refine g_goto (tgt := 6) dX11_fraction_32 (by decide) ?_
      exact t6 hf
def F_X11_fraction_0 (n : Nat)  (x0 : Nat) (x1 : Int64) (x3 : Int32) (h : gH) : Option (Int64 × gH) :=
  F_X11_fraction_6 n n x0 x1 x3 (1 : Int64) (0 : Int32) h
set_option maxRecDepth 20000 in
set_option maxHeartbeats 1600000 in
theorem g_X11_fraction_0 {n d : Nat} : ∀ {x0 : Nat} {x1 : Int64} {x3 : Int32} {h : gH} {rh : gH} {rv : Int64}, F_X11_fraction_0 n x0 x1 x3 h = some (rv, rh) → G M_X11_fraction (d + 1) 0 0 0 0 0 [some (.ref x0), some (.long x1), none, some (.int x3), none, none, none, none] [] h (qL rv rh) := by
  intro x0 x1 x3 h rh rv hf
  unfold F_X11_fraction_0 at hf
  refine g_lconst (v := (1 : Int64)) dX11_fraction_0 (by decide) ?_
  refine g_lstore dX11_fraction_1 (by decide) (g_lvp (lv2 := [some (.ref x0), some (.long x1), none, some (.int x3), some (.long (1 : Int64)), none, none, none]) (pc2 := 3) rfl rfl ?_)
  refine g_iconst (v := (0 : Int32)) dX11_fraction_3 (by decide) ?_
  refine g_istore dX11_fraction_4 (by decide) (g_lvp (lv2 := [some (.ref x0), some (.long x1), none, some (.int x3), some (.long (1 : Int64)), none, some (.int (0 : Int32)), none]) (pc2 := 6) rfl rfl ?_)
  exact g_X11_fraction_6 hf
def F_X11_fraction (n : Nat) (a : Nat) (p0 : Int64) (p1 : Int32) (h : gH) : Option (Int64 × gH) := F_X11_fraction_0 n  a p0 p1 h
theorem t_X11_fraction {n d : Nat} {a : Nat} {p0 : Int64} {p1 : Int32} {h rh : gH} {rv : Int64} (hf : F_X11_fraction n a p0 p1 h = some (rv, rh)) : T M_X11_fraction (d + 1) 0 0 [.ref a, .long p0, .int p1] h (qL rv rh) := by
  refine T_of_G (L := 4) (by decide +kernel) rfl (Nat.le_of_ble_eq_true rfl) (g_lv (lv2 := [some (.ref a), some (.long p0), none, some (.int p1), none, none, none, none]) rfl ?_)
  exact g_X11_fraction_0 hf
def F_X4_prepareGears_125 (n : Nat) (k15 : Nat → Int32 → gH → Option (gH)) (x0 : Nat) (x1 : Int32) (h : gH) : Option (gH) :=
  k15 x0 (x1 + (2 : Int32)) h
set_option maxRecDepth 20000 in
set_option maxHeartbeats 1600000 in
theorem g_X4_prepareGears_125 {n d : Nat} {k15 : Nat → Int32 → gH → Option (gH)} (t15 : ∀ {x0 : Nat} {x1 : Int32} {h : gH} {rh : gH}, k15 x0 x1 h = some rh → G M_X4_prepareGears (d + 3) 0 0 0 0 15 [some (.ref x0), some (.int x1), none, none, none, none] [] h (qV rh)) : ∀ {x0 : Nat} {x1 : Int32} {h : gH} {rh : gH}, F_X4_prepareGears_125 n k15 x0 x1 h = some rh → G M_X4_prepareGears (d + 3) 0 0 0 0 125 [some (.ref x0), some (.int x1), none, none, none, none] [] h (qV rh) := by
  intro x0 x1 h rh hf
  unfold F_X4_prepareGears_125 at hf
  refine g_iinc2 (w := (2 : Int32)) dX4_prepareGears_125 (by decide) rfl (by decide) (g_lvp (lv2 := [some (.ref x0), some (.int (x1 + (2 : Int32))), none, none, none, none]) (pc2 := 128) rfl rfl ?_)
  refine g_goto (tgt := 15) dX4_prepareGears_128 (by decide) ?_
  exact t15 hf
def F_X4_prepareGears_119 (n : Nat) (k44 : Nat → Int32 → Int32 → Int32 → Int32 → gH → Option (gH)) (x0 : Nat) (x1 : Int32) (x2 : Int32) (x3 : Int32) (x4 : Int32) (h : gH) : Option (gH) :=
  k44 x0 x1 x2 x3 (x4 + (1 : Int32)) h
set_option maxRecDepth 20000 in
set_option maxHeartbeats 1600000 in
theorem g_X4_prepareGears_119 {n d : Nat} {k44 : Nat → Int32 → Int32 → Int32 → Int32 → gH → Option (gH)} (t44 : ∀ {x0 : Nat} {x1 : Int32} {x2 : Int32} {x3 : Int32} {x4 : Int32} {h : gH} {rh : gH}, k44 x0 x1 x2 x3 x4 h = some rh → G M_X4_prepareGears (d + 3) 0 0 0 0 44 [some (.ref x0), some (.int x1), some (.int x2), some (.int x3), some (.int x4), none] [] h (qV rh)) : ∀ {x0 : Nat} {x1 : Int32} {x2 : Int32} {x3 : Int32} {x4 : Int32} {h : gH} {rh : gH}, F_X4_prepareGears_119 n k44 x0 x1 x2 x3 x4 h = some rh → G M_X4_prepareGears (d + 3) 0 0 0 0 119 [some (.ref x0), some (.int x1), some (.int x2), some (.int x3), some (.int x4), none] [] h (qV rh) := by
  intro x0 x1 x2 x3 x4 h rh hf
  unfold F_X4_prepareGears_119 at hf
  refine g_iinc2 (w := (1 : Int32)) dX4_prepareGears_119 (by decide) rfl (by decide) (g_lvp (lv2 := [some (.ref x0), some (.int x1), some (.int x2), some (.int x3), some (.int (x4 + (1 : Int32))), none]) (pc2 := 122) rfl rfl ?_)
  refine g_goto (tgt := 44) dX4_prepareGears_122 (by decide) ?_
  exact t44 hf
def F_X4_prepareGears_103 (n : Nat) (k44 : Nat → Int32 → Int32 → Int32 → Int32 → gH → Option (gH)) (x0 : Nat) (x1 : Int32) (x2 : Int32) (x3 : Int32) (x4 : Int32) (h : gH) : Option (gH) :=
  (gR h x0 4 7).bind fun v1 =>
  (sI h v1 x4 x1).bind fun h3 =>
  (gR h3 x0 4 8).bind fun v5 =>
  (sI h3 v5 x4 x3).bind fun h7 =>
  F_X4_prepareGears_119 n (k44) x0 x1 x2 x3 x4 h7
set_option maxRecDepth 20000 in
set_option maxHeartbeats 1600000 in
theorem g_X4_prepareGears_103 {n d : Nat} {k44 : Nat → Int32 → Int32 → Int32 → Int32 → gH → Option (gH)} (t44 : ∀ {x0 : Nat} {x1 : Int32} {x2 : Int32} {x3 : Int32} {x4 : Int32} {h : gH} {rh : gH}, k44 x0 x1 x2 x3 x4 h = some rh → G M_X4_prepareGears (d + 3) 0 0 0 0 44 [some (.ref x0), some (.int x1), some (.int x2), some (.int x3), some (.int x4), none] [] h (qV rh)) : ∀ {x0 : Nat} {x1 : Int32} {x2 : Int32} {x3 : Int32} {x4 : Int32} {h : gH} {rh : gH}, F_X4_prepareGears_103 n k44 x0 x1 x2 x3 x4 h = some rh → G M_X4_prepareGears (d + 3) 0 0 0 0 103 [some (.ref x0), some (.int x1), some (.int x2), some (.int x3), some (.int x4), none] [] h (qV rh) := by
  intro x0 x1 x2 x3 x4 h rh hf
  unfold F_X4_prepareGears_103 at hf
  refine g_aload_n dX4_prepareGears_103 rfl ?_
  replace hf := Option.bind_eq_some_iff.mp hf
  obtain ⟨v1, q2, hf⟩ := hf
  refine g_gR f_X4_33 dX4_prepareGears_104 q2 ?_
  refine g_iload dX4_prepareGears_107 rfl ?_
  refine g_iload_n dX4_prepareGears_109 rfl ?_
  replace hf := Option.bind_eq_some_iff.mp hf
  obtain ⟨h3, q4, hf⟩ := hf
  refine g_sI dX4_prepareGears_110 q4 ?_
  refine g_aload_n dX4_prepareGears_111 rfl ?_
  replace hf := Option.bind_eq_some_iff.mp hf
  obtain ⟨v5, q6, hf⟩ := hf
  refine g_gR f_X4_36 dX4_prepareGears_112 q6 ?_
  refine g_iload dX4_prepareGears_115 rfl ?_
  refine g_iload_n dX4_prepareGears_117 rfl ?_
  replace hf := Option.bind_eq_some_iff.mp hf
  obtain ⟨h7, q8, hf⟩ := hf
  refine g_sI dX4_prepareGears_118 q8 ?_
  exact g_X4_prepareGears_119 t44 hf
def F_X4_prepareGears_80 (n : Nat) (k44 : Nat → Int32 → Int32 → Int32 → Int32 → gH → Option (gH)) (x0 : Nat) (x1 : Int32) (x2 : Int32) (x3 : Int32) (x4 : Int32) (y0 : Int32) (h : gH) : Option (gH) :=
  if x1 = (1 : Int32) then
  (F_X4_prepareGears_103 n (k44) x0 x1 x2 x3 x4 h)
  else
  ((gR h x0 4 8).bind fun v2 =>
  (aI h v2 x4).bind fun v4 =>
  if x3 < v4 then
  (F_X4_prepareGears_103 n (k44) x0 x1 x2 x3 x4 h)
  else
  (if y0 = 0 then
  (F_X4_prepareGears_119 n (k44) x0 x1 x2 x3 x4 h)
  else
  (F_X4_prepareGears_103 n (k44) x0 x1 x2 x3 x4 h)))
set_option maxRecDepth 20000 in
set_option maxHeartbeats 1600000 in
theorem g_X4_prepareGears_80 {n d : Nat} {k44 : Nat → Int32 → Int32 → Int32 → Int32 → gH → Option (gH)} (t44 : ∀ {x0 : Nat} {x1 : Int32} {x2 : Int32} {x3 : Int32} {x4 : Int32} {h : gH} {rh : gH}, k44 x0 x1 x2 x3 x4 h = some rh → G M_X4_prepareGears (d + 3) 0 0 0 0 44 [some (.ref x0), some (.int x1), some (.int x2), some (.int x3), some (.int x4), none] [] h (qV rh)) : ∀ {x0 : Nat} {x1 : Int32} {x2 : Int32} {x3 : Int32} {x4 : Int32} {y0 : Int32} {h : gH} {rh : gH}, F_X4_prepareGears_80 n k44 x0 x1 x2 x3 x4 y0 h = some rh → G M_X4_prepareGears (d + 3) 0 0 0 0 80 [some (.ref x0), some (.int x1), some (.int x2), some (.int x3), some (.int x4), none] [.int y0] h (qV rh) := by
  intro x0 x1 x2 x3 x4 y0 h rh hf
  unfold F_X4_prepareGears_80 at hf
  refine g_istore dX4_prepareGears_80 (by decide) (g_lvp (lv2 := [some (.ref x0), some (.int x1), some (.int x2), some (.int x3), some (.int x4), some (.int y0)]) (pc2 := 82) rfl rfl ?_)
  refine g_iload_n dX4_prepareGears_82 rfl ?_
  refine g_iconst (v := (1 : Int32)) dX4_prepareGears_83 (by decide) ?_
  refine g_icmp_eq (tgt := 103) dX4_prepareGears_84 (by decide) (fun c1 => ?_) (fun c1 => ?_)
  · rw [if_pos c1] at hf
    refine g_weak (lv2 := [some (.ref x0), some (.int x1), some (.int x2), some (.int x3), some (.int x4), none]) (And.intro rfl (And.intro rfl (And.intro rfl (And.intro rfl (And.intro rfl (trivial)))))) ?_
    exact g_X4_prepareGears_103 t44 hf
  · rw [if_neg c1] at hf
    refine g_iload_n dX4_prepareGears_87 rfl ?_
    refine g_aload_n dX4_prepareGears_88 rfl ?_
    replace hf := Option.bind_eq_some_iff.mp hf
    obtain ⟨v2, q3, hf⟩ := hf
    refine g_gR f_X4_36 dX4_prepareGears_89 q3 ?_
    refine g_iload dX4_prepareGears_92 rfl ?_
    replace hf := Option.bind_eq_some_iff.mp hf
    obtain ⟨v4, q5, hf⟩ := hf
    refine g_aI dX4_prepareGears_94 q5 ?_
    refine g_icmp_lt (tgt := 103) dX4_prepareGears_95 (by decide) (fun c6 => ?_) (fun c6 => ?_)
    · rw [if_pos c6] at hf
      refine g_weak (lv2 := [some (.ref x0), some (.int x1), some (.int x2), some (.int x3), some (.int x4), none]) (And.intro rfl (And.intro rfl (And.intro rfl (And.intro rfl (And.intro rfl (trivial)))))) ?_
      exact g_X4_prepareGears_103 t44 hf
    · rw [if_neg c6] at hf
      refine g_iload dX4_prepareGears_98 rfl ?_
      refine g_if_eq (tgt := 119) dX4_prepareGears_100 (by decide) (fun c7 => ?_) (fun c7 => ?_)
      · rw [if_pos c7] at hf
        refine g_weak (lv2 := [some (.ref x0), some (.int x1), some (.int x2), some (.int x3), some (.int x4), none]) (And.intro rfl (And.intro rfl (And.intro rfl (And.intro rfl (And.intro rfl (trivial)))))) ?_
        exact g_X4_prepareGears_119 t44 hf
      · rw [if_neg c7] at hf
        refine g_weak (lv2 := [some (.ref x0), some (.int x1), some (.int x2), some (.int x3), some (.int x4), none]) (And.intro rfl (And.intro rfl (And.intro rfl (And.intro rfl (And.intro rfl (trivial)))))) ?_
        exact g_X4_prepareGears_103 t44 hf
def F_X4_prepareGears_79 (n : Nat) (k44 : Nat → Int32 → Int32 → Int32 → Int32 → gH → Option (gH)) (x0 : Nat) (x1 : Int32) (x2 : Int32) (x3 : Int32) (x4 : Int32) (h : gH) : Option (gH) :=
  F_X4_prepareGears_80 n (k44) x0 x1 x2 x3 x4 (0 : Int32) h
set_option maxRecDepth 20000 in
set_option maxHeartbeats 1600000 in
theorem g_X4_prepareGears_79 {n d : Nat} {k44 : Nat → Int32 → Int32 → Int32 → Int32 → gH → Option (gH)} (t44 : ∀ {x0 : Nat} {x1 : Int32} {x2 : Int32} {x3 : Int32} {x4 : Int32} {h : gH} {rh : gH}, k44 x0 x1 x2 x3 x4 h = some rh → G M_X4_prepareGears (d + 3) 0 0 0 0 44 [some (.ref x0), some (.int x1), some (.int x2), some (.int x3), some (.int x4), none] [] h (qV rh)) : ∀ {x0 : Nat} {x1 : Int32} {x2 : Int32} {x3 : Int32} {x4 : Int32} {h : gH} {rh : gH}, F_X4_prepareGears_79 n k44 x0 x1 x2 x3 x4 h = some rh → G M_X4_prepareGears (d + 3) 0 0 0 0 79 [some (.ref x0), some (.int x1), some (.int x2), some (.int x3), some (.int x4), none] [] h (qV rh) := by
  intro x0 x1 x2 x3 x4 h rh hf
  unfold F_X4_prepareGears_79 at hf
  refine g_iconst (v := (0 : Int32)) dX4_prepareGears_79 (by decide) ?_
  exact g_X4_prepareGears_80 t44 hf
def F_X4_prepareGears_44 (n : Nat) (k15 : Nat → Int32 → gH → Option (gH)) : Nat → Nat → Int32 → Int32 → Int32 → Int32 → gH → Option (gH)
  | 0, _, _, _, _, _, _ => none
  | m + 1, x0, x1, x2, x3, x4, h => if (4 : Int32) < x4 then
  (F_X4_prepareGears_125 n (k15) x0 x1 h)
  else
  ((gR h x0 4 8).bind fun v2 =>
  (aI h v2 x4).bind fun v4 =>
  if x3 = v4 then
  ((gR h x0 4 7).bind fun v7 =>
  (aI h v7 x4).bind fun v9 =>
  gB (F_J6_bitCount_0f7a4 n v9 h) fun v13 h11 =>
  if v13 ≤ x2 then
  (F_X4_prepareGears_79 n (F_X4_prepareGears_44 n k15 m) x0 x1 x2 x3 x4 h11)
  else
  (F_X4_prepareGears_80 n (F_X4_prepareGears_44 n k15 m) x0 x1 x2 x3 x4 (1 : Int32) h11))
  else
  (F_X4_prepareGears_79 n (F_X4_prepareGears_44 n k15 m) x0 x1 x2 x3 x4 h))
set_option maxRecDepth 20000 in
set_option maxHeartbeats 1600000 in
theorem g_X4_prepareGears_44 {n d : Nat} {k15 : Nat → Int32 → gH → Option (gH)} (t15 : ∀ {x0 : Nat} {x1 : Int32} {h : gH} {rh : gH}, k15 x0 x1 h = some rh → G M_X4_prepareGears (d + 3) 0 0 0 0 15 [some (.ref x0), some (.int x1), none, none, none, none] [] h (qV rh)) : ∀ {m : Nat} {x0 : Nat} {x1 : Int32} {x2 : Int32} {x3 : Int32} {x4 : Int32} {h : gH} {rh : gH}, F_X4_prepareGears_44 n k15 m x0 x1 x2 x3 x4 h = some rh → G M_X4_prepareGears (d + 3) 0 0 0 0 44 [some (.ref x0), some (.int x1), some (.int x2), some (.int x3), some (.int x4), none] [] h (qV rh) := by
  intro m
  induction m with
  | zero => intro x0 x1 x2 x3 x4 h rh hf; cases hf
  | succ m t44 =>
    intro x0 x1 x2 x3 x4 h rh hf
    unfold F_X4_prepareGears_44 at hf
    refine g_iload dX4_prepareGears_44 rfl ?_
    refine g_iconst (v := (4 : Int32)) dX4_prepareGears_46 (by decide) ?_
    refine g_icmp_gt (tgt := 125) dX4_prepareGears_47 (by decide) (fun c1 => ?_) (fun c1 => ?_)
    · rw [if_pos c1] at hf
      refine g_weak (lv2 := [some (.ref x0), some (.int x1), none, none, none, none]) (And.intro rfl (And.intro rfl (trivial))) ?_
      exact g_X4_prepareGears_125 t15 hf
    · rw [if_neg c1] at hf
      refine g_iload_n dX4_prepareGears_50 rfl ?_
      refine g_aload_n dX4_prepareGears_51 rfl ?_
      replace hf := Option.bind_eq_some_iff.mp hf
      obtain ⟨v2, q3, hf⟩ := hf
      refine g_gR f_X4_36 dX4_prepareGears_52 q3 ?_
      refine g_iload dX4_prepareGears_55 rfl ?_
      replace hf := Option.bind_eq_some_iff.mp hf
      obtain ⟨v4, q5, hf⟩ := hf
      refine g_aI dX4_prepareGears_57 q5 ?_
      refine g_icmp_ne (tgt := 79) dX4_prepareGears_58 (by decide) (fun c6 => ?_) (fun c6 => ?_)
      · rw [if_neg c6] at hf
        exact g_X4_prepareGears_79 t44 hf
      · rw [if_pos c6] at hf
        refine g_iload_n dX4_prepareGears_61 rfl ?_
        refine g_aload_n dX4_prepareGears_62 rfl ?_
        replace hf := Option.bind_eq_some_iff.mp hf
        obtain ⟨v7, q8, hf⟩ := hf
        refine g_gR f_X4_33 dX4_prepareGears_63 q8 ?_
        refine g_iload dX4_prepareGears_66 rfl ?_
        replace hf := Option.bind_eq_some_iff.mp hf
        obtain ⟨v9, q10, hf⟩ := hf
        refine g_aI dX4_prepareGears_68 q10 ?_
        replace hf := gB_of hf
        obtain ⟨v13, h11, q12, hf⟩ := hf
        refine g_callS (as := [.int v9]) (mc1 := 0) (ms1 := 0) s_X4_81_J6_bitCount_0f7a4 dX4_prepareGears_69 rfl (Nat.le_of_ble_eq_true rfl) (Nat.le_of_ble_eq_true rfl) (Nat.le_of_ble_eq_true rfl) (t_J6_bitCount_0f7a4 (d := d + 2) q12) (fun r9 h9 q9 => ?_)
        obtain ⟨rfl, rfl⟩ := q9
        refine g_stp (st2 := [.int v13, .int x2]) (pc2 := 72) (kc2 := 0) (kn2 := 0) rfl rfl rfl rfl ?_
        refine g_icmp_ge (tgt := 79) dX4_prepareGears_72 (by decide) (fun c14 => ?_) (fun c14 => ?_)
        · rw [if_pos c14] at hf
          exact g_X4_prepareGears_79 t44 hf
        · rw [if_neg c14] at hf
          refine g_iconst (v := (1 : Int32)) dX4_prepareGears_75 (by decide) ?_
          refine g_goto (tgt := 80) dX4_prepareGears_76 (by decide) ?_
          exact g_X4_prepareGears_80 t44 hf
def F_X4_prepareGears_15 (n : Nat)  : Nat → Nat → Int32 → gH → Option (gH)
  | 0, _, _, _ => none
  | m + 1, x0, x1, h => if (1024 : Int32) ≤ x1 then
  (some h)
  else
  (gB (F_J6_bitCount_0f7a4 n x1 h) fun v4 h2 =>
  if v4 ≤ (4 : Int32) then
  ((gO h2 x0 4).bind fun f6 =>
  gB (F_X4_fewestBy n x0 x1 h2) fun v10 h8 =>
  F_X4_prepareGears_44 n (F_X4_prepareGears_15 n m) n x0 x1 v4 v10 v4 h8)
  else
  (F_X4_prepareGears_125 n (F_X4_prepareGears_15 n m) x0 x1 h2))
set_option maxRecDepth 20000 in
set_option maxHeartbeats 1600000 in
theorem g_X4_prepareGears_15 {n d : Nat} : ∀ {m : Nat} {x0 : Nat} {x1 : Int32} {h : gH} {rh : gH}, F_X4_prepareGears_15 n m x0 x1 h = some rh → G M_X4_prepareGears (d + 3) 0 0 0 0 15 [some (.ref x0), some (.int x1), none, none, none, none] [] h (qV rh) := by
  intro m
  induction m with
  | zero => intro x0 x1 h rh hf; cases hf
  | succ m t15 =>
    intro x0 x1 h rh hf
    unfold F_X4_prepareGears_15 at hf
    refine g_iload_n dX4_prepareGears_15 rfl ?_
    refine g_sipush (v := (1024 : Int32)) dX4_prepareGears_16 (by decide) ?_
    refine g_icmp_ge (tgt := 131) dX4_prepareGears_19 (by decide) (fun c1 => ?_) (fun c1 => ?_)
    · rw [if_pos c1] at hf
      obtain rfl := Option.some.inj hf
      exact g_vret dX4_prepareGears_131 rfl ⟨rfl, rfl⟩ (Nat.le_of_ble_eq_true rfl) (Nat.le_of_ble_eq_true rfl)
    · rw [if_neg c1] at hf
      refine g_iload_n dX4_prepareGears_22 rfl ?_
      replace hf := gB_of hf
      obtain ⟨v4, h2, q3, hf⟩ := hf
      refine g_callS (as := [.int x1]) (mc1 := 0) (ms1 := 0) s_X4_81_J6_bitCount_0f7a4 dX4_prepareGears_23 rfl (Nat.le_of_ble_eq_true rfl) (Nat.le_of_ble_eq_true rfl) (Nat.le_of_ble_eq_true rfl) (t_J6_bitCount_0f7a4 (d := d + 2) q3) (fun r9 h9 q9 => ?_)
      obtain ⟨rfl, rfl⟩ := q9
      refine g_stp (st2 := [.int v4]) (pc2 := 26) (kc2 := 0) (kn2 := 0) rfl rfl rfl rfl ?_
      refine g_istore_n dX4_prepareGears_26 (by decide) (g_lvp (lv2 := [some (.ref x0), some (.int x1), some (.int v4), none, none, none]) (pc2 := 27) rfl rfl ?_)
      refine g_iload_n dX4_prepareGears_27 rfl ?_
      refine g_iconst (v := (4 : Int32)) dX4_prepareGears_28 (by decide) ?_
      refine g_icmp_le (tgt := 35) dX4_prepareGears_29 (by decide) (fun c5 => ?_) (fun c5 => ?_)
      · rw [if_pos c5] at hf
        refine g_aload_n dX4_prepareGears_35 rfl ?_
        refine g_iload_n dX4_prepareGears_36 rfl ?_
        replace hf := Option.bind_eq_some_iff.mp hf
        obtain ⟨f6, q7, hf⟩ := hf
        replace hf := gB_of hf
        obtain ⟨v10, h8, q9, hf⟩ := hf
        refine g_callV (as := [.int x1]) (mc1 := 0) (ms1 := 0) s_X4_87_X4_fewestBy_4 dX4_prepareGears_37 (gO_of q7) rfl (Nat.le_of_ble_eq_true rfl) (Nat.le_of_ble_eq_true rfl) (Nat.le_of_ble_eq_true rfl) (t_X4_fewestBy (d := d + 0) q9) (fun r9 h9 q9 => ?_)
        obtain ⟨rfl, rfl⟩ := q9
        refine g_stp (st2 := [.int v10]) (pc2 := 40) (kc2 := 0) (kn2 := 0) rfl rfl rfl rfl ?_
        refine g_istore_n dX4_prepareGears_40 (by decide) (g_lvp (lv2 := [some (.ref x0), some (.int x1), some (.int v4), some (.int v10), none, none]) (pc2 := 41) rfl rfl ?_)
        refine g_iload_n dX4_prepareGears_41 rfl ?_
        refine g_istore dX4_prepareGears_42 (by decide) (g_lvp (lv2 := [some (.ref x0), some (.int x1), some (.int v4), some (.int v10), some (.int v4), none]) (pc2 := 44) rfl rfl ?_)
        exact g_X4_prepareGears_44 t15 hf
      · rw [if_neg c5] at hf
        refine g_goto (tgt := 125) dX4_prepareGears_32 (by decide) ?_
        refine g_weak (lv2 := [some (.ref x0), some (.int x1), none, none, none, none]) (And.intro rfl (And.intro rfl (trivial))) ?_
        exact g_X4_prepareGears_125 t15 hf
def F_X4_prepareGears_0 (n : Nat)  (x0 : Nat) (h : gH) : Option (gH) :=
  (gI h x0 4 12).bind fun v1 =>
  if v1 = 0 then
  ((pZ h x0 4 12 (1 : Int32)).bind fun h4 =>
  F_X4_prepareGears_15 n n x0 (1 : Int32) h4)
  else
  (some h)
set_option maxRecDepth 20000 in
set_option maxHeartbeats 1600000 in
theorem g_X4_prepareGears_0 {n d : Nat} : ∀ {x0 : Nat} {h : gH} {rh : gH}, F_X4_prepareGears_0 n x0 h = some rh → G M_X4_prepareGears (d + 3) 0 0 0 0 0 [some (.ref x0), none, none, none, none, none] [] h (qV rh) := by
  intro x0 h rh hf
  unfold F_X4_prepareGears_0 at hf
  refine g_aload_n dX4_prepareGears_0 rfl ?_
  replace hf := Option.bind_eq_some_iff.mp hf
  obtain ⟨v1, q2, hf⟩ := hf
  refine g_gI f_X4_46 dX4_prepareGears_1 q2 ?_
  refine g_if_eq (tgt := 8) dX4_prepareGears_4 (by decide) (fun c3 => ?_) (fun c3 => ?_)
  · rw [if_pos c3] at hf
    refine g_aload_n dX4_prepareGears_8 rfl ?_
    refine g_iconst (v := (1 : Int32)) dX4_prepareGears_9 (by decide) ?_
    replace hf := Option.bind_eq_some_iff.mp hf
    obtain ⟨h4, q5, hf⟩ := hf
    refine g_pZ p_X4_46 dX4_prepareGears_10 q5 ?_
    refine g_iconst (v := (1 : Int32)) dX4_prepareGears_13 (by decide) ?_
    refine g_istore_n dX4_prepareGears_14 (by decide) (g_lvp (lv2 := [some (.ref x0), some (.int (1 : Int32)), none, none, none, none]) (pc2 := 15) rfl rfl ?_)
    exact g_X4_prepareGears_15 hf
  · rw [if_neg c3] at hf
    obtain rfl := Option.some.inj hf
    exact g_vret dX4_prepareGears_7 rfl ⟨rfl, rfl⟩ (Nat.le_of_ble_eq_true rfl) (Nat.le_of_ble_eq_true rfl)
def F_X4_prepareGears (n : Nat) (a : Nat) (h : gH) : Option (gH) := F_X4_prepareGears_0 n  a h
theorem t_X4_prepareGears {n d : Nat} {a : Nat} {h rh : gH} (hf : F_X4_prepareGears n a h = some rh) : T M_X4_prepareGears (d + 3) 0 0 [.ref a] h (qV rh) := by
  refine T_of_G (L := 5) (by decide +kernel) rfl (Nat.le_of_ble_eq_true rfl) (g_lv (lv2 := [some (.ref a), none, none, none, none, none]) rfl ?_)
  exact g_X4_prepareGears_0 hf
def F_X11_gears_86 (n : Nat)  (y0 : Int32) (h : gH) : Option (Int32 × gH) :=
  some (y0, h)
set_option maxRecDepth 20000 in
set_option maxHeartbeats 1600000 in
theorem g_X11_gears_86 {n d : Nat} : ∀ {y0 : Int32} {h : gH} {rh : gH} {rv : Int32}, F_X11_gears_86 n y0 h = some (rv, rh) → G M_X11_gears (d + 6) 0 0 0 0 86 [none, none, none] [.int y0] h (qI rv rh) := by
  intro y0 h rh rv hf
  unfold F_X11_gears_86 at hf
  obtain ⟨rfl, rfl⟩ := Prod.mk.inj (Option.some.inj hf)
  exact g_iret dX11_gears_86 rfl ⟨rfl, rfl⟩ (Nat.le_of_ble_eq_true rfl) (Nat.le_of_ble_eq_true rfl)
def F_X11_gears_21 (n : Nat)   (h : gH) : Option (Int32 × gH) :=
  some ((-2 : Int32), h)
set_option maxRecDepth 20000 in
set_option maxHeartbeats 1600000 in
theorem g_X11_gears_21 {n d : Nat} : ∀  {h : gH} {rh : gH} {rv : Int32}, F_X11_gears_21 n  h = some (rv, rh) → G M_X11_gears (d + 6) 0 0 0 0 21 [none, none, none] [] h (qI rv rh) := by
  intro  h rh rv hf
  unfold F_X11_gears_21 at hf
  refine g_bipush (v := (-2 : Int32)) dX11_gears_21 (by decide) ?_
  obtain ⟨rfl, rfl⟩ := Prod.mk.inj (Option.some.inj hf)
  exact g_iret dX11_gears_23 rfl ⟨rfl, rfl⟩ (Nat.le_of_ble_eq_true rfl) (Nat.le_of_ble_eq_true rfl)
def F_X11_gears_9 (n : Nat)   (h : gH) : Option (Int32 × gH) :=
  some ((-1 : Int32), h)
set_option maxRecDepth 20000 in
set_option maxHeartbeats 1600000 in
theorem g_X11_gears_9 {n d : Nat} : ∀  {h : gH} {rh : gH} {rv : Int32}, F_X11_gears_9 n  h = some (rv, rh) → G M_X11_gears (d + 6) 0 0 0 0 9 [none, none, none] [] h (qI rv rh) := by
  intro  h rh rv hf
  unfold F_X11_gears_9 at hf
  refine g_iconst (v := (-1 : Int32)) dX11_gears_9 (by decide) ?_
  obtain ⟨rfl, rfl⟩ := Prod.mk.inj (Option.some.inj hf)
  exact g_iret dX11_gears_10 rfl ⟨rfl, rfl⟩ (Nat.le_of_ble_eq_true rfl) (Nat.le_of_ble_eq_true rfl)
def F_X11_gears_0 (n : Nat)  (x0 : Nat) (x1 : Int32) (x2 : Int32) (h : gH) : Option (Int32 × gH) :=
  if x2 < 0 then
  (F_X11_gears_9 n h)
  else
  (if x2 ≤ (1 : Int32) then
  (if x1 < (1 : Int32) then
  (F_X11_gears_21 n h)
  else
  (if x1 ≤ (4 : Int32) then
  ((gR h x0 11 0).bind fun v5 =>
  (gR h v5 7 1).bind fun v7 =>
  (gI h v7 6 8).bind fun v9 =>
  if v9 = 0 then
  (some ((-3 : Int32), h))
  else
  ((gR h x0 11 3).bind fun v12 =>
  (gR h x0 11 0).bind fun v14 =>
  (gR h v14 7 1).bind fun v16 =>
  (gO h v12 4).bind fun f18 =>
  (F_X4_prepare n v12 v16 h).bind fun h20 =>
  (gR h20 x0 11 3).bind fun v22 =>
  (gO h20 v22 4).bind fun f24 =>
  (F_X4_prepareGears n v22  h20).bind fun h26 =>
  if x2 = 0 then
  ((gR h26 x0 11 3).bind fun v35 =>
  (gR h26 v35 4 7).bind fun v37 =>
  (aI h26 v37 x1).bind fun v39 =>
  F_X11_gears_86 n v39 h26)
  else
  ((gR h26 x0 11 3).bind fun v29 =>
  (gR h26 v29 4 8).bind fun v31 =>
  (aI h26 v31 x1).bind fun v33 =>
  F_X11_gears_86 n v33 h26)))
  else
  (F_X11_gears_21 n h)))
  else
  (F_X11_gears_9 n h))
set_option maxRecDepth 20000 in
set_option maxHeartbeats 1600000 in
theorem g_X11_gears_0 {n d : Nat} : ∀ {x0 : Nat} {x1 : Int32} {x2 : Int32} {h : gH} {rh : gH} {rv : Int32}, F_X11_gears_0 n x0 x1 x2 h = some (rv, rh) → G M_X11_gears (d + 6) 0 0 0 0 0 [some (.ref x0), some (.int x1), some (.int x2)] [] h (qI rv rh) := by
  intro x0 x1 x2 h rh rv hf
  unfold F_X11_gears_0 at hf
  refine g_iload_n dX11_gears_0 rfl ?_
  refine g_if_lt (tgt := 9) dX11_gears_1 (by decide) (fun c1 => ?_) (fun c1 => ?_)
  · rw [if_pos c1] at hf
    refine g_weak (lv2 := [none, none, none]) (trivial) ?_
    exact g_X11_gears_9 hf
  · rw [if_neg c1] at hf
    refine g_iload_n dX11_gears_4 rfl ?_
    refine g_iconst (v := (1 : Int32)) dX11_gears_5 (by decide) ?_
    refine g_icmp_le (tgt := 11) dX11_gears_6 (by decide) (fun c2 => ?_) (fun c2 => ?_)
    · rw [if_pos c2] at hf
      refine g_iload_n dX11_gears_11 rfl ?_
      refine g_iconst (v := (1 : Int32)) dX11_gears_12 (by decide) ?_
      refine g_icmp_lt (tgt := 21) dX11_gears_13 (by decide) (fun c3 => ?_) (fun c3 => ?_)
      · rw [if_pos c3] at hf
        refine g_weak (lv2 := [none, none, none]) (trivial) ?_
        exact g_X11_gears_21 hf
      · rw [if_neg c3] at hf
        refine g_iload_n dX11_gears_16 rfl ?_
        refine g_iconst (v := (4 : Int32)) dX11_gears_17 (by decide) ?_
        refine g_icmp_le (tgt := 24) dX11_gears_18 (by decide) (fun c4 => ?_) (fun c4 => ?_)
        · rw [if_pos c4] at hf
          refine g_aload_n dX11_gears_24 rfl ?_
          replace hf := Option.bind_eq_some_iff.mp hf
          obtain ⟨v5, q6, hf⟩ := hf
          refine g_gR f_X11_12 dX11_gears_25 q6 ?_
          replace hf := Option.bind_eq_some_iff.mp hf
          obtain ⟨v7, q8, hf⟩ := hf
          refine g_gR f_X11_70 dX11_gears_28 q8 ?_
          replace hf := Option.bind_eq_some_iff.mp hf
          obtain ⟨v9, q10, hf⟩ := hf
          refine g_gI f_X11_102 dX11_gears_31 q10 ?_
          refine g_if_ne (tgt := 40) dX11_gears_34 (by decide) (fun c11 => ?_) (fun c11 => ?_)
          · rw [if_neg c11] at hf
            refine g_aload_n dX11_gears_40 rfl ?_
            replace hf := Option.bind_eq_some_iff.mp hf
            obtain ⟨v12, q13, hf⟩ := hf
            refine g_gR f_X11_31 dX11_gears_41 q13 ?_
            refine g_aload_n dX11_gears_44 rfl ?_
            replace hf := Option.bind_eq_some_iff.mp hf
            obtain ⟨v14, q15, hf⟩ := hf
            refine g_gR f_X11_12 dX11_gears_45 q15 ?_
            replace hf := Option.bind_eq_some_iff.mp hf
            obtain ⟨v16, q17, hf⟩ := hf
            refine g_gR f_X11_70 dX11_gears_48 q17 ?_
            replace hf := Option.bind_eq_some_iff.mp hf
            obtain ⟨f18, q19, hf⟩ := hf
            replace hf := Option.bind_eq_some_iff.mp hf
            obtain ⟨h20, q21, hf⟩ := hf
            refine g_callV (as := [.ref v16]) (mc1 := 0) (ms1 := 0) s_X11_158_X4_prepare_4 dX11_gears_51 (gO_of q19) rfl (Nat.le_of_ble_eq_true rfl) (Nat.le_of_ble_eq_true rfl) (Nat.le_of_ble_eq_true rfl) (t_X4_prepare (d := d + 0) q21) (fun r9 h9 q9 => ?_)
            obtain ⟨rfl, rfl⟩ := q9
            refine g_stp (st2 := []) (pc2 := 54) (kc2 := 0) (kn2 := 0) rfl rfl rfl rfl ?_
            refine g_aload_n dX11_gears_54 rfl ?_
            replace hf := Option.bind_eq_some_iff.mp hf
            obtain ⟨v22, q23, hf⟩ := hf
            refine g_gR f_X11_31 dX11_gears_55 q23 ?_
            replace hf := Option.bind_eq_some_iff.mp hf
            obtain ⟨f24, q25, hf⟩ := hf
            replace hf := Option.bind_eq_some_iff.mp hf
            obtain ⟨h26, q27, hf⟩ := hf
            refine g_callV (as := []) (mc1 := 0) (ms1 := 0) s_X11_214_X4_prepareGears_4 dX11_gears_58 (gO_of q25) rfl (Nat.le_of_ble_eq_true rfl) (Nat.le_of_ble_eq_true rfl) (Nat.le_of_ble_eq_true rfl) (t_X4_prepareGears (d := d + 2) q27) (fun r9 h9 q9 => ?_)
            obtain ⟨rfl, rfl⟩ := q9
            refine g_stp (st2 := []) (pc2 := 61) (kc2 := 0) (kn2 := 0) rfl rfl rfl rfl ?_
            refine g_iload_n dX11_gears_61 rfl ?_
            refine g_if_ne (tgt := 77) dX11_gears_62 (by decide) (fun c28 => ?_) (fun c28 => ?_)
            · rw [if_neg c28] at hf
              refine g_aload_n dX11_gears_77 rfl ?_
              replace hf := Option.bind_eq_some_iff.mp hf
              obtain ⟨v29, q30, hf⟩ := hf
              refine g_gR f_X11_31 dX11_gears_78 q30 ?_
              replace hf := Option.bind_eq_some_iff.mp hf
              obtain ⟨v31, q32, hf⟩ := hf
              refine g_gR f_X11_220 dX11_gears_81 q32 ?_
              refine g_iload_n dX11_gears_84 rfl ?_
              replace hf := Option.bind_eq_some_iff.mp hf
              obtain ⟨v33, q34, hf⟩ := hf
              refine g_aI dX11_gears_85 q34 ?_
              refine g_weak (lv2 := [none, none, none]) (trivial) ?_
              exact g_X11_gears_86 hf
            · rw [if_pos c28] at hf
              refine g_aload_n dX11_gears_65 rfl ?_
              replace hf := Option.bind_eq_some_iff.mp hf
              obtain ⟨v35, q36, hf⟩ := hf
              refine g_gR f_X11_31 dX11_gears_66 q36 ?_
              replace hf := Option.bind_eq_some_iff.mp hf
              obtain ⟨v37, q38, hf⟩ := hf
              refine g_gR f_X11_217 dX11_gears_69 q38 ?_
              refine g_iload_n dX11_gears_72 rfl ?_
              replace hf := Option.bind_eq_some_iff.mp hf
              obtain ⟨v39, q40, hf⟩ := hf
              refine g_aI dX11_gears_73 q40 ?_
              refine g_goto (tgt := 86) dX11_gears_74 (by decide) ?_
              refine g_weak (lv2 := [none, none, none]) (trivial) ?_
              exact g_X11_gears_86 hf
          · rw [if_pos c11] at hf
            refine g_bipush (v := (-3 : Int32)) dX11_gears_37 (by decide) ?_
            obtain ⟨rfl, rfl⟩ := Prod.mk.inj (Option.some.inj hf)
            exact g_iret dX11_gears_39 rfl ⟨rfl, rfl⟩ (Nat.le_of_ble_eq_true rfl) (Nat.le_of_ble_eq_true rfl)
        · rw [if_neg c4] at hf
          refine g_weak (lv2 := [none, none, none]) (trivial) ?_
          exact g_X11_gears_21 hf
    · rw [if_neg c2] at hf
      refine g_weak (lv2 := [none, none, none]) (trivial) ?_
      exact g_X11_gears_9 hf
def F_X11_gears (n : Nat) (a : Nat) (p0 : Int32) (p1 : Int32) (h : gH) : Option (Int32 × gH) := F_X11_gears_0 n  a p0 p1 h
theorem t_X11_gears {n d : Nat} {a : Nat} {p0 : Int32} {p1 : Int32} {h rh : gH} {rv : Int32} (hf : F_X11_gears n a p0 p1 h = some (rv, rh)) : T M_X11_gears (d + 6) 0 0 [.ref a, .int p0, .int p1] h (qI rv rh) := by
  refine T_of_G (L := 0) (by decide +kernel) rfl (Nat.le_of_ble_eq_true rfl) (g_lv (lv2 := [some (.ref a), some (.int p0), some (.int p1)]) rfl ?_)
  exact g_X11_gears_0 hf
def F_X11_goFrom_142 (n : Nat)   (h : gH) : Option (gH) :=
  some h
set_option maxRecDepth 20000 in
set_option maxHeartbeats 1600000 in
theorem g_X11_goFrom_142 {n d : Nat} : ∀  {h : gH} {rh : gH}, F_X11_goFrom_142 n  h = some rh → G M_X11_goFrom (d + 4) 0 0 0 0 142 [none, none, none, none, none, none, none, none, none] [] h (qV rh) := by
  intro  h rh hf
  unfold F_X11_goFrom_142 at hf
  obtain rfl := Option.some.inj hf
  exact g_vret dX11_goFrom_142 rfl ⟨rfl, rfl⟩ (Nat.le_of_ble_eq_true rfl) (Nat.le_of_ble_eq_true rfl)
def F_X11_goFrom_126 (n : Nat) (k22 : Nat → Nat → Int32 → Int32 → Nat → Int32 → gH → Option (gH)) (x0 : Nat) (x1 : Nat) (x3 : Int32) (x4 : Int32) (x5 : Nat) (x6 : Int32) (y0 : Nat) (y1 : Nat) (y2 : Int32) (y3 : Int32) (h : gH) : Option (gH) :=
  (gI h x0 11 9).bind fun v1 =>
  (gO h y1 6).bind fun f3 =>
  gB (F_X6_behind n y1 y2 y3 v1 h) fun v7 h5 =>
  (pF h5 y0 11 9 (.int v7)).bind fun h8 =>
  k22 x0 x1 x3 x4 x5 (x6 + (1 : Int32)) h8
set_option maxRecDepth 20000 in
set_option maxHeartbeats 1600000 in
theorem g_X11_goFrom_126 {n d : Nat} {k22 : Nat → Nat → Int32 → Int32 → Nat → Int32 → gH → Option (gH)} (t22 : ∀ {x0 : Nat} {x1 : Nat} {x3 : Int32} {x4 : Int32} {x5 : Nat} {x6 : Int32} {h : gH} {rh : gH}, k22 x0 x1 x3 x4 x5 x6 h = some rh → G M_X11_goFrom (d + 4) 0 0 0 0 22 [some (.ref x0), some (.ref x1), none, some (.int x3), some (.int x4), some (.ref x5), some (.int x6), none, none] [] h (qV rh)) : ∀ {x0 : Nat} {x1 : Nat} {x3 : Int32} {x4 : Int32} {x5 : Nat} {x6 : Int32} {y0 : Nat} {y1 : Nat} {y2 : Int32} {y3 : Int32} {h : gH} {rh : gH}, F_X11_goFrom_126 n k22 x0 x1 x3 x4 x5 x6 y0 y1 y2 y3 h = some rh → G M_X11_goFrom (d + 4) 0 0 0 0 126 [some (.ref x0), some (.ref x1), none, some (.int x3), some (.int x4), some (.ref x5), some (.int x6), none, none] [.int y3, .int y2, .ref y1, .ref y0] h (qV rh) := by
  intro x0 x1 x3 x4 x5 x6 y0 y1 y2 y3 h rh hf
  unfold F_X11_goFrom_126 at hf
  refine g_aload_n dX11_goFrom_126 rfl ?_
  replace hf := Option.bind_eq_some_iff.mp hf
  obtain ⟨v1, q2, hf⟩ := hf
  refine g_gI f_X11_175 dX11_goFrom_127 q2 ?_
  replace hf := Option.bind_eq_some_iff.mp hf
  obtain ⟨f3, q4, hf⟩ := hf
  replace hf := gB_of hf
  obtain ⟨v7, h5, q6, hf⟩ := hf
  refine g_callV (as := [.int y2, .int y3, .int v1]) (mc1 := 0) (ms1 := 0) s_X11_130_X6_behind_6 dX11_goFrom_130 (gO_of q4) rfl (Nat.le_of_ble_eq_true rfl) (Nat.le_of_ble_eq_true rfl) (Nat.le_of_ble_eq_true rfl) (t_X6_behind (d := d + 1) q6) (fun r9 h9 q9 => ?_)
  obtain ⟨rfl, rfl⟩ := q9
  refine g_stp (st2 := [.int v7, .ref y0]) (pc2 := 133) (kc2 := 0) (kn2 := 0) rfl rfl rfl rfl ?_
  replace hf := Option.bind_eq_some_iff.mp hf
  obtain ⟨h8, q9, hf⟩ := hf
  refine g_pF p_X11_175 dX11_goFrom_133 q9 (fun _ => rfl) (fun _ => rfl) ?_
  refine g_iinc2 (w := (1 : Int32)) dX11_goFrom_136 (by decide) rfl (by decide) (g_lvp (lv2 := [some (.ref x0), some (.ref x1), none, some (.int x3), some (.int x4), some (.ref x5), some (.int (x6 + (1 : Int32))), none, none]) (pc2 := 139) rfl rfl ?_)
  refine g_goto (tgt := 22) dX11_goFrom_139 (by decide) ?_
  exact t22 hf
def F_X11_goFrom_70 (n : Nat) (k22 : Nat → Nat → Int32 → Int32 → Nat → Int32 → gH → Option (gH)) (x0 : Nat) (x1 : Nat) (x3 : Int32) (x4 : Int32) (x5 : Nat) (x6 : Int32) (x7 : Int32) (y0 : Int32) (h : gH) : Option (gH) :=
  (gR h x0 11 4).bind fun v1 =>
  (sI h v1 x6 x7).bind fun h3 =>
  (gI h3 x0 11 8).bind fun v5 =>
  (gI h3 x0 11 9).bind fun v7 =>
  (gO h3 x5 6).bind fun f9 =>
  gB (F_X6_seconds n x5 x6 x7 v7 h3) fun v13 h11 =>
  (pF h11 x0 11 8 (.int (v5 + v13))).bind fun h14 =>
  if y0 = 0 then
  (F_X11_goFrom_126 n (k22) x0 x1 x3 x4 x5 x6 x0 x5 x6 x7 h14)
  else
  (F_X11_goFrom_126 n (k22) x0 x1 x3 x4 x5 x6 x0 x5 x6 (gmax (0 : Int32) (x7 - (2 : Int32))) h14)
set_option maxRecDepth 20000 in
set_option maxHeartbeats 1600000 in
theorem g_X11_goFrom_70 {n d : Nat} {k22 : Nat → Nat → Int32 → Int32 → Nat → Int32 → gH → Option (gH)} (t22 : ∀ {x0 : Nat} {x1 : Nat} {x3 : Int32} {x4 : Int32} {x5 : Nat} {x6 : Int32} {h : gH} {rh : gH}, k22 x0 x1 x3 x4 x5 x6 h = some rh → G M_X11_goFrom (d + 4) 0 0 0 0 22 [some (.ref x0), some (.ref x1), none, some (.int x3), some (.int x4), some (.ref x5), some (.int x6), none, none] [] h (qV rh)) : ∀ {x0 : Nat} {x1 : Nat} {x3 : Int32} {x4 : Int32} {x5 : Nat} {x6 : Int32} {x7 : Int32} {y0 : Int32} {h : gH} {rh : gH}, F_X11_goFrom_70 n k22 x0 x1 x3 x4 x5 x6 x7 y0 h = some rh → G M_X11_goFrom (d + 4) 0 0 0 0 70 [some (.ref x0), some (.ref x1), none, some (.int x3), some (.int x4), some (.ref x5), some (.int x6), some (.int x7), none] [.int y0] h (qV rh) := by
  intro x0 x1 x3 x4 x5 x6 x7 y0 h rh hf
  unfold F_X11_goFrom_70 at hf
  refine g_istore dX11_goFrom_70 (by decide) (g_lvp (lv2 := [some (.ref x0), some (.ref x1), none, some (.int x3), some (.int x4), some (.ref x5), some (.int x6), some (.int x7), some (.int y0)]) (pc2 := 72) rfl rfl ?_)
  refine g_aload_n dX11_goFrom_72 rfl ?_
  replace hf := Option.bind_eq_some_iff.mp hf
  obtain ⟨v1, q2, hf⟩ := hf
  refine g_gR f_X11_35 dX11_goFrom_73 q2 ?_
  refine g_iload dX11_goFrom_76 rfl ?_
  refine g_iload dX11_goFrom_78 rfl ?_
  replace hf := Option.bind_eq_some_iff.mp hf
  obtain ⟨h3, q4, hf⟩ := hf
  refine g_sI dX11_goFrom_80 q4 ?_
  refine g_aload_n dX11_goFrom_81 rfl ?_
  refine g_dup dX11_goFrom_82 rfl ?_
  replace hf := Option.bind_eq_some_iff.mp hf
  obtain ⟨v5, q6, hf⟩ := hf
  refine g_gI f_X11_172 dX11_goFrom_83 q6 ?_
  refine g_aload dX11_goFrom_86 rfl ?_
  refine g_iload dX11_goFrom_88 rfl ?_
  refine g_iload dX11_goFrom_90 rfl ?_
  refine g_aload_n dX11_goFrom_92 rfl ?_
  replace hf := Option.bind_eq_some_iff.mp hf
  obtain ⟨v7, q8, hf⟩ := hf
  refine g_gI f_X11_175 dX11_goFrom_93 q8 ?_
  replace hf := Option.bind_eq_some_iff.mp hf
  obtain ⟨f9, q10, hf⟩ := hf
  replace hf := gB_of hf
  obtain ⟨v13, h11, q12, hf⟩ := hf
  refine g_callV (as := [.int x6, .int x7, .int v7]) (mc1 := 0) (ms1 := 0) s_X11_127_X6_seconds_6 dX11_goFrom_96 (gO_of q10) rfl (Nat.le_of_ble_eq_true rfl) (Nat.le_of_ble_eq_true rfl) (Nat.le_of_ble_eq_true rfl) (t_X6_seconds (d := d + 0) q12) (fun r9 h9 q9 => ?_)
  obtain ⟨rfl, rfl⟩ := q9
  refine g_stp (st2 := [.int v13, .int v5, .ref x0]) (pc2 := 99) (kc2 := 0) (kn2 := 0) rfl rfl rfl rfl ?_
  refine g_iadd dX11_goFrom_99 ?_
  replace hf := Option.bind_eq_some_iff.mp hf
  obtain ⟨h14, q15, hf⟩ := hf
  refine g_pF p_X11_172 dX11_goFrom_100 q15 (fun _ => rfl) (fun _ => rfl) ?_
  refine g_aload_n dX11_goFrom_103 rfl ?_
  refine g_aload dX11_goFrom_104 rfl ?_
  refine g_iload dX11_goFrom_106 rfl ?_
  refine g_iload dX11_goFrom_108 rfl ?_
  refine g_if_eq (tgt := 124) dX11_goFrom_110 (by decide) (fun c16 => ?_) (fun c16 => ?_)
  · rw [if_pos c16] at hf
    refine g_iload dX11_goFrom_124 rfl ?_
    refine g_weak (lv2 := [some (.ref x0), some (.ref x1), none, some (.int x3), some (.int x4), some (.ref x5), some (.int x6), none, none]) (And.intro rfl (And.intro rfl (And.intro rfl (And.intro rfl (And.intro rfl (And.intro rfl (trivial))))))) ?_
    exact g_X11_goFrom_126 t22 hf
  · rw [if_neg c16] at hf
    refine g_iconst (v := (0 : Int32)) dX11_goFrom_113 (by decide) ?_
    refine g_iload dX11_goFrom_114 rfl ?_
    refine g_iconst (v := (2 : Int32)) dX11_goFrom_116 (by decide) ?_
    refine g_isub dX11_goFrom_117 ?_
    refine g_max m_X11_291 m_max.1 m_max.2.1 m_max.2.2 dX11_goFrom_118 (Nat.le_of_ble_eq_true rfl) (Nat.le_of_ble_eq_true rfl) (Nat.le_of_ble_eq_true rfl) ?_
    refine g_st (st2 := [.int (gmax (0 : Int32) (x7 - (2 : Int32))), .int x6, .ref x5, .ref x0]) rfl ?_
    refine g_goto (tgt := 126) dX11_goFrom_121 (by decide) ?_
    refine g_weak (lv2 := [some (.ref x0), some (.ref x1), none, some (.int x3), some (.int x4), some (.ref x5), some (.int x6), none, none]) (And.intro rfl (And.intro rfl (And.intro rfl (And.intro rfl (And.intro rfl (And.intro rfl (trivial))))))) ?_
    exact g_X11_goFrom_126 t22 hf
def F_X11_goFrom_69 (n : Nat) (k22 : Nat → Nat → Int32 → Int32 → Nat → Int32 → gH → Option (gH)) (x0 : Nat) (x1 : Nat) (x3 : Int32) (x4 : Int32) (x5 : Nat) (x6 : Int32) (x7 : Int32) (h : gH) : Option (gH) :=
  F_X11_goFrom_70 n (k22) x0 x1 x3 x4 x5 x6 x7 (0 : Int32) h
set_option maxRecDepth 20000 in
set_option maxHeartbeats 1600000 in
theorem g_X11_goFrom_69 {n d : Nat} {k22 : Nat → Nat → Int32 → Int32 → Nat → Int32 → gH → Option (gH)} (t22 : ∀ {x0 : Nat} {x1 : Nat} {x3 : Int32} {x4 : Int32} {x5 : Nat} {x6 : Int32} {h : gH} {rh : gH}, k22 x0 x1 x3 x4 x5 x6 h = some rh → G M_X11_goFrom (d + 4) 0 0 0 0 22 [some (.ref x0), some (.ref x1), none, some (.int x3), some (.int x4), some (.ref x5), some (.int x6), none, none] [] h (qV rh)) : ∀ {x0 : Nat} {x1 : Nat} {x3 : Int32} {x4 : Int32} {x5 : Nat} {x6 : Int32} {x7 : Int32} {h : gH} {rh : gH}, F_X11_goFrom_69 n k22 x0 x1 x3 x4 x5 x6 x7 h = some rh → G M_X11_goFrom (d + 4) 0 0 0 0 69 [some (.ref x0), some (.ref x1), none, some (.int x3), some (.int x4), some (.ref x5), some (.int x6), some (.int x7), none] [] h (qV rh) := by
  intro x0 x1 x3 x4 x5 x6 x7 h rh hf
  unfold F_X11_goFrom_69 at hf
  refine g_iconst (v := (0 : Int32)) dX11_goFrom_69 (by decide) ?_
  exact g_X11_goFrom_70 t22 hf
def F_X11_goFrom_22 (n : Nat)  : Nat → Nat → Nat → Int32 → Int32 → Nat → Int32 → gH → Option (gH)
  | 0, _, _, _, _, _, _, _ => none
  | m + 1, x0, x1, x3, x4, x5, x6, h => (gI h x5 6 8).bind fun v1 =>
  if v1 ≤ x6 then
  (F_X11_goFrom_142 n h)
  else
  (if (8 : Int32) ≤ x6 then
  (F_X11_goFrom_142 n h)
  else
  ((gI h x0 11 9).bind fun v5 =>
  (gO h x0 11).bind fun f7 =>
  gB (F_X11_effortOf n x0 x1 x6 v5 h) fun v11 h9 =>
  if x6 < x3 then
  (F_X11_goFrom_69 n (F_X11_goFrom_22 n m) x0 x1 x3 x4 x5 x6 v11 h9)
  else
  (if x4 ≤ x6 then
  (F_X11_goFrom_69 n (F_X11_goFrom_22 n m) x0 x1 x3 x4 x5 x6 v11 h9)
  else
  (F_X11_goFrom_70 n (F_X11_goFrom_22 n m) x0 x1 x3 x4 x5 x6 v11 (1 : Int32) h9))))
set_option maxRecDepth 20000 in
set_option maxHeartbeats 1600000 in
theorem g_X11_goFrom_22 {n d : Nat} : ∀ {m : Nat} {x0 : Nat} {x1 : Nat} {x3 : Int32} {x4 : Int32} {x5 : Nat} {x6 : Int32} {h : gH} {rh : gH}, F_X11_goFrom_22 n m x0 x1 x3 x4 x5 x6 h = some rh → G M_X11_goFrom (d + 4) 0 0 0 0 22 [some (.ref x0), some (.ref x1), none, some (.int x3), some (.int x4), some (.ref x5), some (.int x6), none, none] [] h (qV rh) := by
  intro m
  induction m with
  | zero => intro x0 x1 x3 x4 x5 x6 h rh hf; cases hf
  | succ m t22 =>
    intro x0 x1 x3 x4 x5 x6 h rh hf
    unfold F_X11_goFrom_22 at hf
    refine g_iload dX11_goFrom_22 rfl ?_
    refine g_aload dX11_goFrom_24 rfl ?_
    replace hf := Option.bind_eq_some_iff.mp hf
    obtain ⟨v1, q2, hf⟩ := hf
    refine g_gI f_X11_102 dX11_goFrom_26 q2 ?_
    refine g_icmp_ge (tgt := 142) dX11_goFrom_29 (by decide) (fun c3 => ?_) (fun c3 => ?_)
    · rw [if_pos c3] at hf
      refine g_weak (lv2 := [none, none, none, none, none, none, none, none, none]) (trivial) ?_
      exact g_X11_goFrom_142 hf
    · rw [if_neg c3] at hf
      refine g_iload dX11_goFrom_32 rfl ?_
      refine g_bipush (v := (8 : Int32)) dX11_goFrom_34 (by decide) ?_
      refine g_icmp_ge (tgt := 142) dX11_goFrom_36 (by decide) (fun c4 => ?_) (fun c4 => ?_)
      · rw [if_pos c4] at hf
        refine g_weak (lv2 := [none, none, none, none, none, none, none, none, none]) (trivial) ?_
        exact g_X11_goFrom_142 hf
      · rw [if_neg c4] at hf
        refine g_aload_n dX11_goFrom_39 rfl ?_
        refine g_aload_n dX11_goFrom_40 rfl ?_
        refine g_iload dX11_goFrom_41 rfl ?_
        refine g_aload_n dX11_goFrom_43 rfl ?_
        replace hf := Option.bind_eq_some_iff.mp hf
        obtain ⟨v5, q6, hf⟩ := hf
        refine g_gI f_X11_175 dX11_goFrom_44 q6 ?_
        replace hf := Option.bind_eq_some_iff.mp hf
        obtain ⟨f7, q8, hf⟩ := hf
        replace hf := gB_of hf
        obtain ⟨v11, h9, q10, hf⟩ := hf
        refine g_callV (as := [.ref x1, .int x6, .int v5]) (mc1 := 0) (ms1 := 0) s_X11_161_X11_effortOf_11 dX11_goFrom_47 (gO_of q8) rfl (Nat.le_of_ble_eq_true rfl) (Nat.le_of_ble_eq_true rfl) (Nat.le_of_ble_eq_true rfl) (t_X11_effortOf (d := d + 0) q10) (fun r9 h9 q9 => ?_)
        obtain ⟨rfl, rfl⟩ := q9
        refine g_stp (st2 := [.int v11]) (pc2 := 50) (kc2 := 0) (kn2 := 0) rfl rfl rfl rfl ?_
        refine g_istore dX11_goFrom_50 (by decide) (g_lvp (lv2 := [some (.ref x0), some (.ref x1), none, some (.int x3), some (.int x4), some (.ref x5), some (.int x6), some (.int v11), none]) (pc2 := 52) rfl rfl ?_)
        refine g_iload dX11_goFrom_52 rfl ?_
        refine g_iload_n dX11_goFrom_54 rfl ?_
        refine g_icmp_lt (tgt := 69) dX11_goFrom_55 (by decide) (fun c12 => ?_) (fun c12 => ?_)
        · rw [if_pos c12] at hf
          exact g_X11_goFrom_69 t22 hf
        · rw [if_neg c12] at hf
          refine g_iload dX11_goFrom_58 rfl ?_
          refine g_iload dX11_goFrom_60 rfl ?_
          refine g_icmp_ge (tgt := 69) dX11_goFrom_62 (by decide) (fun c13 => ?_) (fun c13 => ?_)
          · rw [if_pos c13] at hf
            exact g_X11_goFrom_69 t22 hf
          · rw [if_neg c13] at hf
            refine g_iconst (v := (1 : Int32)) dX11_goFrom_65 (by decide) ?_
            refine g_goto (tgt := 70) dX11_goFrom_66 (by decide) ?_
            exact g_X11_goFrom_70 t22 hf
def F_X11_goFrom_0 (n : Nat)  (x0 : Nat) (x1 : Nat) (x2 : Int32) (x3 : Int32) (x4 : Int32) (h : gH) : Option (gH) :=
  (gR h x0 11 0).bind fun v1 =>
  (gR h v1 7 1).bind fun v3 =>
  (pF h x0 11 8 (.int (0 : Int32))).bind fun h5 =>
  (pF h5 x0 11 9 (.int x2)).bind fun h7 =>
  F_X11_goFrom_22 n n x0 x1 x3 x4 v3 (0 : Int32) h7
set_option maxRecDepth 20000 in
set_option maxHeartbeats 1600000 in
theorem g_X11_goFrom_0 {n d : Nat} : ∀ {x0 : Nat} {x1 : Nat} {x2 : Int32} {x3 : Int32} {x4 : Int32} {h : gH} {rh : gH}, F_X11_goFrom_0 n x0 x1 x2 x3 x4 h = some rh → G M_X11_goFrom (d + 4) 0 0 0 0 0 [some (.ref x0), some (.ref x1), some (.int x2), some (.int x3), some (.int x4), none, none, none, none] [] h (qV rh) := by
  intro x0 x1 x2 x3 x4 h rh hf
  unfold F_X11_goFrom_0 at hf
  refine g_aload_n dX11_goFrom_0 rfl ?_
  replace hf := Option.bind_eq_some_iff.mp hf
  obtain ⟨v1, q2, hf⟩ := hf
  refine g_gR f_X11_12 dX11_goFrom_1 q2 ?_
  replace hf := Option.bind_eq_some_iff.mp hf
  obtain ⟨v3, q4, hf⟩ := hf
  refine g_gR f_X11_70 dX11_goFrom_4 q4 ?_
  refine g_astore dX11_goFrom_7 (by decide) (g_lvp (lv2 := [some (.ref x0), some (.ref x1), some (.int x2), some (.int x3), some (.int x4), some (.ref v3), none, none, none]) (pc2 := 9) rfl rfl ?_)
  refine g_aload_n dX11_goFrom_9 rfl ?_
  refine g_iconst (v := (0 : Int32)) dX11_goFrom_10 (by decide) ?_
  replace hf := Option.bind_eq_some_iff.mp hf
  obtain ⟨h5, q6, hf⟩ := hf
  refine g_pF p_X11_172 dX11_goFrom_11 q6 (fun _ => rfl) (fun _ => rfl) ?_
  refine g_aload_n dX11_goFrom_14 rfl ?_
  refine g_iload_n dX11_goFrom_15 rfl ?_
  replace hf := Option.bind_eq_some_iff.mp hf
  obtain ⟨h7, q8, hf⟩ := hf
  refine g_pF p_X11_175 dX11_goFrom_16 q8 (fun _ => rfl) (fun _ => rfl) ?_
  refine g_iconst (v := (0 : Int32)) dX11_goFrom_19 (by decide) ?_
  refine g_istore dX11_goFrom_20 (by decide) (g_lvp (lv2 := [some (.ref x0), some (.ref x1), some (.int x2), some (.int x3), some (.int x4), some (.ref v3), some (.int (0 : Int32)), none, none]) (pc2 := 22) rfl rfl ?_)
  refine g_weak (lv2 := [some (.ref x0), some (.ref x1), none, some (.int x3), some (.int x4), some (.ref v3), some (.int (0 : Int32)), none, none]) (And.intro rfl (And.intro rfl (And.intro rfl (And.intro rfl (And.intro rfl (And.intro rfl (trivial))))))) ?_
  exact g_X11_goFrom_22 hf
def F_X11_goFrom (n : Nat) (a : Nat) (p0 : Nat) (p1 : Int32) (p2 : Int32) (p3 : Int32) (h : gH) : Option (gH) := F_X11_goFrom_0 n  a p0 p1 p2 p3 h
theorem t_X11_goFrom {n d : Nat} {a : Nat} {p0 : Nat} {p1 : Int32} {p2 : Int32} {p3 : Int32} {h rh : gH} (hf : F_X11_goFrom n a p0 p1 p2 p3 h = some rh) : T M_X11_goFrom (d + 4) 0 0 [.ref a, .ref p0, .int p1, .int p2, .int p3] h (qV rh) := by
  refine T_of_G (L := 4) (by decide +kernel) rfl (Nat.le_of_ble_eq_true rfl) (g_lv (lv2 := [some (.ref a), some (.ref p0), some (.int p1), some (.int p2), some (.int p3), none, none, none, none]) rfl ?_)
  exact g_X11_goFrom_0 hf
def F_X11_go_0 (n : Nat)  (x0 : Nat) (x1 : Nat) (h : gH) : Option (gH) :=
  (gR h x0 11 0).bind fun v1 =>
  (gR h v1 7 1).bind fun v3 =>
  (gI h v3 6 12).bind fun v5 =>
  (gO h x0 11).bind fun f7 =>
  (F_X11_goFrom n x0 x1 v5 (0 : Int32) (0 : Int32) h).bind fun h9 =>
  some h9
set_option maxRecDepth 20000 in
set_option maxHeartbeats 1600000 in
theorem g_X11_go_0 {n d : Nat} : ∀ {x0 : Nat} {x1 : Nat} {h : gH} {rh : gH}, F_X11_go_0 n x0 x1 h = some rh → G M_X11_go (d + 5) 0 0 0 0 0 [some (.ref x0), some (.ref x1)] [] h (qV rh) := by
  intro x0 x1 h rh hf
  unfold F_X11_go_0 at hf
  refine g_aload_n dX11_go_0 rfl ?_
  refine g_aload_n dX11_go_1 rfl ?_
  refine g_aload_n dX11_go_2 rfl ?_
  replace hf := Option.bind_eq_some_iff.mp hf
  obtain ⟨v1, q2, hf⟩ := hf
  refine g_gR f_X11_12 dX11_go_3 q2 ?_
  replace hf := Option.bind_eq_some_iff.mp hf
  obtain ⟨v3, q4, hf⟩ := hf
  refine g_gR f_X11_70 dX11_go_6 q4 ?_
  replace hf := Option.bind_eq_some_iff.mp hf
  obtain ⟨v5, q6, hf⟩ := hf
  refine g_gI f_X11_108 dX11_go_9 q6 ?_
  refine g_iconst (v := (0 : Int32)) dX11_go_12 (by decide) ?_
  refine g_iconst (v := (0 : Int32)) dX11_go_13 (by decide) ?_
  replace hf := Option.bind_eq_some_iff.mp hf
  obtain ⟨f7, q8, hf⟩ := hf
  replace hf := Option.bind_eq_some_iff.mp hf
  obtain ⟨h9, q10, hf⟩ := hf
  refine g_callV (as := [.ref x1, .int v5, .int (0 : Int32), .int (0 : Int32)]) (mc1 := 0) (ms1 := 0) s_X11_227_X11_goFrom_11 dX11_go_14 (gO_of q8) rfl (Nat.le_of_ble_eq_true rfl) (Nat.le_of_ble_eq_true rfl) (Nat.le_of_ble_eq_true rfl) (t_X11_goFrom (d := d + 0) q10) (fun r9 h9 q9 => ?_)
  obtain ⟨rfl, rfl⟩ := q9
  refine g_stp (st2 := []) (pc2 := 17) (kc2 := 0) (kn2 := 0) rfl rfl rfl rfl ?_
  obtain rfl := Option.some.inj hf
  exact g_vret dX11_go_17 rfl ⟨rfl, rfl⟩ (Nat.le_of_ble_eq_true rfl) (Nat.le_of_ble_eq_true rfl)
def F_X11_go (n : Nat) (a : Nat) (p0 : Nat) (h : gH) : Option (gH) := F_X11_go_0 n  a p0 h
theorem t_X11_go {n d : Nat} {a : Nat} {p0 : Nat} {h rh : gH} (hf : F_X11_go n a p0 h = some rh) : T M_X11_go (d + 5) 0 0 [.ref a, .ref p0] h (qV rh) := by
  refine T_of_G (L := 0) (by decide +kernel) rfl (Nat.le_of_ble_eq_true rfl) (g_lv (lv2 := [some (.ref a), some (.ref p0)]) rfl ?_)
  exact g_X11_go_0 hf
def F_X6_copyFrom_0 (n : Nat)  (x0 : Nat) (x1 : Nat) (h : gH) : Option (gH) :=
  (gR h x1 6 0).bind fun v1 =>
  (gR h x0 6 0).bind fun v3 =>
  (F_X11_copyRow n v1 v3 h).bind fun h5 =>
  (gR h5 x1 6 1).bind fun v7 =>
  (gR h5 x0 6 1).bind fun v9 =>
  (F_X11_copyRow n v7 v9 h5).bind fun h11 =>
  (gR h11 x1 6 2).bind fun v13 =>
  (gR h11 x0 6 2).bind fun v15 =>
  (F_X11_copyRow n v13 v15 h11).bind fun h17 =>
  (gR h17 x1 6 3).bind fun v19 =>
  (gR h17 x0 6 3).bind fun v21 =>
  (F_X11_copyRow n v19 v21 h17).bind fun h23 =>
  (gR h23 x1 6 4).bind fun v25 =>
  (gR h23 x0 6 4).bind fun v27 =>
  (F_X11_copyRow n v25 v27 h23).bind fun h29 =>
  (gR h29 x1 6 5).bind fun v31 =>
  (gR h29 x0 6 5).bind fun v33 =>
  (F_X11_copyRow n v31 v33 h29).bind fun h35 =>
  (gR h35 x1 6 6).bind fun v37 =>
  (gR h35 x0 6 6).bind fun v39 =>
  (F_X11_copyRow n v37 v39 h35).bind fun h41 =>
  (gI h41 x1 6 8).bind fun v43 =>
  (pF h41 x0 6 8 (.int v43)).bind fun h45 =>
  (gI h45 x1 6 9).bind fun v47 =>
  (pF h45 x0 6 9 (.int v47)).bind fun h49 =>
  (gI h49 x1 6 10).bind fun v51 =>
  (pF h49 x0 6 10 (.int v51)).bind fun h53 =>
  (gI h53 x1 6 11).bind fun v55 =>
  (pF h53 x0 6 11 (.int v55)).bind fun h57 =>
  (gI h57 x1 6 12).bind fun v59 =>
  (pF h57 x0 6 12 (.int v59)).bind fun h61 =>
  (gI h61 x1 6 13).bind fun v63 =>
  (pF h61 x0 6 13 (.int v63)).bind fun h65 =>
  (gI h65 x1 6 14).bind fun v67 =>
  (pF h65 x0 6 14 (.int v67)).bind fun h69 =>
  (gI h69 x1 6 15).bind fun v71 =>
  (pF h69 x0 6 15 (.int v71)).bind fun h73 =>
  some h73
set_option maxRecDepth 20000 in
set_option maxHeartbeats 1600000 in
theorem g_X6_copyFrom_0 {n d : Nat} : ∀ {x0 : Nat} {x1 : Nat} {h : gH} {rh : gH}, F_X6_copyFrom_0 n x0 x1 h = some rh → G M_X6_copyFrom (d + 1) 0 0 0 0 0 [some (.ref x0), some (.ref x1)] [] h (qV rh) := by
  intro x0 x1 h rh hf
  unfold F_X6_copyFrom_0 at hf
  refine g_aload_n dX6_copyFrom_0 rfl ?_
  replace hf := Option.bind_eq_some_iff.mp hf
  obtain ⟨v1, q2, hf⟩ := hf
  refine g_gR f_X6_9 dX6_copyFrom_1 q2 ?_
  refine g_aload_n dX6_copyFrom_4 rfl ?_
  replace hf := Option.bind_eq_some_iff.mp hf
  obtain ⟨v3, q4, hf⟩ := hf
  refine g_gR f_X6_9 dX6_copyFrom_5 q4 ?_
  replace hf := Option.bind_eq_some_iff.mp hf
  obtain ⟨h5, q6, hf⟩ := hf
  refine g_callSN (as := [.ref v1, .ref v3]) (mc1 := 0) (ms1 := 0) s_X6_64_X11_copyRow dX6_copyFrom_8 rfl (Nat.le_of_ble_eq_true rfl) (Nat.le_of_ble_eq_true rfl) (Nat.le_of_ble_eq_true rfl) (t_X11_copyRow (d := d + 0) q6) (fun r9 h9 q9 => ?_)
  obtain ⟨rfl, rfl⟩ := q9
  refine g_stp (st2 := []) (pc2 := 11) (kc2 := 0) (kn2 := 0) rfl rfl rfl rfl ?_
  refine g_aload_n dX6_copyFrom_11 rfl ?_
  replace hf := Option.bind_eq_some_iff.mp hf
  obtain ⟨v7, q8, hf⟩ := hf
  refine g_gR f_X6_15 dX6_copyFrom_12 q8 ?_
  refine g_aload_n dX6_copyFrom_15 rfl ?_
  replace hf := Option.bind_eq_some_iff.mp hf
  obtain ⟨v9, q10, hf⟩ := hf
  refine g_gR f_X6_15 dX6_copyFrom_16 q10 ?_
  replace hf := Option.bind_eq_some_iff.mp hf
  obtain ⟨h11, q12, hf⟩ := hf
  refine g_callSN (as := [.ref v7, .ref v9]) (mc1 := 0) (ms1 := 0) s_X6_64_X11_copyRow dX6_copyFrom_19 rfl (Nat.le_of_ble_eq_true rfl) (Nat.le_of_ble_eq_true rfl) (Nat.le_of_ble_eq_true rfl) (t_X11_copyRow (d := d + 0) q12) (fun r9 h9 q9 => ?_)
  obtain ⟨rfl, rfl⟩ := q9
  refine g_stp (st2 := []) (pc2 := 22) (kc2 := 0) (kn2 := 0) rfl rfl rfl rfl ?_
  refine g_aload_n dX6_copyFrom_22 rfl ?_
  replace hf := Option.bind_eq_some_iff.mp hf
  obtain ⟨v13, q14, hf⟩ := hf
  refine g_gR f_X6_18 dX6_copyFrom_23 q14 ?_
  refine g_aload_n dX6_copyFrom_26 rfl ?_
  replace hf := Option.bind_eq_some_iff.mp hf
  obtain ⟨v15, q16, hf⟩ := hf
  refine g_gR f_X6_18 dX6_copyFrom_27 q16 ?_
  replace hf := Option.bind_eq_some_iff.mp hf
  obtain ⟨h17, q18, hf⟩ := hf
  refine g_callSN (as := [.ref v13, .ref v15]) (mc1 := 0) (ms1 := 0) s_X6_64_X11_copyRow dX6_copyFrom_30 rfl (Nat.le_of_ble_eq_true rfl) (Nat.le_of_ble_eq_true rfl) (Nat.le_of_ble_eq_true rfl) (t_X11_copyRow (d := d + 0) q18) (fun r9 h9 q9 => ?_)
  obtain ⟨rfl, rfl⟩ := q9
  refine g_stp (st2 := []) (pc2 := 33) (kc2 := 0) (kn2 := 0) rfl rfl rfl rfl ?_
  refine g_aload_n dX6_copyFrom_33 rfl ?_
  replace hf := Option.bind_eq_some_iff.mp hf
  obtain ⟨v19, q20, hf⟩ := hf
  refine g_gR f_X6_21 dX6_copyFrom_34 q20 ?_
  refine g_aload_n dX6_copyFrom_37 rfl ?_
  replace hf := Option.bind_eq_some_iff.mp hf
  obtain ⟨v21, q22, hf⟩ := hf
  refine g_gR f_X6_21 dX6_copyFrom_38 q22 ?_
  replace hf := Option.bind_eq_some_iff.mp hf
  obtain ⟨h23, q24, hf⟩ := hf
  refine g_callSN (as := [.ref v19, .ref v21]) (mc1 := 0) (ms1 := 0) s_X6_64_X11_copyRow dX6_copyFrom_41 rfl (Nat.le_of_ble_eq_true rfl) (Nat.le_of_ble_eq_true rfl) (Nat.le_of_ble_eq_true rfl) (t_X11_copyRow (d := d + 0) q24) (fun r9 h9 q9 => ?_)
  obtain ⟨rfl, rfl⟩ := q9
  refine g_stp (st2 := []) (pc2 := 44) (kc2 := 0) (kn2 := 0) rfl rfl rfl rfl ?_
  refine g_aload_n dX6_copyFrom_44 rfl ?_
  replace hf := Option.bind_eq_some_iff.mp hf
  obtain ⟨v25, q26, hf⟩ := hf
  refine g_gR f_X6_24 dX6_copyFrom_45 q26 ?_
  refine g_aload_n dX6_copyFrom_48 rfl ?_
  replace hf := Option.bind_eq_some_iff.mp hf
  obtain ⟨v27, q28, hf⟩ := hf
  refine g_gR f_X6_24 dX6_copyFrom_49 q28 ?_
  replace hf := Option.bind_eq_some_iff.mp hf
  obtain ⟨h29, q30, hf⟩ := hf
  refine g_callSN (as := [.ref v25, .ref v27]) (mc1 := 0) (ms1 := 0) s_X6_64_X11_copyRow dX6_copyFrom_52 rfl (Nat.le_of_ble_eq_true rfl) (Nat.le_of_ble_eq_true rfl) (Nat.le_of_ble_eq_true rfl) (t_X11_copyRow (d := d + 0) q30) (fun r9 h9 q9 => ?_)
  obtain ⟨rfl, rfl⟩ := q9
  refine g_stp (st2 := []) (pc2 := 55) (kc2 := 0) (kn2 := 0) rfl rfl rfl rfl ?_
  refine g_aload_n dX6_copyFrom_55 rfl ?_
  replace hf := Option.bind_eq_some_iff.mp hf
  obtain ⟨v31, q32, hf⟩ := hf
  refine g_gR f_X6_27 dX6_copyFrom_56 q32 ?_
  refine g_aload_n dX6_copyFrom_59 rfl ?_
  replace hf := Option.bind_eq_some_iff.mp hf
  obtain ⟨v33, q34, hf⟩ := hf
  refine g_gR f_X6_27 dX6_copyFrom_60 q34 ?_
  replace hf := Option.bind_eq_some_iff.mp hf
  obtain ⟨h35, q36, hf⟩ := hf
  refine g_callSN (as := [.ref v31, .ref v33]) (mc1 := 0) (ms1 := 0) s_X6_64_X11_copyRow dX6_copyFrom_63 rfl (Nat.le_of_ble_eq_true rfl) (Nat.le_of_ble_eq_true rfl) (Nat.le_of_ble_eq_true rfl) (t_X11_copyRow (d := d + 0) q36) (fun r9 h9 q9 => ?_)
  obtain ⟨rfl, rfl⟩ := q9
  refine g_stp (st2 := []) (pc2 := 66) (kc2 := 0) (kn2 := 0) rfl rfl rfl rfl ?_
  refine g_aload_n dX6_copyFrom_66 rfl ?_
  replace hf := Option.bind_eq_some_iff.mp hf
  obtain ⟨v37, q38, hf⟩ := hf
  refine g_gR f_X6_30 dX6_copyFrom_67 q38 ?_
  refine g_aload_n dX6_copyFrom_70 rfl ?_
  replace hf := Option.bind_eq_some_iff.mp hf
  obtain ⟨v39, q40, hf⟩ := hf
  refine g_gR f_X6_30 dX6_copyFrom_71 q40 ?_
  replace hf := Option.bind_eq_some_iff.mp hf
  obtain ⟨h41, q42, hf⟩ := hf
  refine g_callSN (as := [.ref v37, .ref v39]) (mc1 := 0) (ms1 := 0) s_X6_64_X11_copyRow dX6_copyFrom_74 rfl (Nat.le_of_ble_eq_true rfl) (Nat.le_of_ble_eq_true rfl) (Nat.le_of_ble_eq_true rfl) (t_X11_copyRow (d := d + 0) q42) (fun r9 h9 q9 => ?_)
  obtain ⟨rfl, rfl⟩ := q9
  refine g_stp (st2 := []) (pc2 := 77) (kc2 := 0) (kn2 := 0) rfl rfl rfl rfl ?_
  refine g_aload_n dX6_copyFrom_77 rfl ?_
  refine g_aload_n dX6_copyFrom_78 rfl ?_
  replace hf := Option.bind_eq_some_iff.mp hf
  obtain ⟨v43, q44, hf⟩ := hf
  refine g_gI f_X6_39 dX6_copyFrom_79 q44 ?_
  replace hf := Option.bind_eq_some_iff.mp hf
  obtain ⟨h45, q46, hf⟩ := hf
  refine g_pF p_X6_39 dX6_copyFrom_82 q46 (fun _ => rfl) (fun _ => rfl) ?_
  refine g_aload_n dX6_copyFrom_85 rfl ?_
  refine g_aload_n dX6_copyFrom_86 rfl ?_
  replace hf := Option.bind_eq_some_iff.mp hf
  obtain ⟨v47, q48, hf⟩ := hf
  refine g_gI f_X6_43 dX6_copyFrom_87 q48 ?_
  replace hf := Option.bind_eq_some_iff.mp hf
  obtain ⟨h49, q50, hf⟩ := hf
  refine g_pF p_X6_43 dX6_copyFrom_90 q50 (fun _ => rfl) (fun _ => rfl) ?_
  refine g_aload_n dX6_copyFrom_93 rfl ?_
  refine g_aload_n dX6_copyFrom_94 rfl ?_
  replace hf := Option.bind_eq_some_iff.mp hf
  obtain ⟨v51, q52, hf⟩ := hf
  refine g_gI f_X6_46 dX6_copyFrom_95 q52 ?_
  replace hf := Option.bind_eq_some_iff.mp hf
  obtain ⟨h53, q54, hf⟩ := hf
  refine g_pF p_X6_46 dX6_copyFrom_98 q54 (fun _ => rfl) (fun _ => rfl) ?_
  refine g_aload_n dX6_copyFrom_101 rfl ?_
  refine g_aload_n dX6_copyFrom_102 rfl ?_
  replace hf := Option.bind_eq_some_iff.mp hf
  obtain ⟨v55, q56, hf⟩ := hf
  refine g_gI f_X6_49 dX6_copyFrom_103 q56 ?_
  replace hf := Option.bind_eq_some_iff.mp hf
  obtain ⟨h57, q58, hf⟩ := hf
  refine g_pF p_X6_49 dX6_copyFrom_106 q58 (fun _ => rfl) (fun _ => rfl) ?_
  refine g_aload_n dX6_copyFrom_109 rfl ?_
  refine g_aload_n dX6_copyFrom_110 rfl ?_
  replace hf := Option.bind_eq_some_iff.mp hf
  obtain ⟨v59, q60, hf⟩ := hf
  refine g_gI f_X6_52 dX6_copyFrom_111 q60 ?_
  replace hf := Option.bind_eq_some_iff.mp hf
  obtain ⟨h61, q62, hf⟩ := hf
  refine g_pF p_X6_52 dX6_copyFrom_114 q62 (fun _ => rfl) (fun _ => rfl) ?_
  refine g_aload_n dX6_copyFrom_117 rfl ?_
  refine g_aload_n dX6_copyFrom_118 rfl ?_
  replace hf := Option.bind_eq_some_iff.mp hf
  obtain ⟨v63, q64, hf⟩ := hf
  refine g_gI f_X6_55 dX6_copyFrom_119 q64 ?_
  replace hf := Option.bind_eq_some_iff.mp hf
  obtain ⟨h65, q66, hf⟩ := hf
  refine g_pF p_X6_55 dX6_copyFrom_122 q66 (fun _ => rfl) (fun _ => rfl) ?_
  refine g_aload_n dX6_copyFrom_125 rfl ?_
  refine g_aload_n dX6_copyFrom_126 rfl ?_
  replace hf := Option.bind_eq_some_iff.mp hf
  obtain ⟨v67, q68, hf⟩ := hf
  refine g_gI f_X6_58 dX6_copyFrom_127 q68 ?_
  replace hf := Option.bind_eq_some_iff.mp hf
  obtain ⟨h69, q70, hf⟩ := hf
  refine g_pF p_X6_58 dX6_copyFrom_130 q70 (fun _ => rfl) (fun _ => rfl) ?_
  refine g_aload_n dX6_copyFrom_133 rfl ?_
  refine g_aload_n dX6_copyFrom_134 rfl ?_
  replace hf := Option.bind_eq_some_iff.mp hf
  obtain ⟨v71, q72, hf⟩ := hf
  refine g_gI f_X6_61 dX6_copyFrom_135 q72 ?_
  replace hf := Option.bind_eq_some_iff.mp hf
  obtain ⟨h73, q74, hf⟩ := hf
  refine g_pF p_X6_61 dX6_copyFrom_138 q74 (fun _ => rfl) (fun _ => rfl) ?_
  obtain rfl := Option.some.inj hf
  exact g_vret dX6_copyFrom_141 rfl ⟨rfl, rfl⟩ (Nat.le_of_ble_eq_true rfl) (Nat.le_of_ble_eq_true rfl)
def F_X6_copyFrom (n : Nat) (a : Nat) (p0 : Nat) (h : gH) : Option (gH) := F_X6_copyFrom_0 n  a p0 h
theorem t_X6_copyFrom {n d : Nat} {a : Nat} {p0 : Nat} {h rh : gH} (hf : F_X6_copyFrom n a p0 h = some rh) : T M_X6_copyFrom (d + 1) 0 0 [.ref a, .ref p0] h (qV rh) := by
  refine T_of_G (L := 0) (by decide +kernel) rfl (Nat.le_of_ble_eq_true rfl) (g_lv (lv2 := [some (.ref a), some (.ref p0)]) rfl ?_)
  exact g_X6_copyFrom_0 hf
def F_X7_copyFrom_24 (n : Nat)  : Nat → Nat → Nat → Int32 → gH → Option (gH)
  | 0, _, _, _, _ => none
  | m + 1, x0, x1, x2, h => if (8 : Int32) ≤ x2 then
  ((gR h x1 7 3).bind fun v2 =>
  (gR h x0 7 3).bind fun v4 =>
  (F_X11_copyRow n v2 v4 h).bind fun h6 =>
  (gR h6 x1 7 4).bind fun v8 =>
  (gR h6 x0 7 4).bind fun v10 =>
  (F_X11_copyRow n v8 v10 h6).bind fun h12 =>
  (gI h12 x1 7 6).bind fun v14 =>
  (pF h12 x0 7 6 (.int v14)).bind fun h16 =>
  (gI h16 x1 7 7).bind fun v18 =>
  (pF h16 x0 7 7 (.int v18)).bind fun h20 =>
  (gI h20 x1 7 8).bind fun v22 =>
  (pF h20 x0 7 8 (.int v22)).bind fun h24 =>
  (gI h24 x1 7 9).bind fun v26 =>
  (pF h24 x0 7 9 (.int v26)).bind fun h28 =>
  some h28)
  else
  ((gR h x0 7 2).bind fun v30 =>
  (gR h x1 7 2).bind fun v32 =>
  (aQ h v32 x2).bind fun v34 =>
  (sQ h v30 x2 v34).bind fun h36 =>
  F_X7_copyFrom_24 n m x0 x1 (x2 + (1 : Int32)) h36)
set_option maxRecDepth 20000 in
set_option maxHeartbeats 1600000 in
theorem g_X7_copyFrom_24 {n d : Nat} : ∀ {m : Nat} {x0 : Nat} {x1 : Nat} {x2 : Int32} {h : gH} {rh : gH}, F_X7_copyFrom_24 n m x0 x1 x2 h = some rh → G M_X7_copyFrom (d + 2) 0 0 0 0 24 [some (.ref x0), some (.ref x1), some (.int x2)] [] h (qV rh) := by
  intro m
  induction m with
  | zero => intro x0 x1 x2 h rh hf; cases hf
  | succ m t24 =>
    intro x0 x1 x2 h rh hf
    unfold F_X7_copyFrom_24 at hf
    refine g_iload_n dX7_copyFrom_24 rfl ?_
    refine g_bipush (v := (8 : Int32)) dX7_copyFrom_25 (by decide) ?_
    refine g_icmp_ge (tgt := 48) dX7_copyFrom_27 (by decide) (fun c1 => ?_) (fun c1 => ?_)
    · rw [if_pos c1] at hf
      refine g_aload_n dX7_copyFrom_48 rfl ?_
      replace hf := Option.bind_eq_some_iff.mp hf
      obtain ⟨v2, q3, hf⟩ := hf
      refine g_gR f_X7_28 dX7_copyFrom_49 q3 ?_
      refine g_aload_n dX7_copyFrom_52 rfl ?_
      replace hf := Option.bind_eq_some_iff.mp hf
      obtain ⟨v4, q5, hf⟩ := hf
      refine g_gR f_X7_28 dX7_copyFrom_53 q5 ?_
      replace hf := Option.bind_eq_some_iff.mp hf
      obtain ⟨h6, q7, hf⟩ := hf
      refine g_callSN (as := [.ref v2, .ref v4]) (mc1 := 0) (ms1 := 0) s_X7_37_X11_copyRow dX7_copyFrom_56 rfl (Nat.le_of_ble_eq_true rfl) (Nat.le_of_ble_eq_true rfl) (Nat.le_of_ble_eq_true rfl) (t_X11_copyRow (d := d + 1) q7) (fun r9 h9 q9 => ?_)
      obtain ⟨rfl, rfl⟩ := q9
      refine g_stp (st2 := []) (pc2 := 59) (kc2 := 0) (kn2 := 0) rfl rfl rfl rfl ?_
      refine g_aload_n dX7_copyFrom_59 rfl ?_
      replace hf := Option.bind_eq_some_iff.mp hf
      obtain ⟨v8, q9, hf⟩ := hf
      refine g_gR f_X7_31 dX7_copyFrom_60 q9 ?_
      refine g_aload_n dX7_copyFrom_63 rfl ?_
      replace hf := Option.bind_eq_some_iff.mp hf
      obtain ⟨v10, q11, hf⟩ := hf
      refine g_gR f_X7_31 dX7_copyFrom_64 q11 ?_
      replace hf := Option.bind_eq_some_iff.mp hf
      obtain ⟨h12, q13, hf⟩ := hf
      refine g_callSN (as := [.ref v8, .ref v10]) (mc1 := 0) (ms1 := 0) s_X7_37_X11_copyRow dX7_copyFrom_67 rfl (Nat.le_of_ble_eq_true rfl) (Nat.le_of_ble_eq_true rfl) (Nat.le_of_ble_eq_true rfl) (t_X11_copyRow (d := d + 1) q13) (fun r9 h9 q9 => ?_)
      obtain ⟨rfl, rfl⟩ := q9
      refine g_stp (st2 := []) (pc2 := 70) (kc2 := 0) (kn2 := 0) rfl rfl rfl rfl ?_
      refine g_aload_n dX7_copyFrom_70 rfl ?_
      refine g_aload_n dX7_copyFrom_71 rfl ?_
      replace hf := Option.bind_eq_some_iff.mp hf
      obtain ⟨v14, q15, hf⟩ := hf
      refine g_gI f_X7_45 dX7_copyFrom_72 q15 ?_
      replace hf := Option.bind_eq_some_iff.mp hf
      obtain ⟨h16, q17, hf⟩ := hf
      refine g_pF p_X7_45 dX7_copyFrom_75 q17 (fun _ => rfl) (fun _ => rfl) ?_
      refine g_aload_n dX7_copyFrom_78 rfl ?_
      refine g_aload_n dX7_copyFrom_79 rfl ?_
      replace hf := Option.bind_eq_some_iff.mp hf
      obtain ⟨v18, q19, hf⟩ := hf
      refine g_gI f_X7_49 dX7_copyFrom_80 q19 ?_
      replace hf := Option.bind_eq_some_iff.mp hf
      obtain ⟨h20, q21, hf⟩ := hf
      refine g_pF p_X7_49 dX7_copyFrom_83 q21 (fun _ => rfl) (fun _ => rfl) ?_
      refine g_aload_n dX7_copyFrom_86 rfl ?_
      refine g_aload_n dX7_copyFrom_87 rfl ?_
      replace hf := Option.bind_eq_some_iff.mp hf
      obtain ⟨v22, q23, hf⟩ := hf
      refine g_gI f_X7_52 dX7_copyFrom_88 q23 ?_
      replace hf := Option.bind_eq_some_iff.mp hf
      obtain ⟨h24, q25, hf⟩ := hf
      refine g_pF p_X7_52 dX7_copyFrom_91 q25 (fun _ => rfl) (fun _ => rfl) ?_
      refine g_aload_n dX7_copyFrom_94 rfl ?_
      refine g_aload_n dX7_copyFrom_95 rfl ?_
      replace hf := Option.bind_eq_some_iff.mp hf
      obtain ⟨v26, q27, hf⟩ := hf
      refine g_gI f_X7_55 dX7_copyFrom_96 q27 ?_
      replace hf := Option.bind_eq_some_iff.mp hf
      obtain ⟨h28, q29, hf⟩ := hf
      refine g_pF p_X7_55 dX7_copyFrom_99 q29 (fun _ => rfl) (fun _ => rfl) ?_
      obtain rfl := Option.some.inj hf
      exact g_vret dX7_copyFrom_102 rfl ⟨rfl, rfl⟩ (Nat.le_of_ble_eq_true rfl) (Nat.le_of_ble_eq_true rfl)
    · rw [if_neg c1] at hf
      refine g_aload_n dX7_copyFrom_30 rfl ?_
      replace hf := Option.bind_eq_some_iff.mp hf
      obtain ⟨v30, q31, hf⟩ := hf
      refine g_gR f_X7_24 dX7_copyFrom_31 q31 ?_
      refine g_iload_n dX7_copyFrom_34 rfl ?_
      refine g_aload_n dX7_copyFrom_35 rfl ?_
      replace hf := Option.bind_eq_some_iff.mp hf
      obtain ⟨v32, q33, hf⟩ := hf
      refine g_gR f_X7_24 dX7_copyFrom_36 q33 ?_
      refine g_iload_n dX7_copyFrom_39 rfl ?_
      replace hf := Option.bind_eq_some_iff.mp hf
      obtain ⟨v34, q35, hf⟩ := hf
      refine g_aQ dX7_copyFrom_40 q35 ?_
      replace hf := Option.bind_eq_some_iff.mp hf
      obtain ⟨h36, q37, hf⟩ := hf
      refine g_sQ (x := v34) dX7_copyFrom_41 q37 ?_
      refine g_iinc2 (w := (1 : Int32)) dX7_copyFrom_42 (by decide) rfl (by decide) (g_lvp (lv2 := [some (.ref x0), some (.ref x1), some (.int (x2 + (1 : Int32)))]) (pc2 := 45) rfl rfl ?_)
      refine g_goto (tgt := 24) dX7_copyFrom_45 (by decide) ?_
      exact t24 hf
def F_X7_copyFrom_0 (n : Nat)  (x0 : Nat) (x1 : Nat) (h : gH) : Option (gH) :=
  (gR h x1 7 0).bind fun v1 =>
  (gR h x0 7 0).bind fun v3 =>
  (F_X11_copyRow n v1 v3 h).bind fun h5 =>
  (gR h5 x0 7 1).bind fun v7 =>
  (gR h5 x1 7 1).bind fun v9 =>
  (gO h5 v7 6).bind fun f11 =>
  (F_X6_copyFrom n v7 v9 h5).bind fun h13 =>
  F_X7_copyFrom_24 n n x0 x1 (0 : Int32) h13
set_option maxRecDepth 20000 in
set_option maxHeartbeats 1600000 in
theorem g_X7_copyFrom_0 {n d : Nat} : ∀ {x0 : Nat} {x1 : Nat} {h : gH} {rh : gH}, F_X7_copyFrom_0 n x0 x1 h = some rh → G M_X7_copyFrom (d + 2) 0 0 0 0 0 [some (.ref x0), some (.ref x1), none] [] h (qV rh) := by
  intro x0 x1 h rh hf
  unfold F_X7_copyFrom_0 at hf
  refine g_aload_n dX7_copyFrom_0 rfl ?_
  replace hf := Option.bind_eq_some_iff.mp hf
  obtain ⟨v1, q2, hf⟩ := hf
  refine g_gR f_X7_9 dX7_copyFrom_1 q2 ?_
  refine g_aload_n dX7_copyFrom_4 rfl ?_
  replace hf := Option.bind_eq_some_iff.mp hf
  obtain ⟨v3, q4, hf⟩ := hf
  refine g_gR f_X7_9 dX7_copyFrom_5 q4 ?_
  replace hf := Option.bind_eq_some_iff.mp hf
  obtain ⟨h5, q6, hf⟩ := hf
  refine g_callSN (as := [.ref v1, .ref v3]) (mc1 := 0) (ms1 := 0) s_X7_37_X11_copyRow dX7_copyFrom_8 rfl (Nat.le_of_ble_eq_true rfl) (Nat.le_of_ble_eq_true rfl) (Nat.le_of_ble_eq_true rfl) (t_X11_copyRow (d := d + 1) q6) (fun r9 h9 q9 => ?_)
  obtain ⟨rfl, rfl⟩ := q9
  refine g_stp (st2 := []) (pc2 := 11) (kc2 := 0) (kn2 := 0) rfl rfl rfl rfl ?_
  refine g_aload_n dX7_copyFrom_11 rfl ?_
  replace hf := Option.bind_eq_some_iff.mp hf
  obtain ⟨v7, q8, hf⟩ := hf
  refine g_gR f_X7_18 dX7_copyFrom_12 q8 ?_
  refine g_aload_n dX7_copyFrom_15 rfl ?_
  replace hf := Option.bind_eq_some_iff.mp hf
  obtain ⟨v9, q10, hf⟩ := hf
  refine g_gR f_X7_18 dX7_copyFrom_16 q10 ?_
  replace hf := Option.bind_eq_some_iff.mp hf
  obtain ⟨f11, q12, hf⟩ := hf
  replace hf := Option.bind_eq_some_iff.mp hf
  obtain ⟨h13, q14, hf⟩ := hf
  refine g_callV (as := [.ref v9]) (mc1 := 0) (ms1 := 0) s_X7_41_X6_copyFrom_6 dX7_copyFrom_19 (gO_of q12) rfl (Nat.le_of_ble_eq_true rfl) (Nat.le_of_ble_eq_true rfl) (Nat.le_of_ble_eq_true rfl) (t_X6_copyFrom (d := d + 0) q14) (fun r9 h9 q9 => ?_)
  obtain ⟨rfl, rfl⟩ := q9
  refine g_stp (st2 := []) (pc2 := 22) (kc2 := 0) (kn2 := 0) rfl rfl rfl rfl ?_
  refine g_iconst (v := (0 : Int32)) dX7_copyFrom_22 (by decide) ?_
  refine g_istore_n dX7_copyFrom_23 (by decide) (g_lvp (lv2 := [some (.ref x0), some (.ref x1), some (.int (0 : Int32))]) (pc2 := 24) rfl rfl ?_)
  exact g_X7_copyFrom_24 hf
def F_X7_copyFrom (n : Nat) (a : Nat) (p0 : Nat) (h : gH) : Option (gH) := F_X7_copyFrom_0 n  a p0 h
theorem t_X7_copyFrom {n d : Nat} {a : Nat} {p0 : Nat} {h rh : gH} (hf : F_X7_copyFrom n a p0 h = some rh) : T M_X7_copyFrom (d + 2) 0 0 [.ref a, .ref p0] h (qV rh) := by
  refine T_of_G (L := 1) (by decide +kernel) rfl (Nat.le_of_ble_eq_true rfl) (g_lv (lv2 := [some (.ref a), some (.ref p0), none]) rfl ?_)
  exact g_X7_copyFrom_0 hf
def F_X11_image_0 (n : Nat)  (x0 : Nat) (h : gH) : Option (Int32 × gH) :=
  (gR h x0 11 1).bind fun v1 =>
  (gR h x0 11 0).bind fun v3 =>
  (gO h v1 7).bind fun f5 =>
  (F_X7_copyFrom n v1 v3 h).bind fun h7 =>
  (pZ h7 x0 11 11 (1 : Int32)).bind fun h9 =>
  (gR h9 x0 11 0).bind fun v11 =>
  (gI h9 v11 7 8).bind fun v13 =>
  some (v13, h9)
set_option maxRecDepth 20000 in
set_option maxHeartbeats 1600000 in
theorem g_X11_image_0 {n d : Nat} : ∀ {x0 : Nat} {h : gH} {rh : gH} {rv : Int32}, F_X11_image_0 n x0 h = some (rv, rh) → G M_X11_image (d + 3) 0 0 0 0 0 [some (.ref x0)] [] h (qI rv rh) := by
  intro x0 h rh rv hf
  unfold F_X11_image_0 at hf
  refine g_aload_n dX11_image_0 rfl ?_
  replace hf := Option.bind_eq_some_iff.mp hf
  obtain ⟨v1, q2, hf⟩ := hf
  refine g_gR f_X11_18 dX11_image_1 q2 ?_
  refine g_aload_n dX11_image_4 rfl ?_
  replace hf := Option.bind_eq_some_iff.mp hf
  obtain ⟨v3, q4, hf⟩ := hf
  refine g_gR f_X11_12 dX11_image_5 q4 ?_
  replace hf := Option.bind_eq_some_iff.mp hf
  obtain ⟨f5, q6, hf⟩ := hf
  replace hf := Option.bind_eq_some_iff.mp hf
  obtain ⟨h7, q8, hf⟩ := hf
  refine g_callV (as := [.ref v3]) (mc1 := 0) (ms1 := 0) s_X11_256_X7_copyFrom_7 dX11_image_8 (gO_of q6) rfl (Nat.le_of_ble_eq_true rfl) (Nat.le_of_ble_eq_true rfl) (Nat.le_of_ble_eq_true rfl) (t_X7_copyFrom (d := d + 0) q8) (fun r9 h9 q9 => ?_)
  obtain ⟨rfl, rfl⟩ := q9
  refine g_stp (st2 := []) (pc2 := 11) (kc2 := 0) (kn2 := 0) rfl rfl rfl rfl ?_
  refine g_aload_n dX11_image_11 rfl ?_
  refine g_iconst (v := (1 : Int32)) dX11_image_12 (by decide) ?_
  replace hf := Option.bind_eq_some_iff.mp hf
  obtain ⟨h9, q10, hf⟩ := hf
  refine g_pZ p_X11_259 dX11_image_13 q10 ?_
  refine g_aload_n dX11_image_16 rfl ?_
  replace hf := Option.bind_eq_some_iff.mp hf
  obtain ⟨v11, q12, hf⟩ := hf
  refine g_gR f_X11_12 dX11_image_17 q12 ?_
  replace hf := Option.bind_eq_some_iff.mp hf
  obtain ⟨v13, q14, hf⟩ := hf
  refine g_gI f_X11_133 dX11_image_20 q14 ?_
  obtain ⟨rfl, rfl⟩ := Prod.mk.inj (Option.some.inj hf)
  exact g_iret dX11_image_23 rfl ⟨rfl, rfl⟩ (Nat.le_of_ble_eq_true rfl) (Nat.le_of_ble_eq_true rfl)
def F_X11_image (n : Nat) (a : Nat) (h : gH) : Option (Int32 × gH) := F_X11_image_0 n  a h
theorem t_X11_image {n d : Nat} {a : Nat} {h rh : gH} {rv : Int32} (hf : F_X11_image n a h = some (rv, rh)) : T M_X11_image (d + 3) 0 0 [.ref a] h (qI rv rh) := by
  refine T_of_G (L := 0) (by decide +kernel) rfl (Nat.le_of_ble_eq_true rfl) (g_lv (lv2 := [some (.ref a)]) rfl ?_)
  exact g_X11_image_0 hf
def F_X4_init_0 (n : Nat)  (x0 : Nat) (h : gH) : Option (gH) :=
  gB (nIa h 4880) fun a1 h2 =>
  (pF h2 x0 4 0 (.ref a1)).bind fun h4 =>
  gB (nIa h4 4880) fun a6 h7 =>
  (pF h7 x0 4 1 (.ref a6)).bind fun h9 =>
  gB (nIa h9 549) fun a11 h12 =>
  (pF h12 x0 4 2 (.ref a11)).bind fun h14 =>
  gB (nIa h14 549) fun a16 h17 =>
  (pF h17 x0 4 3 (.ref a16)).bind fun h19 =>
  gB (nIa h19 549) fun a21 h22 =>
  (pF h22 x0 4 4 (.ref a21)).bind fun h24 =>
  gB (nIa h24 61) fun a26 h27 =>
  (pF h27 x0 4 5 (.ref a26)).bind fun h29 =>
  gB (nIa h29 61) fun a31 h32 =>
  (pF h32 x0 4 6 (.ref a31)).bind fun h34 =>
  gB (nIa h34 5) fun a36 h37 =>
  (pF h37 x0 4 7 (.ref a36)).bind fun h39 =>
  gB (nIa h39 5) fun a41 h42 =>
  (pF h42 x0 4 8 (.ref a41)).bind fun h44 =>
  some h44
set_option maxRecDepth 20000 in
set_option maxHeartbeats 1600000 in
theorem g_X4_init_0 {n d : Nat} : ∀ {x0 : Nat} {h : gH} {rh : gH}, F_X4_init_0 n x0 h = some rh → G M_X4_init (d + 1) 9 11539 0 0 0 [some (.ref x0)] [] h (qV rh) := by
  intro x0 h rh hf
  unfold F_X4_init_0 at hf
  refine g_aload_n dX4_init_0 rfl ?_
  refine g_objInit (gt_1 (List.mem_of_getElem? (i := 194) (by decide +kernel)) (by decide +kernel)) ob_1 ob_2 dX4_init_1 (Nat.le_of_ble_eq_true rfl) ?_
  refine g_aload_n dX4_init_4 rfl ?_
  refine g_sipush (v := (4880 : Int32)) dX4_init_5 (by decide) ?_
  replace hf := gB_of hf
  obtain ⟨a1, h2, q3, hf⟩ := hf
  refine g_nIa (N := 4880) (gt_1 (List.mem_of_getElem? (i := 119) (by decide +kernel)) (by decide +kernel)) dX4_init_8 q3 (by decide) (by decide) (by decide) (by decide) (by decide) ?_
  replace hf := Option.bind_eq_some_iff.mp hf
  obtain ⟨h4, q5, hf⟩ := hf
  refine g_pFf p_X4_9 dX4_init_10 q5 rfl (fun _ => rfl) (fun _ => rfl) ?_
  refine g_aload_n dX4_init_13 rfl ?_
  refine g_sipush (v := (4880 : Int32)) dX4_init_14 (by decide) ?_
  replace hf := gB_of hf
  obtain ⟨a6, h7, q8, hf⟩ := hf
  refine g_nIa (N := 4880) (gt_1 (List.mem_of_getElem? (i := 119) (by decide +kernel)) (by decide +kernel)) dX4_init_17 q8 (by decide) (by decide) (by decide) (by decide) (by decide) ?_
  replace hf := Option.bind_eq_some_iff.mp hf
  obtain ⟨h9, q10, hf⟩ := hf
  refine g_pFf p_X4_15 dX4_init_19 q10 rfl (fun _ => rfl) (fun _ => rfl) ?_
  refine g_aload_n dX4_init_22 rfl ?_
  refine g_sipush (v := (549 : Int32)) dX4_init_23 (by decide) ?_
  replace hf := gB_of hf
  obtain ⟨a11, h12, q13, hf⟩ := hf
  refine g_nIa (N := 549) (gt_1 (List.mem_of_getElem? (i := 119) (by decide +kernel)) (by decide +kernel)) dX4_init_26 q13 (by decide) (by decide) (by decide) (by decide) (by decide) ?_
  replace hf := Option.bind_eq_some_iff.mp hf
  obtain ⟨h14, q15, hf⟩ := hf
  refine g_pFf p_X4_18 dX4_init_28 q15 rfl (fun _ => rfl) (fun _ => rfl) ?_
  refine g_aload_n dX4_init_31 rfl ?_
  refine g_sipush (v := (549 : Int32)) dX4_init_32 (by decide) ?_
  replace hf := gB_of hf
  obtain ⟨a16, h17, q18, hf⟩ := hf
  refine g_nIa (N := 549) (gt_1 (List.mem_of_getElem? (i := 119) (by decide +kernel)) (by decide +kernel)) dX4_init_35 q18 (by decide) (by decide) (by decide) (by decide) (by decide) ?_
  replace hf := Option.bind_eq_some_iff.mp hf
  obtain ⟨h19, q20, hf⟩ := hf
  refine g_pFf p_X4_21 dX4_init_37 q20 rfl (fun _ => rfl) (fun _ => rfl) ?_
  refine g_aload_n dX4_init_40 rfl ?_
  refine g_sipush (v := (549 : Int32)) dX4_init_41 (by decide) ?_
  replace hf := gB_of hf
  obtain ⟨a21, h22, q23, hf⟩ := hf
  refine g_nIa (N := 549) (gt_1 (List.mem_of_getElem? (i := 119) (by decide +kernel)) (by decide +kernel)) dX4_init_44 q23 (by decide) (by decide) (by decide) (by decide) (by decide) ?_
  replace hf := Option.bind_eq_some_iff.mp hf
  obtain ⟨h24, q25, hf⟩ := hf
  refine g_pFf p_X4_24 dX4_init_46 q25 rfl (fun _ => rfl) (fun _ => rfl) ?_
  refine g_aload_n dX4_init_49 rfl ?_
  refine g_bipush (v := (61 : Int32)) dX4_init_50 (by decide) ?_
  replace hf := gB_of hf
  obtain ⟨a26, h27, q28, hf⟩ := hf
  refine g_nIa (N := 61) (gt_1 (List.mem_of_getElem? (i := 119) (by decide +kernel)) (by decide +kernel)) dX4_init_52 q28 (by decide) (by decide) (by decide) (by decide) (by decide) ?_
  replace hf := Option.bind_eq_some_iff.mp hf
  obtain ⟨h29, q30, hf⟩ := hf
  refine g_pFf p_X4_27 dX4_init_54 q30 rfl (fun _ => rfl) (fun _ => rfl) ?_
  refine g_aload_n dX4_init_57 rfl ?_
  refine g_bipush (v := (61 : Int32)) dX4_init_58 (by decide) ?_
  replace hf := gB_of hf
  obtain ⟨a31, h32, q33, hf⟩ := hf
  refine g_nIa (N := 61) (gt_1 (List.mem_of_getElem? (i := 119) (by decide +kernel)) (by decide +kernel)) dX4_init_60 q33 (by decide) (by decide) (by decide) (by decide) (by decide) ?_
  replace hf := Option.bind_eq_some_iff.mp hf
  obtain ⟨h34, q35, hf⟩ := hf
  refine g_pFf p_X4_30 dX4_init_62 q35 rfl (fun _ => rfl) (fun _ => rfl) ?_
  refine g_aload_n dX4_init_65 rfl ?_
  refine g_iconst (v := (5 : Int32)) dX4_init_66 (by decide) ?_
  replace hf := gB_of hf
  obtain ⟨a36, h37, q38, hf⟩ := hf
  refine g_nIa (N := 5) (gt_1 (List.mem_of_getElem? (i := 119) (by decide +kernel)) (by decide +kernel)) dX4_init_67 q38 (by decide) (by decide) (by decide) (by decide) (by decide) ?_
  replace hf := Option.bind_eq_some_iff.mp hf
  obtain ⟨h39, q40, hf⟩ := hf
  refine g_pFf p_X4_33 dX4_init_69 q40 rfl (fun _ => rfl) (fun _ => rfl) ?_
  refine g_aload_n dX4_init_72 rfl ?_
  refine g_iconst (v := (5 : Int32)) dX4_init_73 (by decide) ?_
  replace hf := gB_of hf
  obtain ⟨a41, h42, q43, hf⟩ := hf
  refine g_nIa (N := 5) (gt_1 (List.mem_of_getElem? (i := 119) (by decide +kernel)) (by decide +kernel)) dX4_init_74 q43 (by decide) (by decide) (by decide) (by decide) (by decide) ?_
  replace hf := Option.bind_eq_some_iff.mp hf
  obtain ⟨h44, q45, hf⟩ := hf
  refine g_pFf p_X4_36 dX4_init_76 q45 rfl (fun _ => rfl) (fun _ => rfl) ?_
  obtain rfl := Option.some.inj hf
  exact g_vret dX4_init_79 rfl ⟨rfl, rfl⟩ (Nat.le_of_ble_eq_true rfl) (Nat.le_of_ble_eq_true rfl)
def F_X4_init (n : Nat) (a : Nat) (h : gH) : Option (gH) := F_X4_init_0 n  a h
theorem t_X4_init {n d : Nat} {a : Nat} {h rh : gH} (hf : F_X4_init n a h = some rh) : T M_X4_init (d + 1) 9 11539 [.ref a] h (qV rh) := by
  refine T_of_G (L := 0) (by decide +kernel) rfl (Nat.le_of_ble_eq_true rfl) (g_lv (lv2 := [some (.ref a)]) rfl ?_)
  exact g_X4_init_0 hf
def F_X6_reset_43 (n : Nat)  : Nat → Nat → Int32 → gH → Option (gH)
  | 0, _, _, _ => none
  | m + 1, x0, x1, h => (gR h x0 6 3).bind fun v1 =>
  (lenI h v1).bind fun v3 =>
  if v3 ≤ x1 then
  (some h)
  else
  ((gR h x0 6 3).bind fun v6 =>
  (sI h v6 x1 (99 : Int32)).bind fun h8 =>
  F_X6_reset_43 n m x0 (x1 + (1 : Int32)) h8)
set_option maxRecDepth 20000 in
set_option maxHeartbeats 1600000 in
theorem g_X6_reset_43 {n d : Nat} : ∀ {m : Nat} {x0 : Nat} {x1 : Int32} {h : gH} {rh : gH}, F_X6_reset_43 n m x0 x1 h = some rh → G M_X6_reset d 0 0 0 0 43 [some (.ref x0), some (.int x1)] [] h (qV rh) := by
  intro m
  induction m with
  | zero => intro x0 x1 h rh hf; cases hf
  | succ m t43 =>
    intro x0 x1 h rh hf
    unfold F_X6_reset_43 at hf
    refine g_iload_n dX6_reset_43 rfl ?_
    refine g_aload_n dX6_reset_44 rfl ?_
    replace hf := Option.bind_eq_some_iff.mp hf
    obtain ⟨v1, q2, hf⟩ := hf
    refine g_gR f_X6_21 dX6_reset_45 q2 ?_
    replace hf := Option.bind_eq_some_iff.mp hf
    obtain ⟨v3, q4, hf⟩ := hf
    refine g_lenI dX6_reset_48 q4 ?_
    refine g_icmp_ge (tgt := 66) dX6_reset_49 (by decide) (fun c5 => ?_) (fun c5 => ?_)
    · rw [if_pos c5] at hf
      obtain rfl := Option.some.inj hf
      exact g_vret dX6_reset_66 rfl ⟨rfl, rfl⟩ (Nat.le_of_ble_eq_true rfl) (Nat.le_of_ble_eq_true rfl)
    · rw [if_neg c5] at hf
      refine g_aload_n dX6_reset_52 rfl ?_
      replace hf := Option.bind_eq_some_iff.mp hf
      obtain ⟨v6, q7, hf⟩ := hf
      refine g_gR f_X6_21 dX6_reset_53 q7 ?_
      refine g_iload_n dX6_reset_56 rfl ?_
      refine g_bipush (v := (99 : Int32)) dX6_reset_57 (by decide) ?_
      replace hf := Option.bind_eq_some_iff.mp hf
      obtain ⟨h8, q9, hf⟩ := hf
      refine g_sI dX6_reset_59 q9 ?_
      refine g_iinc2 (w := (1 : Int32)) dX6_reset_60 (by decide) rfl (by decide) (g_lvp (lv2 := [some (.ref x0), some (.int (x1 + (1 : Int32)))]) (pc2 := 63) rfl rfl ?_)
      refine g_goto (tgt := 43) dX6_reset_63 (by decide) ?_
      exact t43 hf
def F_X6_reset_0 (n : Nat)  (x0 : Nat) (h : gH) : Option (gH) :=
  (pF h x0 6 8 (.int (0 : Int32))).bind fun h1 =>
  (pF h1 x0 6 9 (.int (0 : Int32))).bind fun h3 =>
  (pF h3 x0 6 10 (.int (0 : Int32))).bind fun h5 =>
  (pF h5 x0 6 11 (.int (4 : Int32))).bind fun h7 =>
  (pF h7 x0 6 12 (.int (20 : Int32))).bind fun h9 =>
  (pF h9 x0 6 13 (.int (5 : Int32))).bind fun h11 =>
  (pF h11 x0 6 14 (.int (0 : Int32))).bind fun h13 =>
  (pF h13 x0 6 15 (.int (0 : Int32))).bind fun h15 =>
  F_X6_reset_43 n n x0 (0 : Int32) h15
set_option maxRecDepth 20000 in
set_option maxHeartbeats 1600000 in
theorem g_X6_reset_0 {n d : Nat} : ∀ {x0 : Nat} {h : gH} {rh : gH}, F_X6_reset_0 n x0 h = some rh → G M_X6_reset d 0 0 0 0 0 [some (.ref x0), none] [] h (qV rh) := by
  intro x0 h rh hf
  unfold F_X6_reset_0 at hf
  refine g_aload_n dX6_reset_0 rfl ?_
  refine g_iconst (v := (0 : Int32)) dX6_reset_1 (by decide) ?_
  replace hf := Option.bind_eq_some_iff.mp hf
  obtain ⟨h1, q2, hf⟩ := hf
  refine g_pF p_X6_39 dX6_reset_2 q2 (fun _ => rfl) (fun _ => rfl) ?_
  refine g_aload_n dX6_reset_5 rfl ?_
  refine g_iconst (v := (0 : Int32)) dX6_reset_6 (by decide) ?_
  replace hf := Option.bind_eq_some_iff.mp hf
  obtain ⟨h3, q4, hf⟩ := hf
  refine g_pF p_X6_43 dX6_reset_7 q4 (fun _ => rfl) (fun _ => rfl) ?_
  refine g_aload_n dX6_reset_10 rfl ?_
  refine g_iconst (v := (0 : Int32)) dX6_reset_11 (by decide) ?_
  replace hf := Option.bind_eq_some_iff.mp hf
  obtain ⟨h5, q6, hf⟩ := hf
  refine g_pF p_X6_46 dX6_reset_12 q6 (fun _ => rfl) (fun _ => rfl) ?_
  refine g_aload_n dX6_reset_15 rfl ?_
  refine g_iconst (v := (4 : Int32)) dX6_reset_16 (by decide) ?_
  replace hf := Option.bind_eq_some_iff.mp hf
  obtain ⟨h7, q8, hf⟩ := hf
  refine g_pF p_X6_49 dX6_reset_17 q8 (fun _ => rfl) (fun _ => rfl) ?_
  refine g_aload_n dX6_reset_20 rfl ?_
  refine g_bipush (v := (20 : Int32)) dX6_reset_21 (by decide) ?_
  replace hf := Option.bind_eq_some_iff.mp hf
  obtain ⟨h9, q10, hf⟩ := hf
  refine g_pF p_X6_52 dX6_reset_23 q10 (fun _ => rfl) (fun _ => rfl) ?_
  refine g_aload_n dX6_reset_26 rfl ?_
  refine g_iconst (v := (5 : Int32)) dX6_reset_27 (by decide) ?_
  replace hf := Option.bind_eq_some_iff.mp hf
  obtain ⟨h11, q12, hf⟩ := hf
  refine g_pF p_X6_55 dX6_reset_28 q12 (fun _ => rfl) (fun _ => rfl) ?_
  refine g_aload_n dX6_reset_31 rfl ?_
  refine g_iconst (v := (0 : Int32)) dX6_reset_32 (by decide) ?_
  replace hf := Option.bind_eq_some_iff.mp hf
  obtain ⟨h13, q14, hf⟩ := hf
  refine g_pF p_X6_58 dX6_reset_33 q14 (fun _ => rfl) (fun _ => rfl) ?_
  refine g_aload_n dX6_reset_36 rfl ?_
  refine g_iconst (v := (0 : Int32)) dX6_reset_37 (by decide) ?_
  replace hf := Option.bind_eq_some_iff.mp hf
  obtain ⟨h15, q16, hf⟩ := hf
  refine g_pF p_X6_61 dX6_reset_38 q16 (fun _ => rfl) (fun _ => rfl) ?_
  refine g_iconst (v := (0 : Int32)) dX6_reset_41 (by decide) ?_
  refine g_istore_n dX6_reset_42 (by decide) (g_lvp (lv2 := [some (.ref x0), some (.int (0 : Int32))]) (pc2 := 43) rfl rfl ?_)
  exact g_X6_reset_43 hf
def F_X6_reset (n : Nat) (a : Nat) (h : gH) : Option (gH) := F_X6_reset_0 n  a h
theorem t_X6_reset {n d : Nat} {a : Nat} {h rh : gH} (hf : F_X6_reset n a h = some rh) : T M_X6_reset d 0 0 [.ref a] h (qV rh) := by
  refine T_of_G (L := 1) (by decide +kernel) rfl (Nat.le_of_ble_eq_true rfl) (g_lv (lv2 := [some (.ref a), none]) rfl ?_)
  exact g_X6_reset_0 hf
def F_X6_init_0 (n : Nat)  (x0 : Nat) (h : gH) : Option (gH) :=
  gB (nIa h 8) fun a1 h2 =>
  (pF h2 x0 6 0 (.ref a1)).bind fun h4 =>
  gB (nIa h4 8) fun a6 h7 =>
  (pF h7 x0 6 1 (.ref a6)).bind fun h9 =>
  gB (nIa h9 8) fun a11 h12 =>
  (pF h12 x0 6 2 (.ref a11)).bind fun h14 =>
  gB (nIa h14 10) fun a16 h17 =>
  (pF h17 x0 6 3 (.ref a16)).bind fun h19 =>
  gB (nIa h19 14) fun a21 h22 =>
  (pF h22 x0 6 4 (.ref a21)).bind fun h24 =>
  gB (nIa h24 14) fun a26 h27 =>
  (pF h27 x0 6 5 (.ref a26)).bind fun h29 =>
  gB (nIa h29 120) fun a31 h32 =>
  (pF h32 x0 6 6 (.ref a31)).bind fun h34 =>
  gB (nIa h34 5) fun a36 h37 =>
  (pF h37 x0 6 7 (.ref a36)).bind fun h39 =>
  (gO h39 x0 6).bind fun f41 =>
  (F_X6_reset n x0  h39).bind fun h43 =>
  some h43
set_option maxRecDepth 20000 in
set_option maxHeartbeats 1600000 in
theorem g_X6_init_0 {n d : Nat} : ∀ {x0 : Nat} {h : gH} {rh : gH}, F_X6_init_0 n x0 h = some rh → G M_X6_init (d + 1) 8 187 0 0 0 [some (.ref x0)] [] h (qV rh) := by
  intro x0 h rh hf
  unfold F_X6_init_0 at hf
  refine g_aload_n dX6_init_0 rfl ?_
  refine g_objInit (gt_1 (List.mem_of_getElem? (i := 40) (by decide +kernel)) (by decide +kernel)) ob_1 ob_2 dX6_init_1 (Nat.le_of_ble_eq_true rfl) ?_
  refine g_aload_n dX6_init_4 rfl ?_
  refine g_bipush (v := (8 : Int32)) dX6_init_5 (by decide) ?_
  replace hf := gB_of hf
  obtain ⟨a1, h2, q3, hf⟩ := hf
  refine g_nIa (N := 8) (gt_1 (List.mem_of_getElem? (i := 119) (by decide +kernel)) (by decide +kernel)) dX6_init_7 q3 (by decide) (by decide) (by decide) (by decide) (by decide) ?_
  replace hf := Option.bind_eq_some_iff.mp hf
  obtain ⟨h4, q5, hf⟩ := hf
  refine g_pFf p_X6_9 dX6_init_9 q5 rfl (fun _ => rfl) (fun _ => rfl) ?_
  refine g_aload_n dX6_init_12 rfl ?_
  refine g_bipush (v := (8 : Int32)) dX6_init_13 (by decide) ?_
  replace hf := gB_of hf
  obtain ⟨a6, h7, q8, hf⟩ := hf
  refine g_nIa (N := 8) (gt_1 (List.mem_of_getElem? (i := 119) (by decide +kernel)) (by decide +kernel)) dX6_init_15 q8 (by decide) (by decide) (by decide) (by decide) (by decide) ?_
  replace hf := Option.bind_eq_some_iff.mp hf
  obtain ⟨h9, q10, hf⟩ := hf
  refine g_pFf p_X6_15 dX6_init_17 q10 rfl (fun _ => rfl) (fun _ => rfl) ?_
  refine g_aload_n dX6_init_20 rfl ?_
  refine g_bipush (v := (8 : Int32)) dX6_init_21 (by decide) ?_
  replace hf := gB_of hf
  obtain ⟨a11, h12, q13, hf⟩ := hf
  refine g_nIa (N := 8) (gt_1 (List.mem_of_getElem? (i := 119) (by decide +kernel)) (by decide +kernel)) dX6_init_23 q13 (by decide) (by decide) (by decide) (by decide) (by decide) ?_
  replace hf := Option.bind_eq_some_iff.mp hf
  obtain ⟨h14, q15, hf⟩ := hf
  refine g_pFf p_X6_18 dX6_init_25 q15 rfl (fun _ => rfl) (fun _ => rfl) ?_
  refine g_aload_n dX6_init_28 rfl ?_
  refine g_bipush (v := (10 : Int32)) dX6_init_29 (by decide) ?_
  replace hf := gB_of hf
  obtain ⟨a16, h17, q18, hf⟩ := hf
  refine g_nIa (N := 10) (gt_1 (List.mem_of_getElem? (i := 119) (by decide +kernel)) (by decide +kernel)) dX6_init_31 q18 (by decide) (by decide) (by decide) (by decide) (by decide) ?_
  replace hf := Option.bind_eq_some_iff.mp hf
  obtain ⟨h19, q20, hf⟩ := hf
  refine g_pFf p_X6_21 dX6_init_33 q20 rfl (fun _ => rfl) (fun _ => rfl) ?_
  refine g_aload_n dX6_init_36 rfl ?_
  refine g_bipush (v := (14 : Int32)) dX6_init_37 (by decide) ?_
  replace hf := gB_of hf
  obtain ⟨a21, h22, q23, hf⟩ := hf
  refine g_nIa (N := 14) (gt_1 (List.mem_of_getElem? (i := 119) (by decide +kernel)) (by decide +kernel)) dX6_init_39 q23 (by decide) (by decide) (by decide) (by decide) (by decide) ?_
  replace hf := Option.bind_eq_some_iff.mp hf
  obtain ⟨h24, q25, hf⟩ := hf
  refine g_pFf p_X6_24 dX6_init_41 q25 rfl (fun _ => rfl) (fun _ => rfl) ?_
  refine g_aload_n dX6_init_44 rfl ?_
  refine g_bipush (v := (14 : Int32)) dX6_init_45 (by decide) ?_
  replace hf := gB_of hf
  obtain ⟨a26, h27, q28, hf⟩ := hf
  refine g_nIa (N := 14) (gt_1 (List.mem_of_getElem? (i := 119) (by decide +kernel)) (by decide +kernel)) dX6_init_47 q28 (by decide) (by decide) (by decide) (by decide) (by decide) ?_
  replace hf := Option.bind_eq_some_iff.mp hf
  obtain ⟨h29, q30, hf⟩ := hf
  refine g_pFf p_X6_27 dX6_init_49 q30 rfl (fun _ => rfl) (fun _ => rfl) ?_
  refine g_aload_n dX6_init_52 rfl ?_
  refine g_bipush (v := (120 : Int32)) dX6_init_53 (by decide) ?_
  replace hf := gB_of hf
  obtain ⟨a31, h32, q33, hf⟩ := hf
  refine g_nIa (N := 120) (gt_1 (List.mem_of_getElem? (i := 119) (by decide +kernel)) (by decide +kernel)) dX6_init_55 q33 (by decide) (by decide) (by decide) (by decide) (by decide) ?_
  replace hf := Option.bind_eq_some_iff.mp hf
  obtain ⟨h34, q35, hf⟩ := hf
  refine g_pFf p_X6_30 dX6_init_57 q35 rfl (fun _ => rfl) (fun _ => rfl) ?_
  refine g_aload_n dX6_init_60 rfl ?_
  refine g_iconst (v := (5 : Int32)) dX6_init_61 (by decide) ?_
  replace hf := gB_of hf
  obtain ⟨a36, h37, q38, hf⟩ := hf
  refine g_nIa (N := 5) (gt_1 (List.mem_of_getElem? (i := 119) (by decide +kernel)) (by decide +kernel)) dX6_init_62 q38 (by decide) (by decide) (by decide) (by decide) (by decide) ?_
  replace hf := Option.bind_eq_some_iff.mp hf
  obtain ⟨h39, q40, hf⟩ := hf
  refine g_pFf p_X6_33 dX6_init_64 q40 rfl (fun _ => rfl) (fun _ => rfl) ?_
  refine g_aload_n dX6_init_67 rfl ?_
  replace hf := Option.bind_eq_some_iff.mp hf
  obtain ⟨f41, q42, hf⟩ := hf
  replace hf := Option.bind_eq_some_iff.mp hf
  obtain ⟨h43, q44, hf⟩ := hf
  refine g_callV (as := []) (mc1 := 0) (ms1 := 0) s_X6_36_X6_reset_6 dX6_init_68 (gO_of q42) rfl (Nat.le_of_ble_eq_true rfl) (Nat.le_of_ble_eq_true rfl) (Nat.le_of_ble_eq_true rfl) (t_X6_reset (d := d + 0) q44) (fun r9 h9 q9 => ?_)
  obtain ⟨rfl, rfl⟩ := q9
  refine g_stp (st2 := []) (pc2 := 71) (kc2 := 8) (kn2 := 187) rfl rfl rfl rfl ?_
  obtain rfl := Option.some.inj hf
  exact g_vret dX6_init_71 rfl ⟨rfl, rfl⟩ (Nat.le_of_ble_eq_true rfl) (Nat.le_of_ble_eq_true rfl)
def F_X6_init (n : Nat) (a : Nat) (h : gH) : Option (gH) := F_X6_init_0 n  a h
theorem t_X6_init {n d : Nat} {a : Nat} {h rh : gH} (hf : F_X6_init n a h = some rh) : T M_X6_init (d + 1) 8 187 [.ref a] h (qV rh) := by
  refine T_of_G (L := 0) (by decide +kernel) rfl (Nat.le_of_ble_eq_true rfl) (g_lv (lv2 := [some (.ref a)]) rfl ?_)
  exact g_X6_init_0 hf
def F_X5_init_0 (n : Nat)  (x0 : Nat) (h : gH) : Option (gH) :=
  gB (nO h 6 [.null, .null, .null, .null, .null, .null, .null, .null, .int 0, .int 0, .int 0, .int 0, .int 0, .int 0, .int 0, .int 0]) fun a1 h2 =>
  (F_X6_init n a1  h2).bind fun h4 =>
  (pF h4 x0 5 0 (.ref a1)).bind fun h6 =>
  gB (nIa h6 120) fun a8 h9 =>
  (pF h9 x0 5 1 (.ref a8)).bind fun h11 =>
  some h11
set_option maxRecDepth 20000 in
set_option maxHeartbeats 1600000 in
theorem g_X5_init_0 {n d : Nat} : ∀ {x0 : Nat} {h : gH} {rh : gH}, F_X5_init_0 n x0 h = some rh → G M_X5_init (d + 2) 10 323 0 0 0 [some (.ref x0)] [] h (qV rh) := by
  intro x0 h rh hf
  unfold F_X5_init_0 at hf
  refine g_aload_n dX5_init_0 rfl ?_
  refine g_objInit (gt_1 (List.mem_of_getElem? (i := 172) (by decide +kernel)) (by decide +kernel)) ob_1 ob_2 dX5_init_1 (Nat.le_of_ble_eq_true rfl) ?_
  refine g_aload_n dX5_init_4 rfl ?_
  replace hf := gB_of hf
  obtain ⟨a1, h2, q3, hf⟩ := hf
  refine g_nO n_X5_9 dX5_init_5 q3 (by decide) (by decide) ?_
  refine g_dup dX5_init_8 rfl ?_
  replace hf := Option.bind_eq_some_iff.mp hf
  obtain ⟨h4, q5, hf⟩ := hf
  refine g_callI (as := []) (mc1 := 8) (ms1 := 187) s_X5_11_X6_init dX5_init_9 rfl (Nat.le_of_ble_eq_true rfl) (Nat.le_of_ble_eq_true rfl) (Nat.le_of_ble_eq_true rfl) (t_X6_init (d := d + 0) q5) (fun r9 h9 q9 => ?_)
  obtain ⟨rfl, rfl⟩ := q9
  refine g_stp (st2 := [.ref a1, .ref x0]) (pc2 := 12) (kc2 := 9) (kn2 := 203) rfl rfl rfl rfl ?_
  replace hf := Option.bind_eq_some_iff.mp hf
  obtain ⟨h6, q7, hf⟩ := hf
  refine g_pFf p_X5_12 dX5_init_12 q7 rfl (fun _ => rfl) (fun _ => rfl) ?_
  refine g_aload_n dX5_init_15 rfl ?_
  refine g_bipush (v := (120 : Int32)) dX5_init_16 (by decide) ?_
  replace hf := gB_of hf
  obtain ⟨a8, h9, q10, hf⟩ := hf
  refine g_nIa (N := 120) (gt_1 (List.mem_of_getElem? (i := 119) (by decide +kernel)) (by decide +kernel)) dX5_init_18 q10 (by decide) (by decide) (by decide) (by decide) (by decide) ?_
  replace hf := Option.bind_eq_some_iff.mp hf
  obtain ⟨h11, q12, hf⟩ := hf
  refine g_pFf p_X5_18 dX5_init_20 q12 rfl (fun _ => rfl) (fun _ => rfl) ?_
  obtain rfl := Option.some.inj hf
  exact g_vret dX5_init_23 rfl ⟨rfl, rfl⟩ (Nat.le_of_ble_eq_true rfl) (Nat.le_of_ble_eq_true rfl)
def F_X5_init (n : Nat) (a : Nat) (h : gH) : Option (gH) := F_X5_init_0 n  a h
theorem t_X5_init {n d : Nat} {a : Nat} {h rh : gH} (hf : F_X5_init n a h = some rh) : T M_X5_init (d + 2) 10 323 [.ref a] h (qV rh) := by
  refine T_of_G (L := 0) (by decide +kernel) rfl (Nat.le_of_ble_eq_true rfl) (g_lv (lv2 := [some (.ref a)]) rfl ?_)
  exact g_X5_init_0 hf
def F_X7_init_0 (n : Nat)  (x0 : Nat) (h : gH) : Option (gH) :=
  gB (nIa h 120) fun a1 h2 =>
  (pF h2 x0 7 0 (.ref a1)).bind fun h4 =>
  gB (nO h4 6 [.null, .null, .null, .null, .null, .null, .null, .null, .int 0, .int 0, .int 0, .int 0, .int 0, .int 0, .int 0, .int 0]) fun a6 h7 =>
  (F_X6_init n a6  h7).bind fun h9 =>
  (pF h9 x0 7 1 (.ref a6)).bind fun h11 =>
  gB (nQa h11 8) fun a13 h14 =>
  (pF h14 x0 7 2 (.ref a13)).bind fun h16 =>
  gB (nIa h16 64) fun a18 h19 =>
  (pF h19 x0 7 3 (.ref a18)).bind fun h21 =>
  gB (nIa h21 8) fun a23 h24 =>
  (pF h24 x0 7 4 (.ref a23)).bind fun h26 =>
  gB (nIa h26 20) fun a28 h29 =>
  (pF h29 x0 7 5 (.ref a28)).bind fun h31 =>
  some h31
set_option maxRecDepth 20000 in
set_option maxHeartbeats 1600000 in
theorem g_X7_init_0 {n d : Nat} : ∀ {x0 : Nat} {h : gH} {rh : gH}, F_X7_init_0 n x0 h = some rh → G M_X7_init (d + 2) 14 423 0 0 0 [some (.ref x0)] [] h (qV rh) := by
  intro x0 h rh hf
  unfold F_X7_init_0 at hf
  refine g_aload_n dX7_init_0 rfl ?_
  refine g_objInit (gt_1 (List.mem_of_getElem? (i := 34) (by decide +kernel)) (by decide +kernel)) ob_1 ob_2 dX7_init_1 (Nat.le_of_ble_eq_true rfl) ?_
  refine g_aload_n dX7_init_4 rfl ?_
  refine g_bipush (v := (120 : Int32)) dX7_init_5 (by decide) ?_
  replace hf := gB_of hf
  obtain ⟨a1, h2, q3, hf⟩ := hf
  refine g_nIa (N := 120) (gt_1 (List.mem_of_getElem? (i := 119) (by decide +kernel)) (by decide +kernel)) dX7_init_7 q3 (by decide) (by decide) (by decide) (by decide) (by decide) ?_
  replace hf := Option.bind_eq_some_iff.mp hf
  obtain ⟨h4, q5, hf⟩ := hf
  refine g_pFf p_X7_9 dX7_init_9 q5 rfl (fun _ => rfl) (fun _ => rfl) ?_
  refine g_aload_n dX7_init_12 rfl ?_
  replace hf := gB_of hf
  obtain ⟨a6, h7, q8, hf⟩ := hf
  refine g_nO n_X7_15 dX7_init_13 q8 (by decide) (by decide) ?_
  refine g_dup dX7_init_16 rfl ?_
  replace hf := Option.bind_eq_some_iff.mp hf
  obtain ⟨h9, q10, hf⟩ := hf
  refine g_callI (as := []) (mc1 := 8) (ms1 := 187) s_X7_17_X6_init dX7_init_17 rfl (Nat.le_of_ble_eq_true rfl) (Nat.le_of_ble_eq_true rfl) (Nat.le_of_ble_eq_true rfl) (t_X6_init (d := d + 0) q10) (fun r9 h9 q9 => ?_)
  obtain ⟨rfl, rfl⟩ := q9
  refine g_stp (st2 := [.ref a6, .ref x0]) (pc2 := 20) (kc2 := 10) (kn2 := 323) rfl rfl rfl rfl ?_
  replace hf := Option.bind_eq_some_iff.mp hf
  obtain ⟨h11, q12, hf⟩ := hf
  refine g_pFf p_X7_18 dX7_init_20 q12 rfl (fun _ => rfl) (fun _ => rfl) ?_
  refine g_aload_n dX7_init_23 rfl ?_
  refine g_bipush (v := (8 : Int32)) dX7_init_24 (by decide) ?_
  replace hf := gB_of hf
  obtain ⟨a13, h14, q15, hf⟩ := hf
  refine g_nQa (N := 8) (gt_1 (List.mem_of_getElem? (i := 120) (by decide +kernel)) (by decide +kernel)) dX7_init_26 q15 (by decide) (by decide) (by decide) (by decide) (by decide) ?_
  replace hf := Option.bind_eq_some_iff.mp hf
  obtain ⟨h16, q17, hf⟩ := hf
  refine g_pFf p_X7_24 dX7_init_29 q17 rfl (fun _ => rfl) (fun _ => rfl) ?_
  refine g_aload_n dX7_init_32 rfl ?_
  refine g_bipush (v := (64 : Int32)) dX7_init_33 (by decide) ?_
  replace hf := gB_of hf
  obtain ⟨a18, h19, q20, hf⟩ := hf
  refine g_nIa (N := 64) (gt_1 (List.mem_of_getElem? (i := 119) (by decide +kernel)) (by decide +kernel)) dX7_init_35 q20 (by decide) (by decide) (by decide) (by decide) (by decide) ?_
  replace hf := Option.bind_eq_some_iff.mp hf
  obtain ⟨h21, q22, hf⟩ := hf
  refine g_pFf p_X7_28 dX7_init_37 q22 rfl (fun _ => rfl) (fun _ => rfl) ?_
  refine g_aload_n dX7_init_40 rfl ?_
  refine g_bipush (v := (8 : Int32)) dX7_init_41 (by decide) ?_
  replace hf := gB_of hf
  obtain ⟨a23, h24, q25, hf⟩ := hf
  refine g_nIa (N := 8) (gt_1 (List.mem_of_getElem? (i := 119) (by decide +kernel)) (by decide +kernel)) dX7_init_43 q25 (by decide) (by decide) (by decide) (by decide) (by decide) ?_
  replace hf := Option.bind_eq_some_iff.mp hf
  obtain ⟨h26, q27, hf⟩ := hf
  refine g_pFf p_X7_31 dX7_init_45 q27 rfl (fun _ => rfl) (fun _ => rfl) ?_
  refine g_aload_n dX7_init_48 rfl ?_
  refine g_bipush (v := (20 : Int32)) dX7_init_49 (by decide) ?_
  replace hf := gB_of hf
  obtain ⟨a28, h29, q30, hf⟩ := hf
  refine g_nIa (N := 20) (gt_1 (List.mem_of_getElem? (i := 119) (by decide +kernel)) (by decide +kernel)) dX7_init_51 q30 (by decide) (by decide) (by decide) (by decide) (by decide) ?_
  replace hf := Option.bind_eq_some_iff.mp hf
  obtain ⟨h31, q32, hf⟩ := hf
  refine g_pFf p_X7_34 dX7_init_53 q32 rfl (fun _ => rfl) (fun _ => rfl) ?_
  obtain rfl := Option.some.inj hf
  exact g_vret dX7_init_56 rfl ⟨rfl, rfl⟩ (Nat.le_of_ble_eq_true rfl) (Nat.le_of_ble_eq_true rfl)
def F_X7_init (n : Nat) (a : Nat) (h : gH) : Option (gH) := F_X7_init_0 n  a h
theorem t_X7_init {n d : Nat} {a : Nat} {h rh : gH} (hf : F_X7_init n a h = some rh) : T M_X7_init (d + 2) 14 423 [.ref a] h (qV rh) := by
  refine T_of_G (L := 0) (by decide +kernel) rfl (Nat.le_of_ble_eq_true rfl) (g_lv (lv2 := [some (.ref a)]) rfl ?_)
  exact g_X7_init_0 hf
def F_X11_init_0 (n : Nat)  (x0 : Nat) (h : gH) : Option (gH) :=
  gB (nO h 7 [.null, .null, .null, .null, .null, .null, .int 0, .int 0, .int 0, .int 0, .int 0]) fun a1 h2 =>
  (F_X7_init n a1  h2).bind fun h4 =>
  (pF h4 x0 11 0 (.ref a1)).bind fun h6 =>
  gB (nO h6 7 [.null, .null, .null, .null, .null, .null, .int 0, .int 0, .int 0, .int 0, .int 0]) fun a8 h9 =>
  (F_X7_init n a8  h9).bind fun h11 =>
  (pF h11 x0 11 1 (.ref a8)).bind fun h13 =>
  gB (nO h13 5 [.null, .null, .int 0, .int 0]) fun a15 h16 =>
  (F_X5_init n a15  h16).bind fun h18 =>
  (pF h18 x0 11 2 (.ref a15)).bind fun h20 =>
  gB (nO h20 4 [.null, .null, .null, .null, .null, .null, .null, .null, .null, .int 0, .int 0, .int 0, .int 0]) fun a22 h23 =>
  (F_X4_init n a22  h23).bind fun h25 =>
  (pF h25 x0 11 3 (.ref a22)).bind fun h27 =>
  gB (nIa h27 8) fun a29 h30 =>
  (pF h30 x0 11 4 (.ref a29)).bind fun h32 =>
  gB (nIa h32 256) fun a34 h35 =>
  (pF h35 x0 11 5 (.ref a34)).bind fun h37 =>
  gB (nIa h37 256) fun a39 h40 =>
  (pF h40 x0 11 6 (.ref a39)).bind fun h42 =>
  gB (nLa h42 256) fun a44 h45 =>
  (pF h45 x0 11 7 (.ref a44)).bind fun h47 =>
  some h47
set_option maxRecDepth 20000 in
set_option maxHeartbeats 1600000 in
theorem g_X11_init_0 {n d : Nat} : ∀ {x0 : Nat} {h : gH} {rh : gH}, F_X11_init_0 n x0 h = some rh → G M_X11_init (d + 3) 55 13523 0 0 0 [some (.ref x0)] [] h (qV rh) := by
  intro x0 h rh hf
  unfold F_X11_init_0 at hf
  refine g_aload_n dX11_init_0 rfl ?_
  refine g_objInit (gt_1 (List.mem_of_getElem? (i := 26) (by decide +kernel)) (by decide +kernel)) ob_1 ob_2 dX11_init_1 (Nat.le_of_ble_eq_true rfl) ?_
  refine g_aload_n dX11_init_4 rfl ?_
  replace hf := gB_of hf
  obtain ⟨a1, h2, q3, hf⟩ := hf
  refine g_nO n_X11_9 dX11_init_5 q3 (by decide) (by decide) ?_
  refine g_dup dX11_init_8 rfl ?_
  replace hf := Option.bind_eq_some_iff.mp hf
  obtain ⟨h4, q5, hf⟩ := hf
  refine g_callIN (as := []) (mc1 := 14) (ms1 := 423) s_X11_11_X7_init dX11_init_9 rfl (Nat.le_of_ble_eq_true rfl) (Nat.le_of_ble_eq_true rfl) (Nat.le_of_ble_eq_true rfl) (t_X7_init (d := d + 0) q5) (fun r9 h9 q9 => ?_)
  obtain ⟨rfl, rfl⟩ := q9
  refine g_stp (st2 := [.ref a1, .ref x0]) (pc2 := 12) (kc2 := 15) (kn2 := 434) rfl rfl rfl rfl ?_
  replace hf := Option.bind_eq_some_iff.mp hf
  obtain ⟨h6, q7, hf⟩ := hf
  refine g_pFf p_X11_12 dX11_init_12 q7 rfl (fun _ => rfl) (fun _ => rfl) ?_
  refine g_aload_n dX11_init_15 rfl ?_
  replace hf := gB_of hf
  obtain ⟨a8, h9, q10, hf⟩ := hf
  refine g_nO n_X11_9 dX11_init_16 q10 (by decide) (by decide) ?_
  refine g_dup dX11_init_19 rfl ?_
  replace hf := Option.bind_eq_some_iff.mp hf
  obtain ⟨h11, q12, hf⟩ := hf
  refine g_callIN (as := []) (mc1 := 14) (ms1 := 423) s_X11_11_X7_init dX11_init_20 rfl (Nat.le_of_ble_eq_true rfl) (Nat.le_of_ble_eq_true rfl) (Nat.le_of_ble_eq_true rfl) (t_X7_init (d := d + 0) q12) (fun r9 h9 q9 => ?_)
  obtain ⟨rfl, rfl⟩ := q9
  refine g_stp (st2 := [.ref a8, .ref x0]) (pc2 := 23) (kc2 := 30) (kn2 := 868) rfl rfl rfl rfl ?_
  replace hf := Option.bind_eq_some_iff.mp hf
  obtain ⟨h13, q14, hf⟩ := hf
  refine g_pFf p_X11_18 dX11_init_23 q14 rfl (fun _ => rfl) (fun _ => rfl) ?_
  refine g_aload_n dX11_init_26 rfl ?_
  replace hf := gB_of hf
  obtain ⟨a15, h16, q17, hf⟩ := hf
  refine g_nO n_X11_21 dX11_init_27 q17 (by decide) (by decide) ?_
  refine g_dup dX11_init_30 rfl ?_
  replace hf := Option.bind_eq_some_iff.mp hf
  obtain ⟨h18, q19, hf⟩ := hf
  refine g_callIN (as := []) (mc1 := 10) (ms1 := 323) s_X11_23_X5_init dX11_init_31 rfl (Nat.le_of_ble_eq_true rfl) (Nat.le_of_ble_eq_true rfl) (Nat.le_of_ble_eq_true rfl) (t_X5_init (d := d + 0) q19) (fun r9 h9 q9 => ?_)
  obtain ⟨rfl, rfl⟩ := q9
  refine g_stp (st2 := [.ref a15, .ref x0]) (pc2 := 34) (kc2 := 41) (kn2 := 1195) rfl rfl rfl rfl ?_
  replace hf := Option.bind_eq_some_iff.mp hf
  obtain ⟨h20, q21, hf⟩ := hf
  refine g_pFf p_X11_24 dX11_init_34 q21 rfl (fun _ => rfl) (fun _ => rfl) ?_
  refine g_aload_n dX11_init_37 rfl ?_
  replace hf := gB_of hf
  obtain ⟨a22, h23, q24, hf⟩ := hf
  refine g_nO n_X11_28 dX11_init_38 q24 (by decide) (by decide) ?_
  refine g_dup dX11_init_41 rfl ?_
  replace hf := Option.bind_eq_some_iff.mp hf
  obtain ⟨h25, q26, hf⟩ := hf
  refine g_callIN (as := []) (mc1 := 9) (ms1 := 11539) s_X11_30_X4_init dX11_init_42 rfl (Nat.le_of_ble_eq_true rfl) (Nat.le_of_ble_eq_true rfl) (Nat.le_of_ble_eq_true rfl) (t_X4_init (d := d + 1) q26) (fun r9 h9 q9 => ?_)
  obtain ⟨rfl, rfl⟩ := q9
  refine g_stp (st2 := [.ref a22, .ref x0]) (pc2 := 45) (kc2 := 51) (kn2 := 12747) rfl rfl rfl rfl ?_
  replace hf := Option.bind_eq_some_iff.mp hf
  obtain ⟨h27, q28, hf⟩ := hf
  refine g_pFf p_X11_31 dX11_init_45 q28 rfl (fun _ => rfl) (fun _ => rfl) ?_
  refine g_aload_n dX11_init_48 rfl ?_
  refine g_bipush (v := (8 : Int32)) dX11_init_49 (by decide) ?_
  replace hf := gB_of hf
  obtain ⟨a29, h30, q31, hf⟩ := hf
  refine g_nIa (N := 8) (gt_1 (List.mem_of_getElem? (i := 119) (by decide +kernel)) (by decide +kernel)) dX11_init_51 q31 (by decide) (by decide) (by decide) (by decide) (by decide) ?_
  replace hf := Option.bind_eq_some_iff.mp hf
  obtain ⟨h32, q33, hf⟩ := hf
  refine g_pFf p_X11_35 dX11_init_53 q33 rfl (fun _ => rfl) (fun _ => rfl) ?_
  refine g_aload_n dX11_init_56 rfl ?_
  refine g_sipush (v := (256 : Int32)) dX11_init_57 (by decide) ?_
  replace hf := gB_of hf
  obtain ⟨a34, h35, q36, hf⟩ := hf
  refine g_nIa (N := 256) (gt_1 (List.mem_of_getElem? (i := 119) (by decide +kernel)) (by decide +kernel)) dX11_init_60 q36 (by decide) (by decide) (by decide) (by decide) (by decide) ?_
  replace hf := Option.bind_eq_some_iff.mp hf
  obtain ⟨h37, q38, hf⟩ := hf
  refine g_pFf p_X11_39 dX11_init_62 q38 rfl (fun _ => rfl) (fun _ => rfl) ?_
  refine g_aload_n dX11_init_65 rfl ?_
  refine g_sipush (v := (256 : Int32)) dX11_init_66 (by decide) ?_
  replace hf := gB_of hf
  obtain ⟨a39, h40, q41, hf⟩ := hf
  refine g_nIa (N := 256) (gt_1 (List.mem_of_getElem? (i := 119) (by decide +kernel)) (by decide +kernel)) dX11_init_69 q41 (by decide) (by decide) (by decide) (by decide) (by decide) ?_
  replace hf := Option.bind_eq_some_iff.mp hf
  obtain ⟨h42, q43, hf⟩ := hf
  refine g_pFf p_X11_42 dX11_init_71 q43 rfl (fun _ => rfl) (fun _ => rfl) ?_
  refine g_aload_n dX11_init_74 rfl ?_
  refine g_sipush (v := (256 : Int32)) dX11_init_75 (by decide) ?_
  replace hf := gB_of hf
  obtain ⟨a44, h45, q46, hf⟩ := hf
  refine g_nLa (N := 256) (gt_2 (List.mem_of_getElem? (i := 34) (by decide +kernel)) (by decide +kernel)) dX11_init_78 q46 (by decide) (by decide) (by decide) (by decide) (by decide) ?_
  replace hf := Option.bind_eq_some_iff.mp hf
  obtain ⟨h47, q48, hf⟩ := hf
  refine g_pFf p_X11_45 dX11_init_80 q48 rfl (fun _ => rfl) (fun _ => rfl) ?_
  obtain rfl := Option.some.inj hf
  exact g_vret dX11_init_83 rfl ⟨rfl, rfl⟩ (Nat.le_of_ble_eq_true rfl) (Nat.le_of_ble_eq_true rfl)
def F_X11_init (n : Nat) (a : Nat) (h : gH) : Option (gH) := F_X11_init_0 n  a h
theorem t_X11_init {n d : Nat} {a : Nat} {h rh : gH} (hf : F_X11_init n a h = some rh) : T M_X11_init (d + 3) 55 13523 [.ref a] h (qV rh) := by
  refine T_of_G (L := 0) (by decide +kernel) rfl (Nat.le_of_ble_eq_true rfl) (g_lv (lv2 := [some (.ref a)]) rfl ?_)
  exact g_X11_init_0 hf
def F_X11_isEffort_15 (n : Nat)  (y0 : Int32) (h : gH) : Option (Int32 × gH) :=
  if y0 = 0 ∨ y0 = 1 then some (y0, h) else none
set_option maxRecDepth 20000 in
set_option maxHeartbeats 1600000 in
theorem g_X11_isEffort_15 {n d : Nat} : ∀ {y0 : Int32} {h : gH} {rh : gH} {rv : Int32}, F_X11_isEffort_15 n y0 h = some (rv, rh) → G M_X11_isEffort d 0 0 0 0 15 [none] [.int y0] h (qI rv rh) := by
  intro y0 h rh rv hf
  unfold F_X11_isEffort_15 at hf
  by_cases c1 : y0 = 0 ∨ y0 = 1
  · rw [if_pos c1] at hf
    obtain ⟨rfl, rfl⟩ := Prod.mk.inj (Option.some.inj hf)
    exact g_zret (ty := .boolean) dX11_isEffort_15 rfl (gZ_nar c1) ⟨rfl, rfl⟩ (Nat.le_of_ble_eq_true rfl) (Nat.le_of_ble_eq_true rfl)
  · rw [if_neg c1] at hf; cases hf
def F_X11_isEffort_14 (n : Nat)   (h : gH) : Option (Int32 × gH) :=
  F_X11_isEffort_15 n (0 : Int32) h
set_option maxRecDepth 20000 in
set_option maxHeartbeats 1600000 in
theorem g_X11_isEffort_14 {n d : Nat} : ∀  {h : gH} {rh : gH} {rv : Int32}, F_X11_isEffort_14 n  h = some (rv, rh) → G M_X11_isEffort d 0 0 0 0 14 [none] [] h (qI rv rh) := by
  intro  h rh rv hf
  unfold F_X11_isEffort_14 at hf
  refine g_iconst (v := (0 : Int32)) dX11_isEffort_14 (by decide) ?_
  exact g_X11_isEffort_15 hf
def F_X11_isEffort_0 (n : Nat)  (x0 : Int32) (h : gH) : Option (Int32 × gH) :=
  if x0 < 0 then
  (F_X11_isEffort_14 n h)
  else
  (if (9 : Int32) < x0 then
  (F_X11_isEffort_14 n h)
  else
  (F_X11_isEffort_15 n (1 : Int32) h))
set_option maxRecDepth 20000 in
set_option maxHeartbeats 1600000 in
theorem g_X11_isEffort_0 {n d : Nat} : ∀ {x0 : Int32} {h : gH} {rh : gH} {rv : Int32}, F_X11_isEffort_0 n x0 h = some (rv, rh) → G M_X11_isEffort d 0 0 0 0 0 [some (.int x0)] [] h (qI rv rh) := by
  intro x0 h rh rv hf
  unfold F_X11_isEffort_0 at hf
  refine g_iload_n dX11_isEffort_0 rfl ?_
  refine g_if_lt (tgt := 14) dX11_isEffort_1 (by decide) (fun c1 => ?_) (fun c1 => ?_)
  · rw [if_pos c1] at hf
    refine g_weak (lv2 := [none]) (trivial) ?_
    exact g_X11_isEffort_14 hf
  · rw [if_neg c1] at hf
    refine g_iload_n dX11_isEffort_4 rfl ?_
    refine g_bipush (v := (9 : Int32)) dX11_isEffort_5 (by decide) ?_
    refine g_icmp_gt (tgt := 14) dX11_isEffort_7 (by decide) (fun c2 => ?_) (fun c2 => ?_)
    · rw [if_pos c2] at hf
      refine g_weak (lv2 := [none]) (trivial) ?_
      exact g_X11_isEffort_14 hf
    · rw [if_neg c2] at hf
      refine g_iconst (v := (1 : Int32)) dX11_isEffort_10 (by decide) ?_
      refine g_goto (tgt := 15) dX11_isEffort_11 (by decide) ?_
      refine g_weak (lv2 := [none]) (trivial) ?_
      exact g_X11_isEffort_15 hf
def F_X11_isEffort (n : Nat) (p0 : Int32) (h : gH) : Option (Int32 × gH) := F_X11_isEffort_0 n  p0 h
theorem t_X11_isEffort {n d : Nat} {p0 : Int32} {h rh : gH} {rv : Int32} (hf : F_X11_isEffort n p0 h = some (rv, rh)) : T M_X11_isEffort d 0 0 [.int p0] h (qI rv rh) := by
  refine T_of_G (L := 0) (by decide +kernel) rfl (Nat.le_of_ble_eq_true rfl) (g_lv (lv2 := [some (.int p0)]) rfl ?_)
  exact g_X11_isEffort_0 hf
