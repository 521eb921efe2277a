def fs_11 : List Value := [.null, .null, .null, .null, .null, .null, .null, .null, .int 0, .int 0, .int 0, .int 0]
theorem n_L_7 : gNw RL 7 11 12 fs_11 := ⟨RX11, TX11, tyX11, rfl, u_11, tyX11_ok, gt_1 (List.mem_of_getElem? (i := 21) (by decide +kernel)) (by decide +kernel), gt_1 (List.mem_of_getElem? (i := 22) (by decide +kernel)) (by decide +kernel), gt_1 (List.mem_of_getElem? (i := 1) (by decide +kernel)) (by decide +kernel), (by intro j hj; have hh : j = 0 ∨ j = 1 ∨ j = 2 ∨ j = 3 ∨ j = 4 ∨ j = 5 ∨ j = 6 ∨ j = 7 ∨ j = 8 ∨ j = 9 ∨ j = 10 ∨ j = 11 := (by omega); rcases hh with rfl | rfl | rfl | rfl | rfl | rfl | rfl | rfl | rfl | rfl | rfl | rfl <;> rfl), fun _ => rfl⟩
def fs_12 : List Value := [.int 0, .null, .null, .int 0, .int 0, .int 0, .int 0, .int 0, .int 0, .null, .null, .null, .null, .null, .int 0, .null, .long 0, .long 0, .null, .int 0, .int 0, .int 0, .int 0]
theorem n_L_10 : gNw RL 10 12 23 fs_12 := ⟨RX12, TX12, tyX12, rfl, u_12, tyX12_ok, gt_5 (List.mem_of_getElem? (i := 4) (by decide +kernel)) (by decide +kernel), gt_5 (List.mem_of_getElem? (i := 5) (by decide +kernel)) (by decide +kernel), gt_1 (List.mem_of_getElem? (i := 6) (by decide +kernel)) (by decide +kernel), (by intro j hj; have hh : j = 0 ∨ j = 1 ∨ j = 2 ∨ j = 3 ∨ j = 4 ∨ j = 5 ∨ j = 6 ∨ j = 7 ∨ j = 8 ∨ j = 9 ∨ j = 10 ∨ j = 11 ∨ j = 12 ∨ j = 13 ∨ j = 14 ∨ j = 15 ∨ j = 16 ∨ j = 17 ∨ j = 18 ∨ j = 19 ∨ j = 20 ∨ j = 21 ∨ j = 22 := (by omega); rcases hh with rfl | rfl | rfl | rfl | rfl | rfl | rfl | rfl | rfl | rfl | rfl | rfl | rfl | rfl | rfl | rfl | rfl | rfl | rfl | rfl | rfl | rfl | rfl <;> rfl), fun _ => rfl⟩
theorem s_L_9_X11_init : gCi RL 9 M_X11_init 0 := ⟨⟨gt_1 (List.mem_of_getElem? (i := 25) (by decide +kernel)) (by decide +kernel), gt_1 (List.mem_of_getElem? (i := 1) (by decide +kernel)) (by decide +kernel), gt_1 (List.mem_of_getElem? (i := 23) (by decide +kernel)) (by decide +kernel), ⟨by decide +kernel, by decide +kernel, by decide +kernel⟩, by decide⟩, gt_1 (List.mem_of_getElem? (i := 24) (by decide +kernel)) (by decide +kernel), rfl, rfl⟩
theorem s_L_12_X12_init : gCi RL 12 M_X12_init 0 := ⟨⟨gt_5 (List.mem_of_getElem? (i := 8) (by decide +kernel)) (by decide +kernel), gt_1 (List.mem_of_getElem? (i := 6) (by decide +kernel)) (by decide +kernel), gt_5 (List.mem_of_getElem? (i := 6) (by decide +kernel)) (by decide +kernel), ⟨by decide +kernel, by decide +kernel, by decide +kernel⟩, by decide⟩, gt_5 (List.mem_of_getElem? (i := 7) (by decide +kernel)) (by decide +kernel), rfl, rfl⟩
section LWS
variable {b L kc kn pc : Nat} {xs : Nat → Int32} {h : gH} {p : Program} {l : Launch} {e : Env} {s : State} {m : MethodId} {below : List Frame} {meth : Method} {c : Code} {E : gE} {D : va_G} {cA : Nat → ClassId} {H : Heap} {locs : List Loc} {ls : Array Slot} {rest : List Value} {Z : State → Prop}
theorem lw_new {idx ci N : Nat} {fs : List Value} (X : lwC p s m meth c b L xs E D cA) (F : gNw RL idx ci N fs) (hdg : decode code pc = .ok (.new idx, 3)) (hcm : kc + 1 ≤ 600000) (hsm : kn + N ≤ 7302250) (hI : gIs E D cA h H) (hS : va_S (fun q => E.1 ≤ q) s.heap H locs)
    (kk : ∀ H1 : Heap, gIs E D cA (h ++ [.inr (ci, fs)]) H1 → va_S (fun q => E.1 ≤ q) s.heap H1 locs → W p l e room_1 s m #[Value.ref b] below meth c H1 locs (kc + 1) (kn + N) Z (F0 m (pc + 3) ls (.ref (gA E (64 + h.length)) :: rest))) : W p l e room_1 s m #[Value.ref b] below meth c H locs kc kn Z (F0 m pc ls rest) := by
  obtain ⟨C, T, ty, hc, hin, hty, w1, w2, w3, hfs, hcl⟩ := F
  have hts := X.2.2.2.2.2.1
  have hKn := X.2.2.2.2.2.2.2.2.2.1.1 ci _ hc
  refine W.newcK X.1 X.2.1 X.2.2.2.2.1 (hts _ w1) (hts _ w2) (hts _ w3) rfl hdg hcm hsm hKn.2.1 rfl fun H1 kC hkC e1 z1 o1 => ?_
  have e2 : (Value.ref H.size) = .ref (gA E (64 + h.length)) := by rw [hI.1, gA_new]
  have k1 := kk H1 (hI.push ⟨_, hc, ?_⟩ z1 o1) (gS.push hS z1 o1)
  · rw [e2]
    exact k1
  · show t_OB H.size _ _ _ _ (vp_V (fs.map (gV E)))
    rw [hcl]
    exact (u_born ty hts (fun w hw => hin w hw) hKn hkC e1 hty).to hfs
theorem lw_init {M2 : gM} {idx n d bb : Nat} {mc1 ms1 : Nat} {h2 : gH} (X : lwC p s m meth c b L xs E D cA) (F : gCi RL idx M2 n) (hdg : decode code pc = .ok (.invokespecial idx, 3)) (hn : 0 = n) (hls : ls.size = 4) (hcat : (rest.map fun v => v.category).sum ≤ 8) (hcm : kc + mc1 ≤ 600000) (hsm : kn + ms1 ≤ 7302250) (hd : d ≤ 1000) (hI : gIs E D cA h H) (hS : va_S (fun q => E.1 ≤ q) s.heap H locs)
    (hM : T M2 d mc1 ms1 [.ref bb] h (qV h2)) (kk : ∀ (H1 : Heap) (locs1 : List Loc), gIs E D cA h2 H1 → va_S (fun q => E.1 ≤ q) s.heap H1 locs1 → W p l e room_1 s m #[Value.ref b] below meth c H1 locs1 (kc + mc1) (kn + ms1) Z (F0 m (pc + 3) ls rest)) : W p l e room_1 s m #[Value.ref b] below meth c H locs kc kn Z (F0 m pc ls (.ref (gA E bb) :: rest)) := by
  obtain ⟨⟨w1, w2, w3, w4, w5⟩, w6, w7, w8⟩ := F
  have hts := X.2.2.2.2.2.1
  have hR : (gRm d mc1 ms1).frames + 1 ≤ room_1.frames ∧ 8 + (M2.2.2.2.1 + 11) + (gRm d mc1 ms1).locals ≤ room_1.locals := by
    constructor
    · show d + 1 ≤ 2048
      omega
    · show 8 + (M2.2.2.2.1 + 11) + 64 * d ≤ 84000
      omega
  have hr := va_runI (mc := mc1) (ms := ms1) (cells := kc) (slots := kn) (below := below) (p := p) (e := e) (meth := meth) (As := []) (rest := rest) (b := gA E bb) (n := n) (ws := gWs M2) (Ts := gT) (cc := code) (nL := 4) (own := RL) (index := idx) (rm := gRm d mc1 ms1) (Pc := gPc E D cA [.ref bb] h) (g := F0 m pc ls (.ref (gA E bb) :: rest)) (locs := locs) (H := H) ⟨X.1, X.2.1, X.2.2.2.1, X.2.2.2.2.1, hts⟩ (hM l E D cA) (cwI (R := room_1) n hts (gGoodT w1) (by rw [← w8]) rfl rfl (hts _ w2) (hts _ w3) (hts _ w6) w7 w4 hR) ⟨gBlind, fun U hU hW => lg_pre (as := [.ref bb]) X hI hS U hU hW⟩ rfl hn hls rfl (lv_room hcat) hdg ⟨hcm, hsm⟩
  intro T hT X0
  obtain ⟨v, st₀, t, T', L2, h0, X', hL, e1, e2, ⟨⟨r, h', hv, hq, hI'⟩, hz, hk⟩, stp⟩ := hr T hT X0
  obtain ⟨rfl, rfl⟩ := hq
  cases hv
  rw [h0] at hz hk
  obtain ⟨t2, a1, b1⟩ := kk T'.heap (locs ++ L2) (by rw [e1]; exact hI') ⟨Nat.le_trans hS.1 (by rw [e1]; exact hz), fun q h1 h2 => by rw [e1, hk q (Nat.lt_of_lt_of_le h1 hS.1) h2]; exact hS.2.1 q h1 h2, fun q hq => by
      rcases List.mem_append.mp hq with h | h
      · exact hS.2.2 q h
      · exact hL q h⟩ T' rfl X'
  exact ⟨t2, stp t2 a1, b1⟩
end LWS
/-- how the two are born -/
def LInit (Inv : Nat → gH → Prop) : Prop := ∃ h1 h3, F_X11_init 5000 64 [.inr (11, fs_11)] = some h1 ∧ h1.length = 56 ∧ F_X12_init 5000 120 (h1 ++ [.inr (12, fs_12)]) = some h3 ∧ Inv 0 h3
set_option maxHeartbeats 4000000 in
set_option maxRecDepth 100000 in
theorem whole_of {Inv : Nat → gH → Prop} (hin : LInit Inv) (mono : ∀ j h, j < 64 → Inv j h → Inv (j + 1) h) (s_feed : LS_feed Inv) (s_road : LS_road Inv) (s_of : LS_of Inv) (s_told : LS_told Inv) (s_rides : LS_rides Inv) (s_way : LS_way Inv) (s_line : LS_line Inv) (s_takes : LS_takes Inv) (s_ride : LS_ride Inv) (s_soonest : LS_soonest Inv) (s_price : LS_price Inv) (s_loses : LS_loses Inv) (s_row : LS_row Inv) (s_judged : LS_judged Inv) (s_mean : LS_mean Inv) (s_sure : LS_sure Inv) (s_gears : LS_gears Inv) (s_by : LS_by Inv) (s_wheel : LS_wheel Inv) (s_laps : LS_laps Inv) (s_act : LS_act Inv) (s_trace : LS_trace Inv) (s_as : LS_as Inv) (s_image : LS_image Inv) (s_undo : LS_undo Inv) (s_count : LS_count Inv) {p : Program} {e : Env} {s : State} {m : MethodId} {below : List Frame} {meth : Method} {c : Code} (l : Launch) {b L : Nat} {xs : Nat → Int32} (hL : L ≤ 320) (C0 : lw_At p s m meth c b L xs) : W p l e room_1 s m #[Value.ref b] below meth c s.heap [] 0 0 (lw_Z below #[Value.ref b] s) (entryFrame m ([Value.ref b] : List Value).toArray 4) := by
  obtain ⟨E, D, cA, X⟩ := n_all C0
  obtain ⟨g1, g3, i1, i2, i3, i4⟩ := hin
  have hl := lv_entry ([.ref b]) (n := 4) (Nat.le_of_ble_eq_true rfl)
  rw [lg_entry_eq]
  generalize (lg_sl ([.ref b]) ++ List.replicate (4 - (lg_sl ([.ref b])).length) Slot.unset).toArray = ls at hl ⊢
  have hl : lv_has ls 4 [(0, .ref b)] := hl
  have hS : va_S (fun q => E.1 ≤ q) s.heap s.heap [] := va_S.rf
  have hI : gIs E D cA [] s.heap := ⟨X.2.2.2.2.2.2.2.2.2.2.2.2.1.symm, fun k q hq => by simp [gW] at hq⟩
  refine lw_new X n_L_7 dL_law_0 (by decide) (by decide) hI hS (fun H hI hS => ?_)
  refine lv_dup X.1 X.2.1 dL_law_3 rfl ?_
  refine lw_init (bb := 64) (n := 0) X s_L_9_X11_init dL_law_4 rfl hl.1 (Nat.le_of_ble_eq_true rfl) (by decide) (by decide) (by decide) hI hS (t_X11_init (d := 0) i1) (fun H locs hI hS => ?_)
  refine lv_astore_n (lv' := [(1, .ref (gA E 64)), (0, .ref b)]) X.1 X.2.1 dL_law_7 rfl hl (by decide) rfl (fun ls hl => ?_)
  refine lw_new X n_L_10 dL_law_8 (by decide) (by decide) hI hS (fun H hI hS => ?_)
  rw [i2]
  refine lv_dup X.1 X.2.1 dL_law_11 rfl ?_
  refine lw_init (bb := 120) (n := 0) X s_L_12_X12_init dL_law_12 rfl hl.1 (Nat.le_of_ble_eq_true rfl) (by decide) (by decide) (by decide) hI hS (t_X12_init (d := 0) i3) (fun H locs hI hS => ?_)
  refine lv_astore_n (lv' := [(2, .ref (gA E 120)), (1, .ref (gA E 64)), (0, .ref b)]) X.1 X.2.1 dL_law_15 rfl hl (by decide) rfl (fun ls hl => ?_)
  refine lv_iconst (v := 0) X.1 X.2.1 dL_law_16 (by decide) ?_
  refine lv_istore_n (lv' := [(3, .int 0), (2, .ref (gA E 120)), (1, .ref (gA E 64)), (0, .ref b)]) X.1 X.2.1 dL_law_17 rfl hl (by decide) rfl (fun ls hl => ?_)
  refine W.widen (k := 100 + 0) (n := 20000 + 2 * 0) (by decide) (by decide) ?_
  exact law_loop mono s_feed s_road s_of s_told s_rides s_way s_line s_takes s_ride s_soonest s_price s_loses s_row s_judged s_mean s_sure s_gears s_by s_wheel s_laps s_act s_trace s_as s_image s_undo s_count hL 65 0 g3 (by omega) (by omega) i4 p l e s m below meth c E D cA X H locs ls hI hS hl
