def nT (i : Nat) : Term := match i with
  | 0 => .string "HillRider$Reader" 148
  | 1 => .string "HillRider$Reader" 154
  | 2 => .string "HillRider$Reader" 69
  | 3 => .string "HillRider$Reader" 71
  | 4 => .string "HillRider$Reader" 73
  | 5 => .string "HillRider$Reader" 75
  | 6 => .string "HillRider$Reader" 77
  | 7 => .string "HillRider$Reader" 79
  | 8 => .string "HillRider$Reader" 81
  | 9 => .string "HillRiderModel" 116
  | 10 => .string "HillRiderModel" 126
  | 11 => .string "HillRiderModel" 128
  | 12 => .string "HillRiderModel" 134
  | 13 => .string "HillRiderModel" 142
  | 14 => .string "HillRiderModel" 144
  | _ => .string "HillRiderModel" 146
theorem n_ex {args : Array Value} {s : State} (hs : ∀ c ∈ flatC (Jvm.Cond.and given_1 narrow_1), c.before args s = true) : ∀ i : Nat, i < 16 → (Cond.exactly (nT i) "java/lang/String").before args s = true := fun i hi => match i, hi with
  | 0, _ => hs _ (List.mem_of_getElem? (i := 192) (by decide +kernel))
  | 1, _ => hs _ (List.mem_of_getElem? (i := 208) (by decide +kernel))
  | 2, _ => hs _ (List.mem_of_getElem? (i := 114) (by decide +kernel))
  | 3, _ => hs _ (List.mem_of_getElem? (i := 123) (by decide +kernel))
  | 4, _ => hs _ (List.mem_of_getElem? (i := 132) (by decide +kernel))
  | 5, _ => hs _ (List.mem_of_getElem? (i := 142) (by decide +kernel))
  | 6, _ => hs _ (List.mem_of_getElem? (i := 152) (by decide +kernel))
  | 7, _ => hs _ (List.mem_of_getElem? (i := 165) (by decide +kernel))
  | 8, _ => hs _ (List.mem_of_getElem? (i := 178) (by decide +kernel))
  | 9, _ => hs _ (List.mem_of_getElem? (i := 223) (by decide +kernel))
  | 10, _ => hs _ (List.mem_of_getElem? (i := 242) (by decide +kernel))
  | 11, _ => hs _ (List.mem_of_getElem? (i := 260) (by decide +kernel))
  | 12, _ => hs _ (List.mem_of_getElem? (i := 277) (by decide +kernel))
  | 13, _ => hs _ (List.mem_of_getElem? (i := 296) (by decide +kernel))
  | 14, _ => hs _ (List.mem_of_getElem? (i := 363) (by decide +kernel))
  | 15, _ => hs _ (List.mem_of_getElem? (i := 389) (by decide +kernel))
  | n + 16, h => absurd h (by omega)
theorem n_co {args : Array Value} {s : State} (hs : ∀ c ∈ flatC (Jvm.Cond.and given_1 narrow_1), c.before args s = true) : ∀ i : Nat, i < 16 → (Cond.eq (.field (nT i) "java/lang/String" "coder" "B") (.int 0)).before args s = true := fun i hi => match i, hi with
  | 0, _ => hs _ (List.mem_of_getElem? (i := 193) (by decide +kernel))
  | 1, _ => hs _ (List.mem_of_getElem? (i := 209) (by decide +kernel))
  | 2, _ => hs _ (List.mem_of_getElem? (i := 115) (by decide +kernel))
  | 3, _ => hs _ (List.mem_of_getElem? (i := 124) (by decide +kernel))
  | 4, _ => hs _ (List.mem_of_getElem? (i := 133) (by decide +kernel))
  | 5, _ => hs _ (List.mem_of_getElem? (i := 143) (by decide +kernel))
  | 6, _ => hs _ (List.mem_of_getElem? (i := 153) (by decide +kernel))
  | 7, _ => hs _ (List.mem_of_getElem? (i := 166) (by decide +kernel))
  | 8, _ => hs _ (List.mem_of_getElem? (i := 179) (by decide +kernel))
  | 9, _ => hs _ (List.mem_of_getElem? (i := 224) (by decide +kernel))
  | 10, _ => hs _ (List.mem_of_getElem? (i := 243) (by decide +kernel))
  | 11, _ => hs _ (List.mem_of_getElem? (i := 261) (by decide +kernel))
  | 12, _ => hs _ (List.mem_of_getElem? (i := 278) (by decide +kernel))
  | 13, _ => hs _ (List.mem_of_getElem? (i := 297) (by decide +kernel))
  | 14, _ => hs _ (List.mem_of_getElem? (i := 364) (by decide +kernel))
  | 15, _ => hs _ (List.mem_of_getElem? (i := 390) (by decide +kernel))
  | n + 16, h => absurd h (by omega)
theorem n_ar {args : Array Value} {s : State} (hs : ∀ c ∈ flatC (Jvm.Cond.and given_1 narrow_1), c.before args s = true) : ∀ i : Nat, i < 16 → (Cond.arrayOf (.field (nT i) "java/lang/String" "value" "[B") .byte).before args s = true := fun i hi => match i, hi with
  | 0, _ => hs _ (List.mem_of_getElem? (i := 194) (by decide +kernel))
  | 1, _ => hs _ (List.mem_of_getElem? (i := 210) (by decide +kernel))
  | 2, _ => hs _ (List.mem_of_getElem? (i := 116) (by decide +kernel))
  | 3, _ => hs _ (List.mem_of_getElem? (i := 125) (by decide +kernel))
  | 4, _ => hs _ (List.mem_of_getElem? (i := 134) (by decide +kernel))
  | 5, _ => hs _ (List.mem_of_getElem? (i := 144) (by decide +kernel))
  | 6, _ => hs _ (List.mem_of_getElem? (i := 154) (by decide +kernel))
  | 7, _ => hs _ (List.mem_of_getElem? (i := 167) (by decide +kernel))
  | 8, _ => hs _ (List.mem_of_getElem? (i := 180) (by decide +kernel))
  | 9, _ => hs _ (List.mem_of_getElem? (i := 225) (by decide +kernel))
  | 10, _ => hs _ (List.mem_of_getElem? (i := 244) (by decide +kernel))
  | 11, _ => hs _ (List.mem_of_getElem? (i := 262) (by decide +kernel))
  | 12, _ => hs _ (List.mem_of_getElem? (i := 279) (by decide +kernel))
  | 13, _ => hs _ (List.mem_of_getElem? (i := 298) (by decide +kernel))
  | 14, _ => hs _ (List.mem_of_getElem? (i := 365) (by decide +kernel))
  | 15, _ => hs _ (List.mem_of_getElem? (i := 391) (by decide +kernel))
  | n + 16, h => absurd h (by omega)
theorem n_le {args : Array Value} {s : State} (hs : ∀ c ∈ flatC (Jvm.Cond.and given_1 narrow_1), c.before args s = true) : ∀ i : Nat, i < 16 → (Cond.eq (.length (.field (nT i) "java/lang/String" "value" "[B")) (.int (Int32.ofNat (gLen.getD i 0)))).before args s = true := fun i hi => match i, hi with
  | 0, _ => hs _ (List.mem_of_getElem? (i := 195) (by decide +kernel))
  | 1, _ => hs _ (List.mem_of_getElem? (i := 211) (by decide +kernel))
  | 2, _ => hs _ (List.mem_of_getElem? (i := 117) (by decide +kernel))
  | 3, _ => hs _ (List.mem_of_getElem? (i := 126) (by decide +kernel))
  | 4, _ => hs _ (List.mem_of_getElem? (i := 135) (by decide +kernel))
  | 5, _ => hs _ (List.mem_of_getElem? (i := 145) (by decide +kernel))
  | 6, _ => hs _ (List.mem_of_getElem? (i := 155) (by decide +kernel))
  | 7, _ => hs _ (List.mem_of_getElem? (i := 168) (by decide +kernel))
  | 8, _ => hs _ (List.mem_of_getElem? (i := 181) (by decide +kernel))
  | 9, _ => hs _ (List.mem_of_getElem? (i := 226) (by decide +kernel))
  | 10, _ => hs _ (List.mem_of_getElem? (i := 245) (by decide +kernel))
  | 11, _ => hs _ (List.mem_of_getElem? (i := 263) (by decide +kernel))
  | 12, _ => hs _ (List.mem_of_getElem? (i := 280) (by decide +kernel))
  | 13, _ => hs _ (List.mem_of_getElem? (i := 299) (by decide +kernel))
  | 14, _ => hs _ (List.mem_of_getElem? (i := 366) (by decide +kernel))
  | 15, _ => hs _ (List.mem_of_getElem? (i := 392) (by decide +kernel))
  | n + 16, h => absurd h (by omega)
theorem n_el {args : Array Value} {s : State} (hs : ∀ c ∈ flatC (Jvm.Cond.and given_1 narrow_1), c.before args s = true) : ∀ i : Nat, i < 16 → ∀ j : Nat, j < gLen.getD i 0 → (Cond.eq (.elem (.field (nT i) "java/lang/String" "value" "[B") (.int (Int32.ofNat j))) (.int ((gByt.getD i []).getD j 0))).before args s = true := fun i hi => match i, hi with
  | 0, _ => fun j hj => match j, hj with
      | 0, _ => hs _ (List.mem_of_getElem? (i := 196) (by decide +kernel))
      | 1, _ => hs _ (List.mem_of_getElem? (i := 197) (by decide +kernel))
      | 2, _ => hs _ (List.mem_of_getElem? (i := 198) (by decide +kernel))
      | 3, _ => hs _ (List.mem_of_getElem? (i := 199) (by decide +kernel))
      | 4, _ => hs _ (List.mem_of_getElem? (i := 200) (by decide +kernel))
      | n + 5, h => absurd h (by show ¬ n + 5 < 5; omega)
  | 1, _ => fun j hj => match j, hj with
      | 0, _ => hs _ (List.mem_of_getElem? (i := 212) (by decide +kernel))
      | 1, _ => hs _ (List.mem_of_getElem? (i := 213) (by decide +kernel))
      | 2, _ => hs _ (List.mem_of_getElem? (i := 214) (by decide +kernel))
      | n + 3, h => absurd h (by show ¬ n + 3 < 3; omega)
  | 2, _ => fun j hj => match j, hj with
      | 0, _ => hs _ (List.mem_of_getElem? (i := 118) (by decide +kernel))
      | 1, _ => hs _ (List.mem_of_getElem? (i := 119) (by decide +kernel))
      | 2, _ => hs _ (List.mem_of_getElem? (i := 120) (by decide +kernel))
      | 3, _ => hs _ (List.mem_of_getElem? (i := 121) (by decide +kernel))
      | 4, _ => hs _ (List.mem_of_getElem? (i := 122) (by decide +kernel))
      | n + 5, h => absurd h (by show ¬ n + 5 < 5; omega)
  | 3, _ => fun j hj => match j, hj with
      | 0, _ => hs _ (List.mem_of_getElem? (i := 127) (by decide +kernel))
      | 1, _ => hs _ (List.mem_of_getElem? (i := 128) (by decide +kernel))
      | 2, _ => hs _ (List.mem_of_getElem? (i := 129) (by decide +kernel))
      | 3, _ => hs _ (List.mem_of_getElem? (i := 130) (by decide +kernel))
      | n + 4, h => absurd h (by show ¬ n + 4 < 4; omega)
  | 4, _ => fun j hj => match j, hj with
      | 0, _ => hs _ (List.mem_of_getElem? (i := 136) (by decide +kernel))
      | 1, _ => hs _ (List.mem_of_getElem? (i := 137) (by decide +kernel))
      | 2, _ => hs _ (List.mem_of_getElem? (i := 138) (by decide +kernel))
      | 3, _ => hs _ (List.mem_of_getElem? (i := 139) (by decide +kernel))
      | n + 4, h => absurd h (by show ¬ n + 4 < 4; omega)
  | 5, _ => fun j hj => match j, hj with
      | 0, _ => hs _ (List.mem_of_getElem? (i := 146) (by decide +kernel))
      | 1, _ => hs _ (List.mem_of_getElem? (i := 147) (by decide +kernel))
      | 2, _ => hs _ (List.mem_of_getElem? (i := 148) (by decide +kernel))
      | n + 3, h => absurd h (by show ¬ n + 3 < 3; omega)
  | 6, _ => fun j hj => match j, hj with
      | 0, _ => hs _ (List.mem_of_getElem? (i := 156) (by decide +kernel))
      | 1, _ => hs _ (List.mem_of_getElem? (i := 157) (by decide +kernel))
      | 2, _ => hs _ (List.mem_of_getElem? (i := 158) (by decide +kernel))
      | 3, _ => hs _ (List.mem_of_getElem? (i := 159) (by decide +kernel))
      | 4, _ => hs _ (List.mem_of_getElem? (i := 160) (by decide +kernel))
      | n + 5, h => absurd h (by show ¬ n + 5 < 5; omega)
  | 7, _ => fun j hj => match j, hj with
      | 0, _ => hs _ (List.mem_of_getElem? (i := 169) (by decide +kernel))
      | 1, _ => hs _ (List.mem_of_getElem? (i := 170) (by decide +kernel))
      | 2, _ => hs _ (List.mem_of_getElem? (i := 171) (by decide +kernel))
      | 3, _ => hs _ (List.mem_of_getElem? (i := 172) (by decide +kernel))
      | n + 4, h => absurd h (by show ¬ n + 4 < 4; omega)
  | 8, _ => fun j hj => match j, hj with
      | 0, _ => hs _ (List.mem_of_getElem? (i := 182) (by decide +kernel))
      | 1, _ => hs _ (List.mem_of_getElem? (i := 183) (by decide +kernel))
      | 2, _ => hs _ (List.mem_of_getElem? (i := 184) (by decide +kernel))
      | 3, _ => hs _ (List.mem_of_getElem? (i := 185) (by decide +kernel))
      | n + 4, h => absurd h (by show ¬ n + 4 < 4; omega)
  | 9, _ => fun j hj => match j, hj with
      | 0, _ => hs _ (List.mem_of_getElem? (i := 227) (by decide +kernel))
      | 1, _ => hs _ (List.mem_of_getElem? (i := 228) (by decide +kernel))
      | 2, _ => hs _ (List.mem_of_getElem? (i := 229) (by decide +kernel))
      | 3, _ => hs _ (List.mem_of_getElem? (i := 230) (by decide +kernel))
      | 4, _ => hs _ (List.mem_of_getElem? (i := 231) (by decide +kernel))
      | 5, _ => hs _ (List.mem_of_getElem? (i := 232) (by decide +kernel))
      | n + 6, h => absurd h (by show ¬ n + 6 < 6; omega)
  | 10, _ => fun j hj => match j, hj with
      | 0, _ => hs _ (List.mem_of_getElem? (i := 246) (by decide +kernel))
      | 1, _ => hs _ (List.mem_of_getElem? (i := 247) (by decide +kernel))
      | 2, _ => hs _ (List.mem_of_getElem? (i := 248) (by decide +kernel))
      | 3, _ => hs _ (List.mem_of_getElem? (i := 249) (by decide +kernel))
      | n + 4, h => absurd h (by show ¬ n + 4 < 4; omega)
  | 11, _ => fun j hj => match j, hj with
      | 0, _ => hs _ (List.mem_of_getElem? (i := 264) (by decide +kernel))
      | 1, _ => hs _ (List.mem_of_getElem? (i := 265) (by decide +kernel))
      | n + 2, h => absurd h (by show ¬ n + 2 < 2; omega)
  | 12, _ => fun j hj => match j, hj with
      | 0, _ => hs _ (List.mem_of_getElem? (i := 281) (by decide +kernel))
      | 1, _ => hs _ (List.mem_of_getElem? (i := 282) (by decide +kernel))
      | 2, _ => hs _ (List.mem_of_getElem? (i := 283) (by decide +kernel))
      | n + 3, h => absurd h (by show ¬ n + 3 < 3; omega)
  | 13, _ => fun j hj => match j, hj with
      | 0, _ => hs _ (List.mem_of_getElem? (i := 300) (by decide +kernel))
      | 1, _ => hs _ (List.mem_of_getElem? (i := 301) (by decide +kernel))
      | 2, _ => hs _ (List.mem_of_getElem? (i := 302) (by decide +kernel))
      | 3, _ => hs _ (List.mem_of_getElem? (i := 303) (by decide +kernel))
      | 4, _ => hs _ (List.mem_of_getElem? (i := 304) (by decide +kernel))
      | n + 5, h => absurd h (by show ¬ n + 5 < 5; omega)
  | 14, _ => fun j hj => match j, hj with
      | 0, _ => hs _ (List.mem_of_getElem? (i := 367) (by decide +kernel))
      | 1, _ => hs _ (List.mem_of_getElem? (i := 368) (by decide +kernel))
      | 2, _ => hs _ (List.mem_of_getElem? (i := 369) (by decide +kernel))
      | 3, _ => hs _ (List.mem_of_getElem? (i := 370) (by decide +kernel))
      | 4, _ => hs _ (List.mem_of_getElem? (i := 371) (by decide +kernel))
      | 5, _ => hs _ (List.mem_of_getElem? (i := 372) (by decide +kernel))
      | n + 6, h => absurd h (by show ¬ n + 6 < 6; omega)
  | 15, _ => fun j hj => match j, hj with
      | 0, _ => hs _ (List.mem_of_getElem? (i := 393) (by decide +kernel))
      | 1, _ => hs _ (List.mem_of_getElem? (i := 394) (by decide +kernel))
      | 2, _ => hs _ (List.mem_of_getElem? (i := 395) (by decide +kernel))
      | 3, _ => hs _ (List.mem_of_getElem? (i := 396) (by decide +kernel))
      | 4, _ => hs _ (List.mem_of_getElem? (i := 397) (by decide +kernel))
      | n + 5, h => absurd h (by show ¬ n + 5 < 5; omega)
  | n + 16, h => absurd h (by omega)
theorem n_ne {args : Array Value} {s : State} (hs : ∀ c ∈ flatC (Jvm.Cond.and given_1 narrow_1), c.before args s = true) : ∀ i : Nat, i < 16 → ∀ j : Nat, j < 16 → i ≠ j → (Cond.not (Cond.eq (nT i) (nT j))).before args s = true ∨ (Cond.not (Cond.eq (nT j) (nT i))).before args s = true := fun i hi => match i, hi with
  | 0, _ => fun j hj hne => match j, hj, hne with
      | 0, _, h => absurd rfl h
      | 1, _, _ => Or.inl (hs _ (List.mem_of_getElem? (i := 222) (by decide +kernel)))
      | 2, _, _ => Or.inr (hs _ (List.mem_of_getElem? (i := 201) (by decide +kernel)))
      | 3, _, _ => Or.inr (hs _ (List.mem_of_getElem? (i := 202) (by decide +kernel)))
      | 4, _, _ => Or.inr (hs _ (List.mem_of_getElem? (i := 203) (by decide +kernel)))
      | 5, _, _ => Or.inr (hs _ (List.mem_of_getElem? (i := 204) (by decide +kernel)))
      | 6, _, _ => Or.inr (hs _ (List.mem_of_getElem? (i := 205) (by decide +kernel)))
      | 7, _, _ => Or.inr (hs _ (List.mem_of_getElem? (i := 206) (by decide +kernel)))
      | 8, _, _ => Or.inr (hs _ (List.mem_of_getElem? (i := 207) (by decide +kernel)))
      | 9, _, _ => Or.inl (hs _ (List.mem_of_getElem? (i := 240) (by decide +kernel)))
      | 10, _, _ => Or.inl (hs _ (List.mem_of_getElem? (i := 257) (by decide +kernel)))
      | 11, _, _ => Or.inl (hs _ (List.mem_of_getElem? (i := 273) (by decide +kernel)))
      | 12, _, _ => Or.inl (hs _ (List.mem_of_getElem? (i := 291) (by decide +kernel)))
      | 13, _, _ => Or.inl (hs _ (List.mem_of_getElem? (i := 312) (by decide +kernel)))
      | 14, _, _ => Or.inl (hs _ (List.mem_of_getElem? (i := 380) (by decide +kernel)))
      | 15, _, _ => Or.inl (hs _ (List.mem_of_getElem? (i := 405) (by decide +kernel)))
      | n + 16, h, _ => absurd h (by omega)
  | 1, _ => fun j hj hne => match j, hj, hne with
      | 0, _, _ => Or.inr (hs _ (List.mem_of_getElem? (i := 222) (by decide +kernel)))
      | 1, _, h => absurd rfl h
      | 2, _, _ => Or.inr (hs _ (List.mem_of_getElem? (i := 215) (by decide +kernel)))
      | 3, _, _ => Or.inr (hs _ (List.mem_of_getElem? (i := 216) (by decide +kernel)))
      | 4, _, _ => Or.inr (hs _ (List.mem_of_getElem? (i := 217) (by decide +kernel)))
      | 5, _, _ => Or.inr (hs _ (List.mem_of_getElem? (i := 218) (by decide +kernel)))
      | 6, _, _ => Or.inr (hs _ (List.mem_of_getElem? (i := 219) (by decide +kernel)))
      | 7, _, _ => Or.inr (hs _ (List.mem_of_getElem? (i := 220) (by decide +kernel)))
      | 8, _, _ => Or.inr (hs _ (List.mem_of_getElem? (i := 221) (by decide +kernel)))
      | 9, _, _ => Or.inl (hs _ (List.mem_of_getElem? (i := 241) (by decide +kernel)))
      | 10, _, _ => Or.inl (hs _ (List.mem_of_getElem? (i := 258) (by decide +kernel)))
      | 11, _, _ => Or.inl (hs _ (List.mem_of_getElem? (i := 274) (by decide +kernel)))
      | 12, _, _ => Or.inl (hs _ (List.mem_of_getElem? (i := 292) (by decide +kernel)))
      | 13, _, _ => Or.inl (hs _ (List.mem_of_getElem? (i := 313) (by decide +kernel)))
      | 14, _, _ => Or.inl (hs _ (List.mem_of_getElem? (i := 381) (by decide +kernel)))
      | 15, _, _ => Or.inl (hs _ (List.mem_of_getElem? (i := 406) (by decide +kernel)))
      | n + 16, h, _ => absurd h (by omega)
  | 2, _ => fun j hj hne => match j, hj, hne with
      | 0, _, _ => Or.inl (hs _ (List.mem_of_getElem? (i := 201) (by decide +kernel)))
      | 1, _, _ => Or.inl (hs _ (List.mem_of_getElem? (i := 215) (by decide +kernel)))
      | 2, _, h => absurd rfl h
      | 3, _, _ => Or.inl (hs _ (List.mem_of_getElem? (i := 131) (by decide +kernel)))
      | 4, _, _ => Or.inl (hs _ (List.mem_of_getElem? (i := 140) (by decide +kernel)))
      | 5, _, _ => Or.inl (hs _ (List.mem_of_getElem? (i := 149) (by decide +kernel)))
      | 6, _, _ => Or.inl (hs _ (List.mem_of_getElem? (i := 161) (by decide +kernel)))
      | 7, _, _ => Or.inl (hs _ (List.mem_of_getElem? (i := 173) (by decide +kernel)))
      | 8, _, _ => Or.inl (hs _ (List.mem_of_getElem? (i := 186) (by decide +kernel)))
      | 9, _, _ => Or.inl (hs _ (List.mem_of_getElem? (i := 233) (by decide +kernel)))
      | 10, _, _ => Or.inl (hs _ (List.mem_of_getElem? (i := 250) (by decide +kernel)))
      | 11, _, _ => Or.inl (hs _ (List.mem_of_getElem? (i := 266) (by decide +kernel)))
      | 12, _, _ => Or.inl (hs _ (List.mem_of_getElem? (i := 284) (by decide +kernel)))
      | 13, _, _ => Or.inl (hs _ (List.mem_of_getElem? (i := 305) (by decide +kernel)))
      | 14, _, _ => Or.inl (hs _ (List.mem_of_getElem? (i := 373) (by decide +kernel)))
      | 15, _, _ => Or.inl (hs _ (List.mem_of_getElem? (i := 398) (by decide +kernel)))
      | n + 16, h, _ => absurd h (by omega)
  | 3, _ => fun j hj hne => match j, hj, hne with
      | 0, _, _ => Or.inl (hs _ (List.mem_of_getElem? (i := 202) (by decide +kernel)))
      | 1, _, _ => Or.inl (hs _ (List.mem_of_getElem? (i := 216) (by decide +kernel)))
      | 2, _, _ => Or.inr (hs _ (List.mem_of_getElem? (i := 131) (by decide +kernel)))
      | 3, _, h => absurd rfl h
      | 4, _, _ => Or.inl (hs _ (List.mem_of_getElem? (i := 141) (by decide +kernel)))
      | 5, _, _ => Or.inl (hs _ (List.mem_of_getElem? (i := 150) (by decide +kernel)))
      | 6, _, _ => Or.inl (hs _ (List.mem_of_getElem? (i := 162) (by decide +kernel)))
      | 7, _, _ => Or.inl (hs _ (List.mem_of_getElem? (i := 174) (by decide +kernel)))
      | 8, _, _ => Or.inl (hs _ (List.mem_of_getElem? (i := 187) (by decide +kernel)))
      | 9, _, _ => Or.inl (hs _ (List.mem_of_getElem? (i := 234) (by decide +kernel)))
      | 10, _, _ => Or.inl (hs _ (List.mem_of_getElem? (i := 251) (by decide +kernel)))
      | 11, _, _ => Or.inl (hs _ (List.mem_of_getElem? (i := 267) (by decide +kernel)))
      | 12, _, _ => Or.inl (hs _ (List.mem_of_getElem? (i := 285) (by decide +kernel)))
      | 13, _, _ => Or.inl (hs _ (List.mem_of_getElem? (i := 306) (by decide +kernel)))
      | 14, _, _ => Or.inl (hs _ (List.mem_of_getElem? (i := 374) (by decide +kernel)))
      | 15, _, _ => Or.inl (hs _ (List.mem_of_getElem? (i := 399) (by decide +kernel)))
      | n + 16, h, _ => absurd h (by omega)
  | 4, _ => fun j hj hne => match j, hj, hne with
      | 0, _, _ => Or.inl (hs _ (List.mem_of_getElem? (i := 203) (by decide +kernel)))
      | 1, _, _ => Or.inl (hs _ (List.mem_of_getElem? (i := 217) (by decide +kernel)))
      | 2, _, _ => Or.inr (hs _ (List.mem_of_getElem? (i := 140) (by decide +kernel)))
      | 3, _, _ => Or.inr (hs _ (List.mem_of_getElem? (i := 141) (by decide +kernel)))
      | 4, _, h => absurd rfl h
      | 5, _, _ => Or.inl (hs _ (List.mem_of_getElem? (i := 151) (by decide +kernel)))
      | 6, _, _ => Or.inl (hs _ (List.mem_of_getElem? (i := 163) (by decide +kernel)))
      | 7, _, _ => Or.inl (hs _ (List.mem_of_getElem? (i := 175) (by decide +kernel)))
      | 8, _, _ => Or.inl (hs _ (List.mem_of_getElem? (i := 188) (by decide +kernel)))
      | 9, _, _ => Or.inl (hs _ (List.mem_of_getElem? (i := 235) (by decide +kernel)))
      | 10, _, _ => Or.inl (hs _ (List.mem_of_getElem? (i := 252) (by decide +kernel)))
      | 11, _, _ => Or.inl (hs _ (List.mem_of_getElem? (i := 268) (by decide +kernel)))
      | 12, _, _ => Or.inl (hs _ (List.mem_of_getElem? (i := 286) (by decide +kernel)))
      | 13, _, _ => Or.inl (hs _ (List.mem_of_getElem? (i := 307) (by decide +kernel)))
      | 14, _, _ => Or.inl (hs _ (List.mem_of_getElem? (i := 375) (by decide +kernel)))
      | 15, _, _ => Or.inl (hs _ (List.mem_of_getElem? (i := 400) (by decide +kernel)))
      | n + 16, h, _ => absurd h (by omega)
  | 5, _ => fun j hj hne => match j, hj, hne with
      | 0, _, _ => Or.inl (hs _ (List.mem_of_getElem? (i := 204) (by decide +kernel)))
      | 1, _, _ => Or.inl (hs _ (List.mem_of_getElem? (i := 218) (by decide +kernel)))
      | 2, _, _ => Or.inr (hs _ (List.mem_of_getElem? (i := 149) (by decide +kernel)))
      | 3, _, _ => Or.inr (hs _ (List.mem_of_getElem? (i := 150) (by decide +kernel)))
      | 4, _, _ => Or.inr (hs _ (List.mem_of_getElem? (i := 151) (by decide +kernel)))
      | 5, _, h => absurd rfl h
      | 6, _, _ => Or.inl (hs _ (List.mem_of_getElem? (i := 164) (by decide +kernel)))
      | 7, _, _ => Or.inl (hs _ (List.mem_of_getElem? (i := 176) (by decide +kernel)))
      | 8, _, _ => Or.inl (hs _ (List.mem_of_getElem? (i := 189) (by decide +kernel)))
      | 9, _, _ => Or.inl (hs _ (List.mem_of_getElem? (i := 236) (by decide +kernel)))
      | 10, _, _ => Or.inl (hs _ (List.mem_of_getElem? (i := 253) (by decide +kernel)))
      | 11, _, _ => Or.inl (hs _ (List.mem_of_getElem? (i := 269) (by decide +kernel)))
      | 12, _, _ => Or.inl (hs _ (List.mem_of_getElem? (i := 287) (by decide +kernel)))
      | 13, _, _ => Or.inl (hs _ (List.mem_of_getElem? (i := 308) (by decide +kernel)))
      | 14, _, _ => Or.inl (hs _ (List.mem_of_getElem? (i := 376) (by decide +kernel)))
      | 15, _, _ => Or.inl (hs _ (List.mem_of_getElem? (i := 401) (by decide +kernel)))
      | n + 16, h, _ => absurd h (by omega)
  | 6, _ => fun j hj hne => match j, hj, hne with
      | 0, _, _ => Or.inl (hs _ (List.mem_of_getElem? (i := 205) (by decide +kernel)))
      | 1, _, _ => Or.inl (hs _ (List.mem_of_getElem? (i := 219) (by decide +kernel)))
      | 2, _, _ => Or.inr (hs _ (List.mem_of_getElem? (i := 161) (by decide +kernel)))
      | 3, _, _ => Or.inr (hs _ (List.mem_of_getElem? (i := 162) (by decide +kernel)))
      | 4, _, _ => Or.inr (hs _ (List.mem_of_getElem? (i := 163) (by decide +kernel)))
      | 5, _, _ => Or.inr (hs _ (List.mem_of_getElem? (i := 164) (by decide +kernel)))
      | 6, _, h => absurd rfl h
      | 7, _, _ => Or.inl (hs _ (List.mem_of_getElem? (i := 177) (by decide +kernel)))
      | 8, _, _ => Or.inl (hs _ (List.mem_of_getElem? (i := 190) (by decide +kernel)))
      | 9, _, _ => Or.inl (hs _ (List.mem_of_getElem? (i := 237) (by decide +kernel)))
      | 10, _, _ => Or.inl (hs _ (List.mem_of_getElem? (i := 254) (by decide +kernel)))
      | 11, _, _ => Or.inl (hs _ (List.mem_of_getElem? (i := 270) (by decide +kernel)))
      | 12, _, _ => Or.inl (hs _ (List.mem_of_getElem? (i := 288) (by decide +kernel)))
      | 13, _, _ => Or.inl (hs _ (List.mem_of_getElem? (i := 309) (by decide +kernel)))
      | 14, _, _ => Or.inl (hs _ (List.mem_of_getElem? (i := 377) (by decide +kernel)))
      | 15, _, _ => Or.inl (hs _ (List.mem_of_getElem? (i := 402) (by decide +kernel)))
      | n + 16, h, _ => absurd h (by omega)
  | 7, _ => fun j hj hne => match j, hj, hne with
      | 0, _, _ => Or.inl (hs _ (List.mem_of_getElem? (i := 206) (by decide +kernel)))
      | 1, _, _ => Or.inl (hs _ (List.mem_of_getElem? (i := 220) (by decide +kernel)))
      | 2, _, _ => Or.inr (hs _ (List.mem_of_getElem? (i := 173) (by decide +kernel)))
      | 3, _, _ => Or.inr (hs _ (List.mem_of_getElem? (i := 174) (by decide +kernel)))
      | 4, _, _ => Or.inr (hs _ (List.mem_of_getElem? (i := 175) (by decide +kernel)))
      | 5, _, _ => Or.inr (hs _ (List.mem_of_getElem? (i := 176) (by decide +kernel)))
      | 6, _, _ => Or.inr (hs _ (List.mem_of_getElem? (i := 177) (by decide +kernel)))
      | 7, _, h => absurd rfl h
      | 8, _, _ => Or.inl (hs _ (List.mem_of_getElem? (i := 191) (by decide +kernel)))
      | 9, _, _ => Or.inl (hs _ (List.mem_of_getElem? (i := 238) (by decide +kernel)))
      | 10, _, _ => Or.inl (hs _ (List.mem_of_getElem? (i := 255) (by decide +kernel)))
      | 11, _, _ => Or.inl (hs _ (List.mem_of_getElem? (i := 271) (by decide +kernel)))
      | 12, _, _ => Or.inl (hs _ (List.mem_of_getElem? (i := 289) (by decide +kernel)))
      | 13, _, _ => Or.inl (hs _ (List.mem_of_getElem? (i := 310) (by decide +kernel)))
      | 14, _, _ => Or.inl (hs _ (List.mem_of_getElem? (i := 378) (by decide +kernel)))
      | 15, _, _ => Or.inl (hs _ (List.mem_of_getElem? (i := 403) (by decide +kernel)))
      | n + 16, h, _ => absurd h (by omega)
  | 8, _ => fun j hj hne => match j, hj, hne with
      | 0, _, _ => Or.inl (hs _ (List.mem_of_getElem? (i := 207) (by decide +kernel)))
      | 1, _, _ => Or.inl (hs _ (List.mem_of_getElem? (i := 221) (by decide +kernel)))
      | 2, _, _ => Or.inr (hs _ (List.mem_of_getElem? (i := 186) (by decide +kernel)))
      | 3, _, _ => Or.inr (hs _ (List.mem_of_getElem? (i := 187) (by decide +kernel)))
      | 4, _, _ => Or.inr (hs _ (List.mem_of_getElem? (i := 188) (by decide +kernel)))
      | 5, _, _ => Or.inr (hs _ (List.mem_of_getElem? (i := 189) (by decide +kernel)))
      | 6, _, _ => Or.inr (hs _ (List.mem_of_getElem? (i := 190) (by decide +kernel)))
      | 7, _, _ => Or.inr (hs _ (List.mem_of_getElem? (i := 191) (by decide +kernel)))
      | 8, _, h => absurd rfl h
      | 9, _, _ => Or.inl (hs _ (List.mem_of_getElem? (i := 239) (by decide +kernel)))
      | 10, _, _ => Or.inl (hs _ (List.mem_of_getElem? (i := 256) (by decide +kernel)))
      | 11, _, _ => Or.inl (hs _ (List.mem_of_getElem? (i := 272) (by decide +kernel)))
      | 12, _, _ => Or.inl (hs _ (List.mem_of_getElem? (i := 290) (by decide +kernel)))
      | 13, _, _ => Or.inl (hs _ (List.mem_of_getElem? (i := 311) (by decide +kernel)))
      | 14, _, _ => Or.inl (hs _ (List.mem_of_getElem? (i := 379) (by decide +kernel)))
      | 15, _, _ => Or.inl (hs _ (List.mem_of_getElem? (i := 404) (by decide +kernel)))
      | n + 16, h, _ => absurd h (by omega)
  | 9, _ => fun j hj hne => match j, hj, hne with
      | 0, _, _ => Or.inr (hs _ (List.mem_of_getElem? (i := 240) (by decide +kernel)))
      | 1, _, _ => Or.inr (hs _ (List.mem_of_getElem? (i := 241) (by decide +kernel)))
      | 2, _, _ => Or.inr (hs _ (List.mem_of_getElem? (i := 233) (by decide +kernel)))
      | 3, _, _ => Or.inr (hs _ (List.mem_of_getElem? (i := 234) (by decide +kernel)))
      | 4, _, _ => Or.inr (hs _ (List.mem_of_getElem? (i := 235) (by decide +kernel)))
      | 5, _, _ => Or.inr (hs _ (List.mem_of_getElem? (i := 236) (by decide +kernel)))
      | 6, _, _ => Or.inr (hs _ (List.mem_of_getElem? (i := 237) (by decide +kernel)))
      | 7, _, _ => Or.inr (hs _ (List.mem_of_getElem? (i := 238) (by decide +kernel)))
      | 8, _, _ => Or.inr (hs _ (List.mem_of_getElem? (i := 239) (by decide +kernel)))
      | 9, _, h => absurd rfl h
      | 10, _, _ => Or.inl (hs _ (List.mem_of_getElem? (i := 259) (by decide +kernel)))
      | 11, _, _ => Or.inl (hs _ (List.mem_of_getElem? (i := 275) (by decide +kernel)))
      | 12, _, _ => Or.inl (hs _ (List.mem_of_getElem? (i := 293) (by decide +kernel)))
      | 13, _, _ => Or.inl (hs _ (List.mem_of_getElem? (i := 314) (by decide +kernel)))
      | 14, _, _ => Or.inl (hs _ (List.mem_of_getElem? (i := 382) (by decide +kernel)))
      | 15, _, _ => Or.inl (hs _ (List.mem_of_getElem? (i := 407) (by decide +kernel)))
      | n + 16, h, _ => absurd h (by omega)
  | 10, _ => fun j hj hne => match j, hj, hne with
      | 0, _, _ => Or.inr (hs _ (List.mem_of_getElem? (i := 257) (by decide +kernel)))
      | 1, _, _ => Or.inr (hs _ (List.mem_of_getElem? (i := 258) (by decide +kernel)))
      | 2, _, _ => Or.inr (hs _ (List.mem_of_getElem? (i := 250) (by decide +kernel)))
      | 3, _, _ => Or.inr (hs _ (List.mem_of_getElem? (i := 251) (by decide +kernel)))
      | 4, _, _ => Or.inr (hs _ (List.mem_of_getElem? (i := 252) (by decide +kernel)))
      | 5, _, _ => Or.inr (hs _ (List.mem_of_getElem? (i := 253) (by decide +kernel)))
      | 6, _, _ => Or.inr (hs _ (List.mem_of_getElem? (i := 254) (by decide +kernel)))
      | 7, _, _ => Or.inr (hs _ (List.mem_of_getElem? (i := 255) (by decide +kernel)))
      | 8, _, _ => Or.inr (hs _ (List.mem_of_getElem? (i := 256) (by decide +kernel)))
      | 9, _, _ => Or.inr (hs _ (List.mem_of_getElem? (i := 259) (by decide +kernel)))
      | 10, _, h => absurd rfl h
      | 11, _, _ => Or.inl (hs _ (List.mem_of_getElem? (i := 276) (by decide +kernel)))
      | 12, _, _ => Or.inl (hs _ (List.mem_of_getElem? (i := 294) (by decide +kernel)))
      | 13, _, _ => Or.inl (hs _ (List.mem_of_getElem? (i := 315) (by decide +kernel)))
      | 14, _, _ => Or.inl (hs _ (List.mem_of_getElem? (i := 383) (by decide +kernel)))
      | 15, _, _ => Or.inl (hs _ (List.mem_of_getElem? (i := 408) (by decide +kernel)))
      | n + 16, h, _ => absurd h (by omega)
  | 11, _ => fun j hj hne => match j, hj, hne with
      | 0, _, _ => Or.inr (hs _ (List.mem_of_getElem? (i := 273) (by decide +kernel)))
      | 1, _, _ => Or.inr (hs _ (List.mem_of_getElem? (i := 274) (by decide +kernel)))
      | 2, _, _ => Or.inr (hs _ (List.mem_of_getElem? (i := 266) (by decide +kernel)))
      | 3, _, _ => Or.inr (hs _ (List.mem_of_getElem? (i := 267) (by decide +kernel)))
      | 4, _, _ => Or.inr (hs _ (List.mem_of_getElem? (i := 268) (by decide +kernel)))
      | 5, _, _ => Or.inr (hs _ (List.mem_of_getElem? (i := 269) (by decide +kernel)))
      | 6, _, _ => Or.inr (hs _ (List.mem_of_getElem? (i := 270) (by decide +kernel)))
      | 7, _, _ => Or.inr (hs _ (List.mem_of_getElem? (i := 271) (by decide +kernel)))
      | 8, _, _ => Or.inr (hs _ (List.mem_of_getElem? (i := 272) (by decide +kernel)))
      | 9, _, _ => Or.inr (hs _ (List.mem_of_getElem? (i := 275) (by decide +kernel)))
      | 10, _, _ => Or.inr (hs _ (List.mem_of_getElem? (i := 276) (by decide +kernel)))
      | 11, _, h => absurd rfl h
      | 12, _, _ => Or.inl (hs _ (List.mem_of_getElem? (i := 295) (by decide +kernel)))
      | 13, _, _ => Or.inl (hs _ (List.mem_of_getElem? (i := 316) (by decide +kernel)))
      | 14, _, _ => Or.inl (hs _ (List.mem_of_getElem? (i := 384) (by decide +kernel)))
      | 15, _, _ => Or.inl (hs _ (List.mem_of_getElem? (i := 409) (by decide +kernel)))
      | n + 16, h, _ => absurd h (by omega)
  | 12, _ => fun j hj hne => match j, hj, hne with
      | 0, _, _ => Or.inr (hs _ (List.mem_of_getElem? (i := 291) (by decide +kernel)))
      | 1, _, _ => Or.inr (hs _ (List.mem_of_getElem? (i := 292) (by decide +kernel)))
      | 2, _, _ => Or.inr (hs _ (List.mem_of_getElem? (i := 284) (by decide +kernel)))
      | 3, _, _ => Or.inr (hs _ (List.mem_of_getElem? (i := 285) (by decide +kernel)))
      | 4, _, _ => Or.inr (hs _ (List.mem_of_getElem? (i := 286) (by decide +kernel)))
      | 5, _, _ => Or.inr (hs _ (List.mem_of_getElem? (i := 287) (by decide +kernel)))
      | 6, _, _ => Or.inr (hs _ (List.mem_of_getElem? (i := 288) (by decide +kernel)))
      | 7, _, _ => Or.inr (hs _ (List.mem_of_getElem? (i := 289) (by decide +kernel)))
      | 8, _, _ => Or.inr (hs _ (List.mem_of_getElem? (i := 290) (by decide +kernel)))
      | 9, _, _ => Or.inr (hs _ (List.mem_of_getElem? (i := 293) (by decide +kernel)))
      | 10, _, _ => Or.inr (hs _ (List.mem_of_getElem? (i := 294) (by decide +kernel)))
      | 11, _, _ => Or.inr (hs _ (List.mem_of_getElem? (i := 295) (by decide +kernel)))
      | 12, _, h => absurd rfl h
      | 13, _, _ => Or.inl (hs _ (List.mem_of_getElem? (i := 317) (by decide +kernel)))
      | 14, _, _ => Or.inl (hs _ (List.mem_of_getElem? (i := 385) (by decide +kernel)))
      | 15, _, _ => Or.inl (hs _ (List.mem_of_getElem? (i := 410) (by decide +kernel)))
      | n + 16, h, _ => absurd h (by omega)
  | 13, _ => fun j hj hne => match j, hj, hne with
      | 0, _, _ => Or.inr (hs _ (List.mem_of_getElem? (i := 312) (by decide +kernel)))
      | 1, _, _ => Or.inr (hs _ (List.mem_of_getElem? (i := 313) (by decide +kernel)))
      | 2, _, _ => Or.inr (hs _ (List.mem_of_getElem? (i := 305) (by decide +kernel)))
      | 3, _, _ => Or.inr (hs _ (List.mem_of_getElem? (i := 306) (by decide +kernel)))
      | 4, _, _ => Or.inr (hs _ (List.mem_of_getElem? (i := 307) (by decide +kernel)))
      | 5, _, _ => Or.inr (hs _ (List.mem_of_getElem? (i := 308) (by decide +kernel)))
      | 6, _, _ => Or.inr (hs _ (List.mem_of_getElem? (i := 309) (by decide +kernel)))
      | 7, _, _ => Or.inr (hs _ (List.mem_of_getElem? (i := 310) (by decide +kernel)))
      | 8, _, _ => Or.inr (hs _ (List.mem_of_getElem? (i := 311) (by decide +kernel)))
      | 9, _, _ => Or.inr (hs _ (List.mem_of_getElem? (i := 314) (by decide +kernel)))
      | 10, _, _ => Or.inr (hs _ (List.mem_of_getElem? (i := 315) (by decide +kernel)))
      | 11, _, _ => Or.inr (hs _ (List.mem_of_getElem? (i := 316) (by decide +kernel)))
      | 12, _, _ => Or.inr (hs _ (List.mem_of_getElem? (i := 317) (by decide +kernel)))
      | 13, _, h => absurd rfl h
      | 14, _, _ => Or.inl (hs _ (List.mem_of_getElem? (i := 386) (by decide +kernel)))
      | 15, _, _ => Or.inl (hs _ (List.mem_of_getElem? (i := 411) (by decide +kernel)))
      | n + 16, h, _ => absurd h (by omega)
  | 14, _ => fun j hj hne => match j, hj, hne with
      | 0, _, _ => Or.inr (hs _ (List.mem_of_getElem? (i := 380) (by decide +kernel)))
      | 1, _, _ => Or.inr (hs _ (List.mem_of_getElem? (i := 381) (by decide +kernel)))
      | 2, _, _ => Or.inr (hs _ (List.mem_of_getElem? (i := 373) (by decide +kernel)))
      | 3, _, _ => Or.inr (hs _ (List.mem_of_getElem? (i := 374) (by decide +kernel)))
      | 4, _, _ => Or.inr (hs _ (List.mem_of_getElem? (i := 375) (by decide +kernel)))
      | 5, _, _ => Or.inr (hs _ (List.mem_of_getElem? (i := 376) (by decide +kernel)))
      | 6, _, _ => Or.inr (hs _ (List.mem_of_getElem? (i := 377) (by decide +kernel)))
      | 7, _, _ => Or.inr (hs _ (List.mem_of_getElem? (i := 378) (by decide +kernel)))
      | 8, _, _ => Or.inr (hs _ (List.mem_of_getElem? (i := 379) (by decide +kernel)))
      | 9, _, _ => Or.inr (hs _ (List.mem_of_getElem? (i := 382) (by decide +kernel)))
      | 10, _, _ => Or.inr (hs _ (List.mem_of_getElem? (i := 383) (by decide +kernel)))
      | 11, _, _ => Or.inr (hs _ (List.mem_of_getElem? (i := 384) (by decide +kernel)))
      | 12, _, _ => Or.inr (hs _ (List.mem_of_getElem? (i := 385) (by decide +kernel)))
      | 13, _, _ => Or.inr (hs _ (List.mem_of_getElem? (i := 386) (by decide +kernel)))
      | 14, _, h => absurd rfl h
      | 15, _, _ => Or.inl (hs _ (List.mem_of_getElem? (i := 414) (by decide +kernel)))
      | n + 16, h, _ => absurd h (by omega)
  | 15, _ => fun j hj hne => match j, hj, hne with
      | 0, _, _ => Or.inr (hs _ (List.mem_of_getElem? (i := 405) (by decide +kernel)))
      | 1, _, _ => Or.inr (hs _ (List.mem_of_getElem? (i := 406) (by decide +kernel)))
      | 2, _, _ => Or.inr (hs _ (List.mem_of_getElem? (i := 398) (by decide +kernel)))
      | 3, _, _ => Or.inr (hs _ (List.mem_of_getElem? (i := 399) (by decide +kernel)))
      | 4, _, _ => Or.inr (hs _ (List.mem_of_getElem? (i := 400) (by decide +kernel)))
      | 5, _, _ => Or.inr (hs _ (List.mem_of_getElem? (i := 401) (by decide +kernel)))
      | 6, _, _ => Or.inr (hs _ (List.mem_of_getElem? (i := 402) (by decide +kernel)))
      | 7, _, _ => Or.inr (hs _ (List.mem_of_getElem? (i := 403) (by decide +kernel)))
      | 8, _, _ => Or.inr (hs _ (List.mem_of_getElem? (i := 404) (by decide +kernel)))
      | 9, _, _ => Or.inr (hs _ (List.mem_of_getElem? (i := 407) (by decide +kernel)))
      | 10, _, _ => Or.inr (hs _ (List.mem_of_getElem? (i := 408) (by decide +kernel)))
      | 11, _, _ => Or.inr (hs _ (List.mem_of_getElem? (i := 409) (by decide +kernel)))
      | 12, _, _ => Or.inr (hs _ (List.mem_of_getElem? (i := 410) (by decide +kernel)))
      | 13, _, _ => Or.inr (hs _ (List.mem_of_getElem? (i := 411) (by decide +kernel)))
      | 14, _, _ => Or.inr (hs _ (List.mem_of_getElem? (i := 414) (by decide +kernel)))
      | 15, _, h => absurd rfl h
      | n + 16, h, _ => absurd h (by omega)
  | n + 16, h => absurd h (by omega)
theorem n_no {args : Array Value} {s : State} (hs : ∀ c ∈ flatC (Jvm.Cond.and given_1 narrow_1), c.before args s = true) : ∀ q ∈ gNot, va_Nc q.1 q.2 s := by
  intro q hq
  simp only [gNot, List.mem_cons, List.not_mem_nil, or_false] at hq
  rcases hq with rfl | rfl | rfl | rfl | rfl | rfl | rfl | rfl | rfl | rfl | rfl | rfl | rfl | rfl | rfl | rfl | rfl | rfl | rfl | rfl | rfl | rfl | rfl | rfl | rfl | rfl | rfl | rfl | rfl | rfl | rfl | rfl | rfl
  · exact va_Nc.of (hs _ (List.mem_of_getElem? (i := 30) (by decide +kernel)))
  · exact va_Nc.of (hs _ (List.mem_of_getElem? (i := 41) (by decide +kernel)))
  · exact va_Nc.of (hs _ (List.mem_of_getElem? (i := 53) (by decide +kernel)))
  · exact va_Nc.of (hs _ (List.mem_of_getElem? (i := 65) (by decide +kernel)))
  · exact va_Nc.of (hs _ (List.mem_of_getElem? (i := 20) (by decide +kernel)))
  · exact va_Nc.of (hs _ (List.mem_of_getElem? (i := 77) (by decide +kernel)))
  · exact va_Nc.of (hs _ (List.mem_of_getElem? (i := 37) (by decide +kernel)))
  · exact va_Nc.of (hs _ (List.mem_of_getElem? (i := 48) (by decide +kernel)))
  · exact va_Nc.of (hs _ (List.mem_of_getElem? (i := 60) (by decide +kernel)))
  · exact va_Nc.of (hs _ (List.mem_of_getElem? (i := 15) (by decide +kernel)))
  · exact va_Nc.of (hs _ (List.mem_of_getElem? (i := 72) (by decide +kernel)))
  · exact va_Nc.of (hs _ (List.mem_of_getElem? (i := 27) (by decide +kernel)))
  · exact va_Nc.of (hs _ (List.mem_of_getElem? (i := 49) (by decide +kernel)))
  · exact va_Nc.of (hs _ (List.mem_of_getElem? (i := 61) (by decide +kernel)))
  · exact va_Nc.of (hs _ (List.mem_of_getElem? (i := 16) (by decide +kernel)))
  · exact va_Nc.of (hs _ (List.mem_of_getElem? (i := 73) (by decide +kernel)))
  · exact va_Nc.of (hs _ (List.mem_of_getElem? (i := 38) (by decide +kernel)))
  · exact va_Nc.of (hs _ (List.mem_of_getElem? (i := 62) (by decide +kernel)))
  · exact va_Nc.of (hs _ (List.mem_of_getElem? (i := 17) (by decide +kernel)))
  · exact va_Nc.of (hs _ (List.mem_of_getElem? (i := 74) (by decide +kernel)))
  · exact va_Nc.of (hs _ (List.mem_of_getElem? (i := 39) (by decide +kernel)))
  · exact va_Nc.of (hs _ (List.mem_of_getElem? (i := 50) (by decide +kernel)))
  · exact va_Nc.of (hs _ (List.mem_of_getElem? (i := 18) (by decide +kernel)))
  · exact va_Nc.of (hs _ (List.mem_of_getElem? (i := 75) (by decide +kernel)))
  · exact va_Nc.of (hs _ (List.mem_of_getElem? (i := 28) (by decide +kernel)))
  · exact va_Nc.of (hs _ (List.mem_of_getElem? (i := 51) (by decide +kernel)))
  · exact va_Nc.of (hs _ (List.mem_of_getElem? (i := 63) (by decide +kernel)))
  · exact va_Nc.of (hs _ (List.mem_of_getElem? (i := 76) (by decide +kernel)))
  · exact va_Nc.of (hs _ (List.mem_of_getElem? (i := 29) (by decide +kernel)))
  · exact va_Nc.of (hs _ (List.mem_of_getElem? (i := 40) (by decide +kernel)))
  · exact va_Nc.of (hs _ (List.mem_of_getElem? (i := 52) (by decide +kernel)))
  · exact va_Nc.of (hs _ (List.mem_of_getElem? (i := 64) (by decide +kernel)))
  · exact va_Nc.of (hs _ (List.mem_of_getElem? (i := 19) (by decide +kernel)))
theorem n_ye {args : Array Value} {s : State} (ht : ∀ w ∈ tables_1, w.before args s = true) : ∀ q ∈ gYes, gYc q.1 q.2 s := by
  intro q hq
  simp only [gYes, List.mem_cons, List.not_mem_nil, or_false] at hq
  rcases hq with rfl | rfl | rfl | rfl | rfl | rfl | rfl | rfl | rfl | rfl
  · exact gYc.of (ht _ (List.mem_of_getElem? (i := 1365) (by decide +kernel)))
  · exact gYc.of (ht _ (List.mem_of_getElem? (i := 1366) (by decide +kernel)))
  · exact gYc.of (ht _ (List.mem_of_getElem? (i := 1367) (by decide +kernel)))
  · exact gYc.of (ht _ (List.mem_of_getElem? (i := 1370) (by decide +kernel)))
  · exact gYc.of (ht _ (List.mem_of_getElem? (i := 1371) (by decide +kernel)))
  · exact gYc.of (ht _ (List.mem_of_getElem? (i := 1372) (by decide +kernel)))
  · exact gYc.of (ht _ (List.mem_of_getElem? (i := 1368) (by decide +kernel)))
  · exact gYc.of (ht _ (List.mem_of_getElem? (i := 1369) (by decide +kernel)))
  · exact gYc.of (ht _ (List.mem_of_getElem? (i := 1373) (by decide +kernel)))
  · obtain ⟨c, -, h1, -⟩ := Cond.instantiable_spec (ht (Cond.instantiable "HillRider$Way" 2) (List.mem_of_getElem? (i := 645) (by decide +kernel)))
    exact ⟨c, c, h1, h1, va_asg _ _⟩
theorem n_ns {args : Array Value} {s : State} (ht : ∀ w ∈ tables_1, w.before args s = true) : ∀ q ∈ gNest, va_Nw (.methodLinkNest q.1 q.2.1 q.2.2.1 q.2.2.2) s := by
  intro q hq
  simp only [gNest, List.mem_cons, List.not_mem_nil, or_false] at hq
  rcases hq with rfl | rfl | rfl | rfl | rfl | rfl | rfl
  · exact va_Nw.of rfl (ht _ (List.mem_of_getElem? (i := 31) (by decide +kernel)))
  · exact va_Nw.of rfl (ht _ (List.mem_of_getElem? (i := 169) (by decide +kernel)))
  · exact va_Nw.of rfl (ht _ (List.mem_of_getElem? (i := 191) (by decide +kernel)))
  · exact va_Nw.of rfl (ht _ (List.mem_of_getElem? (i := 291) (by decide +kernel)))
  · exact va_Nw.of rfl (ht _ (List.mem_of_getElem? (i := 300) (by decide +kernel)))
  · exact va_Nw.of rfl (ht _ (List.mem_of_getElem? (i := 506) (by decide +kernel)))
  · exact va_Nw.of rfl (ht _ (List.mem_of_getElem? (i := 954) (by decide +kernel)))
theorem n_ao {args : Array Value} {s : State} (ht : ∀ w ∈ tables_1, w.before args s = true) : va_AO "HillRider$Way" s := va_AO.of (A := args) (ht _ (List.mem_of_getElem? (i := 121) (by decide +kernel)))
theorem n_R {own tx : String} {k a : Nat} {args : Array Value} {s : State} (h1 : (Cond.stringRef own k tx).before args s = true) (h2 : (Term.string own k).eval args s none [] s = some (.ref a)) : vk_R own k tx a s :=
  vk_R.of h1 h2
theorem n_li {args : Array Value} {s : State} (hs : ∀ c ∈ flatC (Jvm.Cond.and given_1 narrow_1), c.before args s = true) (ht : ∀ w ∈ tables_1, w.before args s = true) {f : Nat → Nat} (he : ∀ i : Nat, i < 16 → (nT i).eval args s none [] s = some (.ref (f (1 + i)))) : ∀ q ∈ gLit, vk_R q.1 q.2.1 (gTxt.getD q.2.2 "") (f (1 + q.2.2)) s := by
  intro q hq
  simp only [gLit, List.mem_cons, List.not_mem_nil, or_false] at hq
  rcases hq with rfl | rfl | rfl | rfl | rfl | rfl | rfl | rfl | rfl | rfl | rfl | rfl | rfl | rfl | rfl | rfl | rfl | rfl
  · exact n_R (ht _ (List.mem_of_getElem? (i := 420) (by decide +kernel))) (he 0 (by decide))
  · exact n_R (ht _ (List.mem_of_getElem? (i := 480) (by decide +kernel))) (he 1 (by decide))
  · exact n_R (ht _ (List.mem_of_getElem? (i := 312) (by decide +kernel))) (he 2 (by decide))
  · exact n_R (ht _ (List.mem_of_getElem? (i := 313) (by decide +kernel))) (he 3 (by decide))
  · exact n_R (ht _ (List.mem_of_getElem? (i := 314) (by decide +kernel))) (he 4 (by decide))
  · exact n_R (ht _ (List.mem_of_getElem? (i := 315) (by decide +kernel))) (he 5 (by decide))
  · exact n_R (ht _ (List.mem_of_getElem? (i := 316) (by decide +kernel))) (he 6 (by decide))
  · exact n_R (ht _ (List.mem_of_getElem? (i := 317) (by decide +kernel))) (he 7 (by decide))
  · exact n_R (ht _ (List.mem_of_getElem? (i := 318) (by decide +kernel))) (he 8 (by decide))
  · exact n_R (ht _ (List.mem_of_getElem? (i := 1111) (by decide +kernel))) (va_eqR (hs _ (List.mem_of_getElem? (i := 334) (by decide +kernel))) (he 0 (by decide)))
  · exact n_R (ht _ (List.mem_of_getElem? (i := 1116) (by decide +kernel))) (va_eqR (hs _ (List.mem_of_getElem? (i := 356) (by decide +kernel))) (he 1 (by decide)))
  · exact n_R (ht _ (List.mem_of_getElem? (i := 1064) (by decide +kernel))) (he 9 (by decide))
  · exact n_R (ht _ (List.mem_of_getElem? (i := 1083) (by decide +kernel))) (he 10 (by decide))
  · exact n_R (ht _ (List.mem_of_getElem? (i := 1088) (by decide +kernel))) (he 11 (by decide))
  · exact n_R (ht _ (List.mem_of_getElem? (i := 1093) (by decide +kernel))) (he 12 (by decide))
  · exact n_R (ht _ (List.mem_of_getElem? (i := 1094) (by decide +kernel))) (he 13 (by decide))
  · exact n_R (ht _ (List.mem_of_getElem? (i := 1117) (by decide +kernel))) (he 14 (by decide))
  · exact n_R (ht _ (List.mem_of_getElem? (i := 1118) (by decide +kernel))) (he 15 (by decide))
theorem n_kn {args : Array Value} {s : State} (hg : ∀ w ∈ gT, w.before args s = true) (ht : ∀ w ∈ tables_1, w.before args s = true) : ∀ (c : Nat) (q : vw_C), vwCl[c]? = some q → ∃ (cC : ClassId) (iS : Nat → Nat), u_Kn s q.1 q.2.1 q.2.2 cC iS := by
  intro c q hq
  have hT : ∀ w ∈ gT, w.before args s = true → w.before args s = true := fun _ _ h => h
  match c, hq with
  | 0, hq => cases hq; exact u_known hg u_0 (ht (Cond.instantiable "HillRider$Best" 2) (List.mem_of_getElem? (i := 609) (by decide +kernel)))
  | 1, hq => cases hq; exact u_known hg u_1 (ht (Cond.instantiable "HillRider$Even" 2) (List.mem_of_getElem? (i := 571) (by decide +kernel)))
  | 2, hq => cases hq; exact u_known hg u_2 (ht (Cond.instantiable "HillRider$Feel" 2) (List.mem_of_getElem? (i := 618) (by decide +kernel)))
  | 3, hq => cases hq; exact u_known hg u_3 (ht (Cond.instantiable "HillRider$Follow" 2) (List.mem_of_getElem? (i := 636) (by decide +kernel)))
  | 4, hq => cases hq; exact u_known hg u_4 (ht (Cond.instantiable "HillRider$Plan" 13) (List.mem_of_getElem? (i := 190) (by decide +kernel)))
  | 5, hq => cases hq; exact u_known hg u_5 (ht (Cond.instantiable "HillRider$Reader" 4) (List.mem_of_getElem? (i := 168) (by decide +kernel)))
  | 6, hq => cases hq; exact u_known hg u_6 (ht (Cond.instantiable "HillRider$Road" 16) (List.mem_of_getElem? (i := 36) (by decide +kernel)))
  | 7, hq => cases hq; exact u_known hg u_7 (ht (Cond.instantiable "HillRider$Scene" 11) (List.mem_of_getElem? (i := 30) (by decide +kernel)))
  | 8, hq => cases hq; exact u_known hg u_8 (ht (Cond.instantiable "HillRider$Sloped" 2) (List.mem_of_getElem? (i := 600) (by decide +kernel)))
  | 9, hq => cases hq; exact u_known hg u_9 (ht (Cond.instantiable "HillRider$Told" 2) (List.mem_of_getElem? (i := 627) (by decide +kernel)))
  | 10, hq => cases hq; exact u_known hg u_10 (ht (Cond.instantiable "HillRider$Way" 2) (List.mem_of_getElem? (i := 645) (by decide +kernel)))
  | 11, hq => cases hq; exact u_known hg u_11 (ht (Cond.instantiable "HillRider" 12) (List.mem_of_getElem? (i := 22) (by decide +kernel)))
  | 12, hq => cases hq; exact u_known hg u_12 (ht (Cond.instantiable "HillRiderModel" 23) (List.mem_of_getElem? (i := 965) (by decide +kernel)))
  | n + 13, hq => simp [vwCl] at hq
theorem n_arr {args : Array Value} {s : State} {ty : FieldType} (h : (Cond.arrayClass ty).before args s = true) (hp : ∀ C, ty ≠ .object C) : ∃ cA : ClassId, ArrOfT s cA ty ∧ va_RA s cA ty := by
  obtain ⟨c, k, comp, h1, h2, h3⟩ := Cond.arrayClass_spec h
  refine ⟨c, fun n z => ⟨fun k h => (by cases h), k, h2, comp, h3⟩, ?_⟩
  cases ty with
  | object C => exact absurd rfl (hp C)
  | _ => exact h1
theorem n_arw {s : State} (h : va_AO "HillRider$Way" s) : ∃ cA : ClassId, ArrOfT s cA (.object "HillRider$Way") ∧ va_RA s cA (.object "HillRider$Way") := by
  obtain ⟨comp, c, k, h1, h2, h3, h4, h5⟩ := Cond.arrayOver_spec h
  exact ⟨c, fun n z => ⟨fun k h => (by cases h), k, h3, comp, h4⟩, k, comp, h3, h4, h1, h5⟩
theorem n_tys {args : Array Value} {s : State} (ht : ∀ w ∈ tables_1, w.before args s = true) : ∃ cA : Nat → ClassId, ∀ (k : Nat) (q : ClassId × FieldType), (gTys cA)[k]? = some q → ArrOfT s q.1 q.2 ∧ va_RA s q.1 q.2 := by
  obtain ⟨c0, a0⟩ := n_arr (ht (Cond.arrayClass .int) (List.mem_of_getElem? (i := 119) (by decide +kernel))) (fun C h => by cases h)
  obtain ⟨c1, a1⟩ := n_arr (ht (Cond.arrayClass .long) (List.mem_of_getElem? (i := 274) (by decide +kernel))) (fun C h => by cases h)
  obtain ⟨c2, a2⟩ := n_arr (ht (Cond.arrayClass .boolean) (List.mem_of_getElem? (i := 1039) (by decide +kernel))) (fun C h => by cases h)
  obtain ⟨c3, a3⟩ := n_arw (n_ao ht)
  refine ⟨fun i => if i = 0 then c0 else if i = 1 then c1 else if i = 2 then c2 else c3, ?_⟩
  intro k q hq
  match k, hq with
  | 0, hq => cases hq; exact a0
  | 1, hq => cases hq; exact a1
  | 2, hq => cases hq; exact a2
  | 3, hq => cases hq; exact a3
  | n + 4, hq => simp [gTys] at hq
theorem n_str {b : Nat} {s : State} (hs : ∀ c ∈ flatC (Jvm.Cond.and given_1 narrow_1), c.before #[Value.ref b] s = true) (ht : ∀ w ∈ tables_1, w.before #[Value.ref b] s = true) : ∃ E : gE, E.1 = s.heap.size ∧ E.2 0 = b ∧ (∀ q ∈ gLit, vk_R q.1 q.2.1 (gTxt.getD q.2.2 "") (E.2 (1 + q.2.2)) s) ∧ gOldH E s s.heap := by
  obtain ⟨adK, adV, h1, h2⟩ := vk_Sof (N := 16) (tm := nT) (len := gLen) (byt := gByt) (A := fun q => s.heap.size ≤ q) (by decide +kernel) (n_ex hs) (n_co hs) (n_ar hs) (n_le hs) (n_el hs) (fun i j hi hj => n_ne hs i hi j hj) (fun a ha => Nat.not_le.mpr ha)
  obtain ⟨t0, ht0⟩ : ∃ t0 : Nat, va_Z "jdk/internal/util/Preconditions" "SIOOBE_FORMATTER" "Ljava/util/function/BiFunction;" .null (fun q => s.heap.size ≤ q) s s.heap ∨ va_Z "jdk/internal/util/Preconditions" "SIOOBE_FORMATTER" "Ljava/util/function/BiFunction;" (.ref t0) (fun q => s.heap.size ≤ q) s s.heap := by
    rcases va_Zqof (C := "jdk/internal/util/Preconditions") (n := "SIOOBE_FORMATTER") (d := "Ljava/util/function/BiFunction;") (A := fun q => s.heap.size ≤ q) (ht _ (List.mem_of_getElem? (i := 344) (by decide +kernel))) (ht _ (List.mem_of_getElem? (i := 10) (by decide +kernel))) (hs _ (List.mem_of_getElem? (i := 5) (by decide +kernel))) (fun a ha => Nat.not_le.mpr ha) with z | ⟨t, z⟩
    · exact ⟨0, Or.inl z⟩
    · exact ⟨t, Or.inr z⟩
  have e1 : ∀ i : Nat, i < 16 → (if 1 + i = 0 then b else if 1 + i < 33 then adK (1 + i - 1) else if 1 + i < 63 then adV (1 + i - 33) else t0) = adK i := by
    intro i hi
    rw [if_neg (by omega), if_pos (by omega)]
    congr 1
    omega
  have e2 : ∀ i : Nat, i < 16 → (if 33 + i = 0 then b else if 33 + i < 33 then adK (33 + i - 1) else if 33 + i < 63 then adV (33 + i - 33) else t0) = adV i := by
    intro i hi
    rw [if_neg (by omega), if_neg (by omega), if_pos (by omega)]
    congr 1
    omega
  refine ⟨(s.heap.size, fun k => if k = 0 then b else if k < 33 then adK (k - 1) else if k < 63 then adV (k - 33) else t0), rfl, rfl, ?_, ?_, ?_⟩
  · refine n_li (args := #[Value.ref b]) hs ht (f := fun k => if k = 0 then b else if k < 33 then adK (k - 1) else if k < 63 then adV (k - 33) else t0) (fun i hi => ?_)
    show _ = some (Value.ref (if 1 + i = 0 then b else if 1 + i < 33 then adK (1 + i - 1) else if 1 + i < 63 then adV (1 + i - 33) else t0))
    rw [e1 i hi]
    exact h2 i hi
  · refine ⟨fun i hi => ?_, fun i j hi hj => ?_⟩
    · show va_O _ (if 1 + i = 0 then b else if 1 + i < 33 then adK (1 + i - 1) else if 1 + i < 63 then adV (1 + i - 33) else t0) _ _ _ ∧ va_OF _ _ _ _ (if 1 + i = 0 then b else if 1 + i < 33 then adK (1 + i - 1) else if 1 + i < 63 then adV (1 + i - 33) else t0) _ _ _ ∧ va_OF _ _ _ (.ref (if 33 + i = 0 then b else if 33 + i < 33 then adK (33 + i - 1) else if 33 + i < 63 then adV (33 + i - 33) else t0)) (if 1 + i = 0 then b else if 1 + i < 33 then adK (1 + i - 1) else if 1 + i < 63 then adV (1 + i - 33) else t0) _ _ _ ∧ va_T _ (if 33 + i = 0 then b else if 33 + i < 33 then adK (33 + i - 1) else if 33 + i < 63 then adV (33 + i - 33) else t0) _ _ _ _ _
      rw [e1 i hi, e2 i hi]
      exact h1.1 i hi
    · show (if 1 + i = 0 then b else if 1 + i < 33 then adK (1 + i - 1) else if 1 + i < 63 then adV (1 + i - 33) else t0) = (if 1 + j = 0 then b else if 1 + j < 33 then adK (1 + j - 1) else if 1 + j < 63 then adV (1 + j - 33) else t0) → _
      rw [e1 i hi, e1 j hj]
      exact h1.2 i j hi hj
  · exact ⟨va_Zof (ht _ (List.mem_of_getElem? (i := 328) (by decide +kernel))) (ht _ (List.mem_of_getElem? (i := 8) (by decide +kernel))) (va_eqt (hs _ (List.mem_of_getElem? (i := 4) (by decide +kernel)))) (fun a ha => Nat.not_le.mpr ha), ht0⟩
/-- all that the small machine asks of the start -/
theorem n_all {p : Program} {s : State} {m : MethodId} {meth : Method} {c : Code} {b L : Nat} {xs : Nat → Int32} (C0 : lw_At p s m meth c b L xs) : ∃ (E : gE) (D : va_G) (cA : Nat → ClassId), lwC p s m meth c b L xs E D cA := by
  obtain ⟨hx, hb, hr, hml, hown, hts, hX, hbl, hlocks, hgv⟩ := C0
  have hs := flat_of_before _ hgv
  have ht : ∀ w ∈ tables_1, w.before #[Value.ref b] s = true := fun w hw => hts w (List.mem_append_right _ hw)
  have hg : ∀ w ∈ gT, w.before #[Value.ref b] s = true := fun w hw => hts w (List.mem_filter.mp hw).1
  obtain ⟨E, e1, e2, e3, e4⟩ := n_str hs ht
  obtain ⟨cA, hcA⟩ := n_tys ht
  have hk : ∀ k : Nat, ∃ q : ClassId × (Nat → Nat), ∀ r : vw_C, vwCl[k]? = some r → u_Kn s r.1 r.2.1 r.2.2 q.1 q.2 := by
    intro k
    cases hr : vwCl[k]? with
    | none => exact ⟨(0, fun _ => 0), fun r h => by cases h⟩
    | some r =>
      obtain ⟨cC, iS, h⟩ := n_kn hg ht k r hr
      exact ⟨(cC, iS), fun r2 h2 => by cases h2; exact h⟩
  obtain ⟨f, hf⟩ := Classical.axiomOfChoice hk
  exact ⟨E, (fun k => (f k).1, fun k => (f k).2), cA, hx, hb, hr, hml, hown, hg, hX, hbl, hlocks, ⟨fun k r h => hf k r h, hcA⟩, ⟨e3, n_no hs, n_ye ht, n_ao ht, n_ns ht⟩, e4, e1, e2⟩
