/-! the law: its loop -/
def fStep (N a1 a3 : Nat) (xs : Nat → Int32) (x4 : Int32) (K : Ka) (M : Cm) (S : Ms) : Option (Ka × Cm × Ms) := if (xs x4.toNatClampNeg &&& 31) = 0 then fS_feed N a1 (xs (x4 + 1 : Int32).toNatClampNeg) (xs (x4 + 2 : Int32).toNatClampNeg) (xs (x4 + 3 : Int32).toNatClampNeg) (xs (x4 + 4 : Int32).toNatClampNeg) (xs (x4 + 5 : Int32).toNatClampNeg) (xs (x4 + 6 : Int32).toNatClampNeg) K M S else if (xs x4.toNatClampNeg &&& 31) = 1 then fS_station N a1  K M S else if (xs x4.toNatClampNeg &&& 31) = 2 then fS_named N a1 (xs (x4 + 1 : Int32).toNatClampNeg) K M S else if (xs x4.toNatClampNeg &&& 31) = 3 then fS_demand N a1 (xs (x4 + 1 : Int32).toNatClampNeg) (xs (x4 + 2 : Int32).toNatClampNeg) K M S else if (xs x4.toNatClampNeg &&& 31) = 4 then fS_ended N a1 (xs (x4 + 1 : Int32).toNatClampNeg) K M S else if (xs x4.toNatClampNeg &&& 31) = 5 then fS_plan N a1 (xs (x4 + 1 : Int32).toNatClampNeg) (xs (x4 + 2 : Int32).toNatClampNeg) K M S else if (xs x4.toNatClampNeg &&& 31) = 6 then fS_clear N a1  K M S else if (xs x4.toNatClampNeg &&& 31) = 7 then fS_heal N a1 (xs (x4 + 1 : Int32).toNatClampNeg) K M S else if (xs x4.toNatClampNeg &&& 31) = 8 then fS_close N a1  K M S else if (xs x4.toNatClampNeg &&& 31) = 9 then fS_beat N a1 (xs (x4 + 1 : Int32).toNatClampNeg) K M S else if (xs x4.toNatClampNeg &&& 31) = 10 then fS_foresee N a1 (xs (x4 + 1 : Int32).toNatClampNeg) (xs (x4 + 2 : Int32).toNatClampNeg) K M S else if (xs x4.toNatClampNeg &&& 31) = 11 then fS_foreseen N a1 (xs (x4 + 1 : Int32).toNatClampNeg) K M S else if (xs x4.toNatClampNeg &&& 31) = 12 then fS_unit N a1 a3 (xs (x4 + 1 : Int32).toNatClampNeg) (xs (x4 + 2 : Int32).toNatClampNeg) K M S else if (xs x4.toNatClampNeg &&& 31) = 13 then fS_read N a1 a3 (xs (x4 + 1 : Int32).toNatClampNeg) (xs (x4 + 2 : Int32).toNatClampNeg) K M S else if (xs x4.toNatClampNeg &&& 31) = 14 then fS_cause N a1 (xs (x4 + 1 : Int32).toNatClampNeg) (xs (x4 + 2 : Int32).toNatClampNeg) K M S else if (xs x4.toNatClampNeg &&& 31) = 15 then fS_need N a1 (xs (x4 + 1 : Int32).toNatClampNeg) (xs (x4 + 2 : Int32).toNatClampNeg) K M S else if (xs x4.toNatClampNeg &&& 31) = 16 then fS_leans N a1 (xs (x4 + 1 : Int32).toNatClampNeg) (xs (x4 + 2 : Int32).toNatClampNeg) K M S else if (xs x4.toNatClampNeg &&& 31) = 17 then fS_up N a1 (xs (x4 + 1 : Int32).toNatClampNeg) (xs (x4 + 2 : Int32).toNatClampNeg) K M S else if (xs x4.toNatClampNeg &&& 31) = 18 then fS_half N a1 (xs (x4 + 1 : Int32).toNatClampNeg) (xs (x4 + 2 : Int32).toNatClampNeg) K M S else if (xs x4.toNatClampNeg &&& 31) = 19 then fS_order N a1 (xs (x4 + 1 : Int32).toNatClampNeg) (xs (x4 + 2 : Int32).toNatClampNeg) K M S else if (xs x4.toNatClampNeg &&& 31) = 20 then fS_closed N a1 (xs (x4 + 1 : Int32).toNatClampNeg) (xs (x4 + 2 : Int32).toNatClampNeg) K M S else if (xs x4.toNatClampNeg &&& 31) = 21 then fS_device N a1 a3 (xs (x4 + 1 : Int32).toNatClampNeg) (xs (x4 + 2 : Int32).toNatClampNeg) K M S else if (xs x4.toNatClampNeg &&& 31) = 22 then fS_count N a1 (xs (x4 + 1 : Int32).toNatClampNeg) K M S else some (K, M, S)
def rmOK (K0 K : Ka) : Bool := decide (kz K - kz K0 ≤ 601024 ∧ ku K - ku K0 ≤ 7293034)
def fLaw (N a1 a3 L : Nat) (xs : Nat → Int32) (K0 : Ka) : Nat → Nat → Ka → Cm → Ms → Option Unit
  | 0, _, _, _, _ => none
  | n + 1, i, K, M, S => if L < i + 7 then some () else (fStep N a1 a3 xs (Int32.ofNat i) K M S).bind fun o => gd (rmOK K0 o.1) (fLaw N a1 a3 L xs K0 n (i + 7) o.1 o.2.1 o.2.2)
set_option maxRecDepth 100000 in
set_option maxHeartbeats 4000000 in
theorem wStep {p : Program} {l : Launch} {e : Env} {s : State} {m : MethodId} {below : List Frame} {meth : Method} {c : Code} {x : Xc} {g : Gm} {K0 : Ka} {b L : Nat} {xs : Nat → Int32} {N a1 a3 : Nat} {x4 : Int32} {o : Ka × Cm × Ms} {Q : State → Prop} (C : CL p l s m meth c x K0 b L xs) (hin : LIN x4 L) (hin0 : vp_in x4 L) (hro : kz o.1 - kz K0 ≤ room_1.cells ∧ ku o.1 - ku K0 ≤ room_1.slots) (hk : ∀ (K : Ka) (M : Cm) (S : Ms) (H : Heap) (locs : List Loc) (ls : Array Slot), some (K, M, S) = some o → KLe K0 K → LWd x g K M S H → va_S (AC K0) s.heap H locs → lv_has ls 7 [(0, .ref b), (1, .ref a1), (2, .ref g.1), (3, .ref a3), (4, .int x4)] → W p l e room_1 s m #[Value.ref b] below meth c H locs (kz K - kz K0) (ku K - ku K0) Q (F0 m 1056 ls [])) (K : Ka) (M : Cm) (S : Ms) (H : Heap) (locs : List Loc) (ls : Array Slot) (hcs : kz K - kz K0 ≤ room_1.cells ∧ ku K - ku K0 ≤ room_1.slots) (hf : fStep N a1 a3 xs x4 K M S = some o) (hL : KLe K0 K) (hW : LWd x g K M S H) (hS : va_S (AC K0) s.heap H locs) (hl : lv_has ls 7 [(0, .ref b), (1, .ref a1), (2, .ref g.1), (3, .ref a3), (4, .int x4)]) : W p l e room_1 s m #[Value.ref b] below meth c H locs (kz K - kz K0) (ku K - ku K0) Q (F0 m 33 ls []) := by
  obtain ⟨CX, hlt, hz0, hlo, hX, hbl, hbA⟩ := id C
  obtain ⟨hx, hb, hml, hown, hts, hE, hB, hr, hlk⟩ := id CX
  unfold fStep at hf
  refine lv_aload_n hx hb dL_law_33 rfl (lv_at hl 0 rfl) ?_
  refine lv_iload hx hb dL_law_34 (lv_at hl 4 rfl) ?_
  refine va_sld hx hb hX hbl hbA hS hin0 dL_law_36 ?_
  refine lv_bipush (v := 31) hx hb dL_law_37 (by decide) ?_
  refine lv_iand hx hb dL_law_39 ?_
  by_cases hc0 : (xs x4.toNatClampNeg &&& 31) = 0
  · rw [if_pos hc0] at hf
    refine lv_tableIn (off := 108) (tgt := 148) hx hb dL_law_40 (by rw [hc0]; decide) (by rw [hc0]; decide) (by rw [hc0]; decide) (by decide) ?_
    exact wS_feed C hin hro hk K M S H locs ls hcs hf hL hW hS hl
  rw [if_neg hc0] at hf
  by_cases hc1 : (xs x4.toNatClampNeg &&& 31) = 1
  · rw [if_pos hc1] at hf
    refine lv_tableIn (off := 255) (tgt := 295) hx hb dL_law_40 (by rw [hc1]; decide) (by rw [hc1]; decide) (by rw [hc1]; decide) (by decide) ?_
    exact wS_station C hin hro hk K M S H locs ls hcs hf hL hW hS hl
  rw [if_neg hc1] at hf
  by_cases hc2 : (xs x4.toNatClampNeg &&& 31) = 2
  · rw [if_pos hc2] at hf
    refine lv_tableIn (off := 268) (tgt := 308) hx hb dL_law_40 (by rw [hc2]; decide) (by rw [hc2]; decide) (by rw [hc2]; decide) (by decide) ?_
    exact wS_named C hin hro hk K M S H locs ls hcs hf hL hW hS hl
  rw [if_neg hc2] at hf
  by_cases hc3 : (xs x4.toNatClampNeg &&& 31) = 3
  · rw [if_pos hc3] at hf
    refine lv_tableIn (off := 293) (tgt := 333) hx hb dL_law_40 (by rw [hc3]; decide) (by rw [hc3]; decide) (by rw [hc3]; decide) (by decide) ?_
    exact wS_demand C hin hro hk K M S H locs ls hcs hf hL hW hS hl
  rw [if_neg hc3] at hf
  by_cases hc4 : (xs x4.toNatClampNeg &&& 31) = 4
  · rw [if_pos hc4] at hf
    refine lv_tableIn (off := 330) (tgt := 370) hx hb dL_law_40 (by rw [hc4]; decide) (by rw [hc4]; decide) (by rw [hc4]; decide) (by decide) ?_
    exact wS_ended C hin hro hk K M S H locs ls hcs hf hL hW hS hl
  rw [if_neg hc4] at hf
  by_cases hc5 : (xs x4.toNatClampNeg &&& 31) = 5
  · rw [if_pos hc5] at hf
    refine lv_tableIn (off := 355) (tgt := 395) hx hb dL_law_40 (by rw [hc5]; decide) (by rw [hc5]; decide) (by rw [hc5]; decide) (by decide) ?_
    exact wS_plan C hin hro hk K M S H locs ls hcs hf hL hW hS hl
  rw [if_neg hc5] at hf
  by_cases hc6 : (xs x4.toNatClampNeg &&& 31) = 6
  · rw [if_pos hc6] at hf
    refine lv_tableIn (off := 392) (tgt := 432) hx hb dL_law_40 (by rw [hc6]; decide) (by rw [hc6]; decide) (by rw [hc6]; decide) (by decide) ?_
    exact wS_clear C hin hro hk K M S H locs ls hcs hf hL hW hS hl
  rw [if_neg hc6] at hf
  by_cases hc7 : (xs x4.toNatClampNeg &&& 31) = 7
  · rw [if_pos hc7] at hf
    refine lv_tableIn (off := 403) (tgt := 443) hx hb dL_law_40 (by rw [hc7]; decide) (by rw [hc7]; decide) (by rw [hc7]; decide) (by decide) ?_
    exact wS_heal C hin hro hk K M S H locs ls hcs hf hL hW hS hl
  rw [if_neg hc7] at hf
  by_cases hc8 : (xs x4.toNatClampNeg &&& 31) = 8
  · rw [if_pos hc8] at hf
    refine lv_tableIn (off := 428) (tgt := 468) hx hb dL_law_40 (by rw [hc8]; decide) (by rw [hc8]; decide) (by rw [hc8]; decide) (by decide) ?_
    exact wS_close C hin hro hk K M S H locs ls hcs hf hL hW hS hl
  rw [if_neg hc8] at hf
  by_cases hc9 : (xs x4.toNatClampNeg &&& 31) = 9
  · rw [if_pos hc9] at hf
    refine lv_tableIn (off := 441) (tgt := 481) hx hb dL_law_40 (by rw [hc9]; decide) (by rw [hc9]; decide) (by rw [hc9]; decide) (by decide) ?_
    exact wS_beat C hin hro hk K M S H locs ls hcs hf hL hW hS hl
  rw [if_neg hc9] at hf
  by_cases hc10 : (xs x4.toNatClampNeg &&& 31) = 10
  · rw [if_pos hc10] at hf
    refine lv_tableIn (off := 466) (tgt := 506) hx hb dL_law_40 (by rw [hc10]; decide) (by rw [hc10]; decide) (by rw [hc10]; decide) (by decide) ?_
    exact wS_foresee C hin hro hk K M S H locs ls hcs hf hL hW hS hl
  rw [if_neg hc10] at hf
  by_cases hc11 : (xs x4.toNatClampNeg &&& 31) = 11
  · rw [if_pos hc11] at hf
    refine lv_tableIn (off := 503) (tgt := 543) hx hb dL_law_40 (by rw [hc11]; decide) (by rw [hc11]; decide) (by rw [hc11]; decide) (by decide) ?_
    exact wS_foreseen C hin hro hk K M S H locs ls hcs hf hL hW hS hl
  rw [if_neg hc11] at hf
  by_cases hc12 : (xs x4.toNatClampNeg &&& 31) = 12
  · rw [if_pos hc12] at hf
    refine lv_tableIn (off := 528) (tgt := 568) hx hb dL_law_40 (by rw [hc12]; decide) (by rw [hc12]; decide) (by rw [hc12]; decide) (by decide) ?_
    exact wS_unit C hin hro hk K M S H locs ls hcs hf hL hW hS hl
  rw [if_neg hc12] at hf
  by_cases hc13 : (xs x4.toNatClampNeg &&& 31) = 13
  · rw [if_pos hc13] at hf
    refine lv_tableIn (off := 596) (tgt := 636) hx hb dL_law_40 (by rw [hc13]; decide) (by rw [hc13]; decide) (by rw [hc13]; decide) (by decide) ?_
    exact wS_read C hin hro hk K M S H locs ls hcs hf hL hW hS hl
  rw [if_neg hc13] at hf
  by_cases hc14 : (xs x4.toNatClampNeg &&& 31) = 14
  · rw [if_pos hc14] at hf
    refine lv_tableIn (off := 664) (tgt := 704) hx hb dL_law_40 (by rw [hc14]; decide) (by rw [hc14]; decide) (by rw [hc14]; decide) (by decide) ?_
    exact wS_cause C hin hro hk K M S H locs ls hcs hf hL hW hS hl
  rw [if_neg hc14] at hf
  by_cases hc15 : (xs x4.toNatClampNeg &&& 31) = 15
  · rw [if_pos hc15] at hf
    refine lv_tableIn (off := 701) (tgt := 741) hx hb dL_law_40 (by rw [hc15]; decide) (by rw [hc15]; decide) (by rw [hc15]; decide) (by decide) ?_
    exact wS_need C hin hro hk K M S H locs ls hcs hf hL hW hS hl
  rw [if_neg hc15] at hf
  by_cases hc16 : (xs x4.toNatClampNeg &&& 31) = 16
  · rw [if_pos hc16] at hf
    refine lv_tableIn (off := 738) (tgt := 778) hx hb dL_law_40 (by rw [hc16]; decide) (by rw [hc16]; decide) (by rw [hc16]; decide) (by decide) ?_
    exact wS_leans C hin hro hk K M S H locs ls hcs hf hL hW hS hl
  rw [if_neg hc16] at hf
  by_cases hc17 : (xs x4.toNatClampNeg &&& 31) = 17
  · rw [if_pos hc17] at hf
    refine lv_tableIn (off := 775) (tgt := 815) hx hb dL_law_40 (by rw [hc17]; decide) (by rw [hc17]; decide) (by rw [hc17]; decide) (by decide) ?_
    exact wS_up C hin hro hk K M S H locs ls hcs hf hL hW hS hl
  rw [if_neg hc17] at hf
  by_cases hc18 : (xs x4.toNatClampNeg &&& 31) = 18
  · rw [if_pos hc18] at hf
    refine lv_tableIn (off := 812) (tgt := 852) hx hb dL_law_40 (by rw [hc18]; decide) (by rw [hc18]; decide) (by rw [hc18]; decide) (by decide) ?_
    exact wS_half C hin hro hk K M S H locs ls hcs hf hL hW hS hl
  rw [if_neg hc18] at hf
  by_cases hc19 : (xs x4.toNatClampNeg &&& 31) = 19
  · rw [if_pos hc19] at hf
    refine lv_tableIn (off := 849) (tgt := 889) hx hb dL_law_40 (by rw [hc19]; decide) (by rw [hc19]; decide) (by rw [hc19]; decide) (by decide) ?_
    exact wS_order C hin hro hk K M S H locs ls hcs hf hL hW hS hl
  rw [if_neg hc19] at hf
  by_cases hc20 : (xs x4.toNatClampNeg &&& 31) = 20
  · rw [if_pos hc20] at hf
    refine lv_tableIn (off := 886) (tgt := 926) hx hb dL_law_40 (by rw [hc20]; decide) (by rw [hc20]; decide) (by rw [hc20]; decide) (by decide) ?_
    exact wS_closed C hin hro hk K M S H locs ls hcs hf hL hW hS hl
  rw [if_neg hc20] at hf
  by_cases hc21 : (xs x4.toNatClampNeg &&& 31) = 21
  · rw [if_pos hc21] at hf
    refine lv_tableIn (off := 923) (tgt := 963) hx hb dL_law_40 (by rw [hc21]; decide) (by rw [hc21]; decide) (by rw [hc21]; decide) (by decide) ?_
    exact wS_device C hin hro hk K M S H locs ls hcs hf hL hW hS hl
  rw [if_neg hc21] at hf
  by_cases hc22 : (xs x4.toNatClampNeg &&& 31) = 22
  · rw [if_pos hc22] at hf
    refine lv_tableIn (off := 991) (tgt := 1031) hx hb dL_law_40 (by rw [hc22]; decide) (by rw [hc22]; decide) (by rw [hc22]; decide) (by decide) ?_
    exact wS_count C hin hro hk K M S H locs ls hcs hf hL hW hS hl
  rw [if_neg hc22] at hf
  have hn0 := tsw_ne (k := 0) rfl hc0
  have hn1 := tsw_ne (k := 1) rfl hc1
  have hn2 := tsw_ne (k := 2) rfl hc2
  have hn3 := tsw_ne (k := 3) rfl hc3
  have hn4 := tsw_ne (k := 4) rfl hc4
  have hn5 := tsw_ne (k := 5) rfl hc5
  have hn6 := tsw_ne (k := 6) rfl hc6
  have hn7 := tsw_ne (k := 7) rfl hc7
  have hn8 := tsw_ne (k := 8) rfl hc8
  have hn9 := tsw_ne (k := 9) rfl hc9
  have hn10 := tsw_ne (k := 10) rfl hc10
  have hn11 := tsw_ne (k := 11) rfl hc11
  have hn12 := tsw_ne (k := 12) rfl hc12
  have hn13 := tsw_ne (k := 13) rfl hc13
  have hn14 := tsw_ne (k := 14) rfl hc14
  have hn15 := tsw_ne (k := 15) rfl hc15
  have hn16 := tsw_ne (k := 16) rfl hc16
  have hn17 := tsw_ne (k := 17) rfl hc17
  have hn18 := tsw_ne (k := 18) rfl hc18
  have hn19 := tsw_ne (k := 19) rfl hc19
  have hn20 := tsw_ne (k := 20) rfl hc20
  have hn21 := tsw_ne (k := 21) rfl hc21
  have hn22 := tsw_ne (k := 22) rfl hc22
  refine lv_tableOut (tgt := 1056) hx hb dL_law_40 (by omega) (by decide) ?_
  exact hk K M S H locs ls hf hL hW hS hl
theorem lw_iof {n : Nat} (h : n < 2 ^ 31) : (Int32.ofNat n).toInt = n := Int32.toInt_ofNat_of_lt h
theorem lw_icl {n : Nat} (h : n < 2 ^ 31) : (Int32.ofNat n).toNatClampNeg = n := by
  rw [Int32.toNatClampNeg, lw_iof h]
  rfl
theorem lw_in {i k L : Nat} (h : i + k < L) (hL : L ≤ 3584) : vp_in (Int32.ofNat i + Int32.ofNat k) L := by
  rw [← Int32.ofNat_add]
  intro z
  rcases z with z | z
  · rw [Int32.lt_iff_toInt_lt, lw_iof (by omega)] at z
    have : (0 : Int32).toInt = 0 := by decide
    omega
  · rw [lw_icl (by omega)] at z
    omega
theorem lw_gt {i L : Nat} (hL : L ≤ 3584) (hi : i ≤ 4000) : Int32.ofNat L - 7 < Int32.ofNat i ↔ L < i + 7 := by
  have e1 : (Int32.ofNat L - 7).toInt = (L : Int) - 7 := by
    rw [Int32.toInt_sub, lw_iof (by omega)]
    have : (7 : Int32).toInt = 7 := by decide
    rw [this, Int.bmod_eq_of_le] <;> omega
  rw [Int32.lt_iff_toInt_lt, e1, lw_iof (by omega)]
  omega
set_option maxRecDepth 100000 in
set_option maxHeartbeats 4000000 in
theorem wLaw {p : Program} {l : Launch} {e : Env} {s : State} {m : MethodId} {below : List Frame} {meth : Method} {c : Code} {x : Xc} {g : Gm} {K0 : Ka} {b L : Nat} {xs : Nat → Int32} {N a1 a3 : Nat} {Q : State → Prop} (C : CL p l s m meth c x K0 b L xs) (hL3 : L ≤ 3584)
    (he : ∀ (H : Heap) (ls : Array Slot), W p l e room_1 s m #[Value.ref b] below meth c H [] 601024 7293034 Q (F0 m 1062 ls [])) : ∀ (n i : Nat) (K : Ka) (M : Cm) (S : Ms) (H : Heap) (locs : List Loc) (ls : Array Slot), i ≤ 4000 → rmOK K0 K = true → fLaw N a1 a3 L xs K0 n i K M S = some () → KLe K0 K → LWd x g K M S H → va_S (AC K0) s.heap H locs → lv_has ls 7 [(0, .ref b), (1, .ref a1), (2, .ref g.1), (3, .ref a3), (4, .int (Int32.ofNat i))] → W p l e room_1 s m #[Value.ref b] below meth c H locs (kz K - kz K0) (ku K - ku K0) Q (F0 m 23 ls []) := by
  obtain ⟨CX, hlt, hz0, hlo, hX, hbl, hbA⟩ := id C
  obtain ⟨hx, hb, hml, hown, hts, hE, hB, hr, hlk⟩ := id CX
  intro n
  induction n with
  | zero => intro i K M S H locs ls _ _ hf; cases hf
  | succ n ih =>
    intro i K M S H locs ls hi hrm hf hL hW hS hl
    have hcs : kz K - kz K0 ≤ 601024 ∧ ku K - ku K0 ≤ 7293034 := of_decide_eq_true hrm
    rw [fLaw] at hf
    refine lv_iload hx hb dL_law_23 (lv_at hl 4 rfl) ?_
    refine lv_aload_n hx hb dL_law_25 rfl (lv_at hl 0 rfl) ?_
    refine va_slen hx hb hX hbl hbA hS dL_law_26 ?_
    refine lv_bipush (v := 7) hx hb dL_law_27 (by decide) ?_
    refine lv_isub hx hb dL_law_29 ?_
    refine lv_icmp_gt (tgt := 1062) hx hb dL_law_30 (by decide) (fun hc => ?_) (fun hc => ?_)
    · refine va_forget (fun q hq => ?_) ?_
      · have h1 := hS.2.2 q hq
        rcases h1 with h1 | h1
        · exact Nat.not_lt.mp fun z => by
            have h2 := hB q.base (Or.inl h1)
            have h3 : x.2.1 ≤ q.base := h2
            omega
        · omega
      · exact W.widen hcs.1 hcs.2 (he H ls)
    · have hc' : ¬ L < i + 7 := fun z => hc ((lw_gt hL3 hi).mpr z)
      rw [if_neg hc'] at hf
      obtain ⟨o, ho, hf⟩ := bnd_some hf
      obtain ⟨hro, hf⟩ := gd_some hf
      refine wStep (a1 := a1) (a3 := a3) (N := N) (g := g) (o := o) (x4 := Int32.ofNat i) C ⟨lw_in (k := 1) (by omega) hL3, lw_in (k := 2) (by omega) hL3, lw_in (k := 3) (by omega) hL3, lw_in (k := 4) (by omega) hL3, lw_in (k := 5) (by omega) hL3, lw_in (k := 6) (by omega) hL3⟩ (by have h := lw_in (i := i) (k := 0) (L := L) (by omega) hL3; rw [← Int32.ofNat_add] at h; exact h) (of_decide_eq_true hro) (fun K1 M1 S1 H locs ls ho1 hL hW hS hl => ?_) K M S H locs ls hcs ho hL hW hS hl
      cases ho1
      refine lv_iinc (v := Int32.ofNat (i + 7)) (lv' := [(4, .int (Int32.ofNat (i + 7))), (0, .ref b), (1, .ref a1), (2, .ref g.1), (3, .ref a3)]) hx hb dL_law_1056 hl (k := 4) rfl (by rw [Int32.ofNat_add]; rfl) (by decide) rfl (fun ls hl => ?_)
      refine lv_goto (tgt := 23) hx hb dL_law_1059 (by decide) ?_
      exact ih (i + 7) K1 M1 S1 H locs ls (by omega) hro hf hL hW hS (lv_sub hl [1, 2, 3, 4, 0] rfl)
