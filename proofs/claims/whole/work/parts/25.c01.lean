def bC_X2_look_61 (N : Nat) (K : Ka) (x0 : Nat) (x1 : Int32) (x2 : Int32) (M : Cm) : Option (Cm) := gd (kd K x0 == 3) (nn (cR M x0 0) fun a1 => gd (kd K a1 == 5) (nn (cR M a1 2) fun a2 => gd (kd K a2 == 22) (ck ((x1 * 8) + x2) (le K a2) ((fC_X2_push N K x0 (cI M a2 ((x1 * 8) + x2 : Int32).toNatClampNeg) M).bind fun o76 => some o76))))
set_option maxRecDepth 100000 in
set_option maxHeartbeats 4000000 in
theorem wbC_X2_look_61 {p : Program} {l : Launch} {e : Env} {R : Room} {s : State} {m : MethodId} {args : Array Value} {below : List Frame} {meth : Method} {c : Code} {x : Xc} {o : Cm} {N : Nat} {K : Ka} (CX : CC p s m args meth c x K RX2 cX2_look 3 none) (hRm : 3 ≤ R.frames ∧ 69 ≤ R.locals) (x0 : Nat) (x1 : Int32) (x2 : Int32) (M : Cm) (H : Heap) (locs : List Loc) (ls : Array Slot) (hf : bC_X2_look_61 N K x0 x1 x2 M = some o) (hR : RC x K M H) (hS : va_S (AC K) s.heap H locs) (hl : lv_has ls 3 [(0, .ref x0), (1, .int x1), (2, .int x2)]) : W p l e R s m args below meth c H locs 0 0 (MQ below (CQV x K o) args s 0 0 (AC K)) (F0 m 61 ls []) := by
  obtain ⟨hx, hb, hml, hown, hts, hE, hB, hr, hlk⟩ := id CX
  have hL : KLe K K := KLe.rf K
  have hcs : 0 ≤ R.cells ∧ 0 ≤ R.slots := ⟨Nat.zero_le _, Nat.zero_le _⟩
  unfold bC_X2_look_61 at hf
  refine lv_aload_n hx hb dX2_look_61 rfl (lv_at hl 0 rfl) ?_
  refine lv_aload_n hx hb dX2_look_62 rfl (lv_at hl 0 rfl) ?_
  obtain ⟨hk_x0_3, hf⟩ := gd_some hf
  refine cr_getR kc_2 CX hR fa_X2_64 rfl hk_x0_3 dX2_look_63 ?_
  obtain ⟨a1, ha1, hf⟩ := nn_some hf
  refine rf_0 ha1 ?_
  obtain ⟨hk_a1_5, hf⟩ := gd_some hf
  refine cr_getR kc_4 CX hR fa_X2_197 rfl hk_a1_5 dX2_look_66 ?_
  refine lv_iload_n hx hb dX2_look_69 rfl (lv_at hl 1 rfl) ?_
  refine lv_bipush (v := 8) hx hb dX2_look_70 (by decide) ?_
  refine lv_imul hx hb dX2_look_72 ?_
  refine lv_iload_n hx hb dX2_look_73 rfl (lv_at hl 2 rfl) ?_
  refine lv_iadd hx hb dX2_look_74 ?_
  obtain ⟨a2, ha2, hf⟩ := nn_some hf
  refine rf_1 ha2 ?_
  obtain ⟨hk_a2_22, hf⟩ := gd_some hf
  obtain ⟨hi, hf⟩ := ck_some hf
  refine cr_iald CX hR hk_a2_22 hi dX2_look_75 ?_
  obtain ⟨o76, ho76, hf⟩ := bnd_some hf
  refine cr_callVv kc_2 CX hR hL hS (As := [.int (cI M a2 ((x1 * 8) + x2 : Int32).toNatClampNeg)]) (rest := []) hk_x0_3 (MC_X2_push l x N K x0 (cI M a2 ((x1 * 8) + x2 : Int32).toNatClampNeg) M o76 ho76) cv_X2_117 ⟨by omega, by omega⟩ rfl rfl (Nat.le_of_ble_eq_true rfl) hl.1 dX2_look_76 hcs (fun H locs hR hS => ?_)
  exact cr_vret CX hR hS hf dX2_look_79
def fC_X2_look (N : Nat) (K : Ka) (x0 : Nat) (x1 : Int32) (x2 : Int32) (M : Cm) : Option (Cm) := gd (kd K x0 == 3) ((fC_X2_noteNeed N K x0 x1 M).bind fun o2 => (fC_X2_isThere N K x0 x1 o2).bind fun o7 => if o7.1 = 0 then (some o7.2) else (if (cI o7.2 x0 9) = 0 then (nn (cR o7.2 x0 0) fun a1 => gd (kd K a1 == 5) (nn (cR o7.2 a1 0) fun a2 => gd (kd K a2 == 22) (ck x1 (le K a2) (if (cI o7.2 a2 (x1 : Int32).toNatClampNeg) = 1 then (nn (cR o7.2 x0 5) fun a3 => gd (kd K a3 == 2) (if (cI o7.2 a3 1) = x1 then ((bC_X2_look_61 N K) x0 x1 x2 o7.2) else (nn (cR o7.2 x0 5) fun a4 => gd (kd K a4 == 2) (nn (cR o7.2 x0 1) fun a5 => gd (kd K a5 == 1) ((fC_X0_addHalf N K a5 (cI o7.2 a4 1) x1 x2 o7.2).bind fun o58 => (bC_X2_look_61 N K) x0 x1 x2 o58))))) else ((bC_X2_look_61 N K) x0 x1 x2 o7.2))))) else ((bC_X2_look_61 N K) x0 x1 x2 o7.2)))
set_option maxRecDepth 100000 in
set_option maxHeartbeats 4000000 in
theorem wfC_X2_look {p : Program} {l : Launch} {e : Env} {R : Room} {s : State} {m : MethodId} {args : Array Value} {below : List Frame} {meth : Method} {c : Code} {x : Xc} {o : Cm} {N : Nat} {K : Ka} (CX : CC p s m args meth c x K RX2 cX2_look 3 none) (hRm : 3 ≤ R.frames ∧ 69 ≤ R.locals) (x0 : Nat) (x1 : Int32) (x2 : Int32) (M : Cm) (H : Heap) (locs : List Loc) (ls : Array Slot) (hf : fC_X2_look N K x0 x1 x2 M = some o) (hR : RC x K M H) (hS : va_S (AC K) s.heap H locs) (hl : lv_has ls 3 [(0, .ref x0), (1, .int x1), (2, .int x2)]) : W p l e R s m args below meth c H locs 0 0 (MQ below (CQV x K o) args s 0 0 (AC K)) (F0 m 0 ls []) := by
  obtain ⟨hx, hb, hml, hown, hts, hE, hB, hr, hlk⟩ := id CX
  have hL : KLe K K := KLe.rf K
  have hcs : 0 ≤ R.cells ∧ 0 ≤ R.slots := ⟨Nat.zero_le _, Nat.zero_le _⟩
  unfold fC_X2_look at hf
  refine lv_aload_n hx hb dX2_look_0 rfl (lv_at hl 0 rfl) ?_
  refine lv_iload_n hx hb dX2_look_1 rfl (lv_at hl 1 rfl) ?_
  obtain ⟨hk_x0_3, hf⟩ := gd_some hf
  obtain ⟨o2, ho2, hf⟩ := bnd_some hf
  refine cr_callVv kc_2 CX hR hL hS (As := [.int x1]) (rest := []) hk_x0_3 (MC_X2_noteNeed l x N K x0 x1 M o2 ho2) cv_X2_121 ⟨by omega, by omega⟩ rfl rfl (Nat.le_of_ble_eq_true rfl) hl.1 dX2_look_2 hcs (fun H locs hR hS => ?_)
  refine lv_aload_n hx hb dX2_look_5 rfl (lv_at hl 0 rfl) ?_
  refine lv_iload_n hx hb dX2_look_6 rfl (lv_at hl 1 rfl) ?_
  obtain ⟨o7, ho7, hf⟩ := bnd_some hf
  refine cr_callIv kc_2 CX hR hL hS (As := [.int x1]) (rest := []) hk_x0_3 (MC_X2_isThere l x N K x0 x1 o2 o7 ho7) cv_X2_130 ⟨by omega, by omega⟩ rfl rfl (Nat.le_of_ble_eq_true rfl) hl.1 dX2_look_7 hcs (fun H locs hR hS => ?_)
  refine lv_if_ne (tgt := 14) hx hb dX2_look_10 (by decide) (fun hc => ?_) (fun hc => ?_)
  · rw [if_neg hc] at hf
    refine lv_aload_n hx hb dX2_look_14 rfl (lv_at hl 0 rfl) ?_
    refine cr_getI kc_2 CX hR fa_X2_39 rfl hk_x0_3 dX2_look_15 ?_
    refine lv_if_ne (tgt := 61) hx hb dX2_look_18 (by decide) (fun hc => ?_) (fun hc => ?_)
    · rw [if_neg hc] at hf
      exact (wbC_X2_look_61 CX hRm) _ _ _ _ _ _ _ hf hR hS (lv_sub hl [0, 1, 2] rfl)
    · rw [if_pos hc] at hf
      refine lv_aload_n hx hb dX2_look_21 rfl (lv_at hl 0 rfl) ?_
      refine cr_getR kc_2 CX hR fa_X2_64 rfl hk_x0_3 dX2_look_22 ?_
      obtain ⟨a1, ha1, hf⟩ := nn_some hf
      refine rf_0 ha1 ?_
      obtain ⟨hk_a1_5, hf⟩ := gd_some hf
      refine cr_getR kc_4 CX hR fa_X2_186 rfl hk_a1_5 dX2_look_25 ?_
      refine lv_iload_n hx hb dX2_look_28 rfl (lv_at hl 1 rfl) ?_
      obtain ⟨a2, ha2, hf⟩ := nn_some hf
      refine rf_1 ha2 ?_
      obtain ⟨hk_a2_22, hf⟩ := gd_some hf
      obtain ⟨hi, hf⟩ := ck_some hf
      refine cr_iald CX hR hk_a2_22 hi dX2_look_29 ?_
      refine lv_iconst (v := 1) hx hb dX2_look_30 (by decide) ?_
      refine lv_icmp_ne (tgt := 61) hx hb dX2_look_31 (by decide) (fun hc => ?_) (fun hc => ?_)
      · rw [if_neg hc] at hf
        exact (wbC_X2_look_61 CX hRm) _ _ _ _ _ _ _ hf hR hS (lv_sub hl [0, 1, 2] rfl)
      · rw [if_pos hc] at hf
        refine lv_aload_n hx hb dX2_look_34 rfl (lv_at hl 0 rfl) ?_
        refine cr_getR kc_2 CX hR fa_X2_25 rfl hk_x0_3 dX2_look_35 ?_
        obtain ⟨a3, ha3, hf⟩ := nn_some hf
        refine rf_0 ha3 ?_
        obtain ⟨hk_a3_2, hf⟩ := gd_some hf
        refine cr_getI kc_1 CX hR fa_X2_134 rfl hk_a3_2 dX2_look_38 ?_
        refine lv_iload_n hx hb dX2_look_41 rfl (lv_at hl 1 rfl) ?_
        refine lv_icmp_eq (tgt := 61) hx hb dX2_look_42 (by decide) (fun hc => ?_) (fun hc => ?_)
        · rw [if_pos hc] at hf
          exact (wbC_X2_look_61 CX hRm) _ _ _ _ _ _ _ hf hR hS (lv_sub hl [0, 1, 2] rfl)
        · rw [if_neg hc] at hf
          refine lv_aload_n hx hb dX2_look_45 rfl (lv_at hl 0 rfl) ?_
          refine cr_getR kc_2 CX hR fa_X2_68 rfl hk_x0_3 dX2_look_46 ?_
          refine lv_aload_n hx hb dX2_look_49 rfl (lv_at hl 0 rfl) ?_
          refine cr_getR kc_2 CX hR fa_X2_25 rfl hk_x0_3 dX2_look_50 ?_
          obtain ⟨a4, ha4, hf⟩ := nn_some hf
          refine rf_0 ha4 ?_
          obtain ⟨hk_a4_2, hf⟩ := gd_some hf
          refine cr_getI kc_1 CX hR fa_X2_134 rfl hk_a4_2 dX2_look_53 ?_
          refine lv_iload_n hx hb dX2_look_56 rfl (lv_at hl 1 rfl) ?_
          refine lv_iload_n hx hb dX2_look_57 rfl (lv_at hl 2 rfl) ?_
          obtain ⟨a5, ha5, hf⟩ := nn_some hf
          refine rf_3 ha5 ?_
          obtain ⟨hk_a5_1, hf⟩ := gd_some hf
          obtain ⟨o58, ho58, hf⟩ := bnd_some hf
          refine cr_callVv kc_0 CX hR hL hS (As := [.int (cI o7.2 a4 1), .int x1, .int x2]) (rest := []) hk_a5_1 (MC_X0_addHalf l x N K a5 (cI o7.2 a4 1) x1 x2 o7.2 o58 ho58) cv_X2_192 ⟨by omega, by omega⟩ rfl rfl (Nat.le_of_ble_eq_true rfl) hl.1 dX2_look_58 hcs (fun H locs hR hS => ?_)
          exact (wbC_X2_look_61 CX hRm) _ _ _ _ _ _ _ hf hR hS (lv_sub hl [0, 1, 2] rfl)
  · rw [if_pos hc] at hf
    exact cr_vret CX hR hS hf dX2_look_13
theorem MC_X2_look (l : Launch) (x : Xc) (N : Nat) (K : Ka) (x0 : Nat) (x1 : Int32) (x2 : Int32) (M : Cm) (o : Cm) (hf : fC_X2_look N K x0 x1 x2 M = some o) : CtV l x yX2_look cX2_look 3 3 69 [.ref x0, .int x1, .int x2] K M o :=
  cr_metV RX2 (by decide) rfl (Nat.le_of_ble_eq_true rfl) (fun p e s m args below meth c ls CX hR hl => wfC_X2_look CX ⟨Nat.le_refl _, Nat.le_refl _⟩ x0 x1 x2 M s.heap [] ls hf hR va_S.rf hl)
def fC_X2_pop (N : Nat) (K : Ka) (x0 : Nat) (M : Cm) : Option (Int32 × Cm) := gd (kd K x0 == 3) (if 0 < (cI M x0 7) then (nn (cR (wI M x0 7 ((cI M x0 7) - 1)) x0 3) fun a1 => gd (kd K a1 == 22) (ck (cI (wI M x0 7 ((cI M x0 7) - 1)) x0 7) (le K a1) (some (cI (wI M x0 7 ((cI M x0 7) - 1)) a1 (cI (wI M x0 7 ((cI M x0 7) - 1)) x0 7 : Int32).toNatClampNeg, wI M x0 7 ((cI M x0 7) - 1))))) else (some (0, M)))
set_option maxRecDepth 100000 in
set_option maxHeartbeats 4000000 in
theorem wfC_X2_pop {p : Program} {l : Launch} {e : Env} {R : Room} {s : State} {m : MethodId} {args : Array Value} {below : List Frame} {meth : Method} {c : Code} {x : Xc} {o : Int32 × Cm} {N : Nat} {K : Ka} (CX : CC p s m args meth c x K RX2 cX2_pop 1 (some .int)) (hRm : 0 ≤ R.frames ∧ 0 ≤ R.locals) (x0 : Nat) (M : Cm) (H : Heap) (locs : List Loc) (ls : Array Slot) (hf : fC_X2_pop N K x0 M = some o) (hR : RC x K M H) (hS : va_S (AC K) s.heap H locs) (hl : lv_has ls 1 [(0, .ref x0)]) : W p l e R s m args below meth c H locs 0 0 (MQ below (CQI x K o) args s 0 0 (AC K)) (F0 m 0 ls []) := by
  obtain ⟨hx, hb, hml, hown, hts, hE, hB, hr, hlk⟩ := id CX
  have hL : KLe K K := KLe.rf K
  have hcs : 0 ≤ R.cells ∧ 0 ≤ R.slots := ⟨Nat.zero_le _, Nat.zero_le _⟩
  unfold fC_X2_pop at hf
  refine lv_aload_n hx hb dX2_pop_0 rfl (lv_at hl 0 rfl) ?_
  obtain ⟨hk_x0_3, hf⟩ := gd_some hf
  refine cr_getI kc_2 CX hR fa_X2_33 rfl hk_x0_3 dX2_pop_1 ?_
  refine lv_if_gt (tgt := 9) hx hb dX2_pop_4 (by decide) (fun hc => ?_) (fun hc => ?_)
  · rw [if_pos hc] at hf
    refine lv_aload_n hx hb dX2_pop_9 rfl (lv_at hl 0 rfl) ?_
    refine lv_dup hx hb dX2_pop_10 rfl ?_
    refine cr_getI kc_2 CX hR fa_X2_33 rfl hk_x0_3 dX2_pop_11 ?_
    refine lv_iconst (v := 1) hx hb dX2_pop_14 (by decide) ?_
    refine lv_isub hx hb dX2_pop_15 ?_
    refine cr_putI kc_2 CX hR hL hS fa_X2_33 ⟨rfl, rfl, rfl⟩ hk_x0_3 dX2_pop_16 (fun H locs hR hS => ?_)
    refine lv_aload_n hx hb dX2_pop_19 rfl (lv_at hl 0 rfl) ?_
    refine cr_getR kc_2 CX hR fa_X2_17 rfl hk_x0_3 dX2_pop_20 ?_
    refine lv_aload_n hx hb dX2_pop_23 rfl (lv_at hl 0 rfl) ?_
    refine cr_getI kc_2 CX hR fa_X2_33 rfl hk_x0_3 dX2_pop_24 ?_
    obtain ⟨a1, ha1, hf⟩ := nn_some hf
    refine rf_1 ha1 ?_
    obtain ⟨hk_a1_22, hf⟩ := gd_some hf
    obtain ⟨hi, hf⟩ := ck_some hf
    refine cr_iald CX hR hk_a1_22 hi dX2_pop_27 ?_
    exact cr_iret CX hR hS hf dX2_pop_28
  · rw [if_neg hc] at hf
    refine lv_iconst (v := 0) hx hb dX2_pop_7 (by decide) ?_
    exact cr_iret CX hR hS hf dX2_pop_8
theorem MC_X2_pop (l : Launch) (x : Xc) (N : Nat) (K : Ka) (x0 : Nat) (M : Cm) (o : Int32 × Cm) (hf : fC_X2_pop N K x0 M = some o) : CtI l x yX2_pop cX2_pop 1 (some .int) 0 0 [.ref x0] K M o :=
  cr_metI RX2 (by decide) rfl (Nat.le_of_ble_eq_true rfl) (fun p e s m args below meth c ls CX hR hl => wfC_X2_pop CX ⟨Nat.le_refl _, Nat.le_refl _⟩ x0 M s.heap [] ls hf hR va_S.rf hl)
def bC_X2_reckon_148 (N : Nat) (K : Ka) (x0 : Nat) (M : Cm) : Option (Cm) := some M
set_option maxRecDepth 100000 in
set_option maxHeartbeats 4000000 in
theorem wbC_X2_reckon_148 {p : Program} {l : Launch} {e : Env} {R : Room} {s : State} {m : MethodId} {args : Array Value} {below : List Frame} {meth : Method} {c : Code} {x : Xc} {o : Cm} {N : Nat} {K : Ka} (CX : CC p s m args meth c x K RX2 cX2_reckon 4 none) (hRm : 2 ≤ R.frames ∧ 47 ≤ R.locals) (x0 : Nat) (M : Cm) (H : Heap) (locs : List Loc) (ls : Array Slot) (hf : bC_X2_reckon_148 N K x0 M = some o) (hR : RC x K M H) (hS : va_S (AC K) s.heap H locs) (hl : lv_has ls 4 [(0, .ref x0)]) : W p l e R s m args below meth c H locs 0 0 (MQ below (CQV x K o) args s 0 0 (AC K)) (F0 m 148 ls []) := by
  obtain ⟨hx, hb, hml, hown, hts, hE, hB, hr, hlk⟩ := id CX
  have hL : KLe K K := KLe.rf K
  have hcs : 0 ≤ R.cells ∧ 0 ≤ R.slots := ⟨Nat.zero_le _, Nat.zero_le _⟩
  unfold bC_X2_reckon_148 at hf
  exact cr_vret CX hR hS hf dX2_reckon_148
def bC_X2_reckon_93 (N : Nat) (K : Ka) (x0 : Nat) (s0 : Nat) (s1 : Int32) (M : Cm) : Option (Cm) := gd (kd K s0 == 3) ((fC_X2_push N K s0 s1 M).bind fun o93 => (bC_X2_reckon_148 N K) x0 o93)
set_option maxRecDepth 100000 in
set_option maxHeartbeats 4000000 in
theorem wbC_X2_reckon_93 {p : Program} {l : Launch} {e : Env} {R : Room} {s : State} {m : MethodId} {args : Array Value} {below : List Frame} {meth : Method} {c : Code} {x : Xc} {o : Cm} {N : Nat} {K : Ka} (CX : CC p s m args meth c x K RX2 cX2_reckon 4 none) (hRm : 2 ≤ R.frames ∧ 47 ≤ R.locals) (x0 : Nat) (s0 : Nat) (s1 : Int32) (M : Cm) (H : Heap) (locs : List Loc) (ls : Array Slot) (hf : bC_X2_reckon_93 N K x0 s0 s1 M = some o) (hR : RC x K M H) (hS : va_S (AC K) s.heap H locs) (hl : lv_has ls 4 [(0, .ref x0)]) : W p l e R s m args below meth c H locs 0 0 (MQ below (CQV x K o) args s 0 0 (AC K)) (F0 m 93 ls [.int s1, .ref s0]) := by
  obtain ⟨hx, hb, hml, hown, hts, hE, hB, hr, hlk⟩ := id CX
  have hL : KLe K K := KLe.rf K
  have hcs : 0 ≤ R.cells ∧ 0 ≤ R.slots := ⟨Nat.zero_le _, Nat.zero_le _⟩
  unfold bC_X2_reckon_93 at hf
  obtain ⟨hk_s0_3, hf⟩ := gd_some hf
  obtain ⟨o93, ho93, hf⟩ := bnd_some hf
  refine cr_callVv kc_2 CX hR hL hS (As := [.int s1]) (rest := []) hk_s0_3 (MC_X2_push l x N K s0 s1 M o93 ho93) cv_X2_117 ⟨by omega, by omega⟩ rfl rfl (Nat.le_of_ble_eq_true rfl) hl.1 dX2_reckon_93 hcs (fun H locs hR hS => ?_)
  refine lv_goto (tgt := 148) hx hb dX2_reckon_96 (by decide) ?_
  exact (wbC_X2_reckon_148 CX hRm) _ _ _ _ _ hf hR hS (lv_sub hl [0] rfl)
def bC_X2_reckon_110 (N : Nat) (K : Ka) (x0 : Nat) (s0 : Nat) (s1 : Int32) (M : Cm) : Option (Cm) := gd (kd K s0 == 3) ((fC_X2_push N K s0 s1 M).bind fun o110 => (bC_X2_reckon_148 N K) x0 o110)
set_option maxRecDepth 100000 in
set_option maxHeartbeats 4000000 in
theorem wbC_X2_reckon_110 {p : Program} {l : Launch} {e : Env} {R : Room} {s : State} {m : MethodId} {args : Array Value} {below : List Frame} {meth : Method} {c : Code} {x : Xc} {o : Cm} {N : Nat} {K : Ka} (CX : CC p s m args meth c x K RX2 cX2_reckon 4 none) (hRm : 2 ≤ R.frames ∧ 47 ≤ R.locals) (x0 : Nat) (s0 : Nat) (s1 : Int32) (M : Cm) (H : Heap) (locs : List Loc) (ls : Array Slot) (hf : bC_X2_reckon_110 N K x0 s0 s1 M = some o) (hR : RC x K M H) (hS : va_S (AC K) s.heap H locs) (hl : lv_has ls 4 [(0, .ref x0)]) : W p l e R s m args below meth c H locs 0 0 (MQ below (CQV x K o) args s 0 0 (AC K)) (F0 m 110 ls [.int s1, .ref s0]) := by
  obtain ⟨hx, hb, hml, hown, hts, hE, hB, hr, hlk⟩ := id CX
  have hL : KLe K K := KLe.rf K
  have hcs : 0 ≤ R.cells ∧ 0 ≤ R.slots := ⟨Nat.zero_le _, Nat.zero_le _⟩
  unfold bC_X2_reckon_110 at hf
  obtain ⟨hk_s0_3, hf⟩ := gd_some hf
  obtain ⟨o110, ho110, hf⟩ := bnd_some hf
  refine cr_callVv kc_2 CX hR hL hS (As := [.int s1]) (rest := []) hk_s0_3 (MC_X2_push l x N K s0 s1 M o110 ho110) cv_X2_117 ⟨by omega, by omega⟩ rfl rfl (Nat.le_of_ble_eq_true rfl) hl.1 dX2_reckon_110 hcs (fun H locs hR hS => ?_)
  refine lv_goto (tgt := 148) hx hb dX2_reckon_113 (by decide) ?_
  exact (wbC_X2_reckon_148 CX hRm) _ _ _ _ _ hf hR hS (lv_sub hl [0] rfl)
def bC_X2_reckon_145 (N : Nat) (K : Ka) (x0 : Nat) (s0 : Nat) (s1 : Int32) (M : Cm) : Option (Cm) := gd (kd K s0 == 3) ((fC_X2_push N K s0 s1 M).bind fun o145 => (bC_X2_reckon_148 N K) x0 o145)
set_option maxRecDepth 100000 in
set_option maxHeartbeats 4000000 in
theorem wbC_X2_reckon_145 {p : Program} {l : Launch} {e : Env} {R : Room} {s : State} {m : MethodId} {args : Array Value} {below : List Frame} {meth : Method} {c : Code} {x : Xc} {o : Cm} {N : Nat} {K : Ka} (CX : CC p s m args meth c x K RX2 cX2_reckon 4 none) (hRm : 2 ≤ R.frames ∧ 47 ≤ R.locals) (x0 : Nat) (s0 : Nat) (s1 : Int32) (M : Cm) (H : Heap) (locs : List Loc) (ls : Array Slot) (hf : bC_X2_reckon_145 N K x0 s0 s1 M = some o) (hR : RC x K M H) (hS : va_S (AC K) s.heap H locs) (hl : lv_has ls 4 [(0, .ref x0)]) : W p l e R s m args below meth c H locs 0 0 (MQ below (CQV x K o) args s 0 0 (AC K)) (F0 m 145 ls [.int s1, .ref s0]) := by
  obtain ⟨hx, hb, hml, hown, hts, hE, hB, hr, hlk⟩ := id CX
  have hL : KLe K K := KLe.rf K
  have hcs : 0 ≤ R.cells ∧ 0 ≤ R.slots := ⟨Nat.zero_le _, Nat.zero_le _⟩
  unfold bC_X2_reckon_145 at hf
  obtain ⟨hk_s0_3, hf⟩ := gd_some hf
  obtain ⟨o145, ho145, hf⟩ := bnd_some hf
  refine cr_callVv kc_2 CX hR hL hS (As := [.int s1]) (rest := []) hk_s0_3 (MC_X2_push l x N K s0 s1 M o145 ho145) cv_X2_117 ⟨by omega, by omega⟩ rfl rfl (Nat.le_of_ble_eq_true rfl) hl.1 dX2_reckon_145 hcs (fun H locs hR hS => ?_)
  exact (wbC_X2_reckon_148 CX hRm) _ _ _ _ _ hf hR hS (lv_sub hl [0] rfl)
def fC_X2_reckon (N : Nat) (K : Ka) (x0 : Nat) (x1 : Int32) (x2 : Int32) (x3 : Int32) (M : Cm) : Option (Cm) := if x1 = 42 then (gd (kd K x0 == 3) ((fC_X2_push N K x0 (x2 * x3) M).bind fun o76 => (bC_X2_reckon_148 N K) x0 o76)) else if x1 = 43 then (gd (kd K x0 == 3) ((fC_X2_push N K x0 (x2 + x3) M).bind fun o56 => (bC_X2_reckon_148 N K) x0 o56)) else if x1 = 45 then (gd (kd K x0 == 3) ((fC_X2_push N K x0 (x2 - x3) M).bind fun o66 => (bC_X2_reckon_148 N K) x0 o66)) else if x1 = 60 then (if x3 ≤ x2 then ((bC_X2_reckon_93 N K) x0 x0 0 M) else ((bC_X2_reckon_93 N K) x0 x0 1 M)) else if x1 = 61 then (if x2 = x3 then ((bC_X2_reckon_110 N K) x0 x0 1 M) else ((bC_X2_reckon_110 N K) x0 x0 0 M)) else (if x3 = 0 then (gd (kd K x0 == 3) ((fC_X2_raise N K x0 13 M).bind fun o123 => (bC_X2_reckon_148 N K) x0 o123)) else (if x1 = 47 then (gd (x3 != 0) ((bC_X2_reckon_145 N K) x0 x0 (x2 / x3) M)) else (gd (x3 != 0) ((bC_X2_reckon_145 N K) x0 x0 (x2 - x2 / x3 * x3) M))))
set_option maxRecDepth 100000 in
set_option maxHeartbeats 4000000 in
theorem wfC_X2_reckon {p : Program} {l : Launch} {e : Env} {R : Room} {s : State} {m : MethodId} {args : Array Value} {below : List Frame} {meth : Method} {c : Code} {x : Xc} {o : Cm} {N : Nat} {K : Ka} (CX : CC p s m args meth c x K RX2 cX2_reckon 4 none) (hRm : 2 ≤ R.frames ∧ 47 ≤ R.locals) (x0 : Nat) (x1 : Int32) (x2 : Int32) (x3 : Int32) (M : Cm) (H : Heap) (locs : List Loc) (ls : Array Slot) (hf : fC_X2_reckon N K x0 x1 x2 x3 M = some o) (hR : RC x K M H) (hS : va_S (AC K) s.heap H locs) (hl : lv_has ls 4 [(0, .ref x0), (1, .int x1), (2, .int x2), (3, .int x3)]) : W p l e R s m args below meth c H locs 0 0 (MQ below (CQV x K o) args s 0 0 (AC K)) (F0 m 0 ls []) := by
  obtain ⟨hx, hb, hml, hown, hts, hE, hB, hr, hlk⟩ := id CX
  have hL : KLe K K := KLe.rf K
  have hcs : 0 ≤ R.cells ∧ 0 ≤ R.slots := ⟨Nat.zero_le _, Nat.zero_le _⟩
  unfold fC_X2_reckon at hf
  refine lv_iload_n hx hb dX2_reckon_0 rfl (lv_at hl 1 rfl) ?_
  by_cases hc0 : x1 = 42
  · rw [if_pos hc0] at hf
    refine lv_lookup (off := 71) (tgt := 72) hx hb dX2_reckon_1 (by decide) (by rw [hc0]; decide) (by decide) ?_
    refine lv_aload_n hx hb dX2_reckon_72 rfl (lv_at hl 0 rfl) ?_
    refine lv_iload_n hx hb dX2_reckon_73 rfl (lv_at hl 2 rfl) ?_
    refine lv_iload_n hx hb dX2_reckon_74 rfl (lv_at hl 3 rfl) ?_
    refine lv_imul hx hb dX2_reckon_75 ?_
    obtain ⟨hk_x0_3, hf⟩ := gd_some hf
    obtain ⟨o76, ho76, hf⟩ := bnd_some hf
    refine cr_callVv kc_2 CX hR hL hS (As := [.int (x2 * x3)]) (rest := []) hk_x0_3 (MC_X2_push l x N K x0 (x2 * x3) M o76 ho76) cv_X2_117 ⟨by omega, by omega⟩ rfl rfl (Nat.le_of_ble_eq_true rfl) hl.1 dX2_reckon_76 hcs (fun H locs hR hS => ?_)
    refine lv_goto (tgt := 148) hx hb dX2_reckon_79 (by decide) ?_
    exact (wbC_X2_reckon_148 CX hRm) _ _ _ _ _ hf hR hS (lv_sub hl [0] rfl)
  · rw [if_neg hc0] at hf
    by_cases hc1 : x1 = 43
    · rw [if_pos hc1] at hf
      refine lv_lookup (off := 51) (tgt := 52) hx hb dX2_reckon_1 (by decide) (by rw [hc1]; decide) (by decide) ?_
      refine lv_aload_n hx hb dX2_reckon_52 rfl (lv_at hl 0 rfl) ?_
      refine lv_iload_n hx hb dX2_reckon_53 rfl (lv_at hl 2 rfl) ?_
      refine lv_iload_n hx hb dX2_reckon_54 rfl (lv_at hl 3 rfl) ?_
      refine lv_iadd hx hb dX2_reckon_55 ?_
      obtain ⟨hk_x0_3, hf⟩ := gd_some hf
      obtain ⟨o56, ho56, hf⟩ := bnd_some hf
      refine cr_callVv kc_2 CX hR hL hS (As := [.int (x2 + x3)]) (rest := []) hk_x0_3 (MC_X2_push l x N K x0 (x2 + x3) M o56 ho56) cv_X2_117 ⟨by omega, by omega⟩ rfl rfl (Nat.le_of_ble_eq_true rfl) hl.1 dX2_reckon_56 hcs (fun H locs hR hS => ?_)
      refine lv_goto (tgt := 148) hx hb dX2_reckon_59 (by decide) ?_
      exact (wbC_X2_reckon_148 CX hRm) _ _ _ _ _ hf hR hS (lv_sub hl [0] rfl)
    · rw [if_neg hc1] at hf
      by_cases hc2 : x1 = 45
      · rw [if_pos hc2] at hf
        refine lv_lookup (off := 61) (tgt := 62) hx hb dX2_reckon_1 (by decide) (by rw [hc2]; decide) (by decide) ?_
        refine lv_aload_n hx hb dX2_reckon_62 rfl (lv_at hl 0 rfl) ?_
        refine lv_iload_n hx hb dX2_reckon_63 rfl (lv_at hl 2 rfl) ?_
        refine lv_iload_n hx hb dX2_reckon_64 rfl (lv_at hl 3 rfl) ?_
        refine lv_isub hx hb dX2_reckon_65 ?_
        obtain ⟨hk_x0_3, hf⟩ := gd_some hf
        obtain ⟨o66, ho66, hf⟩ := bnd_some hf
        refine cr_callVv kc_2 CX hR hL hS (As := [.int (x2 - x3)]) (rest := []) hk_x0_3 (MC_X2_push l x N K x0 (x2 - x3) M o66 ho66) cv_X2_117 ⟨by omega, by omega⟩ rfl rfl (Nat.le_of_ble_eq_true rfl) hl.1 dX2_reckon_66 hcs (fun H locs hR hS => ?_)
        refine lv_goto (tgt := 148) hx hb dX2_reckon_69 (by decide) ?_
        exact (wbC_X2_reckon_148 CX hRm) _ _ _ _ _ hf hR hS (lv_sub hl [0] rfl)
      · rw [if_neg hc2] at hf
        by_cases hc3 : x1 = 60
        · rw [if_pos hc3] at hf
          refine lv_lookup (off := 81) (tgt := 82) hx hb dX2_reckon_1 (by decide) (by rw [hc3]; decide) (by decide) ?_
          refine lv_aload_n hx hb dX2_reckon_82 rfl (lv_at hl 0 rfl) ?_
          refine lv_iload_n hx hb dX2_reckon_83 rfl (lv_at hl 2 rfl) ?_
          refine lv_iload_n hx hb dX2_reckon_84 rfl (lv_at hl 3 rfl) ?_
          refine lv_icmp_ge (tgt := 92) hx hb dX2_reckon_85 (by decide) (fun hc => ?_) (fun hc => ?_)
          · rw [if_pos hc] at hf
            refine lv_iconst (v := 0) hx hb dX2_reckon_92 (by decide) ?_
            exact (wbC_X2_reckon_93 CX hRm) _ _ _ _ _ _ _ hf hR hS (lv_sub hl [0] rfl)
          · rw [if_neg hc] at hf
            refine lv_iconst (v := 1) hx hb dX2_reckon_88 (by decide) ?_
            refine lv_goto (tgt := 93) hx hb dX2_reckon_89 (by decide) ?_
            exact (wbC_X2_reckon_93 CX hRm) _ _ _ _ _ _ _ hf hR hS (lv_sub hl [0] rfl)
        · rw [if_neg hc3] at hf
          by_cases hc4 : x1 = 61
          · rw [if_pos hc4] at hf
            refine lv_lookup (off := 98) (tgt := 99) hx hb dX2_reckon_1 (by decide) (by rw [hc4]; decide) (by decide) ?_
            refine lv_aload_n hx hb dX2_reckon_99 rfl (lv_at hl 0 rfl) ?_
            refine lv_iload_n hx hb dX2_reckon_100 rfl (lv_at hl 2 rfl) ?_
            refine lv_iload_n hx hb dX2_reckon_101 rfl (lv_at hl 3 rfl) ?_
            refine lv_icmp_ne (tgt := 109) hx hb dX2_reckon_102 (by decide) (fun hc => ?_) (fun hc => ?_)
            · rw [if_neg hc] at hf
              refine lv_iconst (v := 0) hx hb dX2_reckon_109 (by decide) ?_
              exact (wbC_X2_reckon_110 CX hRm) _ _ _ _ _ _ _ hf hR hS (lv_sub hl [0] rfl)
            · rw [if_pos hc] at hf
              refine lv_iconst (v := 1) hx hb dX2_reckon_105 (by decide) ?_
              refine lv_goto (tgt := 110) hx hb dX2_reckon_106 (by decide) ?_
              exact (wbC_X2_reckon_110 CX hRm) _ _ _ _ _ _ _ hf hR hS (lv_sub hl [0] rfl)
          · rw [if_neg hc4] at hf
            have hn0 := tsw_ne (k := 42) rfl hc0
            have hn1 := tsw_ne (k := 43) rfl hc1
            have hn2 := tsw_ne (k := 45) rfl hc2
            have hn3 := tsw_ne (k := 60) rfl hc3
            have hn4 := tsw_ne (k := 61) rfl hc4
            refine lv_lookup (off := 115) (tgt := 116) hx hb dX2_reckon_1 (by decide) (by simp only [Op.lookupswitch.offset, List.toList_toArray, Ne.symm hn0, Ne.symm hn1, Ne.symm hn2, Ne.symm hn3, Ne.symm hn4, if_false]) (by decide) ?_
            refine lv_iload_n hx hb dX2_reckon_116 rfl (lv_at hl 3 rfl) ?_
            refine lv_if_ne (tgt := 129) hx hb dX2_reckon_117 (by decide) (fun hc => ?_) (fun hc => ?_)
            · rw [if_neg hc] at hf
              refine lv_aload_n hx hb dX2_reckon_129 rfl (lv_at hl 0 rfl) ?_
              refine lv_iload_n hx hb dX2_reckon_130 rfl (lv_at hl 1 rfl) ?_
              refine lv_bipush (v := 47) hx hb dX2_reckon_131 (by decide) ?_
              refine lv_icmp_ne (tgt := 142) hx hb dX2_reckon_133 (by decide) (fun hc => ?_) (fun hc => ?_)
              · rw [if_neg hc] at hf
                refine lv_iload_n hx hb dX2_reckon_142 rfl (lv_at hl 2 rfl) ?_
                refine lv_iload_n hx hb dX2_reckon_143 rfl (lv_at hl 3 rfl) ?_
                obtain ⟨hq, hf⟩ := gd_some hf
                refine lv_irem hx hb dX2_reckon_144 (by simpa using hq) ?_
                exact (wbC_X2_reckon_145 CX hRm) _ _ _ _ _ _ _ hf hR hS (lv_sub hl [0] rfl)
              · rw [if_pos hc] at hf
                refine lv_iload_n hx hb dX2_reckon_136 rfl (lv_at hl 2 rfl) ?_
                refine lv_iload_n hx hb dX2_reckon_137 rfl (lv_at hl 3 rfl) ?_
                obtain ⟨hq, hf⟩ := gd_some hf
                refine lv_idiv hx hb dX2_reckon_138 (by simpa using hq) ?_
                refine lv_goto (tgt := 145) hx hb dX2_reckon_139 (by decide) ?_
                exact (wbC_X2_reckon_145 CX hRm) _ _ _ _ _ _ _ hf hR hS (lv_sub hl [0] rfl)
            · rw [if_pos hc] at hf
              refine lv_aload_n hx hb dX2_reckon_120 rfl (lv_at hl 0 rfl) ?_
              refine lv_bipush (v := 13) hx hb dX2_reckon_121 (by decide) ?_
              obtain ⟨hk_x0_3, hf⟩ := gd_some hf
              obtain ⟨o123, ho123, hf⟩ := bnd_some hf
              refine cr_callVv kc_2 CX hR hL hS (As := [.int 13]) (rest := []) hk_x0_3 (MC_X2_raise l x N K x0 13 M o123 ho123) cv_X2_146 ⟨by omega, by omega⟩ rfl rfl (Nat.le_of_ble_eq_true rfl) hl.1 dX2_reckon_123 hcs (fun H locs hR hS => ?_)
              refine lv_goto (tgt := 148) hx hb dX2_reckon_126 (by decide) ?_
              exact (wbC_X2_reckon_148 CX hRm) _ _ _ _ _ hf hR hS (lv_sub hl [0] rfl)
theorem MC_X2_reckon (l : Launch) (x : Xc) (N : Nat) (K : Ka) (x0 : Nat) (x1 : Int32) (x2 : Int32) (x3 : Int32) (M : Cm) (o : Cm) (hf : fC_X2_reckon N K x0 x1 x2 x3 M = some o) : CtV l x yX2_reckon cX2_reckon 4 2 47 [.ref x0, .int x1, .int x2, .int x3] K M o :=
  cr_metV RX2 (by decide) rfl (Nat.le_of_ble_eq_true rfl) (fun p e s m args below meth c ls CX hR hl => wfC_X2_reckon CX ⟨Nat.le_refl _, Nat.le_refl _⟩ x0 x1 x2 x3 M s.heap [] ls hf hR va_S.rf hl)
def bC_X2_performPlain_187 (N : Nat) (K : Ka) (x0 : Nat) (M : Cm) : Option (Cm) := some M
set_option maxRecDepth 100000 in
set_option maxHeartbeats 4000000 in
theorem wbC_X2_performPlain_187 {p : Program} {l : Launch} {e : Env} {R : Room} {s : State} {m : MethodId} {args : Array Value} {below : List Frame} {meth : Method} {c : Code} {x : Xc} {o : Cm} {N : Nat} {K : Ka} (CX : CC p s m args meth c x K RX2 cX2_performPlain 4 none) (hRm : 3 ≤ R.frames ∧ 70 ≤ R.locals) (x0 : Nat) (M : Cm) (H : Heap) (locs : List Loc) (ls : Array Slot) (hf : bC_X2_performPlain_187 N K x0 M = some o) (hR : RC x K M H) (hS : va_S (AC K) s.heap H locs) (hl : lv_has ls 4 [(0, .ref x0)]) : W p l e R s m args below meth c H locs 0 0 (MQ below (CQV x K o) args s 0 0 (AC K)) (F0 m 187 ls []) := by
  obtain ⟨hx, hb, hml, hown, hts, hE, hB, hr, hlk⟩ := id CX
  have hL : KLe K K := KLe.rf K
  have hcs : 0 ≤ R.cells ∧ 0 ≤ R.slots := ⟨Nat.zero_le _, Nat.zero_le _⟩
  unfold bC_X2_performPlain_187 at hf
  exact cr_vret CX hR hS hf dX2_performPlain_187
def bC_X2_performPlain_172 (N : Nat) (K : Ka) (x0 : Nat) (x1 : Int32) (M : Cm) : Option (Cm) := gd (kd K x0 == 3) ((fC_X2_pop N K x0 M).bind fun o173 => (fC_X2_pop N K x0 o173.2).bind fun o180 => (fC_X2_reckon N K x0 x1 o180.1 o173.1 o180.2).bind fun o184 => (bC_X2_performPlain_187 N K) x0 o184)
set_option maxRecDepth 100000 in
set_option maxHeartbeats 4000000 in
theorem wbC_X2_performPlain_172 {p : Program} {l : Launch} {e : Env} {R : Room} {s : State} {m : MethodId} {args : Array Value} {below : List Frame} {meth : Method} {c : Code} {x : Xc} {o : Cm} {N : Nat} {K : Ka} (CX : CC p s m args meth c x K RX2 cX2_performPlain 4 none) (hRm : 3 ≤ R.frames ∧ 70 ≤ R.locals) (x0 : Nat) (x1 : Int32) (M : Cm) (H : Heap) (locs : List Loc) (ls : Array Slot) (hf : bC_X2_performPlain_172 N K x0 x1 M = some o) (hR : RC x K M H) (hS : va_S (AC K) s.heap H locs) (hl : lv_has ls 4 [(0, .ref x0), (1, .int x1)]) : W p l e R s m args below meth c H locs 0 0 (MQ below (CQV x K o) args s 0 0 (AC K)) (F0 m 172 ls []) := by
  obtain ⟨hx, hb, hml, hown, hts, hE, hB, hr, hlk⟩ := id CX
  have hL : KLe K K := KLe.rf K
  have hcs : 0 ≤ R.cells ∧ 0 ≤ R.slots := ⟨Nat.zero_le _, Nat.zero_le _⟩
  unfold bC_X2_performPlain_172 at hf
  refine lv_aload_n hx hb dX2_performPlain_172 rfl (lv_at hl 0 rfl) ?_
  obtain ⟨hk_x0_3, hf⟩ := gd_some hf
  obtain ⟨o173, ho173, hf⟩ := bnd_some hf
  refine cr_callIv kc_2 CX hR hL hS (As := []) (rest := []) hk_x0_3 (MC_X2_pop l x N K x0 M o173 ho173) cv_X2_149 ⟨by omega, by omega⟩ rfl rfl (Nat.le_of_ble_eq_true rfl) hl.1 dX2_performPlain_173 hcs (fun H locs hR hS => ?_)
  refine lv_istore_n (lv' := [(3, .int o173.1), (0, .ref x0), (1, .int x1)]) hx hb dX2_performPlain_176 rfl hl (by decide) rfl (fun ls hl => ?_)
  refine lv_aload_n hx hb dX2_performPlain_177 rfl (lv_at hl 1 rfl) ?_
  refine lv_iload_n hx hb dX2_performPlain_178 rfl (lv_at hl 2 rfl) ?_
  refine lv_aload_n hx hb dX2_performPlain_179 rfl (lv_at hl 1 rfl) ?_
  obtain ⟨o180, ho180, hf⟩ := bnd_some hf
  refine cr_callIv kc_2 CX hR hL hS (As := []) (rest := [.int x1, .ref x0]) hk_x0_3 (MC_X2_pop l x N K x0 o173.2 o180 ho180) cv_X2_149 ⟨by omega, by omega⟩ rfl rfl (Nat.le_of_ble_eq_true rfl) hl.1 dX2_performPlain_180 hcs (fun H locs hR hS => ?_)
  refine lv_iload_n hx hb dX2_performPlain_183 rfl (lv_at hl 0 rfl) ?_
  obtain ⟨o184, ho184, hf⟩ := bnd_some hf
  refine cr_callVv kc_2 CX hR hL hS (As := [.int x1, .int o180.1, .int o173.1]) (rest := []) hk_x0_3 (MC_X2_reckon l x N K x0 x1 o180.1 o173.1 o180.2 o184 ho184) cv_X2_177 ⟨by omega, by omega⟩ rfl rfl (Nat.le_of_ble_eq_true rfl) hl.1 dX2_performPlain_184 hcs (fun H locs hR hS => ?_)
  exact (wbC_X2_performPlain_187 CX hRm) _ _ _ _ _ hf hR hS (lv_sub hl [1] rfl)
def fC_X2_performPlain (N : Nat) (K : Ka) (x0 : Nat) (x1 : Int32) (x2 : Int32) (M : Cm) : Option (Cm) := if x1 = 9 then (gd (kd K x0 == 3) ((fC_X2_pop N K x0 M).bind fun o62 => (fC_X2_push N K x0 (-o62.1) o62.2).bind fun o66 => (bC_X2_performPlain_187 N K) x0 o66)) else if x1 = 10 then (gd (kd K x0 == 3) (nn (cR M x0 0) fun a1 => gd (kd K a1 == 5) (nn (cR M a1 8) fun a2 => gd (kd K a2 == 22) (ck x2 (le K a2) ((fC_X2_push N K x0 (cI M a2 (x2 : Int32).toNatClampNeg) M).bind fun o82 => (bC_X2_performPlain_187 N K) x0 o82))))) else if x1 = 11 then (gd (kd K x0 == 3) (nn (cR M x0 5) fun a3 => gd (kd K a3 == 2) ((fC_X2_push N K x0 (cI M a3 3) M).bind fun o96 => (bC_X2_performPlain_187 N K) x0 o96))) else if x1 = 12 then (gd (kd K x0 == 3) (nn (cR M x0 0) fun a4 => gd (kd K a4 == 5) ((fC_X2_push N K x0 (cI M a4 11) M).bind fun o110 => (bC_X2_performPlain_187 N K) x0 o110))) else if x1 = 13 then ((bC_X2_performPlain_172 N K) x0 x1 M) else if x1 = 14 then ((bC_X2_performPlain_172 N K) x0 x1 M) else if x1 = 15 then ((bC_X2_performPlain_172 N K) x0 x1 M) else if x1 = 16 then (gd (kd K x0 == 3) (nn (cR M x0 5) fun a5 => gd (kd K a5 == 2) ((bC_X2_performPlain_187 N K) x0 (wI M a5 2 x2)))) else if x1 = 17 then (gd (kd K x0 == 3) ((fC_X2_pop N K x0 M).bind fun o128 => if o128.1 = 0 then (nn (cR o128.2 x0 5) fun a6 => gd (kd K a6 == 2) ((bC_X2_performPlain_187 N K) x0 (wI o128.2 a6 2 x2))) else ((bC_X2_performPlain_187 N K) x0 o128.2))) else if x1 = 18 then (gd (kd K x0 == 3) (nn (cR M x0 5) fun a7 => gd (kd K a7 == 2) ((fC_X1_addTry N K a7 x2 M).bind fun o150 => (bC_X2_performPlain_187 N K) x0 o150))) else if x1 = 19 then (gd (kd K x0 == 3) (nn (cR M x0 5) fun a8 => gd (kd K a8 == 2) ((bC_X2_performPlain_187 N K) x0 (wI M a8 5 ((cI M a8 5) - 1))))) else ((bC_X2_performPlain_172 N K) x0 x1 M)
set_option maxRecDepth 100000 in
set_option maxHeartbeats 4000000 in
theorem wfC_X2_performPlain {p : Program} {l : Launch} {e : Env} {R : Room} {s : State} {m : MethodId} {args : Array Value} {below : List Frame} {meth : Method} {c : Code} {x : Xc} {o : Cm} {N : Nat} {K : Ka} (CX : CC p s m args meth c x K RX2 cX2_performPlain 4 none) (hRm : 3 ≤ R.frames ∧ 70 ≤ R.locals) (x0 : Nat) (x1 : Int32) (x2 : Int32) (M : Cm) (H : Heap) (locs : List Loc) (ls : Array Slot) (hf : fC_X2_performPlain N K x0 x1 x2 M = some o) (hR : RC x K M H) (hS : va_S (AC K) s.heap H locs) (hl : lv_has ls 4 [(0, .ref x0), (1, .int x1), (2, .int x2)]) : W p l e R s m args below meth c H locs 0 0 (MQ below (CQV x K o) args s 0 0 (AC K)) (F0 m 0 ls []) := by
  obtain ⟨hx, hb, hml, hown, hts, hE, hB, hr, hlk⟩ := id CX
  have hL : KLe K K := KLe.rf K
  have hcs : 0 ≤ R.cells ∧ 0 ≤ R.slots := ⟨Nat.zero_le _, Nat.zero_le _⟩
  unfold fC_X2_performPlain at hf
  refine lv_iload_n hx hb dX2_performPlain_0 rfl (lv_at hl 1 rfl) ?_
  by_cases hc0 : x1 = 9
  · rw [if_pos hc0] at hf
    refine lv_tableIn (off := 59) (tgt := 60) hx hb dX2_performPlain_1 (by rw [hc0]; decide) (by rw [hc0]; decide) (by rw [hc0]; decide) (by decide) ?_
    refine lv_aload_n hx hb dX2_performPlain_60 rfl (lv_at hl 0 rfl) ?_
    refine lv_aload_n hx hb dX2_performPlain_61 rfl (lv_at hl 0 rfl) ?_
    obtain ⟨hk_x0_3, hf⟩ := gd_some hf
    obtain ⟨o62, ho62, hf⟩ := bnd_some hf
    refine cr_callIv kc_2 CX hR hL hS (As := []) (rest := [.ref x0]) hk_x0_3 (MC_X2_pop l x N K x0 M o62 ho62) cv_X2_149 ⟨by omega, by omega⟩ rfl rfl (Nat.le_of_ble_eq_true rfl) hl.1 dX2_performPlain_62 hcs (fun H locs hR hS => ?_)
    refine lv_ineg hx hb dX2_performPlain_65 ?_
    obtain ⟨o66, ho66, hf⟩ := bnd_some hf
    refine cr_callVv kc_2 CX hR hL hS (As := [.int (-o62.1)]) (rest := []) hk_x0_3 (MC_X2_push l x N K x0 (-o62.1) o62.2 o66 ho66) cv_X2_117 ⟨by omega, by omega⟩ rfl rfl (Nat.le_of_ble_eq_true rfl) hl.1 dX2_performPlain_66 hcs (fun H locs hR hS => ?_)
    refine lv_goto (tgt := 187) hx hb dX2_performPlain_69 (by decide) ?_
    exact (wbC_X2_performPlain_187 CX hRm) _ _ _ _ _ hf hR hS (lv_sub hl [0] rfl)
  · rw [if_neg hc0] at hf
    by_cases hc1 : x1 = 10
    · rw [if_pos hc1] at hf
      refine lv_tableIn (off := 71) (tgt := 72) hx hb dX2_performPlain_1 (by rw [hc1]; decide) (by rw [hc1]; decide) (by rw [hc1]; decide) (by decide) ?_
      refine lv_aload_n hx hb dX2_performPlain_72 rfl (lv_at hl 0 rfl) ?_
      refine lv_aload_n hx hb dX2_performPlain_73 rfl (lv_at hl 0 rfl) ?_
      obtain ⟨hk_x0_3, hf⟩ := gd_some hf
      refine cr_getR kc_2 CX hR fa_X2_64 rfl hk_x0_3 dX2_performPlain_74 ?_
      obtain ⟨a1, ha1, hf⟩ := nn_some hf
      refine rf_0 ha1 ?_
      obtain ⟨hk_a1_5, hf⟩ := gd_some hf
      refine cr_getR kc_4 CX hR fa_X2_162 rfl hk_a1_5 dX2_performPlain_77 ?_
      refine lv_iload_n hx hb dX2_performPlain_80 rfl (lv_at hl 2 rfl) ?_
      obtain ⟨a2, ha2, hf⟩ := nn_some hf
      refine rf_1 ha2 ?_
      obtain ⟨hk_a2_22, hf⟩ := gd_some hf
      obtain ⟨hi, hf⟩ := ck_some hf
      refine cr_iald CX hR hk_a2_22 hi dX2_performPlain_81 ?_
      obtain ⟨o82, ho82, hf⟩ := bnd_some hf
      refine cr_callVv kc_2 CX hR hL hS (As := [.int (cI M a2 (x2 : Int32).toNatClampNeg)]) (rest := []) hk_x0_3 (MC_X2_push l x N K x0 (cI M a2 (x2 : Int32).toNatClampNeg) M o82 ho82) cv_X2_117 ⟨by omega, by omega⟩ rfl rfl (Nat.le_of_ble_eq_true rfl) hl.1 dX2_performPlain_82 hcs (fun H locs hR hS => ?_)
      refine lv_goto (tgt := 187) hx hb dX2_performPlain_85 (by decide) ?_
      exact (wbC_X2_performPlain_187 CX hRm) _ _ _ _ _ hf hR hS (lv_sub hl [0] rfl)
    · rw [if_neg hc1] at hf
      by_cases hc2 : x1 = 11
      · rw [if_pos hc2] at hf
        refine lv_tableIn (off := 87) (tgt := 88) hx hb dX2_performPlain_1 (by rw [hc2]; decide) (by rw [hc2]; decide) (by rw [hc2]; decide) (by decide) ?_
        refine lv_aload_n hx hb dX2_performPlain_88 rfl (lv_at hl 0 rfl) ?_
        refine lv_aload_n hx hb dX2_performPlain_89 rfl (lv_at hl 0 rfl) ?_
        obtain ⟨hk_x0_3, hf⟩ := gd_some hf
        refine cr_getR kc_2 CX hR fa_X2_25 rfl hk_x0_3 dX2_performPlain_90 ?_
        obtain ⟨a3, ha3, hf⟩ := nn_some hf
        refine rf_0 ha3 ?_
        obtain ⟨hk_a3_2, hf⟩ := gd_some hf
        refine cr_getI kc_1 CX hR fa_X2_165 rfl hk_a3_2 dX2_performPlain_93 ?_
        obtain ⟨o96, ho96, hf⟩ := bnd_some hf
        refine cr_callVv kc_2 CX hR hL hS (As := [.int (cI M a3 3)]) (rest := []) hk_x0_3 (MC_X2_push l x N K x0 (cI M a3 3) M o96 ho96) cv_X2_117 ⟨by omega, by omega⟩ rfl rfl (Nat.le_of_ble_eq_true rfl) hl.1 dX2_performPlain_96 hcs (fun H locs hR hS => ?_)
        refine lv_goto (tgt := 187) hx hb dX2_performPlain_99 (by decide) ?_
        exact (wbC_X2_performPlain_187 CX hRm) _ _ _ _ _ hf hR hS (lv_sub hl [0] rfl)
      · rw [if_neg hc2] at hf
        by_cases hc3 : x1 = 12
        · rw [if_pos hc3] at hf
          refine lv_tableIn (off := 101) (tgt := 102) hx hb dX2_performPlain_1 (by rw [hc3]; decide) (by rw [hc3]; decide) (by rw [hc3]; decide) (by decide) ?_
          refine lv_aload_n hx hb dX2_performPlain_102 rfl (lv_at hl 0 rfl) ?_
          refine lv_aload_n hx hb dX2_performPlain_103 rfl (lv_at hl 0 rfl) ?_
          obtain ⟨hk_x0_3, hf⟩ := gd_some hf
          refine cr_getR kc_2 CX hR fa_X2_64 rfl hk_x0_3 dX2_performPlain_104 ?_
          obtain ⟨a4, ha4, hf⟩ := nn_some hf
          refine rf_0 ha4 ?_
          obtain ⟨hk_a4_5, hf⟩ := gd_some hf
          refine cr_getI kc_4 CX hR fa_X2_168 rfl hk_a4_5 dX2_performPlain_107 ?_
          obtain ⟨o110, ho110, hf⟩ := bnd_some hf
          refine cr_callVv kc_2 CX hR hL hS (As := [.int (cI M a4 11)]) (rest := []) hk_x0_3 (MC_X2_push l x N K x0 (cI M a4 11) M o110 ho110) cv_X2_117 ⟨by omega, by omega⟩ rfl rfl (Nat.le_of_ble_eq_true rfl) hl.1 dX2_performPlain_110 hcs (fun H locs hR hS => ?_)
          refine lv_goto (tgt := 187) hx hb dX2_performPlain_113 (by decide) ?_
          exact (wbC_X2_performPlain_187 CX hRm) _ _ _ _ _ hf hR hS (lv_sub hl [0] rfl)
        · rw [if_neg hc3] at hf
          by_cases hc4 : x1 = 13
          · rw [if_pos hc4] at hf
            refine lv_tableIn (off := 171) (tgt := 172) hx hb dX2_performPlain_1 (by rw [hc4]; decide) (by rw [hc4]; decide) (by rw [hc4]; decide) (by decide) ?_
            exact (wbC_X2_performPlain_172 CX hRm) _ _ _ _ _ _ hf hR hS (lv_sub hl [0, 1] rfl)
          · rw [if_neg hc4] at hf
            by_cases hc5 : x1 = 14
            · rw [if_pos hc5] at hf
              refine lv_tableIn (off := 171) (tgt := 172) hx hb dX2_performPlain_1 (by rw [hc5]; decide) (by rw [hc5]; decide) (by rw [hc5]; decide) (by decide) ?_
              exact (wbC_X2_performPlain_172 CX hRm) _ _ _ _ _ _ hf hR hS (lv_sub hl [0, 1] rfl)
            · rw [if_neg hc5] at hf
              by_cases hc6 : x1 = 15
              · rw [if_pos hc6] at hf
                refine lv_tableIn (off := 171) (tgt := 172) hx hb dX2_performPlain_1 (by rw [hc6]; decide) (by rw [hc6]; decide) (by rw [hc6]; decide) (by decide) ?_
                exact (wbC_X2_performPlain_172 CX hRm) _ _ _ _ _ _ hf hR hS (lv_sub hl [0, 1] rfl)
              · rw [if_neg hc6] at hf
                by_cases hc7 : x1 = 16
                · rw [if_pos hc7] at hf
                  refine lv_tableIn (off := 115) (tgt := 116) hx hb dX2_performPlain_1 (by rw [hc7]; decide) (by rw [hc7]; decide) (by rw [hc7]; decide) (by decide) ?_
                  refine lv_aload_n hx hb dX2_performPlain_116 rfl (lv_at hl 0 rfl) ?_
                  obtain ⟨hk_x0_3, hf⟩ := gd_some hf
                  refine cr_getR kc_2 CX hR fa_X2_25 rfl hk_x0_3 dX2_performPlain_117 ?_
                  refine lv_iload_n hx hb dX2_performPlain_120 rfl (lv_at hl 2 rfl) ?_
                  obtain ⟨a5, ha5, hf⟩ := nn_some hf
                  refine rf_1 ha5 ?_
                  obtain ⟨hk_a5_2, hf⟩ := gd_some hf
                  refine cr_putI kc_1 CX hR hL hS fa_X2_95 ⟨rfl, rfl, rfl⟩ hk_a5_2 dX2_performPlain_121 (fun H locs hR hS => ?_)
                  refine lv_goto (tgt := 187) hx hb dX2_performPlain_124 (by decide) ?_
                  exact (wbC_X2_performPlain_187 CX hRm) _ _ _ _ _ hf hR hS (lv_sub hl [0] rfl)
                · rw [if_neg hc7] at hf
                  by_cases hc8 : x1 = 17
                  · rw [if_pos hc8] at hf
                    refine lv_tableIn (off := 126) (tgt := 127) hx hb dX2_performPlain_1 (by rw [hc8]; decide) (by rw [hc8]; decide) (by rw [hc8]; decide) (by decide) ?_
                    refine lv_aload_n hx hb dX2_performPlain_127 rfl (lv_at hl 0 rfl) ?_
                    obtain ⟨hk_x0_3, hf⟩ := gd_some hf
                    obtain ⟨o128, ho128, hf⟩ := bnd_some hf
                    refine cr_callIv kc_2 CX hR hL hS (As := []) (rest := []) hk_x0_3 (MC_X2_pop l x N K x0 M o128 ho128) cv_X2_149 ⟨by omega, by omega⟩ rfl rfl (Nat.le_of_ble_eq_true rfl) hl.1 dX2_performPlain_128 hcs (fun H locs hR hS => ?_)
                    refine lv_if_ne (tgt := 187) hx hb dX2_performPlain_131 (by decide) (fun hc => ?_) (fun hc => ?_)
                    · rw [if_neg hc] at hf
                      exact (wbC_X2_performPlain_187 CX hRm) _ _ _ _ _ hf hR hS (lv_sub hl [0] rfl)
                    · rw [if_pos hc] at hf
                      refine lv_aload_n hx hb dX2_performPlain_134 rfl (lv_at hl 0 rfl) ?_
                      refine cr_getR kc_2 CX hR fa_X2_25 rfl hk_x0_3 dX2_performPlain_135 ?_
                      refine lv_iload_n hx hb dX2_performPlain_138 rfl (lv_at hl 2 rfl) ?_
                      obtain ⟨a6, ha6, hf⟩ := nn_some hf
                      refine rf_1 ha6 ?_
                      obtain ⟨hk_a6_2, hf⟩ := gd_some hf
                      refine cr_putI kc_1 CX hR hL hS fa_X2_95 ⟨rfl, rfl, rfl⟩ hk_a6_2 dX2_performPlain_139 (fun H locs hR hS => ?_)
                      refine lv_goto (tgt := 187) hx hb dX2_performPlain_142 (by decide) ?_
                      exact (wbC_X2_performPlain_187 CX hRm) _ _ _ _ _ hf hR hS (lv_sub hl [0] rfl)
                  · rw [if_neg hc8] at hf
                    by_cases hc9 : x1 = 18
                    · rw [if_pos hc9] at hf
                      refine lv_tableIn (off := 144) (tgt := 145) hx hb dX2_performPlain_1 (by rw [hc9]; decide) (by rw [hc9]; decide) (by rw [hc9]; decide) (by decide) ?_
                      refine lv_aload_n hx hb dX2_performPlain_145 rfl (lv_at hl 0 rfl) ?_
                      obtain ⟨hk_x0_3, hf⟩ := gd_some hf
                      refine cr_getR kc_2 CX hR fa_X2_25 rfl hk_x0_3 dX2_performPlain_146 ?_
                      refine lv_iload_n hx hb dX2_performPlain_149 rfl (lv_at hl 2 rfl) ?_
                      obtain ⟨a7, ha7, hf⟩ := nn_some hf
                      refine rf_1 ha7 ?_
                      obtain ⟨hk_a7_2, hf⟩ := gd_some hf
                      obtain ⟨o150, ho150, hf⟩ := bnd_some hf
                      refine cr_callVv kc_1 CX hR hL hS (As := [.int x2]) (rest := []) hk_a7_2 (MC_X1_addTry l x N K a7 x2 M o150 ho150) cv_X2_171 ⟨by omega, by omega⟩ rfl rfl (Nat.le_of_ble_eq_true rfl) hl.1 dX2_performPlain_150 hcs (fun H locs hR hS => ?_)
                      refine lv_goto (tgt := 187) hx hb dX2_performPlain_153 (by decide) ?_
                      exact (wbC_X2_performPlain_187 CX hRm) _ _ _ _ _ hf hR hS (lv_sub hl [0] rfl)
                    · rw [if_neg hc9] at hf
                      by_cases hc10 : x1 = 19
                      · rw [if_pos hc10] at hf
                        refine lv_tableIn (off := 155) (tgt := 156) hx hb dX2_performPlain_1 (by rw [hc10]; decide) (by rw [hc10]; decide) (by rw [hc10]; decide) (by decide) ?_
                        refine lv_aload_n hx hb dX2_performPlain_156 rfl (lv_at hl 0 rfl) ?_
                        obtain ⟨hk_x0_3, hf⟩ := gd_some hf
                        refine cr_getR kc_2 CX hR fa_X2_25 rfl hk_x0_3 dX2_performPlain_157 ?_
                        obtain ⟨a8, ha8, hf⟩ := nn_some hf
                        refine rf_0 ha8 ?_
                        refine lv_dup hx hb dX2_performPlain_160 rfl ?_
                        obtain ⟨hk_a8_2, hf⟩ := gd_some hf
                        refine cr_getI kc_1 CX hR fa_X2_174 rfl hk_a8_2 dX2_performPlain_161 ?_
                        refine lv_iconst (v := 1) hx hb dX2_performPlain_164 (by decide) ?_
                        refine lv_isub hx hb dX2_performPlain_165 ?_
                        refine cr_putI kc_1 CX hR hL hS fa_X2_174 ⟨rfl, rfl, rfl⟩ hk_a8_2 dX2_performPlain_166 (fun H locs hR hS => ?_)
                        refine lv_goto (tgt := 187) hx hb dX2_performPlain_169 (by decide) ?_
                        exact (wbC_X2_performPlain_187 CX hRm) _ _ _ _ _ hf hR hS (lv_sub hl [0] rfl)
                      · rw [if_neg hc10] at hf
                        have hn0 := tsw_ne (k := 9) rfl hc0
                        have hn1 := tsw_ne (k := 10) rfl hc1
                        have hn2 := tsw_ne (k := 11) rfl hc2
                        have hn3 := tsw_ne (k := 12) rfl hc3
                        have hn4 := tsw_ne (k := 13) rfl hc4
                        have hn5 := tsw_ne (k := 14) rfl hc5
                        have hn6 := tsw_ne (k := 15) rfl hc6
                        have hn7 := tsw_ne (k := 16) rfl hc7
                        have hn8 := tsw_ne (k := 17) rfl hc8
                        have hn9 := tsw_ne (k := 18) rfl hc9
                        have hn10 := tsw_ne (k := 19) rfl hc10
                        refine lv_tableOut (tgt := 172) hx hb dX2_performPlain_1 (by omega) (by decide) ?_
                        exact (wbC_X2_performPlain_172 CX hRm) _ _ _ _ _ _ hf hR hS (lv_sub hl [0, 1] rfl)
theorem MC_X2_performPlain (l : Launch) (x : Xc) (N : Nat) (K : Ka) (x0 : Nat) (x1 : Int32) (x2 : Int32) (M : Cm) (o : Cm) (hf : fC_X2_performPlain N K x0 x1 x2 M = some o) : CtV l x yX2_performPlain cX2_performPlain 4 3 70 [.ref x0, .int x1, .int x2] K M o :=
  cr_metV RX2 (by decide) rfl (Nat.le_of_ble_eq_true rfl) (fun p e s m args below meth c ls CX hR hl => wfC_X2_performPlain CX ⟨Nat.le_refl _, Nat.le_refl _⟩ x0 x1 x2 M s.heap [] ls hf hR va_S.rf hl)
def lC_X2_step_28 (N : Nat) (K : Ka) (k61 : Nat → Cm → Option (Cm)) : Nat → Nat → Int32 → Cm → Option (Cm)
  | 0, _, _, _ => none
  | n + 1, x0, x1, M => gd (kd K x0 == 3) (if (cI M x0 6) ≤ x1 then (k61 x0 M) else (nn (cR M x0 2) fun a1 => gd (kd K a1 == 25) (ck x1 (le K a1) (nn (cR M a1 (x1 : Int32).toNatClampNeg) fun a2 => gd (kd K a2 == 2) (nn (cR M x0 0) fun a3 => gd (kd K a3 == 5) ((fC_X4_fail N K a3 (cI M a2 1) 22 0 M).bind fun o52 => lC_X2_step_28 N K k61 n x0 (x1 + 1) o52))))))
set_option maxRecDepth 100000 in
set_option maxHeartbeats 4000000 in
theorem wlC_X2_step_28 {p : Program} {l : Launch} {e : Env} {R : Room} {s : State} {m : MethodId} {args : Array Value} {below : List Frame} {meth : Method} {c : Code} {x : Xc} {o : Cm} {N : Nat} {K : Ka} {k61 : Nat → Cm → Option (Cm)} (CX : CC p s m args meth c x K RX2 cX2_step 2 none) (hRm : 1 ≤ R.frames ∧ 23 ≤ R.locals) (hk61 : ∀ (x0 : Nat) (M : Cm) (H : Heap) (locs : List Loc) (ls : Array Slot), k61 x0 M = some o → RC x K M H → va_S (AC K) s.heap H locs → lv_has ls 2 [(0, .ref x0)] → W p l e R s m args below meth c H locs 0 0 (MQ below (CQV x K o) args s 0 0 (AC K)) (F0 m 61 ls [])) : ∀ (n : Nat) (x0 : Nat) (x1 : Int32) (M : Cm) (H : Heap) (locs : List Loc) (ls : Array Slot), lC_X2_step_28 N K k61 n x0 x1 M = some o → RC x K M H → va_S (AC K) s.heap H locs → lv_has ls 2 [(0, .ref x0), (1, .int x1)] → W p l e R s m args below meth c H locs 0 0 (MQ below (CQV x K o) args s 0 0 (AC K)) (F0 m 28 ls []) := by
  obtain ⟨hx, hb, hml, hown, hts, hE, hB, hr, hlk⟩ := id CX
  have hL : KLe K K := KLe.rf K
  have hcs : 0 ≤ R.cells ∧ 0 ≤ R.slots := ⟨Nat.zero_le _, Nat.zero_le _⟩
  intro n
  induction n with
  | zero => intro x0 x1 M H locs ls hf; cases hf
  | succ n ih =>
    intro x0 x1 M H locs ls hf hR hS hl
    rw [lC_X2_step_28] at hf
    refine lv_iload_n hx hb dX2_step_28 rfl (lv_at hl 1 rfl) ?_
    refine lv_aload_n hx hb dX2_step_29 rfl (lv_at hl 0 rfl) ?_
    obtain ⟨hk_x0_3, hf⟩ := gd_some hf
    refine cr_getI kc_2 CX hR fa_X2_29 rfl hk_x0_3 dX2_step_30 ?_
    refine lv_icmp_ge (tgt := 61) hx hb dX2_step_33 (by decide) (fun hc => ?_) (fun hc => ?_)
    · rw [if_pos hc] at hf
      exact hk61 _ _ _ _ _ hf hR hS (lv_sub hl [0] rfl)
    · rw [if_neg hc] at hf
      refine lv_aload_n hx hb dX2_step_36 rfl (lv_at hl 0 rfl) ?_
      refine cr_getR kc_2 CX hR fa_X2_64 rfl hk_x0_3 dX2_step_37 ?_
      refine lv_aload_n hx hb dX2_step_40 rfl (lv_at hl 0 rfl) ?_
      refine cr_getR kc_2 CX hR fa_X2_11 rfl hk_x0_3 dX2_step_41 ?_
      refine lv_iload_n hx hb dX2_step_44 rfl (lv_at hl 1 rfl) ?_
      obtain ⟨a1, ha1, hf⟩ := nn_some hf
      refine rf_1 ha1 ?_
      obtain ⟨hk_a1_25, hf⟩ := gd_some hf
      obtain ⟨hi, hf⟩ := ck_some hf
      refine cr_fald CX hR hk_a1_25 hi dX2_step_45 ?_
      obtain ⟨a2, ha2, hf⟩ := nn_some hf
      refine rf_0 ha2 ?_
      obtain ⟨hk_a2_2, hf⟩ := gd_some hf
      refine cr_getI kc_1 CX hR fa_X2_134 rfl hk_a2_2 dX2_step_46 ?_
      refine lv_bipush (v := 22) hx hb dX2_step_49 (by decide) ?_
      refine lv_iconst (v := 0) hx hb dX2_step_51 (by decide) ?_
      obtain ⟨a3, ha3, hf⟩ := nn_some hf
      refine rf_3 ha3 ?_
      obtain ⟨hk_a3_5, hf⟩ := gd_some hf
      obtain ⟨o52, ho52, hf⟩ := bnd_some hf
      refine cr_callVv kc_4 CX hR hL hS (As := [.int (cI M a2 1), .int 22, .int 0]) (rest := []) hk_a3_5 (MC_X4_fail l x N K a3 (cI M a2 1) 22 0 M o52 ho52) cv_X2_181 ⟨by omega, by omega⟩ rfl rfl (Nat.le_of_ble_eq_true rfl) hl.1 dX2_step_52 hcs (fun H locs hR hS => ?_)
      refine lv_iinc (v := x1 + 1) (lv' := [(1, .int (x1 + 1)), (0, .ref x0)]) hx hb dX2_step_55 hl (k := 1) rfl rfl (by decide) rfl (fun ls hl => ?_)
      refine lv_goto (tgt := 28) hx hb dX2_step_58 (by decide) ?_
      exact ih _ _ _ _ _ _ hf hR hS (lv_sub hl [1, 0] rfl)
def bC_X2_step_61 (N : Nat) (K : Ka) (x0 : Nat) (M : Cm) : Option (Cm) := some M
set_option maxRecDepth 100000 in
set_option maxHeartbeats 4000000 in
theorem wbC_X2_step_61 {p : Program} {l : Launch} {e : Env} {R : Room} {s : State} {m : MethodId} {args : Array Value} {below : List Frame} {meth : Method} {c : Code} {x : Xc} {o : Cm} {N : Nat} {K : Ka} (CX : CC p s m args meth c x K RX2 cX2_step 2 none) (hRm : 1 ≤ R.frames ∧ 23 ≤ R.locals) (x0 : Nat) (M : Cm) (H : Heap) (locs : List Loc) (ls : Array Slot) (hf : bC_X2_step_61 N K x0 M = some o) (hR : RC x K M H) (hS : va_S (AC K) s.heap H locs) (hl : lv_has ls 2 [(0, .ref x0)]) : W p l e R s m args below meth c H locs 0 0 (MQ below (CQV x K o) args s 0 0 (AC K)) (F0 m 61 ls []) := by
  obtain ⟨hx, hb, hml, hown, hts, hE, hB, hr, hlk⟩ := id CX
  have hL : KLe K K := KLe.rf K
  have hcs : 0 ≤ R.cells ∧ 0 ≤ R.slots := ⟨Nat.zero_le _, Nat.zero_le _⟩
  unfold bC_X2_step_61 at hf
  exact cr_vret CX hR hS hf dX2_step_61
def bC_X2_step_16 (N : Nat) (K : Ka) (x0 : Nat) (M : Cm) : Option (Cm) := gd (kd K x0 == 3) (gd (is01 1) (gd (is01 0) ((lC_X2_step_28 N K (bC_X2_step_61 N K) N) x0 1 (wI (wI M x0 14 1) x0 13 0))))
set_option maxRecDepth 100000 in
set_option maxHeartbeats 4000000 in
theorem wbC_X2_step_16 {p : Program} {l : Launch} {e : Env} {R : Room} {s : State} {m : MethodId} {args : Array Value} {below : List Frame} {meth : Method} {c : Code} {x : Xc} {o : Cm} {N : Nat} {K : Ka} (CX : CC p s m args meth c x K RX2 cX2_step 2 none) (hRm : 1 ≤ R.frames ∧ 23 ≤ R.locals) (x0 : Nat) (M : Cm) (H : Heap) (locs : List Loc) (ls : Array Slot) (hf : bC_X2_step_16 N K x0 M = some o) (hR : RC x K M H) (hS : va_S (AC K) s.heap H locs) (hl : lv_has ls 2 [(0, .ref x0)]) : W p l e R s m args below meth c H locs 0 0 (MQ below (CQV x K o) args s 0 0 (AC K)) (F0 m 16 ls []) := by
  obtain ⟨hx, hb, hml, hown, hts, hE, hB, hr, hlk⟩ := id CX
  have hL : KLe K K := KLe.rf K
  have hcs : 0 ≤ R.cells ∧ 0 ≤ R.slots := ⟨Nat.zero_le _, Nat.zero_le _⟩
  unfold bC_X2_step_16 at hf
  refine lv_aload_n hx hb dX2_step_16 rfl (lv_at hl 0 rfl) ?_
  refine lv_iconst (v := 1) hx hb dX2_step_17 (by decide) ?_
  obtain ⟨hk_x0_3, hf⟩ := gd_some hf
  obtain ⟨hq, hf⟩ := gd_some hf
  refine cr_putZ kc_2 CX hR hL hS fa_X2_55 ⟨rfl, rfl, rfl⟩ hk_x0_3 hq dX2_step_18 (fun H locs hR hS => ?_)
  refine lv_aload_n hx hb dX2_step_21 rfl (lv_at hl 0 rfl) ?_
  refine lv_iconst (v := 0) hx hb dX2_step_22 (by decide) ?_
  obtain ⟨hq, hf⟩ := gd_some hf
  refine cr_putZ kc_2 CX hR hL hS fa_X2_52 ⟨rfl, rfl, rfl⟩ hk_x0_3 hq dX2_step_23 (fun H locs hR hS => ?_)
  refine lv_iconst (v := 1) hx hb dX2_step_26 (by decide) ?_
  refine lv_istore_n (lv' := [(1, .int 1), (0, .ref x0)]) hx hb dX2_step_27 rfl hl (by decide) rfl (fun ls hl => ?_)
  exact (wlC_X2_step_28 CX hRm (wbC_X2_step_61 CX hRm) N) _ _ _ _ _ _ hf hR hS (lv_sub hl [1, 0] rfl)
def fC_X2_step (N : Nat) (K : Ka) (x0 : Nat) (M : Cm) : Option (Cm) := gd (kd K x0 == 3) (if (cI M x0 10) ≤ 0 then ((bC_X2_step_16 N K) x0 M) else (if (cI M x0 11) < 100000 then (some (wI (wI (wI M x0 10 ((cI M x0 10) - 1)) x0 11 ((cI (wI M x0 10 ((cI M x0 10) - 1)) x0 11) + 1)) x0 12 ((cI (wI (wI M x0 10 ((cI M x0 10) - 1)) x0 11 ((cI (wI M x0 10 ((cI M x0 10) - 1)) x0 11) + 1)) x0 12) + 1))) else ((bC_X2_step_16 N K) x0 M)))
set_option maxRecDepth 100000 in
set_option maxHeartbeats 4000000 in
theorem wfC_X2_step {p : Program} {l : Launch} {e : Env} {R : Room} {s : State} {m : MethodId} {args : Array Value} {below : List Frame} {meth : Method} {c : Code} {x : Xc} {o : Cm} {N : Nat} {K : Ka} (CX : CC p s m args meth c x K RX2 cX2_step 2 none) (hRm : 1 ≤ R.frames ∧ 23 ≤ R.locals) (x0 : Nat) (M : Cm) (H : Heap) (locs : List Loc) (ls : Array Slot) (hf : fC_X2_step N K x0 M = some o) (hR : RC x K M H) (hS : va_S (AC K) s.heap H locs) (hl : lv_has ls 2 [(0, .ref x0)]) : W p l e R s m args below meth c H locs 0 0 (MQ below (CQV x K o) args s 0 0 (AC K)) (F0 m 0 ls []) := by
  obtain ⟨hx, hb, hml, hown, hts, hE, hB, hr, hlk⟩ := id CX
  have hL : KLe K K := KLe.rf K
  have hcs : 0 ≤ R.cells ∧ 0 ≤ R.slots := ⟨Nat.zero_le _, Nat.zero_le _⟩
  unfold fC_X2_step at hf
  refine lv_aload_n hx hb dX2_step_0 rfl (lv_at hl 0 rfl) ?_
  obtain ⟨hk_x0_3, hf⟩ := gd_some hf
  refine cr_getI kc_2 CX hR fa_X2_43 rfl hk_x0_3 dX2_step_1 ?_
  refine lv_if_le (tgt := 16) hx hb dX2_step_4 (by decide) (fun hc => ?_) (fun hc => ?_)
  · rw [if_pos hc] at hf
    exact (wbC_X2_step_16 CX hRm) _ _ _ _ _ hf hR hS (lv_sub hl [0] rfl)
  · rw [if_neg hc] at hf
    refine lv_aload_n hx hb dX2_step_7 rfl (lv_at hl 0 rfl) ?_
    refine cr_getI kc_2 CX hR fa_X2_46 rfl hk_x0_3 dX2_step_8 ?_
    refine lv_ldc hx hb hown (hts _ wc_1138) dX2_step_11 ?_
    refine lv_icmp_lt (tgt := 62) hx hb dX2_step_13 (by decide) (fun hc => ?_) (fun hc => ?_)
    · rw [if_pos hc] at hf
      refine lv_aload_n hx hb dX2_step_62 rfl (lv_at hl 0 rfl) ?_
      refine lv_dup hx hb dX2_step_63 rfl ?_
      refine cr_getI kc_2 CX hR fa_X2_43 rfl hk_x0_3 dX2_step_64 ?_
      refine lv_iconst (v := 1) hx hb dX2_step_67 (by decide) ?_
      refine lv_isub hx hb dX2_step_68 ?_
      refine cr_putI kc_2 CX hR hL hS fa_X2_43 ⟨rfl, rfl, rfl⟩ hk_x0_3 dX2_step_69 (fun H locs hR hS => ?_)
      refine lv_aload_n hx hb dX2_step_72 rfl (lv_at hl 0 rfl) ?_
      refine lv_dup hx hb dX2_step_73 rfl ?_
      refine cr_getI kc_2 CX hR fa_X2_46 rfl hk_x0_3 dX2_step_74 ?_
      refine lv_iconst (v := 1) hx hb dX2_step_77 (by decide) ?_
      refine lv_iadd hx hb dX2_step_78 ?_
      refine cr_putI kc_2 CX hR hL hS fa_X2_46 ⟨rfl, rfl, rfl⟩ hk_x0_3 dX2_step_79 (fun H locs hR hS => ?_)
      refine lv_aload_n hx hb dX2_step_82 rfl (lv_at hl 0 rfl) ?_
      refine lv_dup hx hb dX2_step_83 rfl ?_
      refine cr_getI kc_2 CX hR fa_X2_49 rfl hk_x0_3 dX2_step_84 ?_
      refine lv_iconst (v := 1) hx hb dX2_step_87 (by decide) ?_
      refine lv_iadd hx hb dX2_step_88 ?_
      refine cr_putI kc_2 CX hR hL hS fa_X2_49 ⟨rfl, rfl, rfl⟩ hk_x0_3 dX2_step_89 (fun H locs hR hS => ?_)
      exact cr_vret CX hR hS hf dX2_step_92
    · rw [if_neg hc] at hf
      exact (wbC_X2_step_16 CX hRm) _ _ _ _ _ hf hR hS (lv_sub hl [0] rfl)
theorem MC_X2_step (l : Launch) (x : Xc) (N : Nat) (K : Ka) (x0 : Nat) (M : Cm) (o : Cm) (hf : fC_X2_step N K x0 M = some o) : CtV l x yX2_step cX2_step 2 1 23 [.ref x0] K M o :=
  cr_metV RX2 (by decide) rfl (Nat.le_of_ble_eq_true rfl) (fun p e s m args below meth c ls CX hR hl => wfC_X2_step CX ⟨Nat.le_refl _, Nat.le_refl _⟩ x0 M s.heap [] ls hf hR va_S.rf hl)
def bC_X2_store_31 (N : Nat) (K : Ka) (x0 : Nat) (M : Cm) : Option (Cm) := some M
set_option maxRecDepth 100000 in
set_option maxHeartbeats 4000000 in
theorem wbC_X2_store_31 {p : Program} {l : Launch} {e : Env} {R : Room} {s : State} {m : MethodId} {args : Array Value} {below : List Frame} {meth : Method} {c : Code} {x : Xc} {o : Cm} {N : Nat} {K : Ka} (CX : CC p s m args meth c x K RX2 cX2_store 3 none) (hRm : 3 ≤ R.frames ∧ 69 ≤ R.locals) (x0 : Nat) (M : Cm) (H : Heap) (locs : List Loc) (ls : Array Slot) (hf : bC_X2_store_31 N K x0 M = some o) (hR : RC x K M H) (hS : va_S (AC K) s.heap H locs) (hl : lv_has ls 3 [(0, .ref x0)]) : W p l e R s m args below meth c H locs 0 0 (MQ below (CQV x K o) args s 0 0 (AC K)) (F0 m 31 ls []) := by
  obtain ⟨hx, hb, hml, hown, hts, hE, hB, hr, hlk⟩ := id CX
  have hL : KLe K K := KLe.rf K
  have hcs : 0 ≤ R.cells ∧ 0 ≤ R.slots := ⟨Nat.zero_le _, Nat.zero_le _⟩
  unfold bC_X2_store_31 at hf
  exact cr_vret CX hR hS hf dX2_store_31
def fC_X2_store (N : Nat) (K : Ka) (x0 : Nat) (x1 : Int32) (x2 : Int32) (M : Cm) : Option (Cm) := gd (kd K x0 == 3) ((fC_X2_noteNeed N K x0 x1 M).bind fun o2 => (fC_X2_isThere N K x0 x1 o2).bind fun o7 => if o7.1 = 0 then ((bC_X2_store_31 N K) x0 o7.2) else (nn (cR o7.2 x0 0) fun a1 => gd (kd K a1 == 5) (nn (cR o7.2 a1 2) fun a2 => (fC_X2_pop N K x0 o7.2).bind fun o27 => gd (kd K a2 == 22) (ck ((x1 * 8) + x2) (le K a2) ((bC_X2_store_31 N K) x0 (wI o27.2 a2 ((x1 * 8) + x2 : Int32).toNatClampNeg o27.1))))))
set_option maxRecDepth 100000 in
set_option maxHeartbeats 4000000 in
theorem wfC_X2_store {p : Program} {l : Launch} {e : Env} {R : Room} {s : State} {m : MethodId} {args : Array Value} {below : List Frame} {meth : Method} {c : Code} {x : Xc} {o : Cm} {N : Nat} {K : Ka} (CX : CC p s m args meth c x K RX2 cX2_store 3 none) (hRm : 3 ≤ R.frames ∧ 69 ≤ R.locals) (x0 : Nat) (x1 : Int32) (x2 : Int32) (M : Cm) (H : Heap) (locs : List Loc) (ls : Array Slot) (hf : fC_X2_store N K x0 x1 x2 M = some o) (hR : RC x K M H) (hS : va_S (AC K) s.heap H locs) (hl : lv_has ls 3 [(0, .ref x0), (1, .int x1), (2, .int x2)]) : W p l e R s m args below meth c H locs 0 0 (MQ below (CQV x K o) args s 0 0 (AC K)) (F0 m 0 ls []) := by
  obtain ⟨hx, hb, hml, hown, hts, hE, hB, hr, hlk⟩ := id CX
  have hL : KLe K K := KLe.rf K
  have hcs : 0 ≤ R.cells ∧ 0 ≤ R.slots := ⟨Nat.zero_le _, Nat.zero_le _⟩
  unfold fC_X2_store at hf
  refine lv_aload_n hx hb dX2_store_0 rfl (lv_at hl 0 rfl) ?_
  refine lv_iload_n hx hb dX2_store_1 rfl (lv_at hl 1 rfl) ?_
  obtain ⟨hk_x0_3, hf⟩ := gd_some hf
  obtain ⟨o2, ho2, hf⟩ := bnd_some hf
  refine cr_callVv kc_2 CX hR hL hS (As := [.int x1]) (rest := []) hk_x0_3 (MC_X2_noteNeed l x N K x0 x1 M o2 ho2) cv_X2_121 ⟨by omega, by omega⟩ rfl rfl (Nat.le_of_ble_eq_true rfl) hl.1 dX2_store_2 hcs (fun H locs hR hS => ?_)
  refine lv_aload_n hx hb dX2_store_5 rfl (lv_at hl 0 rfl) ?_
  refine lv_iload_n hx hb dX2_store_6 rfl (lv_at hl 1 rfl) ?_
  obtain ⟨o7, ho7, hf⟩ := bnd_some hf
  refine cr_callIv kc_2 CX hR hL hS (As := [.int x1]) (rest := []) hk_x0_3 (MC_X2_isThere l x N K x0 x1 o2 o7 ho7) cv_X2_130 ⟨by omega, by omega⟩ rfl rfl (Nat.le_of_ble_eq_true rfl) hl.1 dX2_store_7 hcs (fun H locs hR hS => ?_)
  refine lv_if_eq (tgt := 31) hx hb dX2_store_10 (by decide) (fun hc => ?_) (fun hc => ?_)
  · rw [if_pos hc] at hf
    exact (wbC_X2_store_31 CX hRm) _ _ _ _ _ hf hR hS (lv_sub hl [0] rfl)
  · rw [if_neg hc] at hf
    refine lv_aload_n hx hb dX2_store_13 rfl (lv_at hl 0 rfl) ?_
    refine cr_getR kc_2 CX hR fa_X2_64 rfl hk_x0_3 dX2_store_14 ?_
    obtain ⟨a1, ha1, hf⟩ := nn_some hf
    refine rf_0 ha1 ?_
    obtain ⟨hk_a1_5, hf⟩ := gd_some hf
    refine cr_getR kc_4 CX hR fa_X2_197 rfl hk_a1_5 dX2_store_17 ?_
    refine lv_iload_n hx hb dX2_store_20 rfl (lv_at hl 1 rfl) ?_
    refine lv_bipush (v := 8) hx hb dX2_store_21 (by decide) ?_
    refine lv_imul hx hb dX2_store_23 ?_
    refine lv_iload_n hx hb dX2_store_24 rfl (lv_at hl 2 rfl) ?_
    refine lv_iadd hx hb dX2_store_25 ?_
    refine lv_aload_n hx hb dX2_store_26 rfl (lv_at hl 0 rfl) ?_
    obtain ⟨a2, ha2, hf⟩ := nn_some hf
    refine rf_2 ha2 ?_
    obtain ⟨o27, ho27, hf⟩ := bnd_some hf
    refine cr_callIv kc_2 CX hR hL hS (As := []) (rest := [.int ((x1 * 8) + x2), .ref a2]) hk_x0_3 (MC_X2_pop l x N K x0 o7.2 o27 ho27) cv_X2_149 ⟨by omega, by omega⟩ rfl rfl (Nat.le_of_ble_eq_true rfl) hl.1 dX2_store_27 hcs (fun H locs hR hS => ?_)
    obtain ⟨hk_a2_22, hf⟩ := gd_some hf
    obtain ⟨hi, hf⟩ := ck_some hf
    refine cr_iast CX hR hL hS hk_a2_22 hi dX2_store_30 (fun H locs hR hS => ?_)
    exact (wbC_X2_store_31 CX hRm) _ _ _ _ _ hf hR hS (lv_sub hl [0] rfl)
theorem MC_X2_store (l : Launch) (x : Xc) (N : Nat) (K : Ka) (x0 : Nat) (x1 : Int32) (x2 : Int32) (M : Cm) (o : Cm) (hf : fC_X2_store N K x0 x1 x2 M = some o) : CtV l x yX2_store cX2_store 3 3 69 [.ref x0, .int x1, .int x2] K M o :=
  cr_metV RX2 (by decide) rfl (Nat.le_of_ble_eq_true rfl) (fun p e s m args below meth c ls CX hR hl => wfC_X2_store CX ⟨Nat.le_refl _, Nat.le_refl _⟩ x0 x1 x2 M s.heap [] ls hf hR va_S.rf hl)
def bC_X4_isPlanned_19 (N : Nat) (K : Ka) (x0 : Nat) (s0 : Int32) (M : Cm) : Option (Int32 × Cm) := gd (is01 s0) (some (s0, M))
set_option maxRecDepth 100000 in
set_option maxHeartbeats 4000000 in
theorem wbC_X4_isPlanned_19 {p : Program} {l : Launch} {e : Env} {R : Room} {s : State} {m : MethodId} {args : Array Value} {below : List Frame} {meth : Method} {c : Code} {x : Xc} {o : Int32 × Cm} {N : Nat} {K : Ka} (CX : CC p s m args meth c x K RX4 cX4_isPlanned 3 (some .boolean)) (hRm : 0 ≤ R.frames ∧ 0 ≤ R.locals) (x0 : Nat) (s0 : Int32) (M : Cm) (H : Heap) (locs : List Loc) (ls : Array Slot) (hf : bC_X4_isPlanned_19 N K x0 s0 M = some o) (hR : RC x K M H) (hS : va_S (AC K) s.heap H locs) (hl : lv_has ls 3 [(0, .ref x0)]) : W p l e R s m args below meth c H locs 0 0 (MQ below (CQI x K o) args s 0 0 (AC K)) (F0 m 19 ls [.int s0]) := by
  obtain ⟨hx, hb, hml, hown, hts, hE, hB, hr, hlk⟩ := id CX
  have hL : KLe K K := KLe.rf K
  have hcs : 0 ≤ R.cells ∧ 0 ≤ R.slots := ⟨Nat.zero_le _, Nat.zero_le _⟩
  unfold bC_X4_isPlanned_19 at hf
  obtain ⟨hz, hf⟩ := gd_some hf
  exact cr_zret CX hR hS hz hf dX4_isPlanned_19
def fC_X4_isPlanned (N : Nat) (K : Ka) (x0 : Nat) (x1 : Int32) (x2 : Int32) (M : Cm) : Option (Int32 × Cm) := gd (kd K x0 == 5) (nn (cR M x0 7) fun a1 => gd (kd K a1 == 22) (ck x1 (le K a1) (if (((cI M a1 (x1 : Int32).toNatClampNeg) >>> (x2 &&& 31)) &&& 1) = 1 then ((bC_X4_isPlanned_19 N K) x0 1 M) else ((bC_X4_isPlanned_19 N K) x0 0 M))))
set_option maxRecDepth 100000 in
set_option maxHeartbeats 4000000 in
theorem wfC_X4_isPlanned {p : Program} {l : Launch} {e : Env} {R : Room} {s : State} {m : MethodId} {args : Array Value} {below : List Frame} {meth : Method} {c : Code} {x : Xc} {o : Int32 × Cm} {N : Nat} {K : Ka} (CX : CC p s m args meth c x K RX4 cX4_isPlanned 3 (some .boolean)) (hRm : 0 ≤ R.frames ∧ 0 ≤ R.locals) (x0 : Nat) (x1 : Int32) (x2 : Int32) (M : Cm) (H : Heap) (locs : List Loc) (ls : Array Slot) (hf : fC_X4_isPlanned N K x0 x1 x2 M = some o) (hR : RC x K M H) (hS : va_S (AC K) s.heap H locs) (hl : lv_has ls 3 [(0, .ref x0), (1, .int x1), (2, .int x2)]) : W p l e R s m args below meth c H locs 0 0 (MQ below (CQI x K o) args s 0 0 (AC K)) (F0 m 0 ls []) := by
  obtain ⟨hx, hb, hml, hown, hts, hE, hB, hr, hlk⟩ := id CX
  have hL : KLe K K := KLe.rf K
  have hcs : 0 ≤ R.cells ∧ 0 ≤ R.slots := ⟨Nat.zero_le _, Nat.zero_le _⟩
  unfold fC_X4_isPlanned at hf
  refine lv_aload_n hx hb dX4_isPlanned_0 rfl (lv_at hl 0 rfl) ?_
  obtain ⟨hk_x0_5, hf⟩ := gd_some hf
  refine cr_getR kc_4 CX hR fa_X4_33 rfl hk_x0_5 dX4_isPlanned_1 ?_
  refine lv_iload_n hx hb dX4_isPlanned_4 rfl (lv_at hl 1 rfl) ?_
  obtain ⟨a1, ha1, hf⟩ := nn_some hf
  refine rf_1 ha1 ?_
  obtain ⟨hk_a1_22, hf⟩ := gd_some hf
  obtain ⟨hi, hf⟩ := ck_some hf
  refine cr_iald CX hR hk_a1_22 hi dX4_isPlanned_5 ?_
  refine lv_iload_n hx hb dX4_isPlanned_6 rfl (lv_at hl 2 rfl) ?_
  refine lv_ishr hx hb dX4_isPlanned_7 ?_
  refine lv_iconst (v := 1) hx hb dX4_isPlanned_8 (by decide) ?_
  refine lv_iand hx hb dX4_isPlanned_9 ?_
  refine lv_iconst (v := 1) hx hb dX4_isPlanned_10 (by decide) ?_
  refine lv_icmp_ne (tgt := 18) hx hb dX4_isPlanned_11 (by decide) (fun hc => ?_) (fun hc => ?_)
  · rw [if_neg hc] at hf
    refine lv_iconst (v := 0) hx hb dX4_isPlanned_18 (by decide) ?_
    exact (wbC_X4_isPlanned_19 CX hRm) _ _ _ _ _ _ hf hR hS (lv_sub hl [0] rfl)
  · rw [if_pos hc] at hf
    refine lv_iconst (v := 1) hx hb dX4_isPlanned_14 (by decide) ?_
    refine lv_goto (tgt := 19) hx hb dX4_isPlanned_15 (by decide) ?_
    exact (wbC_X4_isPlanned_19 CX hRm) _ _ _ _ _ _ hf hR hS (lv_sub hl [0] rfl)
theorem MC_X4_isPlanned (l : Launch) (x : Xc) (N : Nat) (K : Ka) (x0 : Nat) (x1 : Int32) (x2 : Int32) (M : Cm) (o : Int32 × Cm) (hf : fC_X4_isPlanned N K x0 x1 x2 M = some o) : CtI l x yX4_isPlanned cX4_isPlanned 3 (some .boolean) 0 0 [.ref x0, .int x1, .int x2] K M o :=
  cr_metI RX4 (by decide) rfl (Nat.le_of_ble_eq_true rfl) (fun p e s m args below meth c ls CX hR hl => wfC_X4_isPlanned CX ⟨Nat.le_refl _, Nat.le_refl _⟩ x0 x1 x2 M s.heap [] ls hf hR va_S.rf hl)
def bC_X2_perform_255 (N : Nat) (K : Ka) (x0 : Nat) (M : Cm) : Option (Cm) := some M
set_option maxRecDepth 100000 in
set_option maxHeartbeats 4000000 in
theorem wbC_X2_perform_255 {p : Program} {l : Launch} {e : Env} {R : Room} {s : State} {m : MethodId} {args : Array Value} {below : List Frame} {meth : Method} {c : Code} {x : Xc} {o : Cm} {N : Nat} {K : Ka} (CX : CC p s m args meth c x K RX2 cX2_perform 4 none) (hRm : 4 ≤ R.frames ∧ 93 ≤ R.locals) (x0 : Nat) (M : Cm) (H : Heap) (locs : List Loc) (ls : Array Slot) (hf : bC_X2_perform_255 N K x0 M = some o) (hR : RC x K M H) (hS : va_S (AC K) s.heap H locs) (hl : lv_has ls 4 [(0, .ref x0)]) : W p l e R s m args below meth c H locs 0 0 (MQ below (CQV x K o) args s 0 0 (AC K)) (F0 m 255 ls []) := by
  obtain ⟨hx, hb, hml, hown, hts, hE, hB, hr, hlk⟩ := id CX
  have hL : KLe K K := KLe.rf K
  have hcs : 0 ≤ R.cells ∧ 0 ≤ R.slots := ⟨Nat.zero_le _, Nat.zero_le _⟩
  unfold bC_X2_perform_255 at hf
  exact cr_vret CX hR hS hf dX2_perform_255
def bC_X2_perform_249 (N : Nat) (K : Ka) (x0 : Nat) (x1 : Int32) (x2 : Int32) (M : Cm) : Option (Cm) := gd (kd K x0 == 3) ((fC_X2_performPlain N K x0 x1 x2 M).bind fun o252 => (bC_X2_perform_255 N K) x0 o252)
set_option maxRecDepth 100000 in
set_option maxHeartbeats 4000000 in
theorem wbC_X2_perform_249 {p : Program} {l : Launch} {e : Env} {R : Room} {s : State} {m : MethodId} {args : Array Value} {below : List Frame} {meth : Method} {c : Code} {x : Xc} {o : Cm} {N : Nat} {K : Ka} (CX : CC p s m args meth c x K RX2 cX2_perform 4 none) (hRm : 4 ≤ R.frames ∧ 93 ≤ R.locals) (x0 : Nat) (x1 : Int32) (x2 : Int32) (M : Cm) (H : Heap) (locs : List Loc) (ls : Array Slot) (hf : bC_X2_perform_249 N K x0 x1 x2 M = some o) (hR : RC x K M H) (hS : va_S (AC K) s.heap H locs) (hl : lv_has ls 4 [(0, .ref x0), (1, .int x1), (2, .int x2)]) : W p l e R s m args below meth c H locs 0 0 (MQ below (CQV x K o) args s 0 0 (AC K)) (F0 m 249 ls []) := by
  obtain ⟨hx, hb, hml, hown, hts, hE, hB, hr, hlk⟩ := id CX
  have hL : KLe K K := KLe.rf K
  have hcs : 0 ≤ R.cells ∧ 0 ≤ R.slots := ⟨Nat.zero_le _, Nat.zero_le _⟩
  unfold bC_X2_perform_249 at hf
  refine lv_aload_n hx hb dX2_perform_249 rfl (lv_at hl 0 rfl) ?_
  refine lv_iload_n hx hb dX2_perform_250 rfl (lv_at hl 1 rfl) ?_
  refine lv_iload_n hx hb dX2_perform_251 rfl (lv_at hl 2 rfl) ?_
  obtain ⟨hk_x0_3, hf⟩ := gd_some hf
  obtain ⟨o252, ho252, hf⟩ := bnd_some hf
  refine cr_callVv kc_2 CX hR hL hS (As := [.int x1, .int x2]) (rest := []) hk_x0_3 (MC_X2_performPlain l x N K x0 x1 x2 M o252 ho252) cv_X2_159 ⟨by omega, by omega⟩ rfl rfl (Nat.le_of_ble_eq_true rfl) hl.1 dX2_perform_252 hcs (fun H locs hR hS => ?_)
  exact (wbC_X2_perform_255 CX hRm) _ _ _ _ _ hf hR hS (lv_sub hl [0] rfl)
def fC_X2_perform (N : Nat) (K : Ka) (x0 : Nat) (x1 : Int32) (x2 : Int32) (x3 : Int32) (M : Cm) : Option (Cm) := if x1 = 1 then (gd (kd K x0 == 3) ((fC_X2_step N K x0 M).bind fun o97 => (bC_X2_perform_255 N K) x0 o97)) else if x1 = 2 then (gd (kd K x0 == 3) ((fC_X2_push N K x0 x3 M).bind fun o105 => (bC_X2_perform_255 N K) x0 o105)) else if x1 = 3 then (gd (kd K x0 == 3) ((fC_X2_noteNeed N K x0 x2 M).bind fun o113 => (fC_X2_push N K x0 x3 o113).bind fun o118 => (bC_X2_perform_255 N K) x0 o118)) else if x1 = 4 then (gd (kd K x0 == 3) ((fC_X2_look N K x0 x2 x3 M).bind fun o127 => (bC_X2_perform_255 N K) x0 o127)) else if x1 = 5 then (gd (kd K x0 == 3) ((fC_X2_store N K x0 x2 x3 M).bind fun o136 => (bC_X2_perform_255 N K) x0 o136)) else if x1 = 6 then (gd (kd K x0 == 3) ((fC_X2_noteNeed N K x0 x2 M).bind fun o144 => (fC_X2_isThere N K x0 x2 o144).bind fun o149 => (bC_X2_perform_255 N K) x0 o149.2)) else if x1 = 7 then (gd (kd K x0 == 3) ((fC_X2_isThere N K x0 x2 M).bind fun o158 => (bC_X2_perform_255 N K) x0 o158.2)) else if x1 = 8 then (gd (kd K x0 == 3) (nn (cR M x0 5) fun a1 => gd (kd K a1 == 2) (nn (cR M x0 0) fun a2 => gd (kd K a2 == 5) (nn (cR M x0 5) fun a3 => gd (kd K a3 == 2) (nn (cR M a2 1) fun a4 => gd (kd K a4 == 22) (ck (cI M a3 1) (le K a4) (nn (cR M x0 0) fun a5 => gd (kd K a5 == 5) ((fC_X4_isPlanned N K a5 (cI M a1 1) (cI M a4 (cI M a3 1 : Int32).toNatClampNeg) M).bind fun o191 => if o191.1 = 0 then ((bC_X2_perform_255 N K) x0 o191.2) else ((fC_X2_raise N K x0 14 o191.2).bind fun o200 => (bC_X2_perform_255 N K) x0 o200))))))))) else if x1 = 9 then ((bC_X2_perform_249 N K) x0 x1 x2 M) else if x1 = 10 then ((bC_X2_perform_249 N K) x0 x1 x2 M) else if x1 = 11 then ((bC_X2_perform_249 N K) x0 x1 x2 M) else if x1 = 12 then ((bC_X2_perform_249 N K) x0 x1 x2 M) else if x1 = 13 then (gd (kd K x0 == 3) ((fC_X2_pop N K x0 M).bind fun o209 => (fC_X2_giveOrder N K x0 x2 o209.1 o209.2).bind fun o212 => (bC_X2_perform_255 N K) x0 o212)) else if x1 = 14 then (gd (kd K x0 == 3) ((fC_X2_pop N K x0 M).bind fun o219 => if o219.1 = 0 then ((fC_X2_raise N K x0 11 o219.2).bind fun o228 => (bC_X2_perform_255 N K) x0 o228) else ((bC_X2_perform_255 N K) x0 o219.2))) else if x1 = 15 then (gd (kd K x0 == 3) ((fC_X2_raise N K x0 x2 M).bind fun o236 => (bC_X2_perform_255 N K) x0 o236)) else if x1 = 16 then ((bC_X2_perform_249 N K) x0 x1 x2 M) else if x1 = 17 then ((bC_X2_perform_249 N K) x0 x1 x2 M) else if x1 = 18 then ((bC_X2_perform_249 N K) x0 x1 x2 M) else if x1 = 19 then ((bC_X2_perform_249 N K) x0 x1 x2 M) else if x1 = 20 then (gd (kd K x0 == 3) ((fC_X2_leave N K x0 M).bind fun o243 => (bC_X2_perform_255 N K) x0 o243)) else ((bC_X2_perform_249 N K) x0 x1 x2 M)
set_option maxRecDepth 100000 in
set_option maxHeartbeats 4000000 in
theorem wfC_X2_perform {p : Program} {l : Launch} {e : Env} {R : Room} {s : State} {m : MethodId} {args : Array Value} {below : List Frame} {meth : Method} {c : Code} {x : Xc} {o : Cm} {N : Nat} {K : Ka} (CX : CC p s m args meth c x K RX2 cX2_perform 4 none) (hRm : 4 ≤ R.frames ∧ 93 ≤ R.locals) (x0 : Nat) (x1 : Int32) (x2 : Int32) (x3 : Int32) (M : Cm) (H : Heap) (locs : List Loc) (ls : Array Slot) (hf : fC_X2_perform N K x0 x1 x2 x3 M = some o) (hR : RC x K M H) (hS : va_S (AC K) s.heap H locs) (hl : lv_has ls 4 [(0, .ref x0), (1, .int x1), (2, .int x2), (3, .int x3)]) : W p l e R s m args below meth c H locs 0 0 (MQ below (CQV x K o) args s 0 0 (AC K)) (F0 m 0 ls []) := by
  obtain ⟨hx, hb, hml, hown, hts, hE, hB, hr, hlk⟩ := id CX
  have hL : KLe K K := KLe.rf K
  have hcs : 0 ≤ R.cells ∧ 0 ≤ R.slots := ⟨Nat.zero_le _, Nat.zero_le _⟩
  unfold fC_X2_perform at hf
  refine lv_iload_n hx hb dX2_perform_0 rfl (lv_at hl 1 rfl) ?_
  by_cases hc0 : x1 = 1
  · rw [if_pos hc0] at hf
    refine lv_tableIn (off := 95) (tgt := 96) hx hb dX2_perform_1 (by rw [hc0]; decide) (by rw [hc0]; decide) (by rw [hc0]; decide) (by decide) ?_
    refine lv_aload_n hx hb dX2_perform_96 rfl (lv_at hl 0 rfl) ?_
    obtain ⟨hk_x0_3, hf⟩ := gd_some hf
    obtain ⟨o97, ho97, hf⟩ := bnd_some hf
    refine cr_callVv kc_2 CX hR hL hS (As := []) (rest := []) hk_x0_3 (MC_X2_step l x N K x0 M o97 ho97) cv_X2_114 ⟨by omega, by omega⟩ rfl rfl (Nat.le_of_ble_eq_true rfl) hl.1 dX2_perform_97 hcs (fun H locs hR hS => ?_)
    refine lv_goto (tgt := 255) hx hb dX2_perform_100 (by decide) ?_
    exact (wbC_X2_perform_255 CX hRm) _ _ _ _ _ hf hR hS (lv_sub hl [0] rfl)
  · rw [if_neg hc0] at hf
    by_cases hc1 : x1 = 2
    · rw [if_pos hc1] at hf
      refine lv_tableIn (off := 102) (tgt := 103) hx hb dX2_perform_1 (by rw [hc1]; decide) (by rw [hc1]; decide) (by rw [hc1]; decide) (by decide) ?_
      refine lv_aload_n hx hb dX2_perform_103 rfl (lv_at hl 0 rfl) ?_
      refine lv_iload_n hx hb dX2_perform_104 rfl (lv_at hl 3 rfl) ?_
      obtain ⟨hk_x0_3, hf⟩ := gd_some hf
      obtain ⟨o105, ho105, hf⟩ := bnd_some hf
      refine cr_callVv kc_2 CX hR hL hS (As := [.int x3]) (rest := []) hk_x0_3 (MC_X2_push l x N K x0 x3 M o105 ho105) cv_X2_117 ⟨by omega, by omega⟩ rfl rfl (Nat.le_of_ble_eq_true rfl) hl.1 dX2_perform_105 hcs (fun H locs hR hS => ?_)
      refine lv_goto (tgt := 255) hx hb dX2_perform_108 (by decide) ?_
      exact (wbC_X2_perform_255 CX hRm) _ _ _ _ _ hf hR hS (lv_sub hl [0] rfl)
    · rw [if_neg hc1] at hf
      by_cases hc2 : x1 = 3
      · rw [if_pos hc2] at hf
        refine lv_tableIn (off := 110) (tgt := 111) hx hb dX2_perform_1 (by rw [hc2]; decide) (by rw [hc2]; decide) (by rw [hc2]; decide) (by decide) ?_
        refine lv_aload_n hx hb dX2_perform_111 rfl (lv_at hl 0 rfl) ?_
        refine lv_iload_n hx hb dX2_perform_112 rfl (lv_at hl 2 rfl) ?_
        obtain ⟨hk_x0_3, hf⟩ := gd_some hf
        obtain ⟨o113, ho113, hf⟩ := bnd_some hf
        refine cr_callVv kc_2 CX hR hL hS (As := [.int x2]) (rest := []) hk_x0_3 (MC_X2_noteNeed l x N K x0 x2 M o113 ho113) cv_X2_121 ⟨by omega, by omega⟩ rfl rfl (Nat.le_of_ble_eq_true rfl) hl.1 dX2_perform_113 hcs (fun H locs hR hS => ?_)
        refine lv_aload_n hx hb dX2_perform_116 rfl (lv_at hl 0 rfl) ?_
        refine lv_iload_n hx hb dX2_perform_117 rfl (lv_at hl 3 rfl) ?_
        obtain ⟨o118, ho118, hf⟩ := bnd_some hf
        refine cr_callVv kc_2 CX hR hL hS (As := [.int x3]) (rest := []) hk_x0_3 (MC_X2_push l x N K x0 x3 o113 o118 ho118) cv_X2_117 ⟨by omega, by omega⟩ rfl rfl (Nat.le_of_ble_eq_true rfl) hl.1 dX2_perform_118 hcs (fun H locs hR hS => ?_)
        refine lv_goto (tgt := 255) hx hb dX2_perform_121 (by decide) ?_
        exact (wbC_X2_perform_255 CX hRm) _ _ _ _ _ hf hR hS (lv_sub hl [0] rfl)
      · rw [if_neg hc2] at hf
        by_cases hc3 : x1 = 4
        · rw [if_pos hc3] at hf
          refine lv_tableIn (off := 123) (tgt := 124) hx hb dX2_perform_1 (by rw [hc3]; decide) (by rw [hc3]; decide) (by rw [hc3]; decide) (by decide) ?_
          refine lv_aload_n hx hb dX2_perform_124 rfl (lv_at hl 0 rfl) ?_
          refine lv_iload_n hx hb dX2_perform_125 rfl (lv_at hl 2 rfl) ?_
          refine lv_iload_n hx hb dX2_perform_126 rfl (lv_at hl 3 rfl) ?_
          obtain ⟨hk_x0_3, hf⟩ := gd_some hf
          obtain ⟨o127, ho127, hf⟩ := bnd_some hf
          refine cr_callVv kc_2 CX hR hL hS (As := [.int x2, .int x3]) (rest := []) hk_x0_3 (MC_X2_look l x N K x0 x2 x3 M o127 ho127) cv_X2_124 ⟨by omega, by omega⟩ rfl rfl (Nat.le_of_ble_eq_true rfl) hl.1 dX2_perform_127 hcs (fun H locs hR hS => ?_)
          refine lv_goto (tgt := 255) hx hb dX2_perform_130 (by decide) ?_
          exact (wbC_X2_perform_255 CX hRm) _ _ _ _ _ hf hR hS (lv_sub hl [0] rfl)
        · rw [if_neg hc3] at hf
          by_cases hc4 : x1 = 5
          · rw [if_pos hc4] at hf
            refine lv_tableIn (off := 132) (tgt := 133) hx hb dX2_perform_1 (by rw [hc4]; decide) (by rw [hc4]; decide) (by rw [hc4]; decide) (by decide) ?_
            refine lv_aload_n hx hb dX2_perform_133 rfl (lv_at hl 0 rfl) ?_
            refine lv_iload_n hx hb dX2_perform_134 rfl (lv_at hl 2 rfl) ?_
            refine lv_iload_n hx hb dX2_perform_135 rfl (lv_at hl 3 rfl) ?_
            obtain ⟨hk_x0_3, hf⟩ := gd_some hf
            obtain ⟨o136, ho136, hf⟩ := bnd_some hf
            refine cr_callVv kc_2 CX hR hL hS (As := [.int x2, .int x3]) (rest := []) hk_x0_3 (MC_X2_store l x N K x0 x2 x3 M o136 ho136) cv_X2_127 ⟨by omega, by omega⟩ rfl rfl (Nat.le_of_ble_eq_true rfl) hl.1 dX2_perform_136 hcs (fun H locs hR hS => ?_)
            refine lv_goto (tgt := 255) hx hb dX2_perform_139 (by decide) ?_
            exact (wbC_X2_perform_255 CX hRm) _ _ _ _ _ hf hR hS (lv_sub hl [0] rfl)
          · rw [if_neg hc4] at hf
            by_cases hc5 : x1 = 6
            · rw [if_pos hc5] at hf
              refine lv_tableIn (off := 141) (tgt := 142) hx hb dX2_perform_1 (by rw [hc5]; decide) (by rw [hc5]; decide) (by rw [hc5]; decide) (by decide) ?_
              refine lv_aload_n hx hb dX2_perform_142 rfl (lv_at hl 0 rfl) ?_
              refine lv_iload_n hx hb dX2_perform_143 rfl (lv_at hl 2 rfl) ?_
              obtain ⟨hk_x0_3, hf⟩ := gd_some hf
              obtain ⟨o144, ho144, hf⟩ := bnd_some hf
              refine cr_callVv kc_2 CX hR hL hS (As := [.int x2]) (rest := []) hk_x0_3 (MC_X2_noteNeed l x N K x0 x2 M o144 ho144) cv_X2_121 ⟨by omega, by omega⟩ rfl rfl (Nat.le_of_ble_eq_true rfl) hl.1 dX2_perform_144 hcs (fun H locs hR hS => ?_)
              refine lv_aload_n hx hb dX2_perform_147 rfl (lv_at hl 0 rfl) ?_
              refine lv_iload_n hx hb dX2_perform_148 rfl (lv_at hl 2 rfl) ?_
              obtain ⟨o149, ho149, hf⟩ := bnd_some hf
              refine cr_callIv kc_2 CX hR hL hS (As := [.int x2]) (rest := []) hk_x0_3 (MC_X2_isThere l x N K x0 x2 o144 o149 ho149) cv_X2_130 ⟨by omega, by omega⟩ rfl rfl (Nat.le_of_ble_eq_true rfl) hl.1 dX2_perform_149 hcs (fun H locs hR hS => ?_)
              refine lv_pop hx hb dX2_perform_152 rfl ?_
              refine lv_goto (tgt := 255) hx hb dX2_perform_153 (by decide) ?_
              exact (wbC_X2_perform_255 CX hRm) _ _ _ _ _ hf hR hS (lv_sub hl [0] rfl)
            · rw [if_neg hc5] at hf
              by_cases hc6 : x1 = 7
              · rw [if_pos hc6] at hf
                refine lv_tableIn (off := 155) (tgt := 156) hx hb dX2_perform_1 (by rw [hc6]; decide) (by rw [hc6]; decide) (by rw [hc6]; decide) (by decide) ?_
                refine lv_aload_n hx hb dX2_perform_156 rfl (lv_at hl 0 rfl) ?_
                refine lv_iload_n hx hb dX2_perform_157 rfl (lv_at hl 2 rfl) ?_
                obtain ⟨hk_x0_3, hf⟩ := gd_some hf
                obtain ⟨o158, ho158, hf⟩ := bnd_some hf
                refine cr_callIv kc_2 CX hR hL hS (As := [.int x2]) (rest := []) hk_x0_3 (MC_X2_isThere l x N K x0 x2 M o158 ho158) cv_X2_130 ⟨by omega, by omega⟩ rfl rfl (Nat.le_of_ble_eq_true rfl) hl.1 dX2_perform_158 hcs (fun H locs hR hS => ?_)
                refine lv_pop hx hb dX2_perform_161 rfl ?_
                refine lv_goto (tgt := 255) hx hb dX2_perform_162 (by decide) ?_
                exact (wbC_X2_perform_255 CX hRm) _ _ _ _ _ hf hR hS (lv_sub hl [0] rfl)
              · rw [if_neg hc6] at hf
                by_cases hc7 : x1 = 8
                · rw [if_pos hc7] at hf
                  refine lv_tableIn (off := 164) (tgt := 165) hx hb dX2_perform_1 (by rw [hc7]; decide) (by rw [hc7]; decide) (by rw [hc7]; decide) (by decide) ?_
                  refine lv_aload_n hx hb dX2_perform_165 rfl (lv_at hl 0 rfl) ?_
                  obtain ⟨hk_x0_3, hf⟩ := gd_some hf
                  refine cr_getR kc_2 CX hR fa_X2_64 rfl hk_x0_3 dX2_perform_166 ?_
                  refine lv_aload_n hx hb dX2_perform_169 rfl (lv_at hl 0 rfl) ?_
                  refine cr_getR kc_2 CX hR fa_X2_25 rfl hk_x0_3 dX2_perform_170 ?_
                  obtain ⟨a1, ha1, hf⟩ := nn_some hf
                  refine rf_0 ha1 ?_
                  obtain ⟨hk_a1_2, hf⟩ := gd_some hf
                  refine cr_getI kc_1 CX hR fa_X2_134 rfl hk_a1_2 dX2_perform_173 ?_
                  refine lv_aload_n hx hb dX2_perform_176 rfl (lv_at hl 0 rfl) ?_
                  refine cr_getR kc_2 CX hR fa_X2_64 rfl hk_x0_3 dX2_perform_177 ?_
                  obtain ⟨a2, ha2, hf⟩ := nn_some hf
                  refine rf_0 ha2 ?_
                  obtain ⟨hk_a2_5, hf⟩ := gd_some hf
                  refine cr_getR kc_4 CX hR fa_X2_137 rfl hk_a2_5 dX2_perform_180 ?_
                  refine lv_aload_n hx hb dX2_perform_183 rfl (lv_at hl 0 rfl) ?_
                  refine cr_getR kc_2 CX hR fa_X2_25 rfl hk_x0_3 dX2_perform_184 ?_
                  obtain ⟨a3, ha3, hf⟩ := nn_some hf
                  refine rf_0 ha3 ?_
                  obtain ⟨hk_a3_2, hf⟩ := gd_some hf
                  refine cr_getI kc_1 CX hR fa_X2_134 rfl hk_a3_2 dX2_perform_187 ?_
                  obtain ⟨a4, ha4, hf⟩ := nn_some hf
                  refine rf_1 ha4 ?_
                  obtain ⟨hk_a4_22, hf⟩ := gd_some hf
                  obtain ⟨hi, hf⟩ := ck_some hf
                  refine cr_iald CX hR hk_a4_22 hi dX2_perform_190 ?_
                  obtain ⟨a5, ha5, hf⟩ := nn_some hf
                  refine rf_2 ha5 ?_
                  obtain ⟨hk_a5_5, hf⟩ := gd_some hf
                  obtain ⟨o191, ho191, hf⟩ := bnd_some hf
                  refine cr_callIv kc_4 CX hR hL hS (As := [.int (cI M a1 1), .int (cI M a4 (cI M a3 1 : Int32).toNatClampNeg)]) (rest := []) hk_a5_5 (MC_X4_isPlanned l x N K a5 (cI M a1 1) (cI M a4 (cI M a3 1 : Int32).toNatClampNeg) M o191 ho191) cv_X2_142 ⟨by omega, by omega⟩ rfl rfl (Nat.le_of_ble_eq_true rfl) hl.1 dX2_perform_191 hcs (fun H locs hR hS => ?_)
                  refine lv_if_eq (tgt := 255) hx hb dX2_perform_194 (by decide) (fun hc => ?_) (fun hc => ?_)
                  · rw [if_pos hc] at hf
                    exact (wbC_X2_perform_255 CX hRm) _ _ _ _ _ hf hR hS (lv_sub hl [0] rfl)
                  · rw [if_neg hc] at hf
                    refine lv_aload_n hx hb dX2_perform_197 rfl (lv_at hl 0 rfl) ?_
                    refine lv_bipush (v := 14) hx hb dX2_perform_198 (by decide) ?_
                    obtain ⟨o200, ho200, hf⟩ := bnd_some hf
                    refine cr_callVv kc_2 CX hR hL hS (As := [.int 14]) (rest := []) hk_x0_3 (MC_X2_raise l x N K x0 14 o191.2 o200 ho200) cv_X2_146 ⟨by omega, by omega⟩ rfl rfl (Nat.le_of_ble_eq_true rfl) hl.1 dX2_perform_200 hcs (fun H locs hR hS => ?_)
                    refine lv_goto (tgt := 255) hx hb dX2_perform_203 (by decide) ?_
                    exact (wbC_X2_perform_255 CX hRm) _ _ _ _ _ hf hR hS (lv_sub hl [0] rfl)
                · rw [if_neg hc7] at hf
                  by_cases hc8 : x1 = 9
                  · rw [if_pos hc8] at hf
                    refine lv_tableIn (off := 248) (tgt := 249) hx hb dX2_perform_1 (by rw [hc8]; decide) (by rw [hc8]; decide) (by rw [hc8]; decide) (by decide) ?_
                    exact (wbC_X2_perform_249 CX hRm) _ _ _ _ _ _ _ hf hR hS (lv_sub hl [0, 1, 2] rfl)
                  · rw [if_neg hc8] at hf
                    by_cases hc9 : x1 = 10
                    · rw [if_pos hc9] at hf
                      refine lv_tableIn (off := 248) (tgt := 249) hx hb dX2_perform_1 (by rw [hc9]; decide) (by rw [hc9]; decide) (by rw [hc9]; decide) (by decide) ?_
                      exact (wbC_X2_perform_249 CX hRm) _ _ _ _ _ _ _ hf hR hS (lv_sub hl [0, 1, 2] rfl)
                    · rw [if_neg hc9] at hf
                      by_cases hc10 : x1 = 11
                      · rw [if_pos hc10] at hf
                        refine lv_tableIn (off := 248) (tgt := 249) hx hb dX2_perform_1 (by rw [hc10]; decide) (by rw [hc10]; decide) (by rw [hc10]; decide) (by decide) ?_
                        exact (wbC_X2_perform_249 CX hRm) _ _ _ _ _ _ _ hf hR hS (lv_sub hl [0, 1, 2] rfl)
                      · rw [if_neg hc10] at hf
                        by_cases hc11 : x1 = 12
                        · rw [if_pos hc11] at hf
                          refine lv_tableIn (off := 248) (tgt := 249) hx hb dX2_perform_1 (by rw [hc11]; decide) (by rw [hc11]; decide) (by rw [hc11]; decide) (by decide) ?_
                          exact (wbC_X2_perform_249 CX hRm) _ _ _ _ _ _ _ hf hR hS (lv_sub hl [0, 1, 2] rfl)
                        · rw [if_neg hc11] at hf
                          by_cases hc12 : x1 = 13
                          · rw [if_pos hc12] at hf
                            refine lv_tableIn (off := 205) (tgt := 206) hx hb dX2_perform_1 (by rw [hc12]; decide) (by rw [hc12]; decide) (by rw [hc12]; decide) (by decide) ?_
                            refine lv_aload_n hx hb dX2_perform_206 rfl (lv_at hl 0 rfl) ?_
                            refine lv_iload_n hx hb dX2_perform_207 rfl (lv_at hl 2 rfl) ?_
                            refine lv_aload_n hx hb dX2_perform_208 rfl (lv_at hl 0 rfl) ?_
                            obtain ⟨hk_x0_3, hf⟩ := gd_some hf
                            obtain ⟨o209, ho209, hf⟩ := bnd_some hf
                            refine cr_callIv kc_2 CX hR hL hS (As := []) (rest := [.int x2, .ref x0]) hk_x0_3 (MC_X2_pop l x N K x0 M o209 ho209) cv_X2_149 ⟨by omega, by omega⟩ rfl rfl (Nat.le_of_ble_eq_true rfl) hl.1 dX2_perform_209 hcs (fun H locs hR hS => ?_)
                            obtain ⟨o212, ho212, hf⟩ := bnd_some hf
                            refine cr_callVv kc_2 CX hR hL hS (As := [.int x2, .int o209.1]) (rest := []) hk_x0_3 (MC_X2_giveOrder l x N K x0 x2 o209.1 o209.2 o212 ho212) cv_X2_153 ⟨by omega, by omega⟩ rfl rfl (Nat.le_of_ble_eq_true rfl) hl.1 dX2_perform_212 hcs (fun H locs hR hS => ?_)
                            refine lv_goto (tgt := 255) hx hb dX2_perform_215 (by decide) ?_
                            exact (wbC_X2_perform_255 CX hRm) _ _ _ _ _ hf hR hS (lv_sub hl [0] rfl)
                          · rw [if_neg hc12] at hf
                            by_cases hc13 : x1 = 14
                            · rw [if_pos hc13] at hf
                              refine lv_tableIn (off := 217) (tgt := 218) hx hb dX2_perform_1 (by rw [hc13]; decide) (by rw [hc13]; decide) (by rw [hc13]; decide) (by decide) ?_
                              refine lv_aload_n hx hb dX2_perform_218 rfl (lv_at hl 0 rfl) ?_
                              obtain ⟨hk_x0_3, hf⟩ := gd_some hf
                              obtain ⟨o219, ho219, hf⟩ := bnd_some hf
                              refine cr_callIv kc_2 CX hR hL hS (As := []) (rest := []) hk_x0_3 (MC_X2_pop l x N K x0 M o219 ho219) cv_X2_149 ⟨by omega, by omega⟩ rfl rfl (Nat.le_of_ble_eq_true rfl) hl.1 dX2_perform_219 hcs (fun H locs hR hS => ?_)
                              refine lv_if_ne (tgt := 255) hx hb dX2_perform_222 (by decide) (fun hc => ?_) (fun hc => ?_)
                              · rw [if_neg hc] at hf
                                exact (wbC_X2_perform_255 CX hRm) _ _ _ _ _ hf hR hS (lv_sub hl [0] rfl)
                              · rw [if_pos hc] at hf
                                refine lv_aload_n hx hb dX2_perform_225 rfl (lv_at hl 0 rfl) ?_
                                refine lv_bipush (v := 11) hx hb dX2_perform_226 (by decide) ?_
                                obtain ⟨o228, ho228, hf⟩ := bnd_some hf
                                refine cr_callVv kc_2 CX hR hL hS (As := [.int 11]) (rest := []) hk_x0_3 (MC_X2_raise l x N K x0 11 o219.2 o228 ho228) cv_X2_146 ⟨by omega, by omega⟩ rfl rfl (Nat.le_of_ble_eq_true rfl) hl.1 dX2_perform_228 hcs (fun H locs hR hS => ?_)
                                refine lv_goto (tgt := 255) hx hb dX2_perform_231 (by decide) ?_
                                exact (wbC_X2_perform_255 CX hRm) _ _ _ _ _ hf hR hS (lv_sub hl [0] rfl)
                            · rw [if_neg hc13] at hf
                              by_cases hc14 : x1 = 15
                              · rw [if_pos hc14] at hf
                                refine lv_tableIn (off := 233) (tgt := 234) hx hb dX2_perform_1 (by rw [hc14]; decide) (by rw [hc14]; decide) (by rw [hc14]; decide) (by decide) ?_
                                refine lv_aload_n hx hb dX2_perform_234 rfl (lv_at hl 0 rfl) ?_
                                refine lv_iload_n hx hb dX2_perform_235 rfl (lv_at hl 2 rfl) ?_
                                obtain ⟨hk_x0_3, hf⟩ := gd_some hf
                                obtain ⟨o236, ho236, hf⟩ := bnd_some hf
                                refine cr_callVv kc_2 CX hR hL hS (As := [.int x2]) (rest := []) hk_x0_3 (MC_X2_raise l x N K x0 x2 M o236 ho236) cv_X2_146 ⟨by omega, by omega⟩ rfl rfl (Nat.le_of_ble_eq_true rfl) hl.1 dX2_perform_236 hcs (fun H locs hR hS => ?_)
                                refine lv_goto (tgt := 255) hx hb dX2_perform_239 (by decide) ?_
                                exact (wbC_X2_perform_255 CX hRm) _ _ _ _ _ hf hR hS (lv_sub hl [0] rfl)
                              · rw [if_neg hc14] at hf
                                by_cases hc15 : x1 = 16
                                · rw [if_pos hc15] at hf
                                  refine lv_tableIn (off := 248) (tgt := 249) hx hb dX2_perform_1 (by rw [hc15]; decide) (by rw [hc15]; decide) (by rw [hc15]; decide) (by decide) ?_
                                  exact (wbC_X2_perform_249 CX hRm) _ _ _ _ _ _ _ hf hR hS (lv_sub hl [0, 1, 2] rfl)
                                · rw [if_neg hc15] at hf
                                  by_cases hc16 : x1 = 17
                                  · rw [if_pos hc16] at hf
                                    refine lv_tableIn (off := 248) (tgt := 249) hx hb dX2_perform_1 (by rw [hc16]; decide) (by rw [hc16]; decide) (by rw [hc16]; decide) (by decide) ?_
                                    exact (wbC_X2_perform_249 CX hRm) _ _ _ _ _ _ _ hf hR hS (lv_sub hl [0, 1, 2] rfl)
                                  · rw [if_neg hc16] at hf
                                    by_cases hc17 : x1 = 18
                                    · rw [if_pos hc17] at hf
                                      refine lv_tableIn (off := 248) (tgt := 249) hx hb dX2_perform_1 (by rw [hc17]; decide) (by rw [hc17]; decide) (by rw [hc17]; decide) (by decide) ?_
                                      exact (wbC_X2_perform_249 CX hRm) _ _ _ _ _ _ _ hf hR hS (lv_sub hl [0, 1, 2] rfl)
                                    · rw [if_neg hc17] at hf
                                      by_cases hc18 : x1 = 19
                                      · rw [if_pos hc18] at hf
                                        refine lv_tableIn (off := 248) (tgt := 249) hx hb dX2_perform_1 (by rw [hc18]; decide) (by rw [hc18]; decide) (by rw [hc18]; decide) (by decide) ?_
                                        exact (wbC_X2_perform_249 CX hRm) _ _ _ _ _ _ _ hf hR hS (lv_sub hl [0, 1, 2] rfl)
                                      · rw [if_neg hc18] at hf
                                        by_cases hc19 : x1 = 20
                                        · rw [if_pos hc19] at hf
                                          refine lv_tableIn (off := 241) (tgt := 242) hx hb dX2_perform_1 (by rw [hc19]; decide) (by rw [hc19]; decide) (by rw [hc19]; decide) (by decide) ?_
                                          refine lv_aload_n hx hb dX2_perform_242 rfl (lv_at hl 0 rfl) ?_
                                          obtain ⟨hk_x0_3, hf⟩ := gd_some hf
                                          obtain ⟨o243, ho243, hf⟩ := bnd_some hf
                                          refine cr_callVv kc_2 CX hR hL hS (As := []) (rest := []) hk_x0_3 (MC_X2_leave l x N K x0 M o243 ho243) cv_X2_156 ⟨by omega, by omega⟩ rfl rfl (Nat.le_of_ble_eq_true rfl) hl.1 dX2_perform_243 hcs (fun H locs hR hS => ?_)
                                          refine lv_goto (tgt := 255) hx hb dX2_perform_246 (by decide) ?_
                                          exact (wbC_X2_perform_255 CX hRm) _ _ _ _ _ hf hR hS (lv_sub hl [0] rfl)
                                        · rw [if_neg hc19] at hf
                                          have hn0 := tsw_ne (k := 1) rfl hc0
                                          have hn1 := tsw_ne (k := 2) rfl hc1
                                          have hn2 := tsw_ne (k := 3) rfl hc2
                                          have hn3 := tsw_ne (k := 4) rfl hc3
                                          have hn4 := tsw_ne (k := 5) rfl hc4
                                          have hn5 := tsw_ne (k := 6) rfl hc5
                                          have hn6 := tsw_ne (k := 7) rfl hc6
                                          have hn7 := tsw_ne (k := 8) rfl hc7
                                          have hn8 := tsw_ne (k := 9) rfl hc8
                                          have hn9 := tsw_ne (k := 10) rfl hc9
                                          have hn10 := tsw_ne (k := 11) rfl hc10
                                          have hn11 := tsw_ne (k := 12) rfl hc11
                                          have hn12 := tsw_ne (k := 13) rfl hc12
                                          have hn13 := tsw_ne (k := 14) rfl hc13
                                          have hn14 := tsw_ne (k := 15) rfl hc14
                                          have hn15 := tsw_ne (k := 16) rfl hc15
                                          have hn16 := tsw_ne (k := 17) rfl hc16
                                          have hn17 := tsw_ne (k := 18) rfl hc17
                                          have hn18 := tsw_ne (k := 19) rfl hc18
                                          have hn19 := tsw_ne (k := 20) rfl hc19
                                          refine lv_tableOut (tgt := 249) hx hb dX2_perform_1 (by omega) (by decide) ?_
                                          exact (wbC_X2_perform_249 CX hRm) _ _ _ _ _ _ _ hf hR hS (lv_sub hl [0, 1, 2] rfl)
theorem MC_X2_perform (l : Launch) (x : Xc) (N : Nat) (K : Ka) (x0 : Nat) (x1 : Int32) (x2 : Int32) (x3 : Int32) (M : Cm) (o : Cm) (hf : fC_X2_perform N K x0 x1 x2 x3 M = some o) : CtV l x yX2_perform cX2_perform 4 4 93 [.ref x0, .int x1, .int x2, .int x3] K M o :=
  cr_metV RX2 (by decide) rfl (Nat.le_of_ble_eq_true rfl) (fun p e s m args below meth c ls CX hR hl => wfC_X2_perform CX ⟨Nat.le_refl _, Nat.le_refl _⟩ x0 x1 x2 x3 M s.heap [] ls hf hR va_S.rf hl)
def bC_X2_run_105 (N : Nat) (K : Ka) (r55 : Nat → Nat → Int32 → Cm → Option (Cm)) (k152 : Nat → Cm → Option (Cm)) (x0 : Nat) (x1 : Nat) (x5 : Int32) (s0 : Int64) (M : Cm) : Option (Cm) := gd (kd K x0 == 3) (nn (cR M x0 5) fun a1 => gd (kd K a1 == 2) ((fC_X2_perform N K x0 (((s0 : Int64).toInt32) &&& 255) (((s0 >>> ((8 : Int32).toInt64 &&& 63) : Int64).toInt32) &&& 16777215) ((s0 >>> ((32 : Int32).toInt64 &&& 63) : Int64).toInt32) (wI M a1 2 ((cI M a1 2) + 1))).bind fun o143 => r55 x0 x1 (x5 + 1) o143))
set_option maxRecDepth 100000 in
set_option maxHeartbeats 4000000 in
theorem wbC_X2_run_105 {p : Program} {l : Launch} {e : Env} {R : Room} {s : State} {m : MethodId} {args : Array Value} {below : List Frame} {meth : Method} {c : Code} {x : Xc} {o : Cm} {N : Nat} {K : Ka} {r55 : Nat → Nat → Int32 → Cm → Option (Cm)} {k152 : Nat → Cm → Option (Cm)} (CX : CC p s m args meth c x K RX2 cX2_run 9 none) (hRm : 5 ≤ R.frames ∧ 116 ≤ R.locals) (hr55 : ∀ (x0 : Nat) (x1 : Nat) (x5 : Int32) (M : Cm) (H : Heap) (locs : List Loc) (ls : Array Slot), r55 x0 x1 x5 M = some o → RC x K M H → va_S (AC K) s.heap H locs → lv_has ls 9 [(0, .ref x0), (1, .ref x1), (5, .int x5)] → W p l e R s m args below meth c H locs 0 0 (MQ below (CQV x K o) args s 0 0 (AC K)) (F0 m 55 ls [])) (hk152 : ∀ (x0 : Nat) (M : Cm) (H : Heap) (locs : List Loc) (ls : Array Slot), k152 x0 M = some o → RC x K M H → va_S (AC K) s.heap H locs → lv_has ls 9 [(0, .ref x0)] → W p l e R s m args below meth c H locs 0 0 (MQ below (CQV x K o) args s 0 0 (AC K)) (F0 m 152 ls [])) (x0 : Nat) (x1 : Nat) (x5 : Int32) (s0 : Int64) (M : Cm) (H : Heap) (locs : List Loc) (ls : Array Slot) (hf : bC_X2_run_105 N K r55 k152 x0 x1 x5 s0 M = some o) (hR : RC x K M H) (hS : va_S (AC K) s.heap H locs) (hl : lv_has ls 9 [(0, .ref x0), (1, .ref x1), (5, .int x5)]) : W p l e R s m args below meth c H locs 0 0 (MQ below (CQV x K o) args s 0 0 (AC K)) (F0 m 105 ls [.long s0]) := by
  obtain ⟨hx, hb, hml, hown, hts, hE, hB, hr, hlk⟩ := id CX
  have hL : KLe K K := KLe.rf K
  have hcs : 0 ≤ R.cells ∧ 0 ≤ R.slots := ⟨Nat.zero_le _, Nat.zero_le _⟩
  unfold bC_X2_run_105 at hf
  refine lv_lstore (lv' := [(7, .long s0), (0, .ref x0), (1, .ref x1), (5, .int x5)]) hx hb dX2_run_105 hl (by decide) rfl (fun ls hl => ?_)
  refine lv_aload_n hx hb dX2_run_107 rfl (lv_at hl 1 rfl) ?_
  obtain ⟨hk_x0_3, hf⟩ := gd_some hf
  refine cr_getR kc_2 CX hR fa_X2_25 rfl hk_x0_3 dX2_run_108 ?_
  obtain ⟨a1, ha1, hf⟩ := nn_some hf
  refine rf_0 ha1 ?_
  refine lv_dup hx hb dX2_run_111 rfl ?_
  obtain ⟨hk_a1_2, hf⟩ := gd_some hf
  refine cr_getI kc_1 CX hR fa_X2_95 rfl hk_a1_2 dX2_run_112 ?_
  refine lv_iconst (v := 1) hx hb dX2_run_115 (by decide) ?_
  refine lv_iadd hx hb dX2_run_116 ?_
  refine cr_putI kc_1 CX hR hL hS fa_X2_95 ⟨rfl, rfl, rfl⟩ hk_a1_2 dX2_run_117 (fun H locs hR hS => ?_)
  refine lv_aload_n hx hb dX2_run_120 rfl (lv_at hl 1 rfl) ?_
  refine lv_lload hx hb dX2_run_121 (lv_at hl 0 rfl) ?_
  refine lv_l2i (v := (s0 : Int64).toInt32) hx hb dX2_run_123 rfl ?_
  refine lv_sipush (v := 255) hx hb dX2_run_124 (by decide) ?_
  refine lv_iand hx hb dX2_run_127 ?_
  refine lv_lload hx hb dX2_run_128 (lv_at hl 0 rfl) ?_
  refine lv_bipush (v := 8) hx hb dX2_run_130 (by decide) ?_
  refine lv_lshr (v := s0 >>> ((8 : Int32).toInt64 &&& 63)) hx hb dX2_run_132 rfl ?_
  refine lv_l2i (v := (s0 >>> ((8 : Int32).toInt64 &&& 63) : Int64).toInt32) hx hb dX2_run_133 rfl ?_
  refine lv_ldc hx hb hown (hts _ wc_1129) dX2_run_134 ?_
  refine lv_iand hx hb dX2_run_136 ?_
  refine lv_lload hx hb dX2_run_137 (lv_at hl 0 rfl) ?_
  refine lv_bipush (v := 32) hx hb dX2_run_139 (by decide) ?_
  refine lv_lshr (v := s0 >>> ((32 : Int32).toInt64 &&& 63)) hx hb dX2_run_141 rfl ?_
  refine lv_l2i (v := (s0 >>> ((32 : Int32).toInt64 &&& 63) : Int64).toInt32) hx hb dX2_run_142 rfl ?_
  obtain ⟨o143, ho143, hf⟩ := bnd_some hf
  refine cr_callVv kc_2 CX hR hL hS (As := [.int (((s0 : Int64).toInt32) &&& 255), .int (((s0 >>> ((8 : Int32).toInt64 &&& 63) : Int64).toInt32) &&& 16777215), .int ((s0 >>> ((32 : Int32).toInt64 &&& 63) : Int64).toInt32)]) (rest := []) hk_x0_3 (MC_X2_perform l x N K x0 (((s0 : Int64).toInt32) &&& 255) (((s0 >>> ((8 : Int32).toInt64 &&& 63) : Int64).toInt32) &&& 16777215) ((s0 >>> ((32 : Int32).toInt64 &&& 63) : Int64).toInt32) (wI M a1 2 ((cI M a1 2) + 1)) o143 ho143) cv_X2_108 ⟨by omega, by omega⟩ rfl rfl (Nat.le_of_ble_eq_true rfl) hl.1 dX2_run_143 hcs (fun H locs hR hS => ?_)
  refine lv_iinc (v := x5 + 1) (lv' := [(5, .int (x5 + 1)), (7, .long s0), (0, .ref x0), (1, .ref x1)]) hx hb dX2_run_146 hl (k := 3) rfl rfl (by decide) rfl (fun ls hl => ?_)
  refine lv_goto (tgt := 55) hx hb dX2_run_149 (by decide) ?_
  exact hr55 _ _ _ _ _ _ _ hf hR hS (lv_sub hl [2, 3, 0] rfl)
def bC_X2_run_102 (N : Nat) (K : Ka) (r55 : Nat → Nat → Int32 → Cm → Option (Cm)) (k152 : Nat → Cm → Option (Cm)) (x0 : Nat) (x1 : Nat) (x5 : Int32) (M : Cm) : Option (Cm) := (bC_X2_run_105 N K r55 k152) x0 x1 x5 20 M
set_option maxRecDepth 100000 in
set_option maxHeartbeats 4000000 in
theorem wbC_X2_run_102 {p : Program} {l : Launch} {e : Env} {R : Room} {s : State} {m : MethodId} {args : Array Value} {below : List Frame} {meth : Method} {c : Code} {x : Xc} {o : Cm} {N : Nat} {K : Ka} {r55 : Nat → Nat → Int32 → Cm → Option (Cm)} {k152 : Nat → Cm → Option (Cm)} (CX : CC p s m args meth c x K RX2 cX2_run 9 none) (hRm : 5 ≤ R.frames ∧ 116 ≤ R.locals) (hr55 : ∀ (x0 : Nat) (x1 : Nat) (x5 : Int32) (M : Cm) (H : Heap) (locs : List Loc) (ls : Array Slot), r55 x0 x1 x5 M = some o → RC x K M H → va_S (AC K) s.heap H locs → lv_has ls 9 [(0, .ref x0), (1, .ref x1), (5, .int x5)] → W p l e R s m args below meth c H locs 0 0 (MQ below (CQV x K o) args s 0 0 (AC K)) (F0 m 55 ls [])) (hk152 : ∀ (x0 : Nat) (M : Cm) (H : Heap) (locs : List Loc) (ls : Array Slot), k152 x0 M = some o → RC x K M H → va_S (AC K) s.heap H locs → lv_has ls 9 [(0, .ref x0)] → W p l e R s m args below meth c H locs 0 0 (MQ below (CQV x K o) args s 0 0 (AC K)) (F0 m 152 ls [])) (x0 : Nat) (x1 : Nat) (x5 : Int32) (M : Cm) (H : Heap) (locs : List Loc) (ls : Array Slot) (hf : bC_X2_run_102 N K r55 k152 x0 x1 x5 M = some o) (hR : RC x K M H) (hS : va_S (AC K) s.heap H locs) (hl : lv_has ls 9 [(0, .ref x0), (1, .ref x1), (5, .int x5)]) : W p l e R s m args below meth c H locs 0 0 (MQ below (CQV x K o) args s 0 0 (AC K)) (F0 m 102 ls []) := by
  obtain ⟨hx, hb, hml, hown, hts, hE, hB, hr, hlk⟩ := id CX
  have hL : KLe K K := KLe.rf K
  have hcs : 0 ≤ R.cells ∧ 0 ≤ R.slots := ⟨Nat.zero_le _, Nat.zero_le _⟩
  unfold bC_X2_run_102 at hf
  refine lv_ldc2 hx hb hown (hts _ wc_1128) dX2_run_102 ?_
  exact (wbC_X2_run_105 CX hRm hr55 hk152) _ _ _ _ _ _ _ _ hf hR hS (lv_sub hl [0, 1, 2] rfl)
def lC_X2_run_55 (N : Nat) (K : Ka) (k152 : Nat → Cm → Option (Cm)) : Nat → Nat → Nat → Int32 → Cm → Option (Cm)
  | 0, _, _, _, _ => none
  | n + 1, x0, x1, x5, M => if 1000000 ≤ x5 then (k152 x0 M) else (gd (kd K x0 == 3) (if (cI M x0 13) = 0 then (k152 x0 M) else (nn (cR M x0 5) fun a1 => gd (kd K a1 == 2) (if (cI M a1 2) < 0 then ((bC_X2_run_102 N K (lC_X2_run_55 N K k152 n) k152) x0 x1 x5 M) else (gd (kd K x1 == 6) (if (cI M x1 13) ≤ (cI M a1 2) then ((bC_X2_run_102 N K (lC_X2_run_55 N K k152 n) k152) x0 x1 x5 M) else (nn (cR M x1 9) fun a2 => gd (kd K a2 == 23) (ck (cI M a1 2) (le K a2) ((bC_X2_run_105 N K (lC_X2_run_55 N K k152 n) k152) x0 x1 x5 (cL M a2 (cI M a1 2 : Int32).toNatClampNeg) M)))))))))
set_option maxRecDepth 100000 in
set_option maxHeartbeats 4000000 in
theorem wlC_X2_run_55 {p : Program} {l : Launch} {e : Env} {R : Room} {s : State} {m : MethodId} {args : Array Value} {below : List Frame} {meth : Method} {c : Code} {x : Xc} {o : Cm} {N : Nat} {K : Ka} {k152 : Nat → Cm → Option (Cm)} (CX : CC p s m args meth c x K RX2 cX2_run 9 none) (hRm : 5 ≤ R.frames ∧ 116 ≤ R.locals) (hk152 : ∀ (x0 : Nat) (M : Cm) (H : Heap) (locs : List Loc) (ls : Array Slot), k152 x0 M = some o → RC x K M H → va_S (AC K) s.heap H locs → lv_has ls 9 [(0, .ref x0)] → W p l e R s m args below meth c H locs 0 0 (MQ below (CQV x K o) args s 0 0 (AC K)) (F0 m 152 ls [])) : ∀ (n : Nat) (x0 : Nat) (x1 : Nat) (x5 : Int32) (M : Cm) (H : Heap) (locs : List Loc) (ls : Array Slot), lC_X2_run_55 N K k152 n x0 x1 x5 M = some o → RC x K M H → va_S (AC K) s.heap H locs → lv_has ls 9 [(0, .ref x0), (1, .ref x1), (5, .int x5)] → W p l e R s m args below meth c H locs 0 0 (MQ below (CQV x K o) args s 0 0 (AC K)) (F0 m 55 ls []) := by
  obtain ⟨hx, hb, hml, hown, hts, hE, hB, hr, hlk⟩ := id CX
  have hL : KLe K K := KLe.rf K
  have hcs : 0 ≤ R.cells ∧ 0 ≤ R.slots := ⟨Nat.zero_le _, Nat.zero_le _⟩
  intro n
  induction n with
  | zero => intro x0 x1 x5 M H locs ls hf; cases hf
  | succ n ih =>
    intro x0 x1 x5 M H locs ls hf hR hS hl
    rw [lC_X2_run_55] at hf
    refine lv_iload hx hb dX2_run_55 (lv_at hl 2 rfl) ?_
    refine lv_ldc hx hb hown (hts _ wc_1127) dX2_run_57 ?_
    refine lv_icmp_ge (tgt := 152) hx hb dX2_run_59 (by decide) (fun hc => ?_) (fun hc => ?_)
    · rw [if_pos hc] at hf
      exact hk152 _ _ _ _ _ hf hR hS (lv_sub hl [0] rfl)
    · rw [if_neg hc] at hf
      refine lv_aload_n hx hb dX2_run_62 rfl (lv_at hl 0 rfl) ?_
      obtain ⟨hk_x0_3, hf⟩ := gd_some hf
      refine cr_getI kc_2 CX hR fa_X2_52 rfl hk_x0_3 dX2_run_63 ?_
      refine lv_if_eq (tgt := 152) hx hb dX2_run_66 (by decide) (fun hc => ?_) (fun hc => ?_)
      · rw [if_pos hc] at hf
        exact hk152 _ _ _ _ _ hf hR hS (lv_sub hl [0] rfl)
      · rw [if_neg hc] at hf
        refine lv_aload_n hx hb dX2_run_69 rfl (lv_at hl 0 rfl) ?_
        refine cr_getR kc_2 CX hR fa_X2_25 rfl hk_x0_3 dX2_run_70 ?_
        obtain ⟨a1, ha1, hf⟩ := nn_some hf
        refine rf_0 ha1 ?_
        obtain ⟨hk_a1_2, hf⟩ := gd_some hf
        refine cr_getI kc_1 CX hR fa_X2_95 rfl hk_a1_2 dX2_run_73 ?_
        refine lv_istore (lv' := [(6, .int (cI M a1 2)), (0, .ref x0), (1, .ref x1), (5, .int x5)]) hx hb dX2_run_76 hl (by decide) rfl (fun ls hl => ?_)
        refine lv_iload hx hb dX2_run_78 (lv_at hl 0 rfl) ?_
        refine lv_if_lt (tgt := 102) hx hb dX2_run_80 (by decide) (fun hc => ?_) (fun hc => ?_)
        · rw [if_pos hc] at hf
          exact (wbC_X2_run_102 CX hRm ih hk152) _ _ _ _ _ _ _ hf hR hS (lv_sub hl [1, 2, 3] rfl)
        · rw [if_neg hc] at hf
          refine lv_iload hx hb dX2_run_83 (lv_at hl 0 rfl) ?_
          refine lv_aload_n hx hb dX2_run_85 rfl (lv_at hl 2 rfl) ?_
          obtain ⟨hk_x1_6, hf⟩ := gd_some hf
          refine cr_getI kc_5 CX hR fa_X2_98 rfl hk_x1_6 dX2_run_86 ?_
          refine lv_icmp_ge (tgt := 102) hx hb dX2_run_89 (by decide) (fun hc => ?_) (fun hc => ?_)
          · rw [if_pos hc] at hf
            exact (wbC_X2_run_102 CX hRm ih hk152) _ _ _ _ _ _ _ hf hR hS (lv_sub hl [1, 2, 3] rfl)
          · rw [if_neg hc] at hf
            refine lv_aload_n hx hb dX2_run_92 rfl (lv_at hl 2 rfl) ?_
            refine cr_getR kc_5 CX hR fa_X2_101 rfl hk_x1_6 dX2_run_93 ?_
            refine lv_iload hx hb dX2_run_96 (lv_at hl 0 rfl) ?_
            obtain ⟨a2, ha2, hf⟩ := nn_some hf
            refine rf_1 ha2 ?_
            obtain ⟨hk_a2_23, hf⟩ := gd_some hf
            obtain ⟨hi, hf⟩ := ck_some hf
            refine cr_lald CX hR hk_a2_23 hi dX2_run_98 ?_
            refine lv_goto (tgt := 105) hx hb dX2_run_99 (by decide) ?_
            exact (wbC_X2_run_105 CX hRm ih hk152) _ _ _ _ _ _ _ _ hf hR hS (lv_sub hl [1, 2, 3] rfl)
def bC_X2_run_152 (N : Nat) (K : Ka) (x0 : Nat) (M : Cm) : Option (Cm) := some M
set_option maxRecDepth 100000 in
set_option maxHeartbeats 4000000 in
theorem wbC_X2_run_152 {p : Program} {l : Launch} {e : Env} {R : Room} {s : State} {m : MethodId} {args : Array Value} {below : List Frame} {meth : Method} {c : Code} {x : Xc} {o : Cm} {N : Nat} {K : Ka} (CX : CC p s m args meth c x K RX2 cX2_run 9 none) (hRm : 5 ≤ R.frames ∧ 116 ≤ R.locals) (x0 : Nat) (M : Cm) (H : Heap) (locs : List Loc) (ls : Array Slot) (hf : bC_X2_run_152 N K x0 M = some o) (hR : RC x K M H) (hS : va_S (AC K) s.heap H locs) (hl : lv_has ls 9 [(0, .ref x0)]) : W p l e R s m args below meth c H locs 0 0 (MQ below (CQV x K o) args s 0 0 (AC K)) (F0 m 152 ls []) := by
  obtain ⟨hx, hb, hml, hown, hts, hE, hB, hr, hlk⟩ := id CX
  have hL : KLe K K := KLe.rf K
  have hcs : 0 ≤ R.cells ∧ 0 ≤ R.slots := ⟨Nat.zero_le _, Nat.zero_le _⟩
  unfold bC_X2_run_152 at hf
  exact cr_vret CX hR hS hf dX2_run_152
def fC_X2_run (N : Nat) (K : Ka) (x0 : Nat) (x1 : Nat) (x2 : Int32) (x3 : Int32) (x4 : Int32) (M : Cm) : Option (Cm) := gd (kd K x0 == 3) (gd (is01 0) (gd (is01 1) ((fC_X2_enter N K x0 x2 x3 (wI (wI (wI (wI (wI (wI (wI (wI (wR M x0 4 (some x1)) x0 6 0) x0 7 0) x0 10 x4) x0 12 0) x0 14 0) x0 15 0) x0 16 0) x0 13 1)).bind fun o49 => (lC_X2_run_55 N K (bC_X2_run_152 N K) N) x0 x1 0 o49)))
set_option maxRecDepth 100000 in
set_option maxHeartbeats 4000000 in
theorem wfC_X2_run {p : Program} {l : Launch} {e : Env} {R : Room} {s : State} {m : MethodId} {args : Array Value} {below : List Frame} {meth : Method} {c : Code} {x : Xc} {o : Cm} {N : Nat} {K : Ka} (CX : CC p s m args meth c x K RX2 cX2_run 9 none) (hRm : 5 ≤ R.frames ∧ 116 ≤ R.locals) (x0 : Nat) (x1 : Nat) (x2 : Int32) (x3 : Int32) (x4 : Int32) (M : Cm) (H : Heap) (locs : List Loc) (ls : Array Slot) (hf : fC_X2_run N K x0 x1 x2 x3 x4 M = some o) (hR : RC x K M H) (hS : va_S (AC K) s.heap H locs) (hl : lv_has ls 9 [(0, .ref x0), (1, .ref x1), (2, .int x2), (3, .int x3), (4, .int x4)]) : W p l e R s m args below meth c H locs 0 0 (MQ below (CQV x K o) args s 0 0 (AC K)) (F0 m 0 ls []) := by
  obtain ⟨hx, hb, hml, hown, hts, hE, hB, hr, hlk⟩ := id CX
  have hL : KLe K K := KLe.rf K
  have hcs : 0 ≤ R.cells ∧ 0 ≤ R.slots := ⟨Nat.zero_le _, Nat.zero_le _⟩
  unfold fC_X2_run at hf
  refine lv_aload_n hx hb dX2_run_0 rfl (lv_at hl 0 rfl) ?_
  refine lv_aload_n hx hb dX2_run_1 rfl (lv_at hl 1 rfl) ?_
  obtain ⟨hk_x0_3, hf⟩ := gd_some hf
  refine cr_putR kc_2 CX hR hL hS (v := some x1) fa_X2_21 ⟨rfl, rfl, .inl ⟨_, rfl⟩⟩ hk_x0_3 dX2_run_2 (fun H locs hR hS => ?_)
  refine lv_aload_n hx hb dX2_run_5 rfl (lv_at hl 0 rfl) ?_
  refine lv_iconst (v := 0) hx hb dX2_run_6 (by decide) ?_
  refine cr_putI kc_2 CX hR hL hS fa_X2_29 ⟨rfl, rfl, rfl⟩ hk_x0_3 dX2_run_7 (fun H locs hR hS => ?_)
  refine lv_aload_n hx hb dX2_run_10 rfl (lv_at hl 0 rfl) ?_
  refine lv_iconst (v := 0) hx hb dX2_run_11 (by decide) ?_
  refine cr_putI kc_2 CX hR hL hS fa_X2_33 ⟨rfl, rfl, rfl⟩ hk_x0_3 dX2_run_12 (fun H locs hR hS => ?_)
  refine lv_aload_n hx hb dX2_run_15 rfl (lv_at hl 0 rfl) ?_
  refine lv_iload hx hb dX2_run_16 (lv_at hl 4 rfl) ?_
  refine cr_putI kc_2 CX hR hL hS fa_X2_43 ⟨rfl, rfl, rfl⟩ hk_x0_3 dX2_run_18 (fun H locs hR hS => ?_)
  refine lv_aload_n hx hb dX2_run_21 rfl (lv_at hl 0 rfl) ?_
  refine lv_iconst (v := 0) hx hb dX2_run_22 (by decide) ?_
  refine cr_putI kc_2 CX hR hL hS fa_X2_49 ⟨rfl, rfl, rfl⟩ hk_x0_3 dX2_run_23 (fun H locs hR hS => ?_)
  refine lv_aload_n hx hb dX2_run_26 rfl (lv_at hl 0 rfl) ?_
  refine lv_iconst (v := 0) hx hb dX2_run_27 (by decide) ?_
  obtain ⟨hq, hf⟩ := gd_some hf
  refine cr_putZ kc_2 CX hR hL hS fa_X2_55 ⟨rfl, rfl, rfl⟩ hk_x0_3 hq dX2_run_28 (fun H locs hR hS => ?_)
  refine lv_aload_n hx hb dX2_run_31 rfl (lv_at hl 0 rfl) ?_
  refine lv_iconst (v := 0) hx hb dX2_run_32 (by decide) ?_
  refine cr_putI kc_2 CX hR hL hS fa_X2_58 ⟨rfl, rfl, rfl⟩ hk_x0_3 dX2_run_33 (fun H locs hR hS => ?_)
  refine lv_aload_n hx hb dX2_run_36 rfl (lv_at hl 0 rfl) ?_
  refine lv_iconst (v := 0) hx hb dX2_run_37 (by decide) ?_
  refine cr_putI kc_2 CX hR hL hS fa_X2_61 ⟨rfl, rfl, rfl⟩ hk_x0_3 dX2_run_38 (fun H locs hR hS => ?_)
  refine lv_aload_n hx hb dX2_run_41 rfl (lv_at hl 0 rfl) ?_
  refine lv_iconst (v := 1) hx hb dX2_run_42 (by decide) ?_
  obtain ⟨hq, hf⟩ := gd_some hf
  refine cr_putZ kc_2 CX hR hL hS fa_X2_52 ⟨rfl, rfl, rfl⟩ hk_x0_3 hq dX2_run_43 (fun H locs hR hS => ?_)
  refine lv_aload_n hx hb dX2_run_46 rfl (lv_at hl 0 rfl) ?_
  refine lv_iload_n hx hb dX2_run_47 rfl (lv_at hl 2 rfl) ?_
  refine lv_iload_n hx hb dX2_run_48 rfl (lv_at hl 3 rfl) ?_
  obtain ⟨o49, ho49, hf⟩ := bnd_some hf
  refine cr_callVv kc_2 CX hR hL hS (As := [.int x2, .int x3]) (rest := []) hk_x0_3 (MC_X2_enter l x N K x0 x2 x3 (wI (wI (wI (wI (wI (wI (wI (wI (wR M x0 4 (some x1)) x0 6 0) x0 7 0) x0 10 x4) x0 12 0) x0 14 0) x0 15 0) x0 16 0) x0 13 1) o49 ho49) cv_X2_90 ⟨by omega, by omega⟩ rfl rfl (Nat.le_of_ble_eq_true rfl) hl.1 dX2_run_49 hcs (fun H locs hR hS => ?_)
  refine lv_iconst (v := 0) hx hb dX2_run_52 (by decide) ?_
  refine lv_istore (lv' := [(5, .int 0), (0, .ref x0), (1, .ref x1), (2, .int x2), (3, .int x3), (4, .int x4)]) hx hb dX2_run_53 hl (by decide) rfl (fun ls hl => ?_)
  exact (wlC_X2_run_55 CX hRm (wbC_X2_run_152 CX hRm) N) _ _ _ _ _ _ _ hf hR hS (lv_sub hl [1, 2, 0] rfl)
theorem MC_X2_run (l : Launch) (x : Xc) (N : Nat) (K : Ka) (x0 : Nat) (x1 : Nat) (x2 : Int32) (x3 : Int32) (x4 : Int32) (M : Cm) (o : Cm) (hf : fC_X2_run N K x0 x1 x2 x3 x4 M = some o) : CtV l x yX2_run cX2_run 9 5 116 [.ref x0, .ref x1, .int x2, .int x3, .int x4] K M o :=
  cr_metV RX2 (by decide) rfl (Nat.le_of_ble_eq_true rfl) (fun p e s m args below meth c ls CX hR hl => wfC_X2_run CX ⟨Nat.le_refl _, Nat.le_refl _⟩ x0 x1 x2 x3 x4 M s.heap [] ls hf hR va_S.rf hl)
def fC_X2_runDemand (N : Nat) (K : Ka) (x0 : Nat) (x1 : Nat) (x2 : Int32) (x3 : Int32) (M : Cm) : Option (Cm) := gd (kd K x0 == 3) (gd (is01 0) (gd (kd K x1 == 6) (nn (cR (wI (wI M x0 8 x2) x0 9 0) x1 8) fun a1 => gd (kd K a1 == 22) (ck x2 (le K a1) ((fC_X2_run N K x0 x1 (-1) (cI (wI (wI M x0 8 x2) x0 9 0) a1 (x2 : Int32).toNatClampNeg) x3 (wI (wI M x0 8 x2) x0 9 0)).bind fun o20 => some o20)))))
set_option maxRecDepth 100000 in
set_option maxHeartbeats 4000000 in
theorem wfC_X2_runDemand {p : Program} {l : Launch} {e : Env} {R : Room} {s : State} {m : MethodId} {args : Array Value} {below : List Frame} {meth : Method} {c : Code} {x : Xc} {o : Cm} {N : Nat} {K : Ka} (CX : CC p s m args meth c x K RX2 cX2_runDemand 4 none) (hRm : 6 ≤ R.frames ∧ 144 ≤ R.locals) (x0 : Nat) (x1 : Nat) (x2 : Int32) (x3 : Int32) (M : Cm) (H : Heap) (locs : List Loc) (ls : Array Slot) (hf : fC_X2_runDemand N K x0 x1 x2 x3 M = some o) (hR : RC x K M H) (hS : va_S (AC K) s.heap H locs) (hl : lv_has ls 4 [(0, .ref x0), (1, .ref x1), (2, .int x2), (3, .int x3)]) : W p l e R s m args below meth c H locs 0 0 (MQ below (CQV x K o) args s 0 0 (AC K)) (F0 m 0 ls []) := by
  obtain ⟨hx, hb, hml, hown, hts, hE, hB, hr, hlk⟩ := id CX
  have hL : KLe K K := KLe.rf K
  have hcs : 0 ≤ R.cells ∧ 0 ≤ R.slots := ⟨Nat.zero_le _, Nat.zero_le _⟩
  unfold fC_X2_runDemand at hf
  refine lv_aload_n hx hb dX2_runDemand_0 rfl (lv_at hl 0 rfl) ?_
  refine lv_iload_n hx hb dX2_runDemand_1 rfl (lv_at hl 2 rfl) ?_
  obtain ⟨hk_x0_3, hf⟩ := gd_some hf
  refine cr_putI kc_2 CX hR hL hS fa_X2_36 ⟨rfl, rfl, rfl⟩ hk_x0_3 dX2_runDemand_2 (fun H locs hR hS => ?_)
  refine lv_aload_n hx hb dX2_runDemand_5 rfl (lv_at hl 0 rfl) ?_
  refine lv_iconst (v := 0) hx hb dX2_runDemand_6 (by decide) ?_
  obtain ⟨hq, hf⟩ := gd_some hf
  refine cr_putZ kc_2 CX hR hL hS fa_X2_39 ⟨rfl, rfl, rfl⟩ hk_x0_3 hq dX2_runDemand_7 (fun H locs hR hS => ?_)
  refine lv_aload_n hx hb dX2_runDemand_10 rfl (lv_at hl 0 rfl) ?_
  refine lv_aload_n hx hb dX2_runDemand_11 rfl (lv_at hl 1 rfl) ?_
  refine lv_iconst (v := (-1)) hx hb dX2_runDemand_12 (by decide) ?_
  refine lv_aload_n hx hb dX2_runDemand_13 rfl (lv_at hl 1 rfl) ?_
  obtain ⟨hk_x1_6, hf⟩ := gd_some hf
  refine cr_getR kc_5 CX hR fa_X2_73 rfl hk_x1_6 dX2_runDemand_14 ?_
  refine lv_iload_n hx hb dX2_runDemand_17 rfl (lv_at hl 2 rfl) ?_
  obtain ⟨a1, ha1, hf⟩ := nn_some hf
  refine rf_1 ha1 ?_
  obtain ⟨hk_a1_22, hf⟩ := gd_some hf
  obtain ⟨hi, hf⟩ := ck_some hf
  refine cr_iald CX hR hk_a1_22 hi dX2_runDemand_18 ?_
  refine lv_iload_n hx hb dX2_runDemand_19 rfl (lv_at hl 3 rfl) ?_
  obtain ⟨o20, ho20, hf⟩ := bnd_some hf
  refine cr_callVv kc_2 CX hR hL hS (As := [.ref x1, .int (-1), .int (cI (wI (wI M x0 8 x2) x0 9 0) a1 (x2 : Int32).toNatClampNeg), .int x3]) (rest := []) hk_x0_3 (MC_X2_run l x N K x0 x1 (-1) (cI (wI (wI M x0 8 x2) x0 9 0) a1 (x2 : Int32).toNatClampNeg) x3 (wI (wI M x0 8 x2) x0 9 0) o20 ho20) cv_X2_78 ⟨by omega, by omega⟩ rfl rfl (Nat.le_of_ble_eq_true rfl) hl.1 dX2_runDemand_20 hcs (fun H locs hR hS => ?_)
  exact cr_vret CX hR hS hf dX2_runDemand_23
theorem MC_X2_runDemand (l : Launch) (x : Xc) (N : Nat) (K : Ka) (x0 : Nat) (x1 : Nat) (x2 : Int32) (x3 : Int32) (M : Cm) (o : Cm) (hf : fC_X2_runDemand N K x0 x1 x2 x3 M = some o) : CtV l x yX2_runDemand cX2_runDemand 4 6 144 [.ref x0, .ref x1, .int x2, .int x3] K M o :=
  cr_metV RX2 (by decide) rfl (Nat.le_of_ble_eq_true rfl) (fun p e s m args below meth c ls CX hR hl => wfC_X2_runDemand CX ⟨Nat.le_refl _, Nat.le_refl _⟩ x0 x1 x2 x3 M s.heap [] ls hf hR va_S.rf hl)
def bC_X2_runClosing_47 (N : Nat) (K : Ka) (x0 : Nat) (s0 : Int32) (M : Cm) : Option (Int32 × Cm) := some (s0, M)
set_option maxRecDepth 100000 in
set_option maxHeartbeats 4000000 in
theorem wbC_X2_runClosing_47 {p : Program} {l : Launch} {e : Env} {R : Room} {s : State} {m : MethodId} {args : Array Value} {below : List Frame} {meth : Method} {c : Code} {x : Xc} {o : Int32 × Cm} {N : Nat} {K : Ka} (CX : CC p s m args meth c x K RX2 cX2_runClosing 4 (some .int)) (hRm : 6 ≤ R.frames ∧ 144 ≤ R.locals) (x0 : Nat) (s0 : Int32) (M : Cm) (H : Heap) (locs : List Loc) (ls : Array Slot) (hf : bC_X2_runClosing_47 N K x0 s0 M = some o) (hR : RC x K M H) (hS : va_S (AC K) s.heap H locs) (hl : lv_has ls 4 [(0, .ref x0)]) : W p l e R s m args below meth c H locs 0 0 (MQ below (CQI x K o) args s 0 0 (AC K)) (F0 m 47 ls [.int s0]) := by
  obtain ⟨hx, hb, hml, hown, hts, hE, hB, hr, hlk⟩ := id CX
  have hL : KLe K K := KLe.rf K
  have hcs : 0 ≤ R.cells ∧ 0 ≤ R.slots := ⟨Nat.zero_le _, Nat.zero_le _⟩
  unfold bC_X2_runClosing_47 at hf
  exact cr_iret CX hR hS hf dX2_runClosing_47
def fC_X2_runClosing (N : Nat) (K : Ka) (x0 : Nat) (x1 : Nat) (x2 : Int32) (M : Cm) : Option (Int32 × Cm) := gd (kd K x1 == 6) (nn (cR M x1 5) fun a1 => gd (kd K a1 == 26) (ck x2 (le K a1) (nn (cR M a1 (x2 : Int32).toNatClampNeg) fun a2 => gd (kd K a2 == 8) (if 0 ≤ (cI M a2 13) then (gd (kd K x0 == 3) (gd (is01 1) ((fC_X2_run N K x0 x1 x2 (cI M a2 13) 2000 (wI M x0 9 1)).bind fun o28 => if (cI o28 x0 14) = 0 then ((bC_X2_runClosing_47 N K) x0 (cI o28 x0 15) o28) else ((bC_X2_runClosing_47 N K) x0 22 o28)))) else (some (0, M))))))
set_option maxRecDepth 100000 in
set_option maxHeartbeats 4000000 in
theorem wfC_X2_runClosing {p : Program} {l : Launch} {e : Env} {R : Room} {s : State} {m : MethodId} {args : Array Value} {below : List Frame} {meth : Method} {c : Code} {x : Xc} {o : Int32 × Cm} {N : Nat} {K : Ka} (CX : CC p s m args meth c x K RX2 cX2_runClosing 4 (some .int)) (hRm : 6 ≤ R.frames ∧ 144 ≤ R.locals) (x0 : Nat) (x1 : Nat) (x2 : Int32) (M : Cm) (H : Heap) (locs : List Loc) (ls : Array Slot) (hf : fC_X2_runClosing N K x0 x1 x2 M = some o) (hR : RC x K M H) (hS : va_S (AC K) s.heap H locs) (hl : lv_has ls 4 [(0, .ref x0), (1, .ref x1), (2, .int x2)]) : W p l e R s m args below meth c H locs 0 0 (MQ below (CQI x K o) args s 0 0 (AC K)) (F0 m 0 ls []) := by
  obtain ⟨hx, hb, hml, hown, hts, hE, hB, hr, hlk⟩ := id CX
  have hL : KLe K K := KLe.rf K
  have hcs : 0 ≤ R.cells ∧ 0 ≤ R.slots := ⟨Nat.zero_le _, Nat.zero_le _⟩
  unfold fC_X2_runClosing at hf
  refine lv_aload_n hx hb dX2_runClosing_0 rfl (lv_at hl 1 rfl) ?_
  obtain ⟨hk_x1_6, hf⟩ := gd_some hf
  refine cr_getR kc_5 CX hR fa_X2_82 rfl hk_x1_6 dX2_runClosing_1 ?_
  refine lv_iload_n hx hb dX2_runClosing_4 rfl (lv_at hl 2 rfl) ?_
  obtain ⟨a1, ha1, hf⟩ := nn_some hf
  refine rf_1 ha1 ?_
  obtain ⟨hk_a1_26, hf⟩ := gd_some hf
  obtain ⟨hi, hf⟩ := ck_some hf
  refine cr_uald CX hR hk_a1_26 hi dX2_runClosing_5 ?_
  obtain ⟨a2, ha2, hf⟩ := nn_some hf
  refine rf_0 ha2 ?_
  obtain ⟨hk_a2_8, hf⟩ := gd_some hf
  refine cr_getI kc_7 CX hR fa_X2_86 rfl hk_a2_8 dX2_runClosing_6 ?_
  refine lv_istore_n (lv' := [(3, .int (cI M a2 13)), (0, .ref x0), (1, .ref x1), (2, .int x2)]) hx hb dX2_runClosing_9 rfl hl (by decide) rfl (fun ls hl => ?_)
  refine lv_iload_n hx hb dX2_runClosing_10 rfl (lv_at hl 0 rfl) ?_
  refine lv_if_ge (tgt := 16) hx hb dX2_runClosing_11 (by decide) (fun hc => ?_) (fun hc => ?_)
  · rw [if_pos hc] at hf
    refine lv_aload_n hx hb dX2_runClosing_16 rfl (lv_at hl 1 rfl) ?_
    refine lv_iconst (v := 1) hx hb dX2_runClosing_17 (by decide) ?_
    obtain ⟨hk_x0_3, hf⟩ := gd_some hf
    obtain ⟨hq, hf⟩ := gd_some hf
    refine cr_putZ kc_2 CX hR hL hS fa_X2_39 ⟨rfl, rfl, rfl⟩ hk_x0_3 hq dX2_runClosing_18 (fun H locs hR hS => ?_)
    refine lv_aload_n hx hb dX2_runClosing_21 rfl (lv_at hl 1 rfl) ?_
    refine lv_aload_n hx hb dX2_runClosing_22 rfl (lv_at hl 2 rfl) ?_
    refine lv_iload_n hx hb dX2_runClosing_23 rfl (lv_at hl 3 rfl) ?_
    refine lv_iload_n hx hb dX2_runClosing_24 rfl (lv_at hl 0 rfl) ?_
    refine lv_sipush (v := 2000) hx hb dX2_runClosing_25 (by decide) ?_
    obtain ⟨o28, ho28, hf⟩ := bnd_some hf
    refine cr_callVv kc_2 CX hR hL hS (As := [.ref x1, .int x2, .int (cI M a2 13), .int 2000]) (rest := []) hk_x0_3 (MC_X2_run l x N K x0 x1 x2 (cI M a2 13) 2000 (wI M x0 9 1) o28 ho28) cv_X2_78 ⟨by omega, by omega⟩ rfl rfl (Nat.le_of_ble_eq_true rfl) hl.1 dX2_runClosing_28 hcs (fun H locs hR hS => ?_)
    refine lv_aload_n hx hb dX2_runClosing_31 rfl (lv_at hl 1 rfl) ?_
    refine cr_getI kc_2 CX hR fa_X2_55 rfl hk_x0_3 dX2_runClosing_32 ?_
    refine lv_if_eq (tgt := 43) hx hb dX2_runClosing_35 (by decide) (fun hc => ?_) (fun hc => ?_)
    · rw [if_pos hc] at hf
      refine lv_aload_n hx hb dX2_runClosing_43 rfl (lv_at hl 1 rfl) ?_
      refine cr_getI kc_2 CX hR fa_X2_58 rfl hk_x0_3 dX2_runClosing_44 ?_
      exact (wbC_X2_runClosing_47 CX hRm) _ _ _ _ _ _ hf hR hS (lv_sub hl [1] rfl)
    · rw [if_neg hc] at hf
      refine lv_bipush (v := 22) hx hb dX2_runClosing_38 (by decide) ?_
      refine lv_goto (tgt := 47) hx hb dX2_runClosing_40 (by decide) ?_
      exact (wbC_X2_runClosing_47 CX hRm) _ _ _ _ _ _ hf hR hS (lv_sub hl [1] rfl)
  · rw [if_neg hc] at hf
    refine lv_iconst (v := 0) hx hb dX2_runClosing_14 (by decide) ?_
    exact cr_iret CX hR hS hf dX2_runClosing_15
theorem MC_X2_runClosing (l : Launch) (x : Xc) (N : Nat) (K : Ka) (x0 : Nat) (x1 : Nat) (x2 : Int32) (M : Cm) (o : Int32 × Cm) (hf : fC_X2_runClosing N K x0 x1 x2 M = some o) : CtI l x yX2_runClosing cX2_runClosing 4 (some .int) 6 144 [.ref x0, .ref x1, .int x2] K M o :=
  cr_metI RX2 (by decide) rfl (Nat.le_of_ble_eq_true rfl) (fun p e s m args below meth c ls CX hR hl => wfC_X2_runClosing CX ⟨Nat.le_refl _, Nat.le_refl _⟩ x0 x1 x2 M s.heap [] ls hf hR va_S.rf hl)
def bC_X3_moveTo_30 (N : Nat) (K : Ka) (x0 : Nat) (s0 : Nat) (s1 : Int32) (M : Cm) : Option (Cm) := gd (kd K s0 == 4) (some (wI M s0 3 s1))
set_option maxRecDepth 100000 in
set_option maxHeartbeats 4000000 in
theorem wbC_X3_moveTo_30 {p : Program} {l : Launch} {e : Env} {R : Room} {s : State} {m : MethodId} {args : Array Value} {below : List Frame} {meth : Method} {c : Code} {x : Xc} {o : Cm} {N : Nat} {K : Ka} (CX : CC p s m args meth c x K RX3 cX3_moveTo 2 none) (hRm : 0 ≤ R.frames ∧ 0 ≤ R.locals) (x0 : Nat) (s0 : Nat) (s1 : Int32) (M : Cm) (H : Heap) (locs : List Loc) (ls : Array Slot) (hf : bC_X3_moveTo_30 N K x0 s0 s1 M = some o) (hR : RC x K M H) (hS : va_S (AC K) s.heap H locs) (hl : lv_has ls 2 [(0, .ref x0)]) : W p l e R s m args below meth c H locs 0 0 (MQ below (CQV x K o) args s 0 0 (AC K)) (F0 m 30 ls [.int s1, .ref s0]) := by
  obtain ⟨hx, hb, hml, hown, hts, hE, hB, hr, hlk⟩ := id CX
  have hL : KLe K K := KLe.rf K
  have hcs : 0 ≤ R.cells ∧ 0 ≤ R.slots := ⟨Nat.zero_le _, Nat.zero_le _⟩
  unfold bC_X3_moveTo_30 at hf
  obtain ⟨hk_s0_4, hf⟩ := gd_some hf
  refine cr_putI kc_3 CX hR hL hS fa_X3_19 ⟨rfl, rfl, rfl⟩ hk_s0_4 dX3_moveTo_30 (fun H locs hR hS => ?_)
  exact cr_vret CX hR hS hf dX3_moveTo_33
def fC_X3_moveTo (N : Nat) (K : Ka) (x0 : Nat) (x1 : Int32) (M : Cm) : Option (Cm) := gd (kd K x0 == 4) (nn (cR (wI M x0 2 x1) x0 0) fun a1 => gd (kd K a1 == 7) (if (cI (wI M x0 2 x1) a1 6) ≤ x1 then ((bC_X3_moveTo_30 N K) x0 x0 0 (wI M x0 2 x1)) else (nn (cR (wI M x0 2 x1) x0 0) fun a2 => gd (kd K a2 == 7) (nn (cR (wI M x0 2 x1) a2 1) fun a3 => gd (kd K a3 == 22) (ck x1 (le K a3) ((bC_X3_moveTo_30 N K) x0 x0 (cI (wI M x0 2 x1) a3 (x1 : Int32).toNatClampNeg) (wI M x0 2 x1)))))))
set_option maxRecDepth 100000 in
set_option maxHeartbeats 4000000 in
theorem wfC_X3_moveTo {p : Program} {l : Launch} {e : Env} {R : Room} {s : State} {m : MethodId} {args : Array Value} {below : List Frame} {meth : Method} {c : Code} {x : Xc} {o : Cm} {N : Nat} {K : Ka} (CX : CC p s m args meth c x K RX3 cX3_moveTo 2 none) (hRm : 0 ≤ R.frames ∧ 0 ≤ R.locals) (x0 : Nat) (x1 : Int32) (M : Cm) (H : Heap) (locs : List Loc) (ls : Array Slot) (hf : fC_X3_moveTo N K x0 x1 M = some o) (hR : RC x K M H) (hS : va_S (AC K) s.heap H locs) (hl : lv_has ls 2 [(0, .ref x0), (1, .int x1)]) : W p l e R s m args below meth c H locs 0 0 (MQ below (CQV x K o) args s 0 0 (AC K)) (F0 m 0 ls []) := by
  obtain ⟨hx, hb, hml, hown, hts, hE, hB, hr, hlk⟩ := id CX
  have hL : KLe K K := KLe.rf K
  have hcs : 0 ≤ R.cells ∧ 0 ≤ R.slots := ⟨Nat.zero_le _, Nat.zero_le _⟩
  unfold fC_X3_moveTo at hf
  refine lv_aload_n hx hb dX3_moveTo_0 rfl (lv_at hl 0 rfl) ?_
  refine lv_iload_n hx hb dX3_moveTo_1 rfl (lv_at hl 1 rfl) ?_
  obtain ⟨hk_x0_4, hf⟩ := gd_some hf
  refine cr_putI kc_3 CX hR hL hS fa_X3_15 ⟨rfl, rfl, rfl⟩ hk_x0_4 dX3_moveTo_2 (fun H locs hR hS => ?_)
  refine lv_aload_n hx hb dX3_moveTo_5 rfl (lv_at hl 0 rfl) ?_
  refine lv_iload_n hx hb dX3_moveTo_6 rfl (lv_at hl 1 rfl) ?_
  refine lv_aload_n hx hb dX3_moveTo_7 rfl (lv_at hl 0 rfl) ?_
  refine cr_getR kc_3 CX hR fa_X3_28 rfl hk_x0_4 dX3_moveTo_8 ?_
  obtain ⟨a1, ha1, hf⟩ := nn_some hf
  refine rf_0 ha1 ?_
  obtain ⟨hk_a1_7, hf⟩ := gd_some hf
  refine cr_getI kc_6 CX hR fa_X3_34 rfl hk_a1_7 dX3_moveTo_11 ?_
  refine lv_icmp_ge (tgt := 29) hx hb dX3_moveTo_14 (by decide) (fun hc => ?_) (fun hc => ?_)
  · rw [if_pos hc] at hf
    refine lv_iconst (v := 0) hx hb dX3_moveTo_29 (by decide) ?_
    exact (wbC_X3_moveTo_30 CX hRm) _ _ _ _ _ _ _ hf hR hS (lv_sub hl [0] rfl)
  · rw [if_neg hc] at hf
    refine lv_aload_n hx hb dX3_moveTo_17 rfl (lv_at hl 0 rfl) ?_
    refine cr_getR kc_3 CX hR fa_X3_28 rfl hk_x0_4 dX3_moveTo_18 ?_
    obtain ⟨a2, ha2, hf⟩ := nn_some hf
    refine rf_0 ha2 ?_
    obtain ⟨hk_a2_7, hf⟩ := gd_some hf
    refine cr_getR kc_6 CX hR fa_X3_63 rfl hk_a2_7 dX3_moveTo_21 ?_
    refine lv_iload_n hx hb dX3_moveTo_24 rfl (lv_at hl 1 rfl) ?_
    obtain ⟨a3, ha3, hf⟩ := nn_some hf
    refine rf_1 ha3 ?_
    obtain ⟨hk_a3_22, hf⟩ := gd_some hf
    obtain ⟨hi, hf⟩ := ck_some hf
    refine cr_iald CX hR hk_a3_22 hi dX3_moveTo_25 ?_
    refine lv_goto (tgt := 30) hx hb dX3_moveTo_26 (by decide) ?_
    exact (wbC_X3_moveTo_30 CX hRm) _ _ _ _ _ _ _ hf hR hS (lv_sub hl [0] rfl)
theorem MC_X3_moveTo (l : Launch) (x : Xc) (N : Nat) (K : Ka) (x0 : Nat) (x1 : Int32) (M : Cm) (o : Cm) (hf : fC_X3_moveTo N K x0 x1 M = some o) : CtV l x yX3_moveTo cX3_moveTo 2 0 0 [.ref x0, .int x1] K M o :=
  cr_metV RX3 (by decide) rfl (Nat.le_of_ble_eq_true rfl) (fun p e s m args below meth c ls CX hR hl => wfC_X3_moveTo CX ⟨Nat.le_refl _, Nat.le_refl _⟩ x0 x1 M s.heap [] ls hf hR va_S.rf hl)
def bC_X3_isJoint_45 (N : Nat) (K : Ka) (s0 : Int32) (M : Cm) : Option (Int32 × Cm) := gd (is01 s0) (some (s0, M))
set_option maxRecDepth 100000 in
set_option maxHeartbeats 4000000 in
theorem wbC_X3_isJoint_45 {p : Program} {l : Launch} {e : Env} {R : Room} {s : State} {m : MethodId} {args : Array Value} {below : List Frame} {meth : Method} {c : Code} {x : Xc} {o : Int32 × Cm} {N : Nat} {K : Ka} (CX : CC p s m args meth c x K RX3 cX3_isJoint 2 (some .boolean)) (hRm : 0 ≤ R.frames ∧ 0 ≤ R.locals) (s0 : Int32) (M : Cm) (H : Heap) (locs : List Loc) (ls : Array Slot) (hf : bC_X3_isJoint_45 N K s0 M = some o) (hR : RC x K M H) (hS : va_S (AC K) s.heap H locs) (hl : lv_has ls 2 []) : W p l e R s m args below meth c H locs 0 0 (MQ below (CQI x K o) args s 0 0 (AC K)) (F0 m 45 ls [.int s0]) := by
  obtain ⟨hx, hb, hml, hown, hts, hE, hB, hr, hlk⟩ := id CX
  have hL : KLe K K := KLe.rf K
  have hcs : 0 ≤ R.cells ∧ 0 ≤ R.slots := ⟨Nat.zero_le _, Nat.zero_le _⟩
  unfold bC_X3_isJoint_45 at hf
  obtain ⟨hz, hf⟩ := gd_some hf
  exact cr_zret CX hR hS hz hf dX3_isJoint_45
def bC_X3_isJoint_40 (N : Nat) (K : Ka)  (M : Cm) : Option (Int32 × Cm) := (bC_X3_isJoint_45 N K) 1 M
set_option maxRecDepth 100000 in
set_option maxHeartbeats 4000000 in
theorem wbC_X3_isJoint_40 {p : Program} {l : Launch} {e : Env} {R : Room} {s : State} {m : MethodId} {args : Array Value} {below : List Frame} {meth : Method} {c : Code} {x : Xc} {o : Int32 × Cm} {N : Nat} {K : Ka} (CX : CC p s m args meth c x K RX3 cX3_isJoint 2 (some .boolean)) (hRm : 0 ≤ R.frames ∧ 0 ≤ R.locals)  (M : Cm) (H : Heap) (locs : List Loc) (ls : Array Slot) (hf : bC_X3_isJoint_40 N K  M = some o) (hR : RC x K M H) (hS : va_S (AC K) s.heap H locs) (hl : lv_has ls 2 []) : W p l e R s m args below meth c H locs 0 0 (MQ below (CQI x K o) args s 0 0 (AC K)) (F0 m 40 ls []) := by
  obtain ⟨hx, hb, hml, hown, hts, hE, hB, hr, hlk⟩ := id CX
  have hL : KLe K K := KLe.rf K
  have hcs : 0 ≤ R.cells ∧ 0 ≤ R.slots := ⟨Nat.zero_le _, Nat.zero_le _⟩
  unfold bC_X3_isJoint_40 at hf
  refine lv_iconst (v := 1) hx hb dX3_isJoint_40 (by decide) ?_
  refine lv_goto (tgt := 45) hx hb dX3_isJoint_41 (by decide) ?_
  exact (wbC_X3_isJoint_45 CX hRm) _ _ _ _ _ hf hR hS (lv_sub hl [] rfl)
def bC_X3_isJoint_63 (N : Nat) (K : Ka) (s0 : Int32) (M : Cm) : Option (Int32 × Cm) := gd (is01 s0) (some (s0, M))
set_option maxRecDepth 100000 in
set_option maxHeartbeats 4000000 in
theorem wbC_X3_isJoint_63 {p : Program} {l : Launch} {e : Env} {R : Room} {s : State} {m : MethodId} {args : Array Value} {below : List Frame} {meth : Method} {c : Code} {x : Xc} {o : Int32 × Cm} {N : Nat} {K : Ka} (CX : CC p s m args meth c x K RX3 cX3_isJoint 2 (some .boolean)) (hRm : 0 ≤ R.frames ∧ 0 ≤ R.locals) (s0 : Int32) (M : Cm) (H : Heap) (locs : List Loc) (ls : Array Slot) (hf : bC_X3_isJoint_63 N K s0 M = some o) (hR : RC x K M H) (hS : va_S (AC K) s.heap H locs) (hl : lv_has ls 2 []) : W p l e R s m args below meth c H locs 0 0 (MQ below (CQI x K o) args s 0 0 (AC K)) (F0 m 63 ls [.int s0]) := by
  obtain ⟨hx, hb, hml, hown, hts, hE, hB, hr, hlk⟩ := id CX
  have hL : KLe K K := KLe.rf K
  have hcs : 0 ≤ R.cells ∧ 0 ≤ R.slots := ⟨Nat.zero_le _, Nat.zero_le _⟩
  unfold bC_X3_isJoint_63 at hf
  obtain ⟨hz, hf⟩ := gd_some hf
  exact cr_zret CX hR hS hz hf dX3_isJoint_63
def bC_X3_isJoint_58 (N : Nat) (K : Ka)  (M : Cm) : Option (Int32 × Cm) := (bC_X3_isJoint_63 N K) 1 M
set_option maxRecDepth 100000 in
set_option maxHeartbeats 4000000 in
theorem wbC_X3_isJoint_58 {p : Program} {l : Launch} {e : Env} {R : Room} {s : State} {m : MethodId} {args : Array Value} {below : List Frame} {meth : Method} {c : Code} {x : Xc} {o : Int32 × Cm} {N : Nat} {K : Ka} (CX : CC p s m args meth c x K RX3 cX3_isJoint 2 (some .boolean)) (hRm : 0 ≤ R.frames ∧ 0 ≤ R.locals)  (M : Cm) (H : Heap) (locs : List Loc) (ls : Array Slot) (hf : bC_X3_isJoint_58 N K  M = some o) (hR : RC x K M H) (hS : va_S (AC K) s.heap H locs) (hl : lv_has ls 2 []) : W p l e R s m args below meth c H locs 0 0 (MQ below (CQI x K o) args s 0 0 (AC K)) (F0 m 58 ls []) := by
  obtain ⟨hx, hb, hml, hown, hts, hE, hB, hr, hlk⟩ := id CX
  have hL : KLe K K := KLe.rf K
  have hcs : 0 ≤ R.cells ∧ 0 ≤ R.slots := ⟨Nat.zero_le _, Nat.zero_le _⟩
  unfold bC_X3_isJoint_58 at hf
  refine lv_iconst (v := 1) hx hb dX3_isJoint_58 (by decide) ?_
  refine lv_goto (tgt := 63) hx hb dX3_isJoint_59 (by decide) ?_
  exact (wbC_X3_isJoint_63 CX hRm) _ _ _ _ _ hf hR hS (lv_sub hl [] rfl)
def bC_X3_isJoint_87 (N : Nat) (K : Ka) (s0 : Int32) (M : Cm) : Option (Int32 × Cm) := gd (is01 s0) (some (s0, M))
set_option maxRecDepth 100000 in
set_option maxHeartbeats 4000000 in
theorem wbC_X3_isJoint_87 {p : Program} {l : Launch} {e : Env} {R : Room} {s : State} {m : MethodId} {args : Array Value} {below : List Frame} {meth : Method} {c : Code} {x : Xc} {o : Int32 × Cm} {N : Nat} {K : Ka} (CX : CC p s m args meth c x K RX3 cX3_isJoint 2 (some .boolean)) (hRm : 0 ≤ R.frames ∧ 0 ≤ R.locals) (s0 : Int32) (M : Cm) (H : Heap) (locs : List Loc) (ls : Array Slot) (hf : bC_X3_isJoint_87 N K s0 M = some o) (hR : RC x K M H) (hS : va_S (AC K) s.heap H locs) (hl : lv_has ls 2 []) : W p l e R s m args below meth c H locs 0 0 (MQ below (CQI x K o) args s 0 0 (AC K)) (F0 m 87 ls [.int s0]) := by
  obtain ⟨hx, hb, hml, hown, hts, hE, hB, hr, hlk⟩ := id CX
  have hL : KLe K K := KLe.rf K
  have hcs : 0 ≤ R.cells ∧ 0 ≤ R.slots := ⟨Nat.zero_le _, Nat.zero_le _⟩
  unfold bC_X3_isJoint_87 at hf
  obtain ⟨hz, hf⟩ := gd_some hf
  exact cr_zret CX hR hS hz hf dX3_isJoint_87
def bC_X3_isJoint_82 (N : Nat) (K : Ka)  (M : Cm) : Option (Int32 × Cm) := (bC_X3_isJoint_87 N K) 1 M
set_option maxRecDepth 100000 in
set_option maxHeartbeats 4000000 in
theorem wbC_X3_isJoint_82 {p : Program} {l : Launch} {e : Env} {R : Room} {s : State} {m : MethodId} {args : Array Value} {below : List Frame} {meth : Method} {c : Code} {x : Xc} {o : Int32 × Cm} {N : Nat} {K : Ka} (CX : CC p s m args meth c x K RX3 cX3_isJoint 2 (some .boolean)) (hRm : 0 ≤ R.frames ∧ 0 ≤ R.locals)  (M : Cm) (H : Heap) (locs : List Loc) (ls : Array Slot) (hf : bC_X3_isJoint_82 N K  M = some o) (hR : RC x K M H) (hS : va_S (AC K) s.heap H locs) (hl : lv_has ls 2 []) : W p l e R s m args below meth c H locs 0 0 (MQ below (CQI x K o) args s 0 0 (AC K)) (F0 m 82 ls []) := by
  obtain ⟨hx, hb, hml, hown, hts, hE, hB, hr, hlk⟩ := id CX
  have hL : KLe K K := KLe.rf K
  have hcs : 0 ≤ R.cells ∧ 0 ≤ R.slots := ⟨Nat.zero_le _, Nat.zero_le _⟩
  unfold bC_X3_isJoint_82 at hf
  refine lv_iconst (v := 1) hx hb dX3_isJoint_82 (by decide) ?_
  refine lv_goto (tgt := 87) hx hb dX3_isJoint_83 (by decide) ?_
  exact (wbC_X3_isJoint_87 CX hRm) _ _ _ _ _ hf hR hS (lv_sub hl [] rfl)
def fC_X3_isJoint (N : Nat) (K : Ka) (x0 : Int32) (x1 : Int32) (M : Cm) : Option (Int32 × Cm) := if x0 = 0 then (if x1 = 60 then ((bC_X3_isJoint_40 N K) M) else (if x1 = 61 then ((bC_X3_isJoint_40 N K) M) else ((bC_X3_isJoint_45 N K) 0 M))) else if x0 = 1 then (if x1 = 43 then ((bC_X3_isJoint_58 N K) M) else (if x1 = 45 then ((bC_X3_isJoint_58 N K) M) else ((bC_X3_isJoint_63 N K) 0 M))) else (if x1 = 42 then ((bC_X3_isJoint_82 N K) M) else (if x1 = 47 then ((bC_X3_isJoint_82 N K) M) else (if x1 = 37 then ((bC_X3_isJoint_82 N K) M) else ((bC_X3_isJoint_87 N K) 0 M))))
set_option maxRecDepth 100000 in
set_option maxHeartbeats 4000000 in
theorem wfC_X3_isJoint {p : Program} {l : Launch} {e : Env} {R : Room} {s : State} {m : MethodId} {args : Array Value} {below : List Frame} {meth : Method} {c : Code} {x : Xc} {o : Int32 × Cm} {N : Nat} {K : Ka} (CX : CC p s m args meth c x K RX3 cX3_isJoint 2 (some .boolean)) (hRm : 0 ≤ R.frames ∧ 0 ≤ R.locals) (x0 : Int32) (x1 : Int32) (M : Cm) (H : Heap) (locs : List Loc) (ls : Array Slot) (hf : fC_X3_isJoint N K x0 x1 M = some o) (hR : RC x K M H) (hS : va_S (AC K) s.heap H locs) (hl : lv_has ls 2 [(0, .int x0), (1, .int x1)]) : W p l e R s m args below meth c H locs 0 0 (MQ below (CQI x K o) args s 0 0 (AC K)) (F0 m 0 ls []) := by
  obtain ⟨hx, hb, hml, hown, hts, hE, hB, hr, hlk⟩ := id CX
  have hL : KLe K K := KLe.rf K
  have hcs : 0 ≤ R.cells ∧ 0 ≤ R.slots := ⟨Nat.zero_le _, Nat.zero_le _⟩
  unfold fC_X3_isJoint at hf
  refine lv_iload_n hx hb dX3_isJoint_0 rfl (lv_at hl 0 rfl) ?_
  by_cases hc0 : x0 = 0
  · rw [if_pos hc0] at hf
    refine lv_lookup (off := 27) (tgt := 28) hx hb dX3_isJoint_1 (by decide) (by rw [hc0]; decide) (by decide) ?_
    refine lv_iload_n hx hb dX3_isJoint_28 rfl (lv_at hl 1 rfl) ?_
    refine lv_bipush (v := 60) hx hb dX3_isJoint_29 (by decide) ?_
    refine lv_icmp_eq (tgt := 40) hx hb dX3_isJoint_31 (by decide) (fun hc => ?_) (fun hc => ?_)
    · rw [if_pos hc] at hf
      exact (wbC_X3_isJoint_40 CX hRm) _ _ _ _ hf hR hS (lv_sub hl [] rfl)
    · rw [if_neg hc] at hf
      refine lv_iload_n hx hb dX3_isJoint_34 rfl (lv_at hl 1 rfl) ?_
      refine lv_bipush (v := 61) hx hb dX3_isJoint_35 (by decide) ?_
      refine lv_icmp_ne (tgt := 44) hx hb dX3_isJoint_37 (by decide) (fun hc => ?_) (fun hc => ?_)
      · rw [if_neg hc] at hf
        refine lv_iconst (v := 0) hx hb dX3_isJoint_44 (by decide) ?_
        exact (wbC_X3_isJoint_45 CX hRm) _ _ _ _ _ hf hR hS (lv_sub hl [] rfl)
      · rw [if_pos hc] at hf
        exact (wbC_X3_isJoint_40 CX hRm) _ _ _ _ hf hR hS (lv_sub hl [] rfl)
  · rw [if_neg hc0] at hf
    by_cases hc1 : x0 = 1
    · rw [if_pos hc1] at hf
      refine lv_lookup (off := 45) (tgt := 46) hx hb dX3_isJoint_1 (by decide) (by rw [hc1]; decide) (by decide) ?_
      refine lv_iload_n hx hb dX3_isJoint_46 rfl (lv_at hl 1 rfl) ?_
      refine lv_bipush (v := 43) hx hb dX3_isJoint_47 (by decide) ?_
      refine lv_icmp_eq (tgt := 58) hx hb dX3_isJoint_49 (by decide) (fun hc => ?_) (fun hc => ?_)
      · rw [if_pos hc] at hf
        exact (wbC_X3_isJoint_58 CX hRm) _ _ _ _ hf hR hS (lv_sub hl [] rfl)
      · rw [if_neg hc] at hf
        refine lv_iload_n hx hb dX3_isJoint_52 rfl (lv_at hl 1 rfl) ?_
        refine lv_bipush (v := 45) hx hb dX3_isJoint_53 (by decide) ?_
        refine lv_icmp_ne (tgt := 62) hx hb dX3_isJoint_55 (by decide) (fun hc => ?_) (fun hc => ?_)
        · rw [if_neg hc] at hf
          refine lv_iconst (v := 0) hx hb dX3_isJoint_62 (by decide) ?_
          exact (wbC_X3_isJoint_63 CX hRm) _ _ _ _ _ hf hR hS (lv_sub hl [] rfl)
        · rw [if_pos hc] at hf
          exact (wbC_X3_isJoint_58 CX hRm) _ _ _ _ hf hR hS (lv_sub hl [] rfl)
    · rw [if_neg hc1] at hf
      have hn0 := tsw_ne (k := 0) rfl hc0
      have hn1 := tsw_ne (k := 1) rfl hc1
      refine lv_lookup (off := 63) (tgt := 64) hx hb dX3_isJoint_1 (by decide) (by simp only [Op.lookupswitch.offset, List.toList_toArray, Ne.symm hn0, Ne.symm hn1, if_false]) (by decide) ?_
      refine lv_iload_n hx hb dX3_isJoint_64 rfl (lv_at hl 1 rfl) ?_
      refine lv_bipush (v := 42) hx hb dX3_isJoint_65 (by decide) ?_
      refine lv_icmp_eq (tgt := 82) hx hb dX3_isJoint_67 (by decide) (fun hc => ?_) (fun hc => ?_)
      · rw [if_pos hc] at hf
        exact (wbC_X3_isJoint_82 CX hRm) _ _ _ _ hf hR hS (lv_sub hl [] rfl)
      · rw [if_neg hc] at hf
        refine lv_iload_n hx hb dX3_isJoint_70 rfl (lv_at hl 1 rfl) ?_
        refine lv_bipush (v := 47) hx hb dX3_isJoint_71 (by decide) ?_
        refine lv_icmp_eq (tgt := 82) hx hb dX3_isJoint_73 (by decide) (fun hc => ?_) (fun hc => ?_)
        · rw [if_pos hc] at hf
          exact (wbC_X3_isJoint_82 CX hRm) _ _ _ _ hf hR hS (lv_sub hl [] rfl)
        · rw [if_neg hc] at hf
          refine lv_iload_n hx hb dX3_isJoint_76 rfl (lv_at hl 1 rfl) ?_
          refine lv_bipush (v := 37) hx hb dX3_isJoint_77 (by decide) ?_
          refine lv_icmp_ne (tgt := 86) hx hb dX3_isJoint_79 (by decide) (fun hc => ?_) (fun hc => ?_)
          · rw [if_neg hc] at hf
            refine lv_iconst (v := 0) hx hb dX3_isJoint_86 (by decide) ?_
            exact (wbC_X3_isJoint_87 CX hRm) _ _ _ _ _ hf hR hS (lv_sub hl [] rfl)
          · rw [if_pos hc] at hf
            exact (wbC_X3_isJoint_82 CX hRm) _ _ _ _ hf hR hS (lv_sub hl [] rfl)
theorem MC_X3_isJoint (l : Launch) (x : Xc) (N : Nat) (K : Ka) (x0 : Int32) (x1 : Int32) (M : Cm) (o : Int32 × Cm) (hf : fC_X3_isJoint N K x0 x1 M = some o) : CtI l x yX3_isJoint cX3_isJoint 2 (some .boolean) 0 0 [.int x0, .int x1] K M o :=
  cr_metI RX3 (by decide) rfl (Nat.le_of_ble_eq_true rfl) (fun p e s m args below meth c ls CX hR hl => wfC_X3_isJoint CX ⟨Nat.le_refl _, Nat.le_refl _⟩ x0 x1 M s.heap [] ls hf hR va_S.rf hl)
