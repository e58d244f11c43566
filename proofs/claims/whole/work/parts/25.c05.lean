def bC_X8_need_25 (N : Nat) (K : Ka) (x0 : Nat) (M : Cm) : Option (Int32 × Cm) := some ((-1), M)
set_option maxRecDepth 100000 in
set_option maxHeartbeats 4000000 in
theorem wbC_X8_need_25 {p : Program} {l : Launch} {e : Env} {R : Room} {s : State} {m : MethodId} {args : Array Value} {below : List Frame} {meth : Method} {c : Code} {x : Xc} {o : Int32 × Cm} {N : Nat} {K : Ka} (CX : CC p s m args meth c x K RX8 cX8_need 3 (some .int)) (hRm : 1 ≤ R.frames ∧ 21 ≤ R.locals) (x0 : Nat) (M : Cm) (H : Heap) (locs : List Loc) (ls : Array Slot) (hf : bC_X8_need_25 N K x0 M = some o) (hR : RC x K M H) (hS : va_S (AC K) s.heap H locs) (hl : lv_has ls 3 [(0, .ref x0)]) : W p l e R s m args below meth c H locs 0 0 (MQ below (CQI x K o) args s 0 0 (AC K)) (F0 m 25 ls []) := by
  obtain ⟨hx, hb, hml, hown, hts, hE, hB, hr, hlk⟩ := id CX
  have hL : KLe K K := KLe.rf K
  have hcs : 0 ≤ R.cells ∧ 0 ≤ R.slots := ⟨Nat.zero_le _, Nat.zero_le _⟩
  unfold bC_X8_need_25 at hf
  refine lv_iconst (v := (-1)) hx hb dX8_need_25 (by decide) ?_
  exact cr_iret CX hR hS hf dX8_need_26
def fC_X8_need (N : Nat) (K : Ka) (x0 : Nat) (x1 : Int32) (x2 : Int32) (M : Cm) : Option (Int32 × Cm) := gd (kd K x0 == 9) ((fC_X8_isUnit N K x0 x1 M).bind fun o2 => if o2.1 = 0 then ((bC_X8_need_25 N K) x0 o2.2) else (if x2 < 0 then ((bC_X8_need_25 N K) x0 o2.2) else (nn (cR o2.2 x0 2) fun a1 => gd (kd K a1 == 5) (nn (cR o2.2 a1 6) fun a2 => gd (kd K a2 == 22) (ck x1 (le K a2) (if x2 < (cI o2.2 a2 (x1 : Int32).toNatClampNeg) then (nn (cR o2.2 x0 2) fun a3 => gd (kd K a3 == 5) (nn (cR o2.2 a3 5) fun a4 => gd (kd K a4 == 22) (ck ((x1 * 24) + x2) (le K a4) (some (cI o2.2 a4 ((x1 * 24) + x2 : Int32).toNatClampNeg, o2.2))))) else ((bC_X8_need_25 N K) x0 o2.2)))))))
set_option maxRecDepth 100000 in
set_option maxHeartbeats 4000000 in
theorem wfC_X8_need {p : Program} {l : Launch} {e : Env} {R : Room} {s : State} {m : MethodId} {args : Array Value} {below : List Frame} {meth : Method} {c : Code} {x : Xc} {o : Int32 × Cm} {N : Nat} {K : Ka} (CX : CC p s m args meth c x K RX8 cX8_need 3 (some .int)) (hRm : 1 ≤ R.frames ∧ 21 ≤ R.locals) (x0 : Nat) (x1 : Int32) (x2 : Int32) (M : Cm) (H : Heap) (locs : List Loc) (ls : Array Slot) (hf : fC_X8_need N K x0 x1 x2 M = some o) (hR : RC x K M H) (hS : va_S (AC K) s.heap H locs) (hl : lv_has ls 3 [(0, .ref x0), (1, .int x1), (2, .int x2)]) : W p l e R s m args below meth c H locs 0 0 (MQ below (CQI x K o) args s 0 0 (AC K)) (F0 m 0 ls []) := by
  obtain ⟨hx, hb, hml, hown, hts, hE, hB, hr, hlk⟩ := id CX
  have hL : KLe K K := KLe.rf K
  have hcs : 0 ≤ R.cells ∧ 0 ≤ R.slots := ⟨Nat.zero_le _, Nat.zero_le _⟩
  unfold fC_X8_need at hf
  refine lv_aload_n hx hb dX8_need_0 rfl (lv_at hl 0 rfl) ?_
  refine lv_iload_n hx hb dX8_need_1 rfl (lv_at hl 1 rfl) ?_
  obtain ⟨hk_x0_9, hf⟩ := gd_some hf
  obtain ⟨o2, ho2, hf⟩ := bnd_some hf
  refine cr_callIv kc_8 CX hR hL hS (As := [.int x1]) (rest := []) hk_x0_9 (MC_X8_isUnit l x N K x0 x1 M o2 ho2) cv_X8_162 ⟨by omega, by omega⟩ rfl rfl (Nat.le_of_ble_eq_true rfl) hl.1 dX8_need_2 hcs (fun H locs hR hS => ?_)
  refine lv_if_eq (tgt := 25) hx hb dX8_need_5 (by decide) (fun hc => ?_) (fun hc => ?_)
  · rw [if_pos hc] at hf
    exact (wbC_X8_need_25 CX hRm) _ _ _ _ _ hf hR hS (lv_sub hl [0] rfl)
  · rw [if_neg hc] at hf
    refine lv_iload_n hx hb dX8_need_8 rfl (lv_at hl 2 rfl) ?_
    refine lv_if_lt (tgt := 25) hx hb dX8_need_9 (by decide) (fun hc => ?_) (fun hc => ?_)
    · rw [if_pos hc] at hf
      exact (wbC_X8_need_25 CX hRm) _ _ _ _ _ hf hR hS (lv_sub hl [0] rfl)
    · rw [if_neg hc] at hf
      refine lv_iload_n hx hb dX8_need_12 rfl (lv_at hl 2 rfl) ?_
      refine lv_aload_n hx hb dX8_need_13 rfl (lv_at hl 0 rfl) ?_
      refine cr_getR kc_8 CX hR fa_X8_28 rfl hk_x0_9 dX8_need_14 ?_
      obtain ⟨a1, ha1, hf⟩ := nn_some hf
      refine rf_0 ha1 ?_
      obtain ⟨hk_a1_5, hf⟩ := gd_some hf
      refine cr_getR kc_4 CX hR fa_X8_283 rfl hk_a1_5 dX8_need_17 ?_
      refine lv_iload_n hx hb dX8_need_20 rfl (lv_at hl 1 rfl) ?_
      obtain ⟨a2, ha2, hf⟩ := nn_some hf
      refine rf_1 ha2 ?_
      obtain ⟨hk_a2_22, hf⟩ := gd_some hf
      obtain ⟨hi, hf⟩ := ck_some hf
      refine cr_iald CX hR hk_a2_22 hi dX8_need_21 ?_
      refine lv_icmp_lt (tgt := 27) hx hb dX8_need_22 (by decide) (fun hc => ?_) (fun hc => ?_)
      · rw [if_pos hc] at hf
        refine lv_aload_n hx hb dX8_need_27 rfl (lv_at hl 0 rfl) ?_
        refine cr_getR kc_8 CX hR fa_X8_28 rfl hk_x0_9 dX8_need_28 ?_
        obtain ⟨a3, ha3, hf⟩ := nn_some hf
        refine rf_0 ha3 ?_
        obtain ⟨hk_a3_5, hf⟩ := gd_some hf
        refine cr_getR kc_4 CX hR fa_X8_286 rfl hk_a3_5 dX8_need_31 ?_
        refine lv_iload_n hx hb dX8_need_34 rfl (lv_at hl 1 rfl) ?_
        refine lv_bipush (v := 24) hx hb dX8_need_35 (by decide) ?_
        refine lv_imul hx hb dX8_need_37 ?_
        refine lv_iload_n hx hb dX8_need_38 rfl (lv_at hl 2 rfl) ?_
        refine lv_iadd hx hb dX8_need_39 ?_
        obtain ⟨a4, ha4, hf⟩ := nn_some hf
        refine rf_1 ha4 ?_
        obtain ⟨hk_a4_22, hf⟩ := gd_some hf
        obtain ⟨hi, hf⟩ := ck_some hf
        refine cr_iald CX hR hk_a4_22 hi dX8_need_40 ?_
        exact cr_iret CX hR hS hf dX8_need_41
      · rw [if_neg hc] at hf
        exact (wbC_X8_need_25 CX hRm) _ _ _ _ _ hf hR hS (lv_sub hl [0] rfl)
theorem MC_X8_need (l : Launch) (x : Xc) (N : Nat) (K : Ka) (x0 : Nat) (x1 : Int32) (x2 : Int32) (M : Cm) (o : Int32 × Cm) (hf : fC_X8_need N K x0 x1 x2 M = some o) : CtI l x yX8_need cX8_need 3 (some .int) 1 21 [.ref x0, .int x1, .int x2] K M o :=
  cr_metI RX8 (by decide) rfl (Nat.le_of_ble_eq_true rfl) (fun p e s m args below meth c ls CX hR hl => wfC_X8_need CX ⟨Nat.le_refl _, Nat.le_refl _⟩ x0 x1 x2 M s.heap [] ls hf hR va_S.rf hl)
def bC_X8_leans_16 (N : Nat) (K : Ka) (x0 : Nat) (M : Cm) : Option (Int32 × Cm) := some ((-1), M)
set_option maxRecDepth 100000 in
set_option maxHeartbeats 4000000 in
theorem wbC_X8_leans_16 {p : Program} {l : Launch} {e : Env} {R : Room} {s : State} {m : MethodId} {args : Array Value} {below : List Frame} {meth : Method} {c : Code} {x : Xc} {o : Int32 × Cm} {N : Nat} {K : Ka} (CX : CC p s m args meth c x K RX8 cX8_leans 3 (some .int)) (hRm : 1 ≤ R.frames ∧ 22 ≤ R.locals) (x0 : Nat) (M : Cm) (H : Heap) (locs : List Loc) (ls : Array Slot) (hf : bC_X8_leans_16 N K x0 M = some o) (hR : RC x K M H) (hS : va_S (AC K) s.heap H locs) (hl : lv_has ls 3 [(0, .ref x0)]) : W p l e R s m args below meth c H locs 0 0 (MQ below (CQI x K o) args s 0 0 (AC K)) (F0 m 16 ls []) := by
  obtain ⟨hx, hb, hml, hown, hts, hE, hB, hr, hlk⟩ := id CX
  have hL : KLe K K := KLe.rf K
  have hcs : 0 ≤ R.cells ∧ 0 ≤ R.slots := ⟨Nat.zero_le _, Nat.zero_le _⟩
  unfold bC_X8_leans_16 at hf
  refine lv_iconst (v := (-1)) hx hb dX8_leans_16 (by decide) ?_
  exact cr_iret CX hR hS hf dX8_leans_17
def bC_X8_leans_35 (N : Nat) (K : Ka) (x0 : Nat) (s0 : Int32) (M : Cm) : Option (Int32 × Cm) := some (s0, M)
set_option maxRecDepth 100000 in
set_option maxHeartbeats 4000000 in
theorem wbC_X8_leans_35 {p : Program} {l : Launch} {e : Env} {R : Room} {s : State} {m : MethodId} {args : Array Value} {below : List Frame} {meth : Method} {c : Code} {x : Xc} {o : Int32 × Cm} {N : Nat} {K : Ka} (CX : CC p s m args meth c x K RX8 cX8_leans 3 (some .int)) (hRm : 1 ≤ R.frames ∧ 22 ≤ R.locals) (x0 : Nat) (s0 : Int32) (M : Cm) (H : Heap) (locs : List Loc) (ls : Array Slot) (hf : bC_X8_leans_35 N K x0 s0 M = some o) (hR : RC x K M H) (hS : va_S (AC K) s.heap H locs) (hl : lv_has ls 3 [(0, .ref x0)]) : W p l e R s m args below meth c H locs 0 0 (MQ below (CQI x K o) args s 0 0 (AC K)) (F0 m 35 ls [.int s0]) := by
  obtain ⟨hx, hb, hml, hown, hts, hE, hB, hr, hlk⟩ := id CX
  have hL : KLe K K := KLe.rf K
  have hcs : 0 ≤ R.cells ∧ 0 ≤ R.slots := ⟨Nat.zero_le _, Nat.zero_le _⟩
  unfold bC_X8_leans_35 at hf
  exact cr_iret CX hR hS hf dX8_leans_35
def fC_X8_leans (N : Nat) (K : Ka) (x0 : Nat) (x1 : Int32) (x2 : Int32) (M : Cm) : Option (Int32 × Cm) := gd (kd K x0 == 9) ((fC_X8_isUnit N K x0 x1 M).bind fun o2 => if o2.1 = 0 then ((bC_X8_leans_16 N K) x0 o2.2) else ((fC_X8_isUnit N K x0 x2 o2.2).bind fun o10 => if o10.1 = 0 then ((bC_X8_leans_16 N K) x0 o10.2) else (nn (cR o10.2 x0 7) fun a1 => gd (kd K a1 == 6) ((fC_X5_leaning N K a1 x1 x2 o10.2).bind fun o24 => if o24.1 = 0 then ((bC_X8_leans_35 N K) x0 0 o24.2) else ((bC_X8_leans_35 N K) x0 1 o24.2)))))
set_option maxRecDepth 100000 in
set_option maxHeartbeats 4000000 in
theorem wfC_X8_leans {p : Program} {l : Launch} {e : Env} {R : Room} {s : State} {m : MethodId} {args : Array Value} {below : List Frame} {meth : Method} {c : Code} {x : Xc} {o : Int32 × Cm} {N : Nat} {K : Ka} (CX : CC p s m args meth c x K RX8 cX8_leans 3 (some .int)) (hRm : 1 ≤ R.frames ∧ 22 ≤ R.locals) (x0 : Nat) (x1 : Int32) (x2 : Int32) (M : Cm) (H : Heap) (locs : List Loc) (ls : Array Slot) (hf : fC_X8_leans N K x0 x1 x2 M = some o) (hR : RC x K M H) (hS : va_S (AC K) s.heap H locs) (hl : lv_has ls 3 [(0, .ref x0), (1, .int x1), (2, .int x2)]) : W p l e R s m args below meth c H locs 0 0 (MQ below (CQI x K o) args s 0 0 (AC K)) (F0 m 0 ls []) := by
  obtain ⟨hx, hb, hml, hown, hts, hE, hB, hr, hlk⟩ := id CX
  have hL : KLe K K := KLe.rf K
  have hcs : 0 ≤ R.cells ∧ 0 ≤ R.slots := ⟨Nat.zero_le _, Nat.zero_le _⟩
  unfold fC_X8_leans at hf
  refine lv_aload_n hx hb dX8_leans_0 rfl (lv_at hl 0 rfl) ?_
  refine lv_iload_n hx hb dX8_leans_1 rfl (lv_at hl 1 rfl) ?_
  obtain ⟨hk_x0_9, hf⟩ := gd_some hf
  obtain ⟨o2, ho2, hf⟩ := bnd_some hf
  refine cr_callIv kc_8 CX hR hL hS (As := [.int x1]) (rest := []) hk_x0_9 (MC_X8_isUnit l x N K x0 x1 M o2 ho2) cv_X8_162 ⟨by omega, by omega⟩ rfl rfl (Nat.le_of_ble_eq_true rfl) hl.1 dX8_leans_2 hcs (fun H locs hR hS => ?_)
  refine lv_if_eq (tgt := 16) hx hb dX8_leans_5 (by decide) (fun hc => ?_) (fun hc => ?_)
  · rw [if_pos hc] at hf
    exact (wbC_X8_leans_16 CX hRm) _ _ _ _ _ hf hR hS (lv_sub hl [0] rfl)
  · rw [if_neg hc] at hf
    refine lv_aload_n hx hb dX8_leans_8 rfl (lv_at hl 0 rfl) ?_
    refine lv_iload_n hx hb dX8_leans_9 rfl (lv_at hl 2 rfl) ?_
    obtain ⟨o10, ho10, hf⟩ := bnd_some hf
    refine cr_callIv kc_8 CX hR hL hS (As := [.int x2]) (rest := []) hk_x0_9 (MC_X8_isUnit l x N K x0 x2 o2.2 o10 ho10) cv_X8_162 ⟨by omega, by omega⟩ rfl rfl (Nat.le_of_ble_eq_true rfl) hl.1 dX8_leans_10 hcs (fun H locs hR hS => ?_)
    refine lv_if_ne (tgt := 18) hx hb dX8_leans_13 (by decide) (fun hc => ?_) (fun hc => ?_)
    · rw [if_neg hc] at hf
      refine lv_aload_n hx hb dX8_leans_18 rfl (lv_at hl 0 rfl) ?_
      refine cr_getR kc_8 CX hR fa_X8_60 rfl hk_x0_9 dX8_leans_19 ?_
      refine lv_iload_n hx hb dX8_leans_22 rfl (lv_at hl 1 rfl) ?_
      refine lv_iload_n hx hb dX8_leans_23 rfl (lv_at hl 2 rfl) ?_
      obtain ⟨a1, ha1, hf⟩ := nn_some hf
      refine rf_2 ha1 ?_
      obtain ⟨hk_a1_6, hf⟩ := gd_some hf
      obtain ⟨o24, ho24, hf⟩ := bnd_some hf
      refine cr_callIv kc_5 CX hR hL hS (As := [.int x1, .int x2]) (rest := []) hk_a1_6 (MC_X5_leaning l x N K a1 x1 x2 o10.2 o24 ho24) cv_X8_289 ⟨by omega, by omega⟩ rfl rfl (Nat.le_of_ble_eq_true rfl) hl.1 dX8_leans_24 hcs (fun H locs hR hS => ?_)
      refine lv_if_eq (tgt := 34) hx hb dX8_leans_27 (by decide) (fun hc => ?_) (fun hc => ?_)
      · rw [if_pos hc] at hf
        refine lv_iconst (v := 0) hx hb dX8_leans_34 (by decide) ?_
        exact (wbC_X8_leans_35 CX hRm) _ _ _ _ _ _ hf hR hS (lv_sub hl [0] rfl)
      · rw [if_neg hc] at hf
        refine lv_iconst (v := 1) hx hb dX8_leans_30 (by decide) ?_
        refine lv_goto (tgt := 35) hx hb dX8_leans_31 (by decide) ?_
        exact (wbC_X8_leans_35 CX hRm) _ _ _ _ _ _ hf hR hS (lv_sub hl [0] rfl)
    · rw [if_pos hc] at hf
      exact (wbC_X8_leans_16 CX hRm) _ _ _ _ _ hf hR hS (lv_sub hl [0] rfl)
theorem MC_X8_leans (l : Launch) (x : Xc) (N : Nat) (K : Ka) (x0 : Nat) (x1 : Int32) (x2 : Int32) (M : Cm) (o : Int32 × Cm) (hf : fC_X8_leans N K x0 x1 x2 M = some o) : CtI l x yX8_leans cX8_leans 3 (some .int) 1 22 [.ref x0, .int x1, .int x2] K M o :=
  cr_metI RX8 (by decide) rfl (Nat.le_of_ble_eq_true rfl) (fun p e s m args below meth c ls CX hR hl => wfC_X8_leans CX ⟨Nat.le_refl _, Nat.le_refl _⟩ x0 x1 x2 M s.heap [] ls hf hR va_S.rf hl)
def fC_X8_up (N : Nat) (K : Ka) (x0 : Nat) (x1 : Int32) (x2 : Int32) (M : Cm) : Option (Int32 × Cm) := gd (kd K x0 == 9) (nn (cR M x0 4) fun a1 => gd (kd K a1 == 1) ((fC_X0_upAt N K a1 x1 x2 M).bind fun o6 => some (o6.1, o6.2)))
set_option maxRecDepth 100000 in
set_option maxHeartbeats 4000000 in
theorem wfC_X8_up {p : Program} {l : Launch} {e : Env} {R : Room} {s : State} {m : MethodId} {args : Array Value} {below : List Frame} {meth : Method} {c : Code} {x : Xc} {o : Int32 × Cm} {N : Nat} {K : Ka} (CX : CC p s m args meth c x K RX8 cX8_up 3 (some .int)) (hRm : 2 ≤ R.frames ∧ 47 ≤ R.locals) (x0 : Nat) (x1 : Int32) (x2 : Int32) (M : Cm) (H : Heap) (locs : List Loc) (ls : Array Slot) (hf : fC_X8_up N K x0 x1 x2 M = some o) (hR : RC x K M H) (hS : va_S (AC K) s.heap H locs) (hl : lv_has ls 3 [(0, .ref x0), (1, .int x1), (2, .int x2)]) : W p l e R s m args below meth c H locs 0 0 (MQ below (CQI x K o) args s 0 0 (AC K)) (F0 m 0 ls []) := by
  obtain ⟨hx, hb, hml, hown, hts, hE, hB, hr, hlk⟩ := id CX
  have hL : KLe K K := KLe.rf K
  have hcs : 0 ≤ R.cells ∧ 0 ≤ R.slots := ⟨Nat.zero_le _, Nat.zero_le _⟩
  unfold fC_X8_up at hf
  refine lv_aload_n hx hb dX8_up_0 rfl (lv_at hl 0 rfl) ?_
  obtain ⟨hk_x0_9, hf⟩ := gd_some hf
  refine cr_getR kc_8 CX hR fa_X8_38 rfl hk_x0_9 dX8_up_1 ?_
  refine lv_iload_n hx hb dX8_up_4 rfl (lv_at hl 1 rfl) ?_
  refine lv_iload_n hx hb dX8_up_5 rfl (lv_at hl 2 rfl) ?_
  obtain ⟨a1, ha1, hf⟩ := nn_some hf
  refine rf_2 ha1 ?_
  obtain ⟨hk_a1_1, hf⟩ := gd_some hf
  obtain ⟨o6, ho6, hf⟩ := bnd_some hf
  refine cr_callIv kc_0 CX hR hL hS (As := [.int x1, .int x2]) (rest := []) hk_a1_1 (MC_X0_upAt l x N K a1 x1 x2 M o6 ho6) cv_X8_191 ⟨by omega, by omega⟩ rfl rfl (Nat.le_of_ble_eq_true rfl) hl.1 dX8_up_6 hcs (fun H locs hR hS => ?_)
  exact cr_iret CX hR hS hf dX8_up_9
theorem MC_X8_up (l : Launch) (x : Xc) (N : Nat) (K : Ka) (x0 : Nat) (x1 : Int32) (x2 : Int32) (M : Cm) (o : Int32 × Cm) (hf : fC_X8_up N K x0 x1 x2 M = some o) : CtI l x yX8_up cX8_up 3 (some .int) 2 47 [.ref x0, .int x1, .int x2] K M o :=
  cr_metI RX8 (by decide) rfl (Nat.le_of_ble_eq_true rfl) (fun p e s m args below meth c ls CX hR hl => wfC_X8_up CX ⟨Nat.le_refl _, Nat.le_refl _⟩ x0 x1 x2 M s.heap [] ls hf hR va_S.rf hl)
def fC_X8_half (N : Nat) (K : Ka) (x0 : Nat) (x1 : Int32) (x2 : Int32) (M : Cm) : Option (Int32 × Cm) := gd (kd K x0 == 9) (nn (cR M x0 4) fun a1 => gd (kd K a1 == 1) ((fC_X0_halfAt N K a1 x1 x2 M).bind fun o6 => some (o6.1, o6.2)))
set_option maxRecDepth 100000 in
set_option maxHeartbeats 4000000 in
theorem wfC_X8_half {p : Program} {l : Launch} {e : Env} {R : Room} {s : State} {m : MethodId} {args : Array Value} {below : List Frame} {meth : Method} {c : Code} {x : Xc} {o : Int32 × Cm} {N : Nat} {K : Ka} (CX : CC p s m args meth c x K RX8 cX8_half 3 (some .int)) (hRm : 2 ≤ R.frames ∧ 62 ≤ R.locals) (x0 : Nat) (x1 : Int32) (x2 : Int32) (M : Cm) (H : Heap) (locs : List Loc) (ls : Array Slot) (hf : fC_X8_half N K x0 x1 x2 M = some o) (hR : RC x K M H) (hS : va_S (AC K) s.heap H locs) (hl : lv_has ls 3 [(0, .ref x0), (1, .int x1), (2, .int x2)]) : W p l e R s m args below meth c H locs 0 0 (MQ below (CQI x K o) args s 0 0 (AC K)) (F0 m 0 ls []) := by
  obtain ⟨hx, hb, hml, hown, hts, hE, hB, hr, hlk⟩ := id CX
  have hL : KLe K K := KLe.rf K
  have hcs : 0 ≤ R.cells ∧ 0 ≤ R.slots := ⟨Nat.zero_le _, Nat.zero_le _⟩
  unfold fC_X8_half at hf
  refine lv_aload_n hx hb dX8_half_0 rfl (lv_at hl 0 rfl) ?_
  obtain ⟨hk_x0_9, hf⟩ := gd_some hf
  refine cr_getR kc_8 CX hR fa_X8_38 rfl hk_x0_9 dX8_half_1 ?_
  refine lv_iload_n hx hb dX8_half_4 rfl (lv_at hl 1 rfl) ?_
  refine lv_iload_n hx hb dX8_half_5 rfl (lv_at hl 2 rfl) ?_
  obtain ⟨a1, ha1, hf⟩ := nn_some hf
  refine rf_2 ha1 ?_
  obtain ⟨hk_a1_1, hf⟩ := gd_some hf
  obtain ⟨o6, ho6, hf⟩ := bnd_some hf
  refine cr_callIv kc_0 CX hR hL hS (As := [.int x1, .int x2]) (rest := []) hk_a1_1 (MC_X0_halfAt l x N K a1 x1 x2 M o6 ho6) cv_X8_292 ⟨by omega, by omega⟩ rfl rfl (Nat.le_of_ble_eq_true rfl) hl.1 dX8_half_6 hcs (fun H locs hR hS => ?_)
  exact cr_iret CX hR hS hf dX8_half_9
theorem MC_X8_half (l : Launch) (x : Xc) (N : Nat) (K : Ka) (x0 : Nat) (x1 : Int32) (x2 : Int32) (M : Cm) (o : Int32 × Cm) (hf : fC_X8_half N K x0 x1 x2 M = some o) : CtI l x yX8_half cX8_half 3 (some .int) 2 62 [.ref x0, .int x1, .int x2] K M o :=
  cr_metI RX8 (by decide) rfl (Nat.le_of_ble_eq_true rfl) (fun p e s m args below meth c ls CX hR hl => wfC_X8_half CX ⟨Nat.le_refl _, Nat.le_refl _⟩ x0 x1 x2 M s.heap [] ls hf hR va_S.rf hl)
def fC_X8_order (N : Nat) (K : Ka) (x0 : Nat) (x1 : Int32) (x2 : Int32) (M : Cm) : Option (Int32 × Cm) := gd (kd K x0 == 9) (nn (cR M x0 4) fun a1 => gd (kd K a1 == 1) ((fC_X0_orderAt N K a1 x1 x2 M).bind fun o6 => some (o6.1, o6.2)))
set_option maxRecDepth 100000 in
set_option maxHeartbeats 4000000 in
theorem wfC_X8_order {p : Program} {l : Launch} {e : Env} {R : Room} {s : State} {m : MethodId} {args : Array Value} {below : List Frame} {meth : Method} {c : Code} {x : Xc} {o : Int32 × Cm} {N : Nat} {K : Ka} (CX : CC p s m args meth c x K RX8 cX8_order 3 (some .int)) (hRm : 2 ≤ R.frames ∧ 62 ≤ R.locals) (x0 : Nat) (x1 : Int32) (x2 : Int32) (M : Cm) (H : Heap) (locs : List Loc) (ls : Array Slot) (hf : fC_X8_order N K x0 x1 x2 M = some o) (hR : RC x K M H) (hS : va_S (AC K) s.heap H locs) (hl : lv_has ls 3 [(0, .ref x0), (1, .int x1), (2, .int x2)]) : W p l e R s m args below meth c H locs 0 0 (MQ below (CQI x K o) args s 0 0 (AC K)) (F0 m 0 ls []) := by
  obtain ⟨hx, hb, hml, hown, hts, hE, hB, hr, hlk⟩ := id CX
  have hL : KLe K K := KLe.rf K
  have hcs : 0 ≤ R.cells ∧ 0 ≤ R.slots := ⟨Nat.zero_le _, Nat.zero_le _⟩
  unfold fC_X8_order at hf
  refine lv_aload_n hx hb dX8_order_0 rfl (lv_at hl 0 rfl) ?_
  obtain ⟨hk_x0_9, hf⟩ := gd_some hf
  refine cr_getR kc_8 CX hR fa_X8_38 rfl hk_x0_9 dX8_order_1 ?_
  refine lv_iload_n hx hb dX8_order_4 rfl (lv_at hl 1 rfl) ?_
  refine lv_iload_n hx hb dX8_order_5 rfl (lv_at hl 2 rfl) ?_
  obtain ⟨a1, ha1, hf⟩ := nn_some hf
  refine rf_2 ha1 ?_
  obtain ⟨hk_a1_1, hf⟩ := gd_some hf
  obtain ⟨o6, ho6, hf⟩ := bnd_some hf
  refine cr_callIv kc_0 CX hR hL hS (As := [.int x1, .int x2]) (rest := []) hk_a1_1 (MC_X0_orderAt l x N K a1 x1 x2 M o6 ho6) cv_X8_295 ⟨by omega, by omega⟩ rfl rfl (Nat.le_of_ble_eq_true rfl) hl.1 dX8_order_6 hcs (fun H locs hR hS => ?_)
  exact cr_iret CX hR hS hf dX8_order_9
theorem MC_X8_order (l : Launch) (x : Xc) (N : Nat) (K : Ka) (x0 : Nat) (x1 : Int32) (x2 : Int32) (M : Cm) (o : Int32 × Cm) (hf : fC_X8_order N K x0 x1 x2 M = some o) : CtI l x yX8_order cX8_order 3 (some .int) 2 62 [.ref x0, .int x1, .int x2] K M o :=
  cr_metI RX8 (by decide) rfl (Nat.le_of_ble_eq_true rfl) (fun p e s m args below meth c ls CX hR hl => wfC_X8_order CX ⟨Nat.le_refl _, Nat.le_refl _⟩ x0 x1 x2 M s.heap [] ls hf hR va_S.rf hl)
def fC_X8_closed (N : Nat) (K : Ka) (x0 : Nat) (x1 : Int32) (x2 : Int32) (M : Cm) : Option (Int32 × Cm) := gd (kd K x0 == 9) (nn (cR M x0 4) fun a1 => gd (kd K a1 == 1) ((fC_X0_closedAt N K a1 x1 x2 M).bind fun o6 => some (o6.1, o6.2)))
set_option maxRecDepth 100000 in
set_option maxHeartbeats 4000000 in
theorem wfC_X8_closed {p : Program} {l : Launch} {e : Env} {R : Room} {s : State} {m : MethodId} {args : Array Value} {below : List Frame} {meth : Method} {c : Code} {x : Xc} {o : Int32 × Cm} {N : Nat} {K : Ka} (CX : CC p s m args meth c x K RX8 cX8_closed 3 (some .int)) (hRm : 2 ≤ R.frames ∧ 47 ≤ R.locals) (x0 : Nat) (x1 : Int32) (x2 : Int32) (M : Cm) (H : Heap) (locs : List Loc) (ls : Array Slot) (hf : fC_X8_closed N K x0 x1 x2 M = some o) (hR : RC x K M H) (hS : va_S (AC K) s.heap H locs) (hl : lv_has ls 3 [(0, .ref x0), (1, .int x1), (2, .int x2)]) : W p l e R s m args below meth c H locs 0 0 (MQ below (CQI x K o) args s 0 0 (AC K)) (F0 m 0 ls []) := by
  obtain ⟨hx, hb, hml, hown, hts, hE, hB, hr, hlk⟩ := id CX
  have hL : KLe K K := KLe.rf K
  have hcs : 0 ≤ R.cells ∧ 0 ≤ R.slots := ⟨Nat.zero_le _, Nat.zero_le _⟩
  unfold fC_X8_closed at hf
  refine lv_aload_n hx hb dX8_closed_0 rfl (lv_at hl 0 rfl) ?_
  obtain ⟨hk_x0_9, hf⟩ := gd_some hf
  refine cr_getR kc_8 CX hR fa_X8_38 rfl hk_x0_9 dX8_closed_1 ?_
  refine lv_iload_n hx hb dX8_closed_4 rfl (lv_at hl 1 rfl) ?_
  refine lv_iload_n hx hb dX8_closed_5 rfl (lv_at hl 2 rfl) ?_
  obtain ⟨a1, ha1, hf⟩ := nn_some hf
  refine rf_2 ha1 ?_
  obtain ⟨hk_a1_1, hf⟩ := gd_some hf
  obtain ⟨o6, ho6, hf⟩ := bnd_some hf
  refine cr_callIv kc_0 CX hR hL hS (As := [.int x1, .int x2]) (rest := []) hk_a1_1 (MC_X0_closedAt l x N K a1 x1 x2 M o6 ho6) cv_X8_298 ⟨by omega, by omega⟩ rfl rfl (Nat.le_of_ble_eq_true rfl) hl.1 dX8_closed_6 hcs (fun H locs hR hS => ?_)
  exact cr_iret CX hR hS hf dX8_closed_9
theorem MC_X8_closed (l : Launch) (x : Xc) (N : Nat) (K : Ka) (x0 : Nat) (x1 : Int32) (x2 : Int32) (M : Cm) (o : Int32 × Cm) (hf : fC_X8_closed N K x0 x1 x2 M = some o) : CtI l x yX8_closed cX8_closed 3 (some .int) 2 47 [.ref x0, .int x1, .int x2] K M o :=
  cr_metI RX8 (by decide) rfl (Nat.le_of_ble_eq_true rfl) (fun p e s m args below meth c ls CX hR hl => wfC_X8_closed CX ⟨Nat.le_refl _, Nat.le_refl _⟩ x0 x1 x2 M s.heap [] ls hf hR va_S.rf hl)
def bC_X8_count_171 (N : Nat) (K : Ka) (x0 : Nat) (s0 : Int32) (M : Cm) : Option (Int32 × Cm) := some (s0, M)
set_option maxRecDepth 100000 in
set_option maxHeartbeats 4000000 in
theorem wbC_X8_count_171 {p : Program} {l : Launch} {e : Env} {R : Room} {s : State} {m : MethodId} {args : Array Value} {below : List Frame} {meth : Method} {c : Code} {x : Xc} {o : Int32 × Cm} {N : Nat} {K : Ka} (CX : CC p s m args meth c x K RX8 cX8_count 2 (some .int)) (hRm : 1 ≤ R.frames ∧ 23 ≤ R.locals) (x0 : Nat) (s0 : Int32) (M : Cm) (H : Heap) (locs : List Loc) (ls : Array Slot) (hf : bC_X8_count_171 N K x0 s0 M = some o) (hR : RC x K M H) (hS : va_S (AC K) s.heap H locs) (hl : lv_has ls 2 [(0, .ref x0)]) : W p l e R s m args below meth c H locs 0 0 (MQ below (CQI x K o) args s 0 0 (AC K)) (F0 m 171 ls [.int s0]) := by
  obtain ⟨hx, hb, hml, hown, hts, hE, hB, hr, hlk⟩ := id CX
  have hL : KLe K K := KLe.rf K
  have hcs : 0 ≤ R.cells ∧ 0 ≤ R.slots := ⟨Nat.zero_le _, Nat.zero_le _⟩
  unfold bC_X8_count_171 at hf
  exact cr_iret CX hR hS hf dX8_count_171
def fC_X8_count (N : Nat) (K : Ka) (x0 : Nat) (x1 : Int32) (M : Cm) : Option (Int32 × Cm) := if x1 = 0 then (gd (kd K x0 == 9) (nn (cR M x0 7) fun a1 => gd (kd K a1 == 6) (some (cI M a1 10, M)))) else if x1 = 1 then (gd (kd K x0 == 9) (nn (cR M x0 7) fun a2 => gd (kd K a2 == 6) (some (cI M a2 11, M)))) else if x1 = 2 then (gd (kd K x0 == 9) (nn (cR M x0 7) fun a3 => gd (kd K a3 == 6) (some (cI M a3 12, M)))) else if x1 = 3 then (gd (kd K x0 == 9) (nn (cR M x0 2) fun a4 => gd (kd K a4 == 5) ((fC_X4_unitsAt N K a4 2 M).bind fun o101 => some (o101.1, o101.2)))) else if x1 = 4 then (gd (kd K x0 == 9) (nn (cR M x0 2) fun a5 => gd (kd K a5 == 5) ((fC_X4_unitsAt N K a5 3 M).bind fun o110 => some (o110.1, o110.2)))) else if x1 = 5 then (gd (kd K x0 == 9) (nn (cR M x0 4) fun a6 => gd (kd K a6 == 1) (some (cI M a6 5, M)))) else if x1 = 6 then (gd (kd K x0 == 9) (nn (cR M x0 4) fun a7 => gd (kd K a7 == 1) (some (cI M a7 6, M)))) else if x1 = 7 then (gd (kd K x0 == 9) (nn (cR M x0 4) fun a8 => gd (kd K a8 == 1) (some (cI M a8 4, M)))) else if x1 = 8 then (gd (kd K x0 == 9) (nn (cR M x0 2) fun a9 => gd (kd K a9 == 5) (some (cI M a9 11, M)))) else if x1 = 9 then (gd (kd K x0 == 9) (nn (cR M x0 5) fun a10 => gd (kd K a10 == 3) (some (cI M a10 11, M)))) else if x1 = 10 then (gd (kd K x0 == 9) (some (cI M x0 11, M))) else if x1 = 11 then (gd (kd K x0 == 9) (if (cI M x0 12) = 0 then ((bC_X8_count_171 N K) x0 0 M) else ((bC_X8_count_171 N K) x0 1 M))) else if x1 = 12 then (gd (kd K x0 == 9) (nn (cR M x0 2) fun a11 => gd (kd K a11 == 5) (some (cI M a11 10, M)))) else if x1 = 13 then (gd (kd K x0 == 9) (nn (cR M x0 0) fun a12 => gd (kd K a12 == 7) (some (cI M a12 5, M)))) else (some ((-1), M))
set_option maxRecDepth 100000 in
set_option maxHeartbeats 4000000 in
theorem wfC_X8_count {p : Program} {l : Launch} {e : Env} {R : Room} {s : State} {m : MethodId} {args : Array Value} {below : List Frame} {meth : Method} {c : Code} {x : Xc} {o : Int32 × Cm} {N : Nat} {K : Ka} (CX : CC p s m args meth c x K RX8 cX8_count 2 (some .int)) (hRm : 1 ≤ R.frames ∧ 23 ≤ R.locals) (x0 : Nat) (x1 : Int32) (M : Cm) (H : Heap) (locs : List Loc) (ls : Array Slot) (hf : fC_X8_count N K x0 x1 M = some o) (hR : RC x K M H) (hS : va_S (AC K) s.heap H locs) (hl : lv_has ls 2 [(0, .ref x0), (1, .int x1)]) : W p l e R s m args below meth c H locs 0 0 (MQ below (CQI x K o) args s 0 0 (AC K)) (F0 m 0 ls []) := by
  obtain ⟨hx, hb, hml, hown, hts, hE, hB, hr, hlk⟩ := id CX
  have hL : KLe K K := KLe.rf K
  have hcs : 0 ≤ R.cells ∧ 0 ≤ R.slots := ⟨Nat.zero_le _, Nat.zero_le _⟩
  unfold fC_X8_count at hf
  refine lv_iload_n hx hb dX8_count_0 rfl (lv_at hl 1 rfl) ?_
  by_cases hc0 : x1 = 0
  · rw [if_pos hc0] at hf
    refine lv_tableIn (off := 71) (tgt := 72) hx hb dX8_count_1 (by rw [hc0]; decide) (by rw [hc0]; decide) (by rw [hc0]; decide) (by decide) ?_
    refine lv_aload_n hx hb dX8_count_72 rfl (lv_at hl 0 rfl) ?_
    obtain ⟨hk_x0_9, hf⟩ := gd_some hf
    refine cr_getR kc_8 CX hR fa_X8_60 rfl hk_x0_9 dX8_count_73 ?_
    obtain ⟨a1, ha1, hf⟩ := nn_some hf
    refine rf_0 ha1 ?_
    obtain ⟨hk_a1_6, hf⟩ := gd_some hf
    refine cr_getI kc_5 CX hR fa_X8_123 rfl hk_a1_6 dX8_count_76 ?_
    exact cr_iret CX hR hS hf dX8_count_79
  · rw [if_neg hc0] at hf
    by_cases hc1 : x1 = 1
    · rw [if_pos hc1] at hf
      refine lv_tableIn (off := 79) (tgt := 80) hx hb dX8_count_1 (by rw [hc1]; decide) (by rw [hc1]; decide) (by rw [hc1]; decide) (by decide) ?_
      refine lv_aload_n hx hb dX8_count_80 rfl (lv_at hl 0 rfl) ?_
      obtain ⟨hk_x0_9, hf⟩ := gd_some hf
      refine cr_getR kc_8 CX hR fa_X8_60 rfl hk_x0_9 dX8_count_81 ?_
      obtain ⟨a2, ha2, hf⟩ := nn_some hf
      refine rf_0 ha2 ?_
      obtain ⟨hk_a2_6, hf⟩ := gd_some hf
      refine cr_getI kc_5 CX hR fa_X8_133 rfl hk_a2_6 dX8_count_84 ?_
      exact cr_iret CX hR hS hf dX8_count_87
    · rw [if_neg hc1] at hf
      by_cases hc2 : x1 = 2
      · rw [if_pos hc2] at hf
        refine lv_tableIn (off := 87) (tgt := 88) hx hb dX8_count_1 (by rw [hc2]; decide) (by rw [hc2]; decide) (by rw [hc2]; decide) (by decide) ?_
        refine lv_aload_n hx hb dX8_count_88 rfl (lv_at hl 0 rfl) ?_
        obtain ⟨hk_x0_9, hf⟩ := gd_some hf
        refine cr_getR kc_8 CX hR fa_X8_60 rfl hk_x0_9 dX8_count_89 ?_
        obtain ⟨a3, ha3, hf⟩ := nn_some hf
        refine rf_0 ha3 ?_
        obtain ⟨hk_a3_6, hf⟩ := gd_some hf
        refine cr_getI kc_5 CX hR fa_X8_139 rfl hk_a3_6 dX8_count_92 ?_
        exact cr_iret CX hR hS hf dX8_count_95
      · rw [if_neg hc2] at hf
        by_cases hc3 : x1 = 3
        · rw [if_pos hc3] at hf
          refine lv_tableIn (off := 95) (tgt := 96) hx hb dX8_count_1 (by rw [hc3]; decide) (by rw [hc3]; decide) (by rw [hc3]; decide) (by decide) ?_
          refine lv_aload_n hx hb dX8_count_96 rfl (lv_at hl 0 rfl) ?_
          obtain ⟨hk_x0_9, hf⟩ := gd_some hf
          refine cr_getR kc_8 CX hR fa_X8_28 rfl hk_x0_9 dX8_count_97 ?_
          refine lv_iconst (v := 2) hx hb dX8_count_100 (by decide) ?_
          obtain ⟨a4, ha4, hf⟩ := nn_some hf
          refine rf_1 ha4 ?_
          obtain ⟨hk_a4_5, hf⟩ := gd_some hf
          obtain ⟨o101, ho101, hf⟩ := bnd_some hf
          refine cr_callIv kc_4 CX hR hL hS (As := [.int 2]) (rest := []) hk_a4_5 (MC_X4_unitsAt l x N K a4 2 M o101 ho101) cv_X8_305 ⟨by omega, by omega⟩ rfl rfl (Nat.le_of_ble_eq_true rfl) hl.1 dX8_count_101 hcs (fun H locs hR hS => ?_)
          exact cr_iret CX hR hS hf dX8_count_104
        · rw [if_neg hc3] at hf
          by_cases hc4 : x1 = 4
          · rw [if_pos hc4] at hf
            refine lv_tableIn (off := 104) (tgt := 105) hx hb dX8_count_1 (by rw [hc4]; decide) (by rw [hc4]; decide) (by rw [hc4]; decide) (by decide) ?_
            refine lv_aload_n hx hb dX8_count_105 rfl (lv_at hl 0 rfl) ?_
            obtain ⟨hk_x0_9, hf⟩ := gd_some hf
            refine cr_getR kc_8 CX hR fa_X8_28 rfl hk_x0_9 dX8_count_106 ?_
            refine lv_iconst (v := 3) hx hb dX8_count_109 (by decide) ?_
            obtain ⟨a5, ha5, hf⟩ := nn_some hf
            refine rf_1 ha5 ?_
            obtain ⟨hk_a5_5, hf⟩ := gd_some hf
            obtain ⟨o110, ho110, hf⟩ := bnd_some hf
            refine cr_callIv kc_4 CX hR hL hS (As := [.int 3]) (rest := []) hk_a5_5 (MC_X4_unitsAt l x N K a5 3 M o110 ho110) cv_X8_305 ⟨by omega, by omega⟩ rfl rfl (Nat.le_of_ble_eq_true rfl) hl.1 dX8_count_110 hcs (fun H locs hR hS => ?_)
            exact cr_iret CX hR hS hf dX8_count_113
          · rw [if_neg hc4] at hf
            by_cases hc5 : x1 = 5
            · rw [if_pos hc5] at hf
              refine lv_tableIn (off := 113) (tgt := 114) hx hb dX8_count_1 (by rw [hc5]; decide) (by rw [hc5]; decide) (by rw [hc5]; decide) (by decide) ?_
              refine lv_aload_n hx hb dX8_count_114 rfl (lv_at hl 0 rfl) ?_
              obtain ⟨hk_x0_9, hf⟩ := gd_some hf
              refine cr_getR kc_8 CX hR fa_X8_38 rfl hk_x0_9 dX8_count_115 ?_
              obtain ⟨a6, ha6, hf⟩ := nn_some hf
              refine rf_0 ha6 ?_
              obtain ⟨hk_a6_1, hf⟩ := gd_some hf
              refine cr_getI kc_0 CX hR fa_X8_230 rfl hk_a6_1 dX8_count_118 ?_
              exact cr_iret CX hR hS hf dX8_count_121
            · rw [if_neg hc5] at hf
              by_cases hc6 : x1 = 6
              · rw [if_pos hc6] at hf
                refine lv_tableIn (off := 121) (tgt := 122) hx hb dX8_count_1 (by rw [hc6]; decide) (by rw [hc6]; decide) (by rw [hc6]; decide) (by decide) ?_
                refine lv_aload_n hx hb dX8_count_122 rfl (lv_at hl 0 rfl) ?_
                obtain ⟨hk_x0_9, hf⟩ := gd_some hf
                refine cr_getR kc_8 CX hR fa_X8_38 rfl hk_x0_9 dX8_count_123 ?_
                obtain ⟨a7, ha7, hf⟩ := nn_some hf
                refine rf_0 ha7 ?_
                obtain ⟨hk_a7_1, hf⟩ := gd_some hf
                refine cr_getI kc_0 CX hR fa_X8_233 rfl hk_a7_1 dX8_count_126 ?_
                exact cr_iret CX hR hS hf dX8_count_129
              · rw [if_neg hc6] at hf
                by_cases hc7 : x1 = 7
                · rw [if_pos hc7] at hf
                  refine lv_tableIn (off := 129) (tgt := 130) hx hb dX8_count_1 (by rw [hc7]; decide) (by rw [hc7]; decide) (by rw [hc7]; decide) (by decide) ?_
                  refine lv_aload_n hx hb dX8_count_130 rfl (lv_at hl 0 rfl) ?_
                  obtain ⟨hk_x0_9, hf⟩ := gd_some hf
                  refine cr_getR kc_8 CX hR fa_X8_38 rfl hk_x0_9 dX8_count_131 ?_
                  obtain ⟨a8, ha8, hf⟩ := nn_some hf
                  refine rf_0 ha8 ?_
                  obtain ⟨hk_a8_1, hf⟩ := gd_some hf
                  refine cr_getI kc_0 CX hR fa_X8_188 rfl hk_a8_1 dX8_count_134 ?_
                  exact cr_iret CX hR hS hf dX8_count_137
                · rw [if_neg hc7] at hf
                  by_cases hc8 : x1 = 8
                  · rw [if_pos hc8] at hf
                    refine lv_tableIn (off := 137) (tgt := 138) hx hb dX8_count_1 (by rw [hc8]; decide) (by rw [hc8]; decide) (by rw [hc8]; decide) (by decide) ?_
                    refine lv_aload_n hx hb dX8_count_138 rfl (lv_at hl 0 rfl) ?_
                    obtain ⟨hk_x0_9, hf⟩ := gd_some hf
                    refine cr_getR kc_8 CX hR fa_X8_28 rfl hk_x0_9 dX8_count_139 ?_
                    obtain ⟨a9, ha9, hf⟩ := nn_some hf
                    refine rf_0 ha9 ?_
                    obtain ⟨hk_a9_5, hf⟩ := gd_some hf
                    refine cr_getI kc_4 CX hR fa_X8_223 rfl hk_a9_5 dX8_count_142 ?_
                    exact cr_iret CX hR hS hf dX8_count_145
                  · rw [if_neg hc8] at hf
                    by_cases hc9 : x1 = 9
                    · rw [if_pos hc9] at hf
                      refine lv_tableIn (off := 145) (tgt := 146) hx hb dX8_count_1 (by rw [hc9]; decide) (by rw [hc9]; decide) (by rw [hc9]; decide) (by decide) ?_
                      refine lv_aload_n hx hb dX8_count_146 rfl (lv_at hl 0 rfl) ?_
                      obtain ⟨hk_x0_9, hf⟩ := gd_some hf
                      refine cr_getR kc_8 CX hR fa_X8_47 rfl hk_x0_9 dX8_count_147 ?_
                      obtain ⟨a10, ha10, hf⟩ := nn_some hf
                      refine rf_0 ha10 ?_
                      obtain ⟨hk_a10_3, hf⟩ := gd_some hf
                      refine cr_getI kc_2 CX hR fa_X8_308 rfl hk_a10_3 dX8_count_150 ?_
                      exact cr_iret CX hR hS hf dX8_count_153
                    · rw [if_neg hc9] at hf
                      by_cases hc10 : x1 = 10
                      · rw [if_pos hc10] at hf
                        refine lv_tableIn (off := 153) (tgt := 154) hx hb dX8_count_1 (by rw [hc10]; decide) (by rw [hc10]; decide) (by rw [hc10]; decide) (by decide) ?_
                        refine lv_aload_n hx hb dX8_count_154 rfl (lv_at hl 0 rfl) ?_
                        obtain ⟨hk_x0_9, hf⟩ := gd_some hf
                        refine cr_getI kc_8 CX hR fa_X8_74 rfl hk_x0_9 dX8_count_155 ?_
                        exact cr_iret CX hR hS hf dX8_count_158
                      · rw [if_neg hc10] at hf
                        by_cases hc11 : x1 = 11
                        · rw [if_pos hc11] at hf
                          refine lv_tableIn (off := 158) (tgt := 159) hx hb dX8_count_1 (by rw [hc11]; decide) (by rw [hc11]; decide) (by rw [hc11]; decide) (by decide) ?_
                          refine lv_aload_n hx hb dX8_count_159 rfl (lv_at hl 0 rfl) ?_
                          obtain ⟨hk_x0_9, hf⟩ := gd_some hf
                          refine cr_getI kc_8 CX hR fa_X8_77 rfl hk_x0_9 dX8_count_160 ?_
                          refine lv_if_eq (tgt := 170) hx hb dX8_count_163 (by decide) (fun hc => ?_) (fun hc => ?_)
                          · rw [if_pos hc] at hf
                            refine lv_iconst (v := 0) hx hb dX8_count_170 (by decide) ?_
                            exact (wbC_X8_count_171 CX hRm) _ _ _ _ _ _ hf hR hS (lv_sub hl [0] rfl)
                          · rw [if_neg hc] at hf
                            refine lv_iconst (v := 1) hx hb dX8_count_166 (by decide) ?_
                            refine lv_goto (tgt := 171) hx hb dX8_count_167 (by decide) ?_
                            exact (wbC_X8_count_171 CX hRm) _ _ _ _ _ _ hf hR hS (lv_sub hl [0] rfl)
                        · rw [if_neg hc11] at hf
                          by_cases hc12 : x1 = 12
                          · rw [if_pos hc12] at hf
                            refine lv_tableIn (off := 171) (tgt := 172) hx hb dX8_count_1 (by rw [hc12]; decide) (by rw [hc12]; decide) (by rw [hc12]; decide) (by decide) ?_
                            refine lv_aload_n hx hb dX8_count_172 rfl (lv_at hl 0 rfl) ?_
                            obtain ⟨hk_x0_9, hf⟩ := gd_some hf
                            refine cr_getR kc_8 CX hR fa_X8_28 rfl hk_x0_9 dX8_count_173 ?_
                            obtain ⟨a11, ha11, hf⟩ := nn_some hf
                            refine rf_0 ha11 ?_
                            obtain ⟨hk_a11_5, hf⟩ := gd_some hf
                            refine cr_getI kc_4 CX hR fa_X8_169 rfl hk_a11_5 dX8_count_176 ?_
                            exact cr_iret CX hR hS hf dX8_count_179
                          · rw [if_neg hc12] at hf
                            by_cases hc13 : x1 = 13
                            · rw [if_pos hc13] at hf
                              refine lv_tableIn (off := 179) (tgt := 180) hx hb dX8_count_1 (by rw [hc13]; decide) (by rw [hc13]; decide) (by rw [hc13]; decide) (by decide) ?_
                              refine lv_aload_n hx hb dX8_count_180 rfl (lv_at hl 0 rfl) ?_
                              obtain ⟨hk_x0_9, hf⟩ := gd_some hf
                              refine cr_getR kc_8 CX hR fa_X8_12 rfl hk_x0_9 dX8_count_181 ?_
                              obtain ⟨a12, ha12, hf⟩ := nn_some hf
                              refine rf_0 ha12 ?_
                              obtain ⟨hk_a12_7, hf⟩ := gd_some hf
                              refine cr_getI kc_6 CX hR fa_X8_85 rfl hk_a12_7 dX8_count_184 ?_
                              exact cr_iret CX hR hS hf dX8_count_187
                            · rw [if_neg hc13] at hf
                              have hn0 := tsw_ne (k := 0) rfl hc0
                              have hn1 := tsw_ne (k := 1) rfl hc1
                              have hn2 := tsw_ne (k := 2) rfl hc2
                              have hn3 := tsw_ne (k := 3) rfl hc3
                              have hn4 := tsw_ne (k := 4) rfl hc4
                              have hn5 := tsw_ne (k := 5) rfl hc5
                              have hn6 := tsw_ne (k := 6) rfl hc6
                              have hn7 := tsw_ne (k := 7) rfl hc7
                              have hn8 := tsw_ne (k := 8) rfl hc8
                              have hn9 := tsw_ne (k := 9) rfl hc9
                              have hn10 := tsw_ne (k := 10) rfl hc10
                              have hn11 := tsw_ne (k := 11) rfl hc11
                              have hn12 := tsw_ne (k := 12) rfl hc12
                              have hn13 := tsw_ne (k := 13) rfl hc13
                              refine lv_tableOut (tgt := 188) hx hb dX8_count_1 (by omega) (by decide) ?_
                              refine lv_iconst (v := (-1)) hx hb dX8_count_188 (by decide) ?_
                              exact cr_iret CX hR hS hf dX8_count_189
theorem MC_X8_count (l : Launch) (x : Xc) (N : Nat) (K : Ka) (x0 : Nat) (x1 : Int32) (M : Cm) (o : Int32 × Cm) (hf : fC_X8_count N K x0 x1 M = some o) : CtI l x yX8_count cX8_count 2 (some .int) 1 23 [.ref x0, .int x1] K M o :=
  cr_metI RX8 (by decide) rfl (Nat.le_of_ble_eq_true rfl) (fun p e s m args below meth c ls CX hR hl => wfC_X8_count CX ⟨Nat.le_refl _, Nat.le_refl _⟩ x0 x1 M s.heap [] ls hf hR va_S.rf hl)
