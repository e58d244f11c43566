def bC_X8_close_93 (N : Nat) (K : Ka) (r21 : Nat → Int32 → Int32 → Cm → Option (Int32 × Cm)) (k99 : Nat → Int32 → Cm → Option (Int32 × Cm)) (x0 : Nat) (x1 : Int32) (x2 : Int32) (M : Cm) : Option (Int32 × Cm) := r21 x0 x1 (x2 + (-1)) M
set_option maxRecDepth 100000 in
set_option maxHeartbeats 4000000 in
theorem wbC_X8_close_93 {p : Program} {l : Launch} {e : Env} {R : Room} {s : State} {m : MethodId} {args : Array Value} {below : List Frame} {meth : Method} {c : Code} {x : Xc} {o : Int32 × Cm} {N : Nat} {K : Ka} {r21 : Nat → Int32 → Int32 → Cm → Option (Int32 × Cm)} {k99 : Nat → Int32 → Cm → Option (Int32 × Cm)} (CX : CC p s m args meth c x K RX8 cX8_close 5 (some .int)) (hRm : 7 ≤ R.frames ∧ 167 ≤ R.locals) (hr21 : ∀ (x0 : Nat) (x1 : Int32) (x2 : Int32) (M : Cm) (H : Heap) (locs : List Loc) (ls : Array Slot), r21 x0 x1 x2 M = some o → RC x K M H → va_S (AC K) s.heap H locs → lv_has ls 5 [(0, .ref x0), (1, .int x1), (2, .int x2)] → W p l e R s m args below meth c H locs 0 0 (MQ below (CQI x K o) args s 0 0 (AC K)) (F0 m 21 ls [])) (hk99 : ∀ (x0 : Nat) (x1 : Int32) (M : Cm) (H : Heap) (locs : List Loc) (ls : Array Slot), k99 x0 x1 M = some o → RC x K M H → va_S (AC K) s.heap H locs → lv_has ls 5 [(0, .ref x0), (1, .int x1)] → W p l e R s m args below meth c H locs 0 0 (MQ below (CQI x K o) args s 0 0 (AC K)) (F0 m 99 ls [])) (x0 : Nat) (x1 : Int32) (x2 : Int32) (M : Cm) (H : Heap) (locs : List Loc) (ls : Array Slot) (hf : bC_X8_close_93 N K r21 k99 x0 x1 x2 M = some o) (hR : RC x K M H) (hS : va_S (AC K) s.heap H locs) (hl : lv_has ls 5 [(0, .ref x0), (1, .int x1), (2, .int x2)]) : W p l e R s m args below meth c H locs 0 0 (MQ below (CQI x K o) args s 0 0 (AC K)) (F0 m 93 ls []) := by
  obtain ⟨hx, hb, hml, hown, hts, hE, hB, hr, hlk⟩ := id CX
  have hL : KLe K K := KLe.rf K
  have hcs : 0 ≤ R.cells ∧ 0 ≤ R.slots := ⟨Nat.zero_le _, Nat.zero_le _⟩
  unfold bC_X8_close_93 at hf
  refine lv_iinc (v := x2 + (-1)) (lv' := [(2, .int (x2 + (-1))), (0, .ref x0), (1, .int x1)]) hx hb dX8_close_93 hl (k := 2) rfl rfl (by decide) rfl (fun ls hl => ?_)
  refine lv_goto (tgt := 21) hx hb dX8_close_96 (by decide) ?_
  exact hr21 _ _ _ _ _ _ _ hf hR hS (lv_sub hl [1, 2, 0] rfl)
def lC_X8_close_21 (N : Nat) (K : Ka) (k99 : Nat → Int32 → Cm → Option (Int32 × Cm)) : Nat → Nat → Int32 → Int32 → Cm → Option (Int32 × Cm)
  | 0, _, _, _, _ => none
  | n + 1, x0, x1, x2, M => if x2 < 0 then (k99 x0 x1 M) else (gd (kd K x0 == 9) (nn (cR M x0 4) fun a1 => gd (kd K a1 == 1) ((fC_X0_upAt N K a1 x2 0 M).bind fun o31 => (fC_X8_isUnit N K x0 o31.1 o31.2).bind fun o37 => if o37.1 = 0 then ((bC_X8_close_93 N K (lC_X8_close_21 N K k99 n) k99) x0 x1 x2 o37.2) else (nn (cR o37.2 x0 2) fun a2 => gd (kd K a2 == 5) (nn (cR o37.2 a2 0) fun a3 => gd (kd K a3 == 22) (ck o31.1 (le K a3) (if (cI o37.2 a3 (o31.1 : Int32).toNatClampNeg) = 2 then (nn (cR o37.2 x0 7) fun a4 => nn (cR o37.2 x0 5) fun a5 => gd (kd K a5 == 3) ((fC_X2_runClosing N K a5 a4 o31.1 o37.2).bind fun o65 => nn (cR o65.2 x0 2) fun a6 => gd (kd K a6 == 5) (nn (cR o65.2 a6 0) fun a7 => gd (kd K a7 == 22) (ck o31.1 (le K a7) (nn (cR (wI o65.2 a7 (o31.1 : Int32).toNatClampNeg 4) x0 4) fun a8 => gd (kd K a8 == 1) ((fC_X0_addClosed N K a8 o31.1 o65.1 (wI o65.2 a7 (o31.1 : Int32).toNatClampNeg 4)).bind fun o87 => (bC_X8_close_93 N K (lC_X8_close_21 N K k99 n) k99) x0 (x1 + 1) x2 o87)))))) else ((bC_X8_close_93 N K (lC_X8_close_21 N K k99 n) k99) x0 x1 x2 o37.2))))))))
set_option maxRecDepth 100000 in
set_option maxHeartbeats 4000000 in
theorem wlC_X8_close_21 {p : Program} {l : Launch} {e : Env} {R : Room} {s : State} {m : MethodId} {args : Array Value} {below : List Frame} {meth : Method} {c : Code} {x : Xc} {o : Int32 × Cm} {N : Nat} {K : Ka} {k99 : Nat → Int32 → Cm → Option (Int32 × Cm)} (CX : CC p s m args meth c x K RX8 cX8_close 5 (some .int)) (hRm : 7 ≤ R.frames ∧ 167 ≤ R.locals) (hk99 : ∀ (x0 : Nat) (x1 : Int32) (M : Cm) (H : Heap) (locs : List Loc) (ls : Array Slot), k99 x0 x1 M = some o → RC x K M H → va_S (AC K) s.heap H locs → lv_has ls 5 [(0, .ref x0), (1, .int x1)] → W p l e R s m args below meth c H locs 0 0 (MQ below (CQI x K o) args s 0 0 (AC K)) (F0 m 99 ls [])) : ∀ (n : Nat) (x0 : Nat) (x1 : Int32) (x2 : Int32) (M : Cm) (H : Heap) (locs : List Loc) (ls : Array Slot), lC_X8_close_21 N K k99 n x0 x1 x2 M = some o → RC x K M H → va_S (AC K) s.heap H locs → lv_has ls 5 [(0, .ref x0), (1, .int x1), (2, .int x2)] → W p l e R s m args below meth c H locs 0 0 (MQ below (CQI x K o) args s 0 0 (AC K)) (F0 m 21 ls []) := by
  obtain ⟨hx, hb, hml, hown, hts, hE, hB, hr, hlk⟩ := id CX
  have hL : KLe K K := KLe.rf K
  have hcs : 0 ≤ R.cells ∧ 0 ≤ R.slots := ⟨Nat.zero_le _, Nat.zero_le _⟩
  intro n
  induction n with
  | zero => intro x0 x1 x2 M H locs ls hf; cases hf
  | succ n ih =>
    intro x0 x1 x2 M H locs ls hf hR hS hl
    rw [lC_X8_close_21] at hf
    refine lv_iload_n hx hb dX8_close_21 rfl (lv_at hl 2 rfl) ?_
    refine lv_if_lt (tgt := 99) hx hb dX8_close_22 (by decide) (fun hc => ?_) (fun hc => ?_)
    · rw [if_pos hc] at hf
      exact hk99 _ _ _ _ _ _ hf hR hS (lv_sub hl [0, 1] rfl)
    · rw [if_neg hc] at hf
      refine lv_aload_n hx hb dX8_close_25 rfl (lv_at hl 0 rfl) ?_
      obtain ⟨hk_x0_9, hf⟩ := gd_some hf
      refine cr_getR kc_8 CX hR fa_X8_38 rfl hk_x0_9 dX8_close_26 ?_
      refine lv_iload_n hx hb dX8_close_29 rfl (lv_at hl 2 rfl) ?_
      refine lv_iconst (v := 0) hx hb dX8_close_30 (by decide) ?_
      obtain ⟨a1, ha1, hf⟩ := nn_some hf
      refine rf_2 ha1 ?_
      obtain ⟨hk_a1_1, hf⟩ := gd_some hf
      obtain ⟨o31, ho31, hf⟩ := bnd_some hf
      refine cr_callIv kc_0 CX hR hL hS (As := [.int x2, .int 0]) (rest := []) hk_a1_1 (MC_X0_upAt l x N K a1 x2 0 M o31 ho31) cv_X8_191 ⟨by omega, by omega⟩ rfl rfl (Nat.le_of_ble_eq_true rfl) hl.1 dX8_close_31 hcs (fun H locs hR hS => ?_)
      refine lv_istore_n (lv' := [(3, .int o31.1), (0, .ref x0), (1, .int x1), (2, .int x2)]) hx hb dX8_close_34 rfl hl (by decide) rfl (fun ls hl => ?_)
      refine lv_aload_n hx hb dX8_close_35 rfl (lv_at hl 1 rfl) ?_
      refine lv_iload_n hx hb dX8_close_36 rfl (lv_at hl 0 rfl) ?_
      obtain ⟨o37, ho37, hf⟩ := bnd_some hf
      refine cr_callIv kc_8 CX hR hL hS (As := [.int o31.1]) (rest := []) hk_x0_9 (MC_X8_isUnit l x N K x0 o31.1 o31.2 o37 ho37) cv_X8_162 ⟨by omega, by omega⟩ rfl rfl (Nat.le_of_ble_eq_true rfl) hl.1 dX8_close_37 hcs (fun H locs hR hS => ?_)
      refine lv_if_eq (tgt := 93) hx hb dX8_close_40 (by decide) (fun hc => ?_) (fun hc => ?_)
      · rw [if_pos hc] at hf
        exact (wbC_X8_close_93 CX hRm ih hk99) _ _ _ _ _ _ _ hf hR hS (lv_sub hl [1, 2, 3] rfl)
      · rw [if_neg hc] at hf
        refine lv_aload_n hx hb dX8_close_43 rfl (lv_at hl 1 rfl) ?_
        refine cr_getR kc_8 CX hR fa_X8_28 rfl hk_x0_9 dX8_close_44 ?_
        obtain ⟨a2, ha2, hf⟩ := nn_some hf
        refine rf_0 ha2 ?_
        obtain ⟨hk_a2_5, hf⟩ := gd_some hf
        refine cr_getR kc_4 CX hR fa_X8_195 rfl hk_a2_5 dX8_close_47 ?_
        refine lv_iload_n hx hb dX8_close_50 rfl (lv_at hl 0 rfl) ?_
        obtain ⟨a3, ha3, hf⟩ := nn_some hf
        refine rf_1 ha3 ?_
        obtain ⟨hk_a3_22, hf⟩ := gd_some hf
        obtain ⟨hi, hf⟩ := ck_some hf
        refine cr_iald CX hR hk_a3_22 hi dX8_close_51 ?_
        refine lv_iconst (v := 2) hx hb dX8_close_52 (by decide) ?_
        refine lv_icmp_ne (tgt := 93) hx hb dX8_close_53 (by decide) (fun hc => ?_) (fun hc => ?_)
        · rw [if_neg hc] at hf
          exact (wbC_X8_close_93 CX hRm ih hk99) _ _ _ _ _ _ _ hf hR hS (lv_sub hl [1, 2, 3] rfl)
        · rw [if_pos hc] at hf
          refine lv_aload_n hx hb dX8_close_56 rfl (lv_at hl 1 rfl) ?_
          refine cr_getR kc_8 CX hR fa_X8_47 rfl hk_x0_9 dX8_close_57 ?_
          refine lv_aload_n hx hb dX8_close_60 rfl (lv_at hl 1 rfl) ?_
          refine cr_getR kc_8 CX hR fa_X8_60 rfl hk_x0_9 dX8_close_61 ?_
          refine lv_iload_n hx hb dX8_close_64 rfl (lv_at hl 0 rfl) ?_
          obtain ⟨a4, ha4, hf⟩ := nn_some hf
          refine rf_1 ha4 ?_
          obtain ⟨a5, ha5, hf⟩ := nn_some hf
          refine rf_2 ha5 ?_
          obtain ⟨hk_a5_3, hf⟩ := gd_some hf
          obtain ⟨o65, ho65, hf⟩ := bnd_some hf
          refine cr_callIv kc_2 CX hR hL hS (As := [.ref a4, .int o31.1]) (rest := []) hk_a5_3 (MC_X2_runClosing l x N K a5 a4 o31.1 o37.2 o65 ho65) cv_X8_198 ⟨by omega, by omega⟩ rfl rfl (Nat.le_of_ble_eq_true rfl) hl.1 dX8_close_65 hcs (fun H locs hR hS => ?_)
          refine lv_istore (lv' := [(4, .int o65.1), (3, .int o31.1), (0, .ref x0), (1, .int x1), (2, .int x2)]) hx hb dX8_close_68 hl (by decide) rfl (fun ls hl => ?_)
          refine lv_aload_n hx hb dX8_close_70 rfl (lv_at hl 2 rfl) ?_
          refine cr_getR kc_8 CX hR fa_X8_28 rfl hk_x0_9 dX8_close_71 ?_
          obtain ⟨a6, ha6, hf⟩ := nn_some hf
          refine rf_0 ha6 ?_
          obtain ⟨hk_a6_5, hf⟩ := gd_some hf
          refine cr_getR kc_4 CX hR fa_X8_195 rfl hk_a6_5 dX8_close_74 ?_
          refine lv_iload_n hx hb dX8_close_77 rfl (lv_at hl 1 rfl) ?_
          refine lv_iconst (v := 4) hx hb dX8_close_78 (by decide) ?_
          obtain ⟨a7, ha7, hf⟩ := nn_some hf
          refine rf_2 ha7 ?_
          obtain ⟨hk_a7_22, hf⟩ := gd_some hf
          obtain ⟨hi, hf⟩ := ck_some hf
          refine cr_iast CX hR hL hS hk_a7_22 hi dX8_close_79 (fun H locs hR hS => ?_)
          refine lv_aload_n hx hb dX8_close_80 rfl (lv_at hl 2 rfl) ?_
          refine cr_getR kc_8 CX hR fa_X8_38 rfl hk_x0_9 dX8_close_81 ?_
          refine lv_iload_n hx hb dX8_close_84 rfl (lv_at hl 1 rfl) ?_
          refine lv_iload hx hb dX8_close_85 (lv_at hl 0 rfl) ?_
          obtain ⟨a8, ha8, hf⟩ := nn_some hf
          refine rf_2 ha8 ?_
          obtain ⟨hk_a8_1, hf⟩ := gd_some hf
          obtain ⟨o87, ho87, hf⟩ := bnd_some hf
          refine cr_callVv kc_0 CX hR hL hS (As := [.int o31.1, .int o65.1]) (rest := []) hk_a8_1 (MC_X0_addClosed l x N K a8 o31.1 o65.1 (wI o65.2 a7 (o31.1 : Int32).toNatClampNeg 4) o87 ho87) cv_X8_202 ⟨by omega, by omega⟩ rfl rfl (Nat.le_of_ble_eq_true rfl) hl.1 dX8_close_87 hcs (fun H locs hR hS => ?_)
          refine lv_iinc (v := x1 + 1) (lv' := [(1, .int (x1 + 1)), (4, .int o65.1), (3, .int o31.1), (0, .ref x0), (2, .int x2)]) hx hb dX8_close_90 hl (k := 3) rfl rfl (by decide) rfl (fun ls hl => ?_)
          exact (wbC_X8_close_93 CX hRm ih hk99) _ _ _ _ _ _ _ hf hR hS (lv_sub hl [3, 0, 4] rfl)
def bC_X8_close_99 (N : Nat) (K : Ka) (x0 : Nat) (x1 : Int32) (M : Cm) : Option (Int32 × Cm) := gd (kd K x0 == 9) (gd (is01 1) (some (x1, wI M x0 12 1)))
set_option maxRecDepth 100000 in
set_option maxHeartbeats 4000000 in
theorem wbC_X8_close_99 {p : Program} {l : Launch} {e : Env} {R : Room} {s : State} {m : MethodId} {args : Array Value} {below : List Frame} {meth : Method} {c : Code} {x : Xc} {o : Int32 × Cm} {N : Nat} {K : Ka} (CX : CC p s m args meth c x K RX8 cX8_close 5 (some .int)) (hRm : 7 ≤ R.frames ∧ 167 ≤ R.locals) (x0 : Nat) (x1 : Int32) (M : Cm) (H : Heap) (locs : List Loc) (ls : Array Slot) (hf : bC_X8_close_99 N K x0 x1 M = some o) (hR : RC x K M H) (hS : va_S (AC K) s.heap H locs) (hl : lv_has ls 5 [(0, .ref x0), (1, .int x1)]) : W p l e R s m args below meth c H locs 0 0 (MQ below (CQI x K o) args s 0 0 (AC K)) (F0 m 99 ls []) := by
  obtain ⟨hx, hb, hml, hown, hts, hE, hB, hr, hlk⟩ := id CX
  have hL : KLe K K := KLe.rf K
  have hcs : 0 ≤ R.cells ∧ 0 ≤ R.slots := ⟨Nat.zero_le _, Nat.zero_le _⟩
  unfold bC_X8_close_99 at hf
  refine lv_aload_n hx hb dX8_close_99 rfl (lv_at hl 0 rfl) ?_
  refine lv_iconst (v := 1) hx hb dX8_close_100 (by decide) ?_
  obtain ⟨hk_x0_9, hf⟩ := gd_some hf
  obtain ⟨hq, hf⟩ := gd_some hf
  refine cr_putZ kc_8 CX hR hL hS fa_X8_77 ⟨rfl, rfl, rfl⟩ hk_x0_9 hq dX8_close_101 (fun H locs hR hS => ?_)
  refine lv_iload_n hx hb dX8_close_104 rfl (lv_at hl 1 rfl) ?_
  exact cr_iret CX hR hS hf dX8_close_105
def fC_X8_close (N : Nat) (K : Ka) (x0 : Nat) (M : Cm) : Option (Int32 × Cm) := gd (kd K x0 == 9) (if (cI M x0 12) = 0 then (nn (cR M x0 4) fun a1 => gd (kd K a1 == 1) ((lC_X8_close_21 N K (bC_X8_close_99 N K) N) x0 0 ((cI M a1 4) - 1) M)) else (some ((-1), M)))
set_option maxRecDepth 100000 in
set_option maxHeartbeats 4000000 in
theorem wfC_X8_close {p : Program} {l : Launch} {e : Env} {R : Room} {s : State} {m : MethodId} {args : Array Value} {below : List Frame} {meth : Method} {c : Code} {x : Xc} {o : Int32 × Cm} {N : Nat} {K : Ka} (CX : CC p s m args meth c x K RX8 cX8_close 5 (some .int)) (hRm : 7 ≤ R.frames ∧ 167 ≤ R.locals) (x0 : Nat) (M : Cm) (H : Heap) (locs : List Loc) (ls : Array Slot) (hf : fC_X8_close N K x0 M = some o) (hR : RC x K M H) (hS : va_S (AC K) s.heap H locs) (hl : lv_has ls 5 [(0, .ref x0)]) : W p l e R s m args below meth c H locs 0 0 (MQ below (CQI x K o) args s 0 0 (AC K)) (F0 m 0 ls []) := by
  obtain ⟨hx, hb, hml, hown, hts, hE, hB, hr, hlk⟩ := id CX
  have hL : KLe K K := KLe.rf K
  have hcs : 0 ≤ R.cells ∧ 0 ≤ R.slots := ⟨Nat.zero_le _, Nat.zero_le _⟩
  unfold fC_X8_close at hf
  refine lv_aload_n hx hb dX8_close_0 rfl (lv_at hl 0 rfl) ?_
  obtain ⟨hk_x0_9, hf⟩ := gd_some hf
  refine cr_getI kc_8 CX hR fa_X8_77 rfl hk_x0_9 dX8_close_1 ?_
  refine lv_if_eq (tgt := 9) hx hb dX8_close_4 (by decide) (fun hc => ?_) (fun hc => ?_)
  · rw [if_pos hc] at hf
    refine lv_iconst (v := 0) hx hb dX8_close_9 (by decide) ?_
    refine lv_istore_n (lv' := [(1, .int 0), (0, .ref x0)]) hx hb dX8_close_10 rfl hl (by decide) rfl (fun ls hl => ?_)
    refine lv_aload_n hx hb dX8_close_11 rfl (lv_at hl 1 rfl) ?_
    refine cr_getR kc_8 CX hR fa_X8_38 rfl hk_x0_9 dX8_close_12 ?_
    obtain ⟨a1, ha1, hf⟩ := nn_some hf
    refine rf_0 ha1 ?_
    obtain ⟨hk_a1_1, hf⟩ := gd_some hf
    refine cr_getI kc_0 CX hR fa_X8_188 rfl hk_a1_1 dX8_close_15 ?_
    refine lv_iconst (v := 1) hx hb dX8_close_18 (by decide) ?_
    refine lv_isub hx hb dX8_close_19 ?_
    refine lv_istore_n (lv' := [(2, .int ((cI M a1 4) - 1)), (1, .int 0), (0, .ref x0)]) hx hb dX8_close_20 rfl hl (by decide) rfl (fun ls hl => ?_)
    exact (wlC_X8_close_21 CX hRm (wbC_X8_close_99 CX hRm) N) _ _ _ _ _ _ _ hf hR hS (lv_sub hl [2, 1, 0] rfl)
  · rw [if_neg hc] at hf
    refine lv_iconst (v := (-1)) hx hb dX8_close_7 (by decide) ?_
    exact cr_iret CX hR hS hf dX8_close_8
theorem MC_X8_close (l : Launch) (x : Xc) (N : Nat) (K : Ka) (x0 : Nat) (M : Cm) (o : Int32 × Cm) (hf : fC_X8_close N K x0 M = some o) : CtI l x yX8_close cX8_close 5 (some .int) 7 167 [.ref x0] K M o :=
  cr_metI RX8 (by decide) rfl (Nat.le_of_ble_eq_true rfl) (fun p e s m args below meth c ls CX hR hl => wfC_X8_close CX ⟨Nat.le_refl _, Nat.le_refl _⟩ x0 M s.heap [] ls hf hR va_S.rf hl)
def bC_X8_beat_11 (N : Nat) (K : Ka) (x0 : Nat) (M : Cm) : Option (Int32 × Cm) := some ((-1), M)
set_option maxRecDepth 100000 in
set_option maxHeartbeats 4000000 in
theorem wbC_X8_beat_11 {p : Program} {l : Launch} {e : Env} {R : Room} {s : State} {m : MethodId} {args : Array Value} {below : List Frame} {meth : Method} {c : Code} {x : Xc} {o : Int32 × Cm} {N : Nat} {K : Ka} (CX : CC p s m args meth c x K RX8 cX8_beat 9 (some .int)) (hRm : 1 ≤ R.frames ∧ 40 ≤ R.locals) (x0 : Nat) (M : Cm) (H : Heap) (locs : List Loc) (ls : Array Slot) (hf : bC_X8_beat_11 N K x0 M = some o) (hR : RC x K M H) (hS : va_S (AC K) s.heap H locs) (hl : lv_has ls 9 [(0, .ref x0)]) : W p l e R s m args below meth c H locs 0 0 (MQ below (CQI x K o) args s 0 0 (AC K)) (F0 m 11 ls []) := by
  obtain ⟨hx, hb, hml, hown, hts, hE, hB, hr, hlk⟩ := id CX
  have hL : KLe K K := KLe.rf K
  have hcs : 0 ≤ R.cells ∧ 0 ≤ R.slots := ⟨Nat.zero_le _, Nat.zero_le _⟩
  unfold bC_X8_beat_11 at hf
  refine lv_iconst (v := (-1)) hx hb dX8_beat_11 (by decide) ?_
  exact cr_iret CX hR hS hf dX8_beat_12
def lC_X8_beat_15 (N : Nat) (K : Ka) (k106 : Nat → Int32 → Cm → Option (Int32 × Cm)) : Nat → Nat → Int32 → Int32 → Cm → Option (Int32 × Cm)
  | 0, _, _, _, _ => none
  | n + 1, x0, x1, x2, M => gd (kd K x0 == 9) (nn (cR M x0 7) fun a1 => gd (kd K a1 == 6) (if (cI M a1 10) ≤ x2 then (k106 x0 x1 M) else (nn (cR M x0 2) fun a2 => gd (kd K a2 == 5) (nn (cR M a2 9) fun a3 => gd (kd K a3 == 22) (ck x2 (le K a3) (nn (cR M x0 2) fun a4 => gd (kd K a4 == 5) (nn (cR M a4 8) fun a5 => gd (kd K a5 == 22) (ck x2 (le K a5) (nn (cR M x0 7) fun a6 => gd (kd K a6 == 6) (nn (cR M a6 3) fun a7 => gd (kd K a7 == 22) (ck x2 (le K a7) (nn (cR M x0 2) fun a8 => gd (kd K a8 == 5) (nn (cR M x0 2) fun a9 => gd (kd K a9 == 5) (nn (cR M a9 8) fun a10 => gd (kd K a10 == 22) (ck x2 (le K a10) (nn (cR M a8 8) fun a11 => gd (kd K a11 == 22) (ck x2 (le K a11) (lC_X8_beat_15 N K k106 n x0 x1 (x2 + 1) (wI M a11 (x2 : Int32).toNatClampNeg ((((cI M a10 (x2 : Int32).toNatClampNeg : Int32).toInt64) + (if (if (((cI M a3 (x2 : Int32).toNatClampNeg : Int32).toInt64) - ((cI M a5 (x2 : Int32).toNatClampNeg : Int32).toInt64)) < (((cI M a7 (x2 : Int32).toNatClampNeg : Int32).toInt64) * ((x1 : Int32).toInt64)) then (((cI M a3 (x2 : Int32).toNatClampNeg : Int32).toInt64) - ((cI M a5 (x2 : Int32).toNatClampNeg : Int32).toInt64)) else (((cI M a7 (x2 : Int32).toNatClampNeg : Int32).toInt64) * ((x1 : Int32).toInt64))) < (-(((cI M a7 (x2 : Int32).toNatClampNeg : Int32).toInt64) * ((x1 : Int32).toInt64))) then (-(((cI M a7 (x2 : Int32).toNatClampNeg : Int32).toInt64) * ((x1 : Int32).toInt64))) else (if (((cI M a3 (x2 : Int32).toNatClampNeg : Int32).toInt64) - ((cI M a5 (x2 : Int32).toNatClampNeg : Int32).toInt64)) < (((cI M a7 (x2 : Int32).toNatClampNeg : Int32).toInt64) * ((x1 : Int32).toInt64)) then (((cI M a3 (x2 : Int32).toNatClampNeg : Int32).toInt64) - ((cI M a5 (x2 : Int32).toNatClampNeg : Int32).toInt64)) else (((cI M a7 (x2 : Int32).toNatClampNeg : Int32).toInt64) * ((x1 : Int32).toInt64)))) : Int64).toInt32))))))))))))))))))))
set_option maxRecDepth 100000 in
set_option maxHeartbeats 4000000 in
theorem wlC_X8_beat_15 {p : Program} {l : Launch} {e : Env} {R : Room} {s : State} {m : MethodId} {args : Array Value} {below : List Frame} {meth : Method} {c : Code} {x : Xc} {o : Int32 × Cm} {N : Nat} {K : Ka} {k106 : Nat → Int32 → Cm → Option (Int32 × Cm)} (CX : CC p s m args meth c x K RX8 cX8_beat 9 (some .int)) (hRm : 1 ≤ R.frames ∧ 40 ≤ R.locals) (hk106 : ∀ (x0 : Nat) (x1 : Int32) (M : Cm) (H : Heap) (locs : List Loc) (ls : Array Slot), k106 x0 x1 M = some o → RC x K M H → va_S (AC K) s.heap H locs → lv_has ls 9 [(0, .ref x0), (1, .int x1)] → W p l e R s m args below meth c H locs 0 0 (MQ below (CQI x K o) args s 0 0 (AC K)) (F0 m 106 ls [])) : ∀ (n : Nat) (x0 : Nat) (x1 : Int32) (x2 : Int32) (M : Cm) (H : Heap) (locs : List Loc) (ls : Array Slot), lC_X8_beat_15 N K k106 n x0 x1 x2 M = some o → RC x K M H → va_S (AC K) s.heap H locs → lv_has ls 9 [(0, .ref x0), (1, .int x1), (2, .int x2)] → W p l e R s m args below meth c H locs 0 0 (MQ below (CQI x K o) args s 0 0 (AC K)) (F0 m 15 ls []) := by
  obtain ⟨hx, hb, hml, hown, hts, hE, hB, hr, hlk⟩ := id CX
  have hL : KLe K K := KLe.rf K
  have hcs : 0 ≤ R.cells ∧ 0 ≤ R.slots := ⟨Nat.zero_le _, Nat.zero_le _⟩
  intro n
  induction n with
  | zero => intro x0 x1 x2 M H locs ls hf; cases hf
  | succ n ih =>
    intro x0 x1 x2 M H locs ls hf hR hS hl
    rw [lC_X8_beat_15] at hf
    refine lv_iload_n hx hb dX8_beat_15 rfl (lv_at hl 2 rfl) ?_
    refine lv_aload_n hx hb dX8_beat_16 rfl (lv_at hl 0 rfl) ?_
    obtain ⟨hk_x0_9, hf⟩ := gd_some hf
    refine cr_getR kc_8 CX hR fa_X8_60 rfl hk_x0_9 dX8_beat_17 ?_
    obtain ⟨a1, ha1, hf⟩ := nn_some hf
    refine rf_0 ha1 ?_
    obtain ⟨hk_a1_6, hf⟩ := gd_some hf
    refine cr_getI kc_5 CX hR fa_X8_123 rfl hk_a1_6 dX8_beat_20 ?_
    refine lv_icmp_ge (tgt := 106) hx hb dX8_beat_23 (by decide) (fun hc => ?_) (fun hc => ?_)
    · rw [if_pos hc] at hf
      exact hk106 _ _ _ _ _ _ hf hR hS (lv_sub hl [0, 1] rfl)
    · rw [if_neg hc] at hf
      refine lv_aload_n hx hb dX8_beat_26 rfl (lv_at hl 0 rfl) ?_
      refine cr_getR kc_8 CX hR fa_X8_28 rfl hk_x0_9 dX8_beat_27 ?_
      obtain ⟨a2, ha2, hf⟩ := nn_some hf
      refine rf_0 ha2 ?_
      obtain ⟨hk_a2_5, hf⟩ := gd_some hf
      refine cr_getR kc_4 CX hR fa_X8_205 rfl hk_a2_5 dX8_beat_30 ?_
      refine lv_iload_n hx hb dX8_beat_33 rfl (lv_at hl 2 rfl) ?_
      obtain ⟨a3, ha3, hf⟩ := nn_some hf
      refine rf_1 ha3 ?_
      obtain ⟨hk_a3_22, hf⟩ := gd_some hf
      obtain ⟨hi, hf⟩ := ck_some hf
      refine cr_iald CX hR hk_a3_22 hi dX8_beat_34 ?_
      refine lv_i2l (v := (cI M a3 (x2 : Int32).toNatClampNeg : Int32).toInt64) hx hb dX8_beat_35 rfl ?_
      refine lv_aload_n hx hb dX8_beat_36 rfl (lv_at hl 0 rfl) ?_
      refine cr_getR kc_8 CX hR fa_X8_28 rfl hk_x0_9 dX8_beat_37 ?_
      obtain ⟨a4, ha4, hf⟩ := nn_some hf
      refine rf_0 ha4 ?_
      obtain ⟨hk_a4_5, hf⟩ := gd_some hf
      refine cr_getR kc_4 CX hR fa_X8_208 rfl hk_a4_5 dX8_beat_40 ?_
      refine lv_iload_n hx hb dX8_beat_43 rfl (lv_at hl 2 rfl) ?_
      obtain ⟨a5, ha5, hf⟩ := nn_some hf
      refine rf_1 ha5 ?_
      obtain ⟨hk_a5_22, hf⟩ := gd_some hf
      obtain ⟨hi, hf⟩ := ck_some hf
      refine cr_iald CX hR hk_a5_22 hi dX8_beat_44 ?_
      refine lv_i2l (v := (cI M a5 (x2 : Int32).toNatClampNeg : Int32).toInt64) hx hb dX8_beat_45 rfl ?_
      refine lv_lsub hx hb dX8_beat_46 ?_
      refine lv_lstore_n (lv' := [(3, .long (((cI M a3 (x2 : Int32).toNatClampNeg : Int32).toInt64) - ((cI M a5 (x2 : Int32).toNatClampNeg : Int32).toInt64))), (0, .ref x0), (1, .int x1), (2, .int x2)]) hx hb dX8_beat_47 rfl hl (by decide) rfl (fun ls hl => ?_)
      refine lv_aload_n hx hb dX8_beat_48 rfl (lv_at hl 1 rfl) ?_
      refine cr_getR kc_8 CX hR fa_X8_60 rfl hk_x0_9 dX8_beat_49 ?_
      obtain ⟨a6, ha6, hf⟩ := nn_some hf
      refine rf_0 ha6 ?_
      obtain ⟨hk_a6_6, hf⟩ := gd_some hf
      refine cr_getR kc_5 CX hR fa_X8_211 rfl hk_a6_6 dX8_beat_52 ?_
      refine lv_iload_n hx hb dX8_beat_55 rfl (lv_at hl 3 rfl) ?_
      obtain ⟨a7, ha7, hf⟩ := nn_some hf
      refine rf_1 ha7 ?_
      obtain ⟨hk_a7_22, hf⟩ := gd_some hf
      obtain ⟨hi, hf⟩ := ck_some hf
      refine cr_iald CX hR hk_a7_22 hi dX8_beat_56 ?_
      refine lv_i2l (v := (cI M a7 (x2 : Int32).toNatClampNeg : Int32).toInt64) hx hb dX8_beat_57 rfl ?_
      refine lv_iload_n hx hb dX8_beat_58 rfl (lv_at hl 2 rfl) ?_
      refine lv_i2l (v := (x1 : Int32).toInt64) hx hb dX8_beat_59 rfl ?_
      refine lv_lmul hx hb dX8_beat_60 ?_
      refine lv_lstore (lv' := [(5, .long (((cI M a7 (x2 : Int32).toNatClampNeg : Int32).toInt64) * ((x1 : Int32).toInt64))), (3, .long (((cI M a3 (x2 : Int32).toNatClampNeg : Int32).toInt64) - ((cI M a5 (x2 : Int32).toNatClampNeg : Int32).toInt64))), (0, .ref x0), (1, .int x1), (2, .int x2)]) hx hb dX8_beat_61 hl (by decide) rfl (fun ls hl => ?_)
      refine lv_lload hx hb dX8_beat_63 (lv_at hl 0 rfl) ?_
      refine lv_lneg hx hb dX8_beat_65 ?_
      refine lv_lload hx hb dX8_beat_66 (lv_at hl 0 rfl) ?_
      refine lv_lload_n hx hb dX8_beat_68 rfl (lv_at hl 1 rfl) ?_
      refine cr_minL CX wl_X8_214 hl.1 (by omega) (by omega) (Nat.le_of_ble_eq_true rfl) hcs dX8_beat_69 ?_
      refine cr_maxL CX wl_X8_220 hl.1 (by omega) (by omega) (Nat.le_of_ble_eq_true rfl) hcs dX8_beat_72 ?_
      refine lv_lstore (lv' := [(7, .long (if (if (((cI M a3 (x2 : Int32).toNatClampNeg : Int32).toInt64) - ((cI M a5 (x2 : Int32).toNatClampNeg : Int32).toInt64)) < (((cI M a7 (x2 : Int32).toNatClampNeg : Int32).toInt64) * ((x1 : Int32).toInt64)) then (((cI M a3 (x2 : Int32).toNatClampNeg : Int32).toInt64) - ((cI M a5 (x2 : Int32).toNatClampNeg : Int32).toInt64)) else (((cI M a7 (x2 : Int32).toNatClampNeg : Int32).toInt64) * ((x1 : Int32).toInt64))) < (-(((cI M a7 (x2 : Int32).toNatClampNeg : Int32).toInt64) * ((x1 : Int32).toInt64))) then (-(((cI M a7 (x2 : Int32).toNatClampNeg : Int32).toInt64) * ((x1 : Int32).toInt64))) else (if (((cI M a3 (x2 : Int32).toNatClampNeg : Int32).toInt64) - ((cI M a5 (x2 : Int32).toNatClampNeg : Int32).toInt64)) < (((cI M a7 (x2 : Int32).toNatClampNeg : Int32).toInt64) * ((x1 : Int32).toInt64)) then (((cI M a3 (x2 : Int32).toNatClampNeg : Int32).toInt64) - ((cI M a5 (x2 : Int32).toNatClampNeg : Int32).toInt64)) else (((cI M a7 (x2 : Int32).toNatClampNeg : Int32).toInt64) * ((x1 : Int32).toInt64))))), (5, .long (((cI M a7 (x2 : Int32).toNatClampNeg : Int32).toInt64) * ((x1 : Int32).toInt64))), (3, .long (((cI M a3 (x2 : Int32).toNatClampNeg : Int32).toInt64) - ((cI M a5 (x2 : Int32).toNatClampNeg : Int32).toInt64))), (0, .ref x0), (1, .int x1), (2, .int x2)]) hx hb dX8_beat_75 hl (by decide) rfl (fun ls hl => ?_)
      refine lv_aload_n hx hb dX8_beat_77 rfl (lv_at hl 3 rfl) ?_
      refine cr_getR kc_8 CX hR fa_X8_28 rfl hk_x0_9 dX8_beat_78 ?_
      obtain ⟨a8, ha8, hf⟩ := nn_some hf
      refine rf_0 ha8 ?_
      obtain ⟨hk_a8_5, hf⟩ := gd_some hf
      refine cr_getR kc_4 CX hR fa_X8_208 rfl hk_a8_5 dX8_beat_81 ?_
      refine lv_iload_n hx hb dX8_beat_84 rfl (lv_at hl 5 rfl) ?_
      refine lv_aload_n hx hb dX8_beat_85 rfl (lv_at hl 3 rfl) ?_
      refine cr_getR kc_8 CX hR fa_X8_28 rfl hk_x0_9 dX8_beat_86 ?_
      obtain ⟨a9, ha9, hf⟩ := nn_some hf
      refine rf_0 ha9 ?_
      obtain ⟨hk_a9_5, hf⟩ := gd_some hf
      refine cr_getR kc_4 CX hR fa_X8_208 rfl hk_a9_5 dX8_beat_89 ?_
      refine lv_iload_n hx hb dX8_beat_92 rfl (lv_at hl 5 rfl) ?_
      obtain ⟨a10, ha10, hf⟩ := nn_some hf
      refine rf_1 ha10 ?_
      obtain ⟨hk_a10_22, hf⟩ := gd_some hf
      obtain ⟨hi, hf⟩ := ck_some hf
      refine cr_iald CX hR hk_a10_22 hi dX8_beat_93 ?_
      refine lv_i2l (v := (cI M a10 (x2 : Int32).toNatClampNeg : Int32).toInt64) hx hb dX8_beat_94 rfl ?_
      refine lv_lload hx hb dX8_beat_95 (lv_at hl 0 rfl) ?_
      refine lv_ladd hx hb dX8_beat_97 ?_
      refine lv_l2i (v := (((cI M a10 (x2 : Int32).toNatClampNeg : Int32).toInt64) + (if (if (((cI M a3 (x2 : Int32).toNatClampNeg : Int32).toInt64) - ((cI M a5 (x2 : Int32).toNatClampNeg : Int32).toInt64)) < (((cI M a7 (x2 : Int32).toNatClampNeg : Int32).toInt64) * ((x1 : Int32).toInt64)) then (((cI M a3 (x2 : Int32).toNatClampNeg : Int32).toInt64) - ((cI M a5 (x2 : Int32).toNatClampNeg : Int32).toInt64)) else (((cI M a7 (x2 : Int32).toNatClampNeg : Int32).toInt64) * ((x1 : Int32).toInt64))) < (-(((cI M a7 (x2 : Int32).toNatClampNeg : Int32).toInt64) * ((x1 : Int32).toInt64))) then (-(((cI M a7 (x2 : Int32).toNatClampNeg : Int32).toInt64) * ((x1 : Int32).toInt64))) else (if (((cI M a3 (x2 : Int32).toNatClampNeg : Int32).toInt64) - ((cI M a5 (x2 : Int32).toNatClampNeg : Int32).toInt64)) < (((cI M a7 (x2 : Int32).toNatClampNeg : Int32).toInt64) * ((x1 : Int32).toInt64)) then (((cI M a3 (x2 : Int32).toNatClampNeg : Int32).toInt64) - ((cI M a5 (x2 : Int32).toNatClampNeg : Int32).toInt64)) else (((cI M a7 (x2 : Int32).toNatClampNeg : Int32).toInt64) * ((x1 : Int32).toInt64)))) : Int64).toInt32) hx hb dX8_beat_98 rfl ?_
      obtain ⟨a11, ha11, hf⟩ := nn_some hf
      refine rf_2 ha11 ?_
      obtain ⟨hk_a11_22, hf⟩ := gd_some hf
      obtain ⟨hi, hf⟩ := ck_some hf
      refine cr_iast CX hR hL hS hk_a11_22 hi dX8_beat_99 (fun H locs hR hS => ?_)
      refine lv_iinc (v := x2 + 1) (lv' := [(2, .int (x2 + 1)), (7, .long (if (if (((cI M a3 (x2 : Int32).toNatClampNeg : Int32).toInt64) - ((cI M a5 (x2 : Int32).toNatClampNeg : Int32).toInt64)) < (((cI M a7 (x2 : Int32).toNatClampNeg : Int32).toInt64) * ((x1 : Int32).toInt64)) then (((cI M a3 (x2 : Int32).toNatClampNeg : Int32).toInt64) - ((cI M a5 (x2 : Int32).toNatClampNeg : Int32).toInt64)) else (((cI M a7 (x2 : Int32).toNatClampNeg : Int32).toInt64) * ((x1 : Int32).toInt64))) < (-(((cI M a7 (x2 : Int32).toNatClampNeg : Int32).toInt64) * ((x1 : Int32).toInt64))) then (-(((cI M a7 (x2 : Int32).toNatClampNeg : Int32).toInt64) * ((x1 : Int32).toInt64))) else (if (((cI M a3 (x2 : Int32).toNatClampNeg : Int32).toInt64) - ((cI M a5 (x2 : Int32).toNatClampNeg : Int32).toInt64)) < (((cI M a7 (x2 : Int32).toNatClampNeg : Int32).toInt64) * ((x1 : Int32).toInt64)) then (((cI M a3 (x2 : Int32).toNatClampNeg : Int32).toInt64) - ((cI M a5 (x2 : Int32).toNatClampNeg : Int32).toInt64)) else (((cI M a7 (x2 : Int32).toNatClampNeg : Int32).toInt64) * ((x1 : Int32).toInt64))))), (5, .long (((cI M a7 (x2 : Int32).toNatClampNeg : Int32).toInt64) * ((x1 : Int32).toInt64))), (3, .long (((cI M a3 (x2 : Int32).toNatClampNeg : Int32).toInt64) - ((cI M a5 (x2 : Int32).toNatClampNeg : Int32).toInt64))), (0, .ref x0), (1, .int x1)]) hx hb dX8_beat_100 hl (k := 5) rfl rfl (by decide) rfl (fun ls hl => ?_)
      refine lv_goto (tgt := 15) hx hb dX8_beat_103 (by decide) ?_
      exact ih _ _ _ _ _ _ _ hf hR hS (lv_sub hl [4, 5, 0] rfl)
def bC_X8_beat_106 (N : Nat) (K : Ka) (x0 : Nat) (x1 : Int32) (M : Cm) : Option (Int32 × Cm) := gd (kd K x0 == 9) (nn (cR M x0 2) fun a1 => gd (kd K a1 == 5) (nn (cR (wI M a1 11 ((cI M a1 11) + x1)) x0 2) fun a2 => gd (kd K a2 == 5) (some (cI (wI M a1 11 ((cI M a1 11) + x1)) a2 11, wI M a1 11 ((cI M a1 11) + x1)))))
set_option maxRecDepth 100000 in
set_option maxHeartbeats 4000000 in
theorem wbC_X8_beat_106 {p : Program} {l : Launch} {e : Env} {R : Room} {s : State} {m : MethodId} {args : Array Value} {below : List Frame} {meth : Method} {c : Code} {x : Xc} {o : Int32 × Cm} {N : Nat} {K : Ka} (CX : CC p s m args meth c x K RX8 cX8_beat 9 (some .int)) (hRm : 1 ≤ R.frames ∧ 40 ≤ R.locals) (x0 : Nat) (x1 : Int32) (M : Cm) (H : Heap) (locs : List Loc) (ls : Array Slot) (hf : bC_X8_beat_106 N K x0 x1 M = some o) (hR : RC x K M H) (hS : va_S (AC K) s.heap H locs) (hl : lv_has ls 9 [(0, .ref x0), (1, .int x1)]) : W p l e R s m args below meth c H locs 0 0 (MQ below (CQI x K o) args s 0 0 (AC K)) (F0 m 106 ls []) := by
  obtain ⟨hx, hb, hml, hown, hts, hE, hB, hr, hlk⟩ := id CX
  have hL : KLe K K := KLe.rf K
  have hcs : 0 ≤ R.cells ∧ 0 ≤ R.slots := ⟨Nat.zero_le _, Nat.zero_le _⟩
  unfold bC_X8_beat_106 at hf
  refine lv_aload_n hx hb dX8_beat_106 rfl (lv_at hl 0 rfl) ?_
  obtain ⟨hk_x0_9, hf⟩ := gd_some hf
  refine cr_getR kc_8 CX hR fa_X8_28 rfl hk_x0_9 dX8_beat_107 ?_
  obtain ⟨a1, ha1, hf⟩ := nn_some hf
  refine rf_0 ha1 ?_
  refine lv_dup hx hb dX8_beat_110 rfl ?_
  obtain ⟨hk_a1_5, hf⟩ := gd_some hf
  refine cr_getI kc_4 CX hR fa_X8_223 rfl hk_a1_5 dX8_beat_111 ?_
  refine lv_iload_n hx hb dX8_beat_114 rfl (lv_at hl 1 rfl) ?_
  refine lv_iadd hx hb dX8_beat_115 ?_
  refine cr_putI kc_4 CX hR hL hS fa_X8_223 ⟨rfl, rfl, rfl⟩ hk_a1_5 dX8_beat_116 (fun H locs hR hS => ?_)
  refine lv_aload_n hx hb dX8_beat_119 rfl (lv_at hl 0 rfl) ?_
  refine cr_getR kc_8 CX hR fa_X8_28 rfl hk_x0_9 dX8_beat_120 ?_
  obtain ⟨a2, ha2, hf⟩ := nn_some hf
  refine rf_0 ha2 ?_
  obtain ⟨hk_a2_5, hf⟩ := gd_some hf
  refine cr_getI kc_4 CX hR fa_X8_223 rfl hk_a2_5 dX8_beat_123 ?_
  exact cr_iret CX hR hS hf dX8_beat_126
def fC_X8_beat (N : Nat) (K : Ka) (x0 : Nat) (x1 : Int32) (M : Cm) : Option (Int32 × Cm) := if x1 < 0 then ((bC_X8_beat_11 N K) x0 M) else (if x1 ≤ 1000 then ((lC_X8_beat_15 N K (bC_X8_beat_106 N K) N) x0 x1 0 M) else ((bC_X8_beat_11 N K) x0 M))
set_option maxRecDepth 100000 in
set_option maxHeartbeats 4000000 in
theorem wfC_X8_beat {p : Program} {l : Launch} {e : Env} {R : Room} {s : State} {m : MethodId} {args : Array Value} {below : List Frame} {meth : Method} {c : Code} {x : Xc} {o : Int32 × Cm} {N : Nat} {K : Ka} (CX : CC p s m args meth c x K RX8 cX8_beat 9 (some .int)) (hRm : 1 ≤ R.frames ∧ 40 ≤ R.locals) (x0 : Nat) (x1 : Int32) (M : Cm) (H : Heap) (locs : List Loc) (ls : Array Slot) (hf : fC_X8_beat N K x0 x1 M = some o) (hR : RC x K M H) (hS : va_S (AC K) s.heap H locs) (hl : lv_has ls 9 [(0, .ref x0), (1, .int x1)]) : W p l e R s m args below meth c H locs 0 0 (MQ below (CQI x K o) args s 0 0 (AC K)) (F0 m 0 ls []) := by
  obtain ⟨hx, hb, hml, hown, hts, hE, hB, hr, hlk⟩ := id CX
  have hL : KLe K K := KLe.rf K
  have hcs : 0 ≤ R.cells ∧ 0 ≤ R.slots := ⟨Nat.zero_le _, Nat.zero_le _⟩
  unfold fC_X8_beat at hf
  refine lv_iload_n hx hb dX8_beat_0 rfl (lv_at hl 1 rfl) ?_
  refine lv_if_lt (tgt := 11) hx hb dX8_beat_1 (by decide) (fun hc => ?_) (fun hc => ?_)
  · rw [if_pos hc] at hf
    exact (wbC_X8_beat_11 CX hRm) _ _ _ _ _ hf hR hS (lv_sub hl [0] rfl)
  · rw [if_neg hc] at hf
    refine lv_iload_n hx hb dX8_beat_4 rfl (lv_at hl 1 rfl) ?_
    refine lv_sipush (v := 1000) hx hb dX8_beat_5 (by decide) ?_
    refine lv_icmp_le (tgt := 13) hx hb dX8_beat_8 (by decide) (fun hc => ?_) (fun hc => ?_)
    · rw [if_pos hc] at hf
      refine lv_iconst (v := 0) hx hb dX8_beat_13 (by decide) ?_
      refine lv_istore_n (lv' := [(2, .int 0), (0, .ref x0), (1, .int x1)]) hx hb dX8_beat_14 rfl hl (by decide) rfl (fun ls hl => ?_)
      exact (wlC_X8_beat_15 CX hRm (wbC_X8_beat_106 CX hRm) N) _ _ _ _ _ _ _ hf hR hS (lv_sub hl [1, 2, 0] rfl)
    · rw [if_neg hc] at hf
      exact (wbC_X8_beat_11 CX hRm) _ _ _ _ _ hf hR hS (lv_sub hl [0] rfl)
theorem MC_X8_beat (l : Launch) (x : Xc) (N : Nat) (K : Ka) (x0 : Nat) (x1 : Int32) (M : Cm) (o : Int32 × Cm) (hf : fC_X8_beat N K x0 x1 M = some o) : CtI l x yX8_beat cX8_beat 9 (some .int) 1 40 [.ref x0, .int x1] K M o :=
  cr_metI RX8 (by decide) rfl (Nat.le_of_ble_eq_true rfl) (fun p e s m args below meth c ls CX hR hl => wfC_X8_beat CX ⟨Nat.le_refl _, Nat.le_refl _⟩ x0 x1 M s.heap [] ls hf hR va_S.rf hl)
def bC_X8_foresee_16 (N : Nat) (K : Ka) (x0 : Nat) (M : Cm) : Option (Int32 × Cm) := some ((-1), M)
set_option maxRecDepth 100000 in
set_option maxHeartbeats 4000000 in
theorem wbC_X8_foresee_16 {p : Program} {l : Launch} {e : Env} {R : Room} {s : State} {m : MethodId} {args : Array Value} {below : List Frame} {meth : Method} {c : Code} {x : Xc} {o : Int32 × Cm} {N : Nat} {K : Ka} (CX : CC p s m args meth c x K RX8 cX8_foresee 7 (some .int)) (hRm : 7 ≤ R.frames ∧ 167 ≤ R.locals) (x0 : Nat) (M : Cm) (H : Heap) (locs : List Loc) (ls : Array Slot) (hf : bC_X8_foresee_16 N K x0 M = some o) (hR : RC x K M H) (hS : va_S (AC K) s.heap H locs) (hl : lv_has ls 7 [(0, .ref x0)]) : W p l e R s m args below meth c H locs 0 0 (MQ below (CQI x K o) args s 0 0 (AC K)) (F0 m 16 ls []) := by
  obtain ⟨hx, hb, hml, hown, hts, hE, hB, hr, hlk⟩ := id CX
  have hL : KLe K K := KLe.rf K
  have hcs : 0 ≤ R.cells ∧ 0 ≤ R.slots := ⟨Nat.zero_le _, Nat.zero_le _⟩
  unfold bC_X8_foresee_16 at hf
  refine lv_iconst (v := (-1)) hx hb dX8_foresee_16 (by decide) ?_
  exact cr_iret CX hR hS hf dX8_foresee_17
def lC_X8_foresee_76 (N : Nat) (K : Ka) (k132 : Nat → Int32 → Int32 → Int32 → Cm → Option (Int32 × Cm)) : Nat → Nat → Int32 → Int32 → Int32 → Int32 → Cm → Option (Int32 × Cm)
  | 0, _, _, _, _, _, _ => none
  | n + 1, x0, x3, x4, x5, x6, M => gd (kd K x0 == 9) (nn (cR M x0 4) fun a1 => gd (kd K a1 == 1) (if (cI M a1 4) ≤ x6 then (k132 x0 x3 x4 x5 M) else (if 24 ≤ (cI M x0 8) then (k132 x0 x3 x4 x5 M) else (nn (cR M x0 4) fun a2 => nn (cR M x0 6) fun a3 => gd (kd K a2 == 1) ((fC_X0_upAt N K a2 x6 0 M).bind fun o112 => gd (kd K a3 == 22) (ck (cI M x0 8) (le K a3) (lC_X8_foresee_76 N K k132 n x0 x3 x4 x5 (x6 + 1) (wI (wI o112.2 a3 (cI M x0 8 : Int32).toNatClampNeg o112.1) x0 8 ((cI (wI o112.2 a3 (cI M x0 8 : Int32).toNatClampNeg o112.1) x0 8) + 1)))))))))
set_option maxRecDepth 100000 in
set_option maxHeartbeats 4000000 in
theorem wlC_X8_foresee_76 {p : Program} {l : Launch} {e : Env} {R : Room} {s : State} {m : MethodId} {args : Array Value} {below : List Frame} {meth : Method} {c : Code} {x : Xc} {o : Int32 × Cm} {N : Nat} {K : Ka} {k132 : Nat → Int32 → Int32 → Int32 → Cm → Option (Int32 × Cm)} (CX : CC p s m args meth c x K RX8 cX8_foresee 7 (some .int)) (hRm : 7 ≤ R.frames ∧ 167 ≤ R.locals) (hk132 : ∀ (x0 : Nat) (x3 : Int32) (x4 : Int32) (x5 : Int32) (M : Cm) (H : Heap) (locs : List Loc) (ls : Array Slot), k132 x0 x3 x4 x5 M = some o → RC x K M H → va_S (AC K) s.heap H locs → lv_has ls 7 [(0, .ref x0), (3, .int x3), (4, .int x4), (5, .int x5)] → W p l e R s m args below meth c H locs 0 0 (MQ below (CQI x K o) args s 0 0 (AC K)) (F0 m 132 ls [])) : ∀ (n : Nat) (x0 : Nat) (x3 : Int32) (x4 : Int32) (x5 : Int32) (x6 : Int32) (M : Cm) (H : Heap) (locs : List Loc) (ls : Array Slot), lC_X8_foresee_76 N K k132 n x0 x3 x4 x5 x6 M = some o → RC x K M H → va_S (AC K) s.heap H locs → lv_has ls 7 [(0, .ref x0), (3, .int x3), (4, .int x4), (5, .int x5), (6, .int x6)] → W p l e R s m args below meth c H locs 0 0 (MQ below (CQI x K o) args s 0 0 (AC K)) (F0 m 76 ls []) := by
  obtain ⟨hx, hb, hml, hown, hts, hE, hB, hr, hlk⟩ := id CX
  have hL : KLe K K := KLe.rf K
  have hcs : 0 ≤ R.cells ∧ 0 ≤ R.slots := ⟨Nat.zero_le _, Nat.zero_le _⟩
  intro n
  induction n with
  | zero => intro x0 x3 x4 x5 x6 M H locs ls hf; cases hf
  | succ n ih =>
    intro x0 x3 x4 x5 x6 M H locs ls hf hR hS hl
    rw [lC_X8_foresee_76] at hf
    refine lv_iload hx hb dX8_foresee_76 (lv_at hl 4 rfl) ?_
    refine lv_aload_n hx hb dX8_foresee_78 rfl (lv_at hl 0 rfl) ?_
    obtain ⟨hk_x0_9, hf⟩ := gd_some hf
    refine cr_getR kc_8 CX hR fa_X8_38 rfl hk_x0_9 dX8_foresee_79 ?_
    obtain ⟨a1, ha1, hf⟩ := nn_some hf
    refine rf_0 ha1 ?_
    obtain ⟨hk_a1_1, hf⟩ := gd_some hf
    refine cr_getI kc_0 CX hR fa_X8_188 rfl hk_a1_1 dX8_foresee_82 ?_
    refine lv_icmp_ge (tgt := 132) hx hb dX8_foresee_85 (by decide) (fun hc => ?_) (fun hc => ?_)
    · rw [if_pos hc] at hf
      exact hk132 _ _ _ _ _ _ _ _ hf hR hS (lv_sub hl [0, 1, 2, 3] rfl)
    · rw [if_neg hc] at hf
      refine lv_aload_n hx hb dX8_foresee_88 rfl (lv_at hl 0 rfl) ?_
      refine cr_getI kc_8 CX hR fa_X8_64 rfl hk_x0_9 dX8_foresee_89 ?_
      refine lv_bipush (v := 24) hx hb dX8_foresee_92 (by decide) ?_
      refine lv_icmp_ge (tgt := 132) hx hb dX8_foresee_94 (by decide) (fun hc => ?_) (fun hc => ?_)
      · rw [if_pos hc] at hf
        exact hk132 _ _ _ _ _ _ _ _ hf hR hS (lv_sub hl [0, 1, 2, 3] rfl)
      · rw [if_neg hc] at hf
        refine lv_aload_n hx hb dX8_foresee_97 rfl (lv_at hl 0 rfl) ?_
        refine cr_getR kc_8 CX hR fa_X8_51 rfl hk_x0_9 dX8_foresee_98 ?_
        refine lv_aload_n hx hb dX8_foresee_101 rfl (lv_at hl 0 rfl) ?_
        refine cr_getI kc_8 CX hR fa_X8_64 rfl hk_x0_9 dX8_foresee_102 ?_
        refine lv_aload_n hx hb dX8_foresee_105 rfl (lv_at hl 0 rfl) ?_
        refine cr_getR kc_8 CX hR fa_X8_38 rfl hk_x0_9 dX8_foresee_106 ?_
        refine lv_iload hx hb dX8_foresee_109 (lv_at hl 4 rfl) ?_
        refine lv_iconst (v := 0) hx hb dX8_foresee_111 (by decide) ?_
        obtain ⟨a2, ha2, hf⟩ := nn_some hf
        refine rf_2 ha2 ?_
        obtain ⟨a3, ha3, hf⟩ := nn_some hf
        refine rf_4 ha3 ?_
        obtain ⟨hk_a2_1, hf⟩ := gd_some hf
        obtain ⟨o112, ho112, hf⟩ := bnd_some hf
        refine cr_callIv kc_0 CX hR hL hS (As := [.int x6, .int 0]) (rest := [.int (cI M x0 8), .ref a3]) hk_a2_1 (MC_X0_upAt l x N K a2 x6 0 M o112 ho112) cv_X8_191 ⟨by omega, by omega⟩ rfl rfl (Nat.le_of_ble_eq_true rfl) hl.1 dX8_foresee_112 hcs (fun H locs hR hS => ?_)
        obtain ⟨hk_a3_22, hf⟩ := gd_some hf
        obtain ⟨hi, hf⟩ := ck_some hf
        refine cr_iast CX hR hL hS hk_a3_22 hi dX8_foresee_115 (fun H locs hR hS => ?_)
        refine lv_aload_n hx hb dX8_foresee_116 rfl (lv_at hl 0 rfl) ?_
        refine lv_dup hx hb dX8_foresee_117 rfl ?_
        refine cr_getI kc_8 CX hR fa_X8_64 rfl hk_x0_9 dX8_foresee_118 ?_
        refine lv_iconst (v := 1) hx hb dX8_foresee_121 (by decide) ?_
        refine lv_iadd hx hb dX8_foresee_122 ?_
        refine cr_putI kc_8 CX hR hL hS fa_X8_64 ⟨rfl, rfl, rfl⟩ hk_x0_9 dX8_foresee_123 (fun H locs hR hS => ?_)
        refine lv_iinc (v := x6 + 1) (lv' := [(6, .int (x6 + 1)), (0, .ref x0), (3, .int x3), (4, .int x4), (5, .int x5)]) hx hb dX8_foresee_126 hl (k := 4) rfl rfl (by decide) rfl (fun ls hl => ?_)
        refine lv_goto (tgt := 76) hx hb dX8_foresee_129 (by decide) ?_
        exact ih _ _ _ _ _ _ _ _ _ hf hR hS (lv_sub hl [1, 2, 3, 4, 0] rfl)
def bC_X8_foresee_132 (N : Nat) (K : Ka) (x0 : Nat) (x3 : Int32) (x4 : Int32) (x5 : Int32) (M : Cm) : Option (Int32 × Cm) := gd (kd K x0 == 9) (nn (cR M x0 3) fun a1 => nn (cR M x0 2) fun a2 => gd (kd K a2 == 5) ((fC_X4_copy N K a2 a1 M).bind fun o140 => nn (cR o140 x0 4) fun a3 => gd (kd K a3 == 1) ((fC_X0_cut N K a3 x3 x4 x5 o140).bind fun o152 => some (cI o152 x0 8, o152))))
set_option maxRecDepth 100000 in
set_option maxHeartbeats 4000000 in
theorem wbC_X8_foresee_132 {p : Program} {l : Launch} {e : Env} {R : Room} {s : State} {m : MethodId} {args : Array Value} {below : List Frame} {meth : Method} {c : Code} {x : Xc} {o : Int32 × Cm} {N : Nat} {K : Ka} (CX : CC p s m args meth c x K RX8 cX8_foresee 7 (some .int)) (hRm : 7 ≤ R.frames ∧ 167 ≤ R.locals) (x0 : Nat) (x3 : Int32) (x4 : Int32) (x5 : Int32) (M : Cm) (H : Heap) (locs : List Loc) (ls : Array Slot) (hf : bC_X8_foresee_132 N K x0 x3 x4 x5 M = some o) (hR : RC x K M H) (hS : va_S (AC K) s.heap H locs) (hl : lv_has ls 7 [(0, .ref x0), (3, .int x3), (4, .int x4), (5, .int x5)]) : W p l e R s m args below meth c H locs 0 0 (MQ below (CQI x K o) args s 0 0 (AC K)) (F0 m 132 ls []) := by
  obtain ⟨hx, hb, hml, hown, hts, hE, hB, hr, hlk⟩ := id CX
  have hL : KLe K K := KLe.rf K
  have hcs : 0 ≤ R.cells ∧ 0 ≤ R.slots := ⟨Nat.zero_le _, Nat.zero_le _⟩
  unfold bC_X8_foresee_132 at hf
  refine lv_aload_n hx hb dX8_foresee_132 rfl (lv_at hl 0 rfl) ?_
  obtain ⟨hk_x0_9, hf⟩ := gd_some hf
  refine cr_getR kc_8 CX hR fa_X8_28 rfl hk_x0_9 dX8_foresee_133 ?_
  refine lv_aload_n hx hb dX8_foresee_136 rfl (lv_at hl 0 rfl) ?_
  refine cr_getR kc_8 CX hR fa_X8_32 rfl hk_x0_9 dX8_foresee_137 ?_
  obtain ⟨a1, ha1, hf⟩ := nn_some hf
  refine rf_0 ha1 ?_
  obtain ⟨a2, ha2, hf⟩ := nn_some hf
  refine rf_1 ha2 ?_
  obtain ⟨hk_a2_5, hf⟩ := gd_some hf
  obtain ⟨o140, ho140, hf⟩ := bnd_some hf
  refine cr_callVv kc_4 CX hR hL hS (As := [.ref a1]) (rest := []) hk_a2_5 (MC_X4_copy l x N K a2 a1 M o140 ho140) cv_X8_226 ⟨by omega, by omega⟩ rfl rfl (Nat.le_of_ble_eq_true rfl) hl.1 dX8_foresee_140 hcs (fun H locs hR hS => ?_)
  refine lv_aload_n hx hb dX8_foresee_143 rfl (lv_at hl 0 rfl) ?_
  refine cr_getR kc_8 CX hR fa_X8_38 rfl hk_x0_9 dX8_foresee_144 ?_
  refine lv_iload_n hx hb dX8_foresee_147 rfl (lv_at hl 1 rfl) ?_
  refine lv_iload hx hb dX8_foresee_148 (lv_at hl 2 rfl) ?_
  refine lv_iload hx hb dX8_foresee_150 (lv_at hl 3 rfl) ?_
  obtain ⟨a3, ha3, hf⟩ := nn_some hf
  refine rf_3 ha3 ?_
  obtain ⟨hk_a3_1, hf⟩ := gd_some hf
  obtain ⟨o152, ho152, hf⟩ := bnd_some hf
  refine cr_callVv kc_0 CX hR hL hS (As := [.int x3, .int x4, .int x5]) (rest := []) hk_a3_1 (MC_X0_cut l x N K a3 x3 x4 x5 o140 o152 ho152) cv_X8_236 ⟨by omega, by omega⟩ rfl rfl (Nat.le_of_ble_eq_true rfl) hl.1 dX8_foresee_152 hcs (fun H locs hR hS => ?_)
  refine lv_aload_n hx hb dX8_foresee_155 rfl (lv_at hl 0 rfl) ?_
  refine cr_getI kc_8 CX hR fa_X8_64 rfl hk_x0_9 dX8_foresee_156 ?_
  exact cr_iret CX hR hS hf dX8_foresee_159
def fC_X8_foresee (N : Nat) (K : Ka) (x0 : Nat) (x1 : Int32) (x2 : Int32) (M : Cm) : Option (Int32 × Cm) := gd (kd K x0 == 9) ((fC_X8_canDemand N K x0 x1 x2 M).bind fun o3 => if o3.1 = 0 then ((bC_X8_foresee_16 N K) x0 o3.2) else (if (cI o3.2 x0 12) = 0 then (nn (cR o3.2 x0 2) fun a1 => nn (cR o3.2 x0 3) fun a2 => gd (kd K a2 == 5) ((fC_X4_copy N K a2 a1 o3.2).bind fun o26 => nn (cR o26 x0 4) fun a3 => gd (kd K a3 == 1) (nn (cR o26 x0 4) fun a4 => gd (kd K a4 == 1) (nn (cR o26 x0 4) fun a5 => gd (kd K a5 == 1) (nn (cR o26 x0 7) fun a6 => nn (cR o26 x0 5) fun a7 => gd (kd K a7 == 3) ((fC_X2_runDemand N K a7 a6 x1 x2 o26).bind fun o65 => (lC_X8_foresee_76 N K (bC_X8_foresee_132 N K) N) x0 (cI o26 a3 4) (cI o26 a4 5) (cI o26 a5 6) (cI o26 a3 4) (wI o65 x0 8 0))))))) else ((bC_X8_foresee_16 N K) x0 o3.2)))
set_option maxRecDepth 100000 in
set_option maxHeartbeats 4000000 in
theorem wfC_X8_foresee {p : Program} {l : Launch} {e : Env} {R : Room} {s : State} {m : MethodId} {args : Array Value} {below : List Frame} {meth : Method} {c : Code} {x : Xc} {o : Int32 × Cm} {N : Nat} {K : Ka} (CX : CC p s m args meth c x K RX8 cX8_foresee 7 (some .int)) (hRm : 7 ≤ R.frames ∧ 167 ≤ R.locals) (x0 : Nat) (x1 : Int32) (x2 : Int32) (M : Cm) (H : Heap) (locs : List Loc) (ls : Array Slot) (hf : fC_X8_foresee N K x0 x1 x2 M = some o) (hR : RC x K M H) (hS : va_S (AC K) s.heap H locs) (hl : lv_has ls 7 [(0, .ref x0), (1, .int x1), (2, .int x2)]) : W p l e R s m args below meth c H locs 0 0 (MQ below (CQI x K o) args s 0 0 (AC K)) (F0 m 0 ls []) := by
  obtain ⟨hx, hb, hml, hown, hts, hE, hB, hr, hlk⟩ := id CX
  have hL : KLe K K := KLe.rf K
  have hcs : 0 ≤ R.cells ∧ 0 ≤ R.slots := ⟨Nat.zero_le _, Nat.zero_le _⟩
  unfold fC_X8_foresee at hf
  refine lv_aload_n hx hb dX8_foresee_0 rfl (lv_at hl 0 rfl) ?_
  refine lv_iload_n hx hb dX8_foresee_1 rfl (lv_at hl 1 rfl) ?_
  refine lv_iload_n hx hb dX8_foresee_2 rfl (lv_at hl 2 rfl) ?_
  obtain ⟨hk_x0_9, hf⟩ := gd_some hf
  obtain ⟨o3, ho3, hf⟩ := bnd_some hf
  refine cr_callIv kc_8 CX hR hL hS (As := [.int x1, .int x2]) (rest := []) hk_x0_9 (MC_X8_canDemand l x N K x0 x1 x2 M o3 ho3) cv_X8_142 ⟨by omega, by omega⟩ rfl rfl (Nat.le_of_ble_eq_true rfl) hl.1 dX8_foresee_3 hcs (fun H locs hR hS => ?_)
  refine lv_if_eq (tgt := 16) hx hb dX8_foresee_6 (by decide) (fun hc => ?_) (fun hc => ?_)
  · rw [if_pos hc] at hf
    exact (wbC_X8_foresee_16 CX hRm) _ _ _ _ _ hf hR hS (lv_sub hl [0] rfl)
  · rw [if_neg hc] at hf
    refine lv_aload_n hx hb dX8_foresee_9 rfl (lv_at hl 0 rfl) ?_
    refine cr_getI kc_8 CX hR fa_X8_77 rfl hk_x0_9 dX8_foresee_10 ?_
    refine lv_if_eq (tgt := 18) hx hb dX8_foresee_13 (by decide) (fun hc => ?_) (fun hc => ?_)
    · rw [if_pos hc] at hf
      refine lv_aload_n hx hb dX8_foresee_18 rfl (lv_at hl 0 rfl) ?_
      refine cr_getR kc_8 CX hR fa_X8_32 rfl hk_x0_9 dX8_foresee_19 ?_
      refine lv_aload_n hx hb dX8_foresee_22 rfl (lv_at hl 0 rfl) ?_
      refine cr_getR kc_8 CX hR fa_X8_28 rfl hk_x0_9 dX8_foresee_23 ?_
      obtain ⟨a1, ha1, hf⟩ := nn_some hf
      refine rf_0 ha1 ?_
      obtain ⟨a2, ha2, hf⟩ := nn_some hf
      refine rf_1 ha2 ?_
      obtain ⟨hk_a2_5, hf⟩ := gd_some hf
      obtain ⟨o26, ho26, hf⟩ := bnd_some hf
      refine cr_callVv kc_4 CX hR hL hS (As := [.ref a1]) (rest := []) hk_a2_5 (MC_X4_copy l x N K a2 a1 o3.2 o26 ho26) cv_X8_226 ⟨by omega, by omega⟩ rfl rfl (Nat.le_of_ble_eq_true rfl) hl.1 dX8_foresee_26 hcs (fun H locs hR hS => ?_)
      refine lv_aload_n hx hb dX8_foresee_29 rfl (lv_at hl 0 rfl) ?_
      refine cr_getR kc_8 CX hR fa_X8_38 rfl hk_x0_9 dX8_foresee_30 ?_
      obtain ⟨a3, ha3, hf⟩ := nn_some hf
      refine rf_0 ha3 ?_
      obtain ⟨hk_a3_1, hf⟩ := gd_some hf
      refine cr_getI kc_0 CX hR fa_X8_188 rfl hk_a3_1 dX8_foresee_33 ?_
      refine lv_istore_n (lv' := [(3, .int (cI o26 a3 4)), (0, .ref x0), (1, .int x1), (2, .int x2)]) hx hb dX8_foresee_36 rfl hl (by decide) rfl (fun ls hl => ?_)
      refine lv_aload_n hx hb dX8_foresee_37 rfl (lv_at hl 1 rfl) ?_
      refine cr_getR kc_8 CX hR fa_X8_38 rfl hk_x0_9 dX8_foresee_38 ?_
      obtain ⟨a4, ha4, hf⟩ := nn_some hf
      refine rf_0 ha4 ?_
      obtain ⟨hk_a4_1, hf⟩ := gd_some hf
      refine cr_getI kc_0 CX hR fa_X8_230 rfl hk_a4_1 dX8_foresee_41 ?_
      refine lv_istore (lv' := [(4, .int (cI o26 a4 5)), (3, .int (cI o26 a3 4)), (0, .ref x0), (1, .int x1), (2, .int x2)]) hx hb dX8_foresee_44 hl (by decide) rfl (fun ls hl => ?_)
      refine lv_aload_n hx hb dX8_foresee_46 rfl (lv_at hl 2 rfl) ?_
      refine cr_getR kc_8 CX hR fa_X8_38 rfl hk_x0_9 dX8_foresee_47 ?_
      obtain ⟨a5, ha5, hf⟩ := nn_some hf
      refine rf_0 ha5 ?_
      obtain ⟨hk_a5_1, hf⟩ := gd_some hf
      refine cr_getI kc_0 CX hR fa_X8_233 rfl hk_a5_1 dX8_foresee_50 ?_
      refine lv_istore (lv' := [(5, .int (cI o26 a5 6)), (4, .int (cI o26 a4 5)), (3, .int (cI o26 a3 4)), (0, .ref x0), (1, .int x1), (2, .int x2)]) hx hb dX8_foresee_53 hl (by decide) rfl (fun ls hl => ?_)
      refine lv_aload_n hx hb dX8_foresee_55 rfl (lv_at hl 3 rfl) ?_
      refine cr_getR kc_8 CX hR fa_X8_47 rfl hk_x0_9 dX8_foresee_56 ?_
      refine lv_aload_n hx hb dX8_foresee_59 rfl (lv_at hl 3 rfl) ?_
      refine cr_getR kc_8 CX hR fa_X8_60 rfl hk_x0_9 dX8_foresee_60 ?_
      refine lv_iload_n hx hb dX8_foresee_63 rfl (lv_at hl 4 rfl) ?_
      refine lv_iload_n hx hb dX8_foresee_64 rfl (lv_at hl 5 rfl) ?_
      obtain ⟨a6, ha6, hf⟩ := nn_some hf
      refine rf_2 ha6 ?_
      obtain ⟨a7, ha7, hf⟩ := nn_some hf
      refine rf_3 ha7 ?_
      obtain ⟨hk_a7_3, hf⟩ := gd_some hf
      obtain ⟨o65, ho65, hf⟩ := bnd_some hf
      refine cr_callVv kc_2 CX hR hL hS (As := [.ref a6, .int x1, .int x2]) (rest := []) hk_a7_3 (MC_X2_runDemand l x N K a7 a6 x1 x2 o26 o65 ho65) cv_X8_146 ⟨by omega, by omega⟩ rfl rfl (Nat.le_of_ble_eq_true rfl) hl.1 dX8_foresee_65 hcs (fun H locs hR hS => ?_)
      refine lv_aload_n hx hb dX8_foresee_68 rfl (lv_at hl 3 rfl) ?_
      refine lv_iconst (v := 0) hx hb dX8_foresee_69 (by decide) ?_
      refine cr_putI kc_8 CX hR hL hS fa_X8_64 ⟨rfl, rfl, rfl⟩ hk_x0_9 dX8_foresee_70 (fun H locs hR hS => ?_)
      refine lv_iload_n hx hb dX8_foresee_73 rfl (lv_at hl 2 rfl) ?_
      refine lv_istore (lv' := [(6, .int (cI o26 a3 4)), (5, .int (cI o26 a5 6)), (4, .int (cI o26 a4 5)), (3, .int (cI o26 a3 4)), (0, .ref x0), (1, .int x1), (2, .int x2)]) hx hb dX8_foresee_74 hl (by decide) rfl (fun ls hl => ?_)
      exact (wlC_X8_foresee_76 CX hRm (wbC_X8_foresee_132 CX hRm) N) _ _ _ _ _ _ _ _ _ hf hR hS (lv_sub hl [4, 3, 2, 1, 0] rfl)
    · rw [if_neg hc] at hf
      exact (wbC_X8_foresee_16 CX hRm) _ _ _ _ _ hf hR hS (lv_sub hl [0] rfl)
theorem MC_X8_foresee (l : Launch) (x : Xc) (N : Nat) (K : Ka) (x0 : Nat) (x1 : Int32) (x2 : Int32) (M : Cm) (o : Int32 × Cm) (hf : fC_X8_foresee N K x0 x1 x2 M = some o) : CtI l x yX8_foresee cX8_foresee 7 (some .int) 7 167 [.ref x0, .int x1, .int x2] K M o :=
  cr_metI RX8 (by decide) rfl (Nat.le_of_ble_eq_true rfl) (fun p e s m args below meth c ls CX hR hl => wfC_X8_foresee CX ⟨Nat.le_refl _, Nat.le_refl _⟩ x0 x1 x2 M s.heap [] ls hf hR va_S.rf hl)
def bC_X8_foreseen_22 (N : Nat) (K : Ka) (x0 : Nat) (s0 : Int32) (M : Cm) : Option (Int32 × Cm) := some (s0, M)
set_option maxRecDepth 100000 in
set_option maxHeartbeats 4000000 in
theorem wbC_X8_foreseen_22 {p : Program} {l : Launch} {e : Env} {R : Room} {s : State} {m : MethodId} {args : Array Value} {below : List Frame} {meth : Method} {c : Code} {x : Xc} {o : Int32 × Cm} {N : Nat} {K : Ka} (CX : CC p s m args meth c x K RX8 cX8_foreseen 2 (some .int)) (hRm : 0 ≤ R.frames ∧ 0 ≤ R.locals) (x0 : Nat) (s0 : Int32) (M : Cm) (H : Heap) (locs : List Loc) (ls : Array Slot) (hf : bC_X8_foreseen_22 N K x0 s0 M = some o) (hR : RC x K M H) (hS : va_S (AC K) s.heap H locs) (hl : lv_has ls 2 [(0, .ref x0)]) : W p l e R s m args below meth c H locs 0 0 (MQ below (CQI x K o) args s 0 0 (AC K)) (F0 m 22 ls [.int s0]) := by
  obtain ⟨hx, hb, hml, hown, hts, hE, hB, hr, hlk⟩ := id CX
  have hL : KLe K K := KLe.rf K
  have hcs : 0 ≤ R.cells ∧ 0 ≤ R.slots := ⟨Nat.zero_le _, Nat.zero_le _⟩
  unfold bC_X8_foreseen_22 at hf
  exact cr_iret CX hR hS hf dX8_foreseen_22
def bC_X8_foreseen_12 (N : Nat) (K : Ka) (x0 : Nat) (M : Cm) : Option (Int32 × Cm) := (bC_X8_foreseen_22 N K) x0 (-1) M
set_option maxRecDepth 100000 in
set_option maxHeartbeats 4000000 in
theorem wbC_X8_foreseen_12 {p : Program} {l : Launch} {e : Env} {R : Room} {s : State} {m : MethodId} {args : Array Value} {below : List Frame} {meth : Method} {c : Code} {x : Xc} {o : Int32 × Cm} {N : Nat} {K : Ka} (CX : CC p s m args meth c x K RX8 cX8_foreseen 2 (some .int)) (hRm : 0 ≤ R.frames ∧ 0 ≤ R.locals) (x0 : Nat) (M : Cm) (H : Heap) (locs : List Loc) (ls : Array Slot) (hf : bC_X8_foreseen_12 N K x0 M = some o) (hR : RC x K M H) (hS : va_S (AC K) s.heap H locs) (hl : lv_has ls 2 [(0, .ref x0)]) : W p l e R s m args below meth c H locs 0 0 (MQ below (CQI x K o) args s 0 0 (AC K)) (F0 m 12 ls []) := by
  obtain ⟨hx, hb, hml, hown, hts, hE, hB, hr, hlk⟩ := id CX
  have hL : KLe K K := KLe.rf K
  have hcs : 0 ≤ R.cells ∧ 0 ≤ R.slots := ⟨Nat.zero_le _, Nat.zero_le _⟩
  unfold bC_X8_foreseen_12 at hf
  refine lv_iconst (v := (-1)) hx hb dX8_foreseen_12 (by decide) ?_
  refine lv_goto (tgt := 22) hx hb dX8_foreseen_13 (by decide) ?_
  exact (wbC_X8_foreseen_22 CX hRm) _ _ _ _ _ _ hf hR hS (lv_sub hl [0] rfl)
def fC_X8_foreseen (N : Nat) (K : Ka) (x0 : Nat) (x1 : Int32) (M : Cm) : Option (Int32 × Cm) := if x1 < 0 then ((bC_X8_foreseen_12 N K) x0 M) else (gd (kd K x0 == 9) (if x1 < (cI M x0 8) then (nn (cR M x0 6) fun a1 => gd (kd K a1 == 22) (ck x1 (le K a1) ((bC_X8_foreseen_22 N K) x0 (cI M a1 (x1 : Int32).toNatClampNeg) M))) else ((bC_X8_foreseen_12 N K) x0 M)))
set_option maxRecDepth 100000 in
set_option maxHeartbeats 4000000 in
theorem wfC_X8_foreseen {p : Program} {l : Launch} {e : Env} {R : Room} {s : State} {m : MethodId} {args : Array Value} {below : List Frame} {meth : Method} {c : Code} {x : Xc} {o : Int32 × Cm} {N : Nat} {K : Ka} (CX : CC p s m args meth c x K RX8 cX8_foreseen 2 (some .int)) (hRm : 0 ≤ R.frames ∧ 0 ≤ R.locals) (x0 : Nat) (x1 : Int32) (M : Cm) (H : Heap) (locs : List Loc) (ls : Array Slot) (hf : fC_X8_foreseen N K x0 x1 M = some o) (hR : RC x K M H) (hS : va_S (AC K) s.heap H locs) (hl : lv_has ls 2 [(0, .ref x0), (1, .int x1)]) : W p l e R s m args below meth c H locs 0 0 (MQ below (CQI x K o) args s 0 0 (AC K)) (F0 m 0 ls []) := by
  obtain ⟨hx, hb, hml, hown, hts, hE, hB, hr, hlk⟩ := id CX
  have hL : KLe K K := KLe.rf K
  have hcs : 0 ≤ R.cells ∧ 0 ≤ R.slots := ⟨Nat.zero_le _, Nat.zero_le _⟩
  unfold fC_X8_foreseen at hf
  refine lv_iload_n hx hb dX8_foreseen_0 rfl (lv_at hl 1 rfl) ?_
  refine lv_if_lt (tgt := 12) hx hb dX8_foreseen_1 (by decide) (fun hc => ?_) (fun hc => ?_)
  · rw [if_pos hc] at hf
    exact (wbC_X8_foreseen_12 CX hRm) _ _ _ _ _ hf hR hS (lv_sub hl [0] rfl)
  · rw [if_neg hc] at hf
    refine lv_iload_n hx hb dX8_foreseen_4 rfl (lv_at hl 1 rfl) ?_
    refine lv_aload_n hx hb dX8_foreseen_5 rfl (lv_at hl 0 rfl) ?_
    obtain ⟨hk_x0_9, hf⟩ := gd_some hf
    refine cr_getI kc_8 CX hR fa_X8_64 rfl hk_x0_9 dX8_foreseen_6 ?_
    refine lv_icmp_lt (tgt := 16) hx hb dX8_foreseen_9 (by decide) (fun hc => ?_) (fun hc => ?_)
    · rw [if_pos hc] at hf
      refine lv_aload_n hx hb dX8_foreseen_16 rfl (lv_at hl 0 rfl) ?_
      refine cr_getR kc_8 CX hR fa_X8_51 rfl hk_x0_9 dX8_foreseen_17 ?_
      refine lv_iload_n hx hb dX8_foreseen_20 rfl (lv_at hl 1 rfl) ?_
      obtain ⟨a1, ha1, hf⟩ := nn_some hf
      refine rf_1 ha1 ?_
      obtain ⟨hk_a1_22, hf⟩ := gd_some hf
      obtain ⟨hi, hf⟩ := ck_some hf
      refine cr_iald CX hR hk_a1_22 hi dX8_foreseen_21 ?_
      exact (wbC_X8_foreseen_22 CX hRm) _ _ _ _ _ _ hf hR hS (lv_sub hl [0] rfl)
    · rw [if_neg hc] at hf
      exact (wbC_X8_foreseen_12 CX hRm) _ _ _ _ _ hf hR hS (lv_sub hl [0] rfl)
theorem MC_X8_foreseen (l : Launch) (x : Xc) (N : Nat) (K : Ka) (x0 : Nat) (x1 : Int32) (M : Cm) (o : Int32 × Cm) (hf : fC_X8_foreseen N K x0 x1 M = some o) : CtI l x yX8_foreseen cX8_foreseen 2 (some .int) 0 0 [.ref x0, .int x1] K M o :=
  cr_metI RX8 (by decide) rfl (Nat.le_of_ble_eq_true rfl) (fun p e s m args below meth c ls CX hR hl => wfC_X8_foreseen CX ⟨Nat.le_refl _, Nat.le_refl _⟩ x0 x1 M s.heap [] ls hf hR va_S.rf hl)
def bC_X8_cause_17 (N : Nat) (K : Ka) (x0 : Nat) (M : Cm) : Option (Int32 × Cm) := some (0, M)
set_option maxRecDepth 100000 in
set_option maxHeartbeats 4000000 in
theorem wbC_X8_cause_17 {p : Program} {l : Launch} {e : Env} {R : Room} {s : State} {m : MethodId} {args : Array Value} {below : List Frame} {meth : Method} {c : Code} {x : Xc} {o : Int32 × Cm} {N : Nat} {K : Ka} (CX : CC p s m args meth c x K RX8 cX8_cause 3 (some .int)) (hRm : 1 ≤ R.frames ∧ 21 ≤ R.locals) (x0 : Nat) (M : Cm) (H : Heap) (locs : List Loc) (ls : Array Slot) (hf : bC_X8_cause_17 N K x0 M = some o) (hR : RC x K M H) (hS : va_S (AC K) s.heap H locs) (hl : lv_has ls 3 [(0, .ref x0)]) : W p l e R s m args below meth c H locs 0 0 (MQ below (CQI x K o) args s 0 0 (AC K)) (F0 m 17 ls []) := by
  obtain ⟨hx, hb, hml, hown, hts, hE, hB, hr, hlk⟩ := id CX
  have hL : KLe K K := KLe.rf K
  have hcs : 0 ≤ R.cells ∧ 0 ≤ R.slots := ⟨Nat.zero_le _, Nat.zero_le _⟩
  unfold bC_X8_cause_17 at hf
  refine lv_iconst (v := 0) hx hb dX8_cause_17 (by decide) ?_
  exact cr_iret CX hR hS hf dX8_cause_18
def bC_X8_cause_44 (N : Nat) (K : Ka) (x0 : Nat) (s0 : Int32) (M : Cm) : Option (Int32 × Cm) := some (s0, M)
set_option maxRecDepth 100000 in
set_option maxHeartbeats 4000000 in
theorem wbC_X8_cause_44 {p : Program} {l : Launch} {e : Env} {R : Room} {s : State} {m : MethodId} {args : Array Value} {below : List Frame} {meth : Method} {c : Code} {x : Xc} {o : Int32 × Cm} {N : Nat} {K : Ka} (CX : CC p s m args meth c x K RX8 cX8_cause 3 (some .int)) (hRm : 1 ≤ R.frames ∧ 21 ≤ R.locals) (x0 : Nat) (s0 : Int32) (M : Cm) (H : Heap) (locs : List Loc) (ls : Array Slot) (hf : bC_X8_cause_44 N K x0 s0 M = some o) (hR : RC x K M H) (hS : va_S (AC K) s.heap H locs) (hl : lv_has ls 3 [(0, .ref x0)]) : W p l e R s m args below meth c H locs 0 0 (MQ below (CQI x K o) args s 0 0 (AC K)) (F0 m 44 ls [.int s0]) := by
  obtain ⟨hx, hb, hml, hown, hts, hE, hB, hr, hlk⟩ := id CX
  have hL : KLe K K := KLe.rf K
  have hcs : 0 ≤ R.cells ∧ 0 ≤ R.slots := ⟨Nat.zero_le _, Nat.zero_le _⟩
  unfold bC_X8_cause_44 at hf
  exact cr_iret CX hR hS hf dX8_cause_44
def fC_X8_cause (N : Nat) (K : Ka) (x0 : Nat) (x1 : Int32) (x2 : Int32) (M : Cm) : Option (Int32 × Cm) := gd (kd K x0 == 9) ((fC_X8_isUnit N K x0 x1 M).bind fun o2 => if o2.1 = 0 then ((bC_X8_cause_17 N K) x0 o2.2) else (if x2 < 0 then ((bC_X8_cause_17 N K) x0 o2.2) else (if x2 ≤ 1 then (if x2 = 0 then (nn (cR o2.2 x0 2) fun a3 => gd (kd K a3 == 5) (nn (cR o2.2 a3 3) fun a4 => gd (kd K a4 == 22) (ck x1 (le K a4) ((bC_X8_cause_44 N K) x0 (cI o2.2 a4 (x1 : Int32).toNatClampNeg) o2.2)))) else (nn (cR o2.2 x0 2) fun a1 => gd (kd K a1 == 5) (nn (cR o2.2 a1 4) fun a2 => gd (kd K a2 == 22) (ck x1 (le K a2) ((bC_X8_cause_44 N K) x0 (cI o2.2 a2 (x1 : Int32).toNatClampNeg) o2.2))))) else ((bC_X8_cause_17 N K) x0 o2.2))))
set_option maxRecDepth 100000 in
set_option maxHeartbeats 4000000 in
theorem wfC_X8_cause {p : Program} {l : Launch} {e : Env} {R : Room} {s : State} {m : MethodId} {args : Array Value} {below : List Frame} {meth : Method} {c : Code} {x : Xc} {o : Int32 × Cm} {N : Nat} {K : Ka} (CX : CC p s m args meth c x K RX8 cX8_cause 3 (some .int)) (hRm : 1 ≤ R.frames ∧ 21 ≤ R.locals) (x0 : Nat) (x1 : Int32) (x2 : Int32) (M : Cm) (H : Heap) (locs : List Loc) (ls : Array Slot) (hf : fC_X8_cause N K x0 x1 x2 M = some o) (hR : RC x K M H) (hS : va_S (AC K) s.heap H locs) (hl : lv_has ls 3 [(0, .ref x0), (1, .int x1), (2, .int x2)]) : W p l e R s m args below meth c H locs 0 0 (MQ below (CQI x K o) args s 0 0 (AC K)) (F0 m 0 ls []) := by
  obtain ⟨hx, hb, hml, hown, hts, hE, hB, hr, hlk⟩ := id CX
  have hL : KLe K K := KLe.rf K
  have hcs : 0 ≤ R.cells ∧ 0 ≤ R.slots := ⟨Nat.zero_le _, Nat.zero_le _⟩
  unfold fC_X8_cause at hf
  refine lv_aload_n hx hb dX8_cause_0 rfl (lv_at hl 0 rfl) ?_
  refine lv_iload_n hx hb dX8_cause_1 rfl (lv_at hl 1 rfl) ?_
  obtain ⟨hk_x0_9, hf⟩ := gd_some hf
  obtain ⟨o2, ho2, hf⟩ := bnd_some hf
  refine cr_callIv kc_8 CX hR hL hS (As := [.int x1]) (rest := []) hk_x0_9 (MC_X8_isUnit l x N K x0 x1 M o2 ho2) cv_X8_162 ⟨by omega, by omega⟩ rfl rfl (Nat.le_of_ble_eq_true rfl) hl.1 dX8_cause_2 hcs (fun H locs hR hS => ?_)
  refine lv_if_eq (tgt := 17) hx hb dX8_cause_5 (by decide) (fun hc => ?_) (fun hc => ?_)
  · rw [if_pos hc] at hf
    exact (wbC_X8_cause_17 CX hRm) _ _ _ _ _ hf hR hS (lv_sub hl [0] rfl)
  · rw [if_neg hc] at hf
    refine lv_iload_n hx hb dX8_cause_8 rfl (lv_at hl 2 rfl) ?_
    refine lv_if_lt (tgt := 17) hx hb dX8_cause_9 (by decide) (fun hc => ?_) (fun hc => ?_)
    · rw [if_pos hc] at hf
      exact (wbC_X8_cause_17 CX hRm) _ _ _ _ _ hf hR hS (lv_sub hl [0] rfl)
    · rw [if_neg hc] at hf
      refine lv_iload_n hx hb dX8_cause_12 rfl (lv_at hl 2 rfl) ?_
      refine lv_iconst (v := 1) hx hb dX8_cause_13 (by decide) ?_
      refine lv_icmp_le (tgt := 19) hx hb dX8_cause_14 (by decide) (fun hc => ?_) (fun hc => ?_)
      · rw [if_pos hc] at hf
        refine lv_iload_n hx hb dX8_cause_19 rfl (lv_at hl 2 rfl) ?_
        refine lv_if_ne (tgt := 35) hx hb dX8_cause_20 (by decide) (fun hc => ?_) (fun hc => ?_)
        · rw [if_neg hc] at hf
          refine lv_aload_n hx hb dX8_cause_35 rfl (lv_at hl 0 rfl) ?_
          refine cr_getR kc_8 CX hR fa_X8_28 rfl hk_x0_9 dX8_cause_36 ?_
          obtain ⟨a1, ha1, hf⟩ := nn_some hf
          refine rf_0 ha1 ?_
          obtain ⟨hk_a1_5, hf⟩ := gd_some hf
          refine cr_getR kc_4 CX hR fa_X8_280 rfl hk_a1_5 dX8_cause_39 ?_
          refine lv_iload_n hx hb dX8_cause_42 rfl (lv_at hl 1 rfl) ?_
          obtain ⟨a2, ha2, hf⟩ := nn_some hf
          refine rf_1 ha2 ?_
          obtain ⟨hk_a2_22, hf⟩ := gd_some hf
          obtain ⟨hi, hf⟩ := ck_some hf
          refine cr_iald CX hR hk_a2_22 hi dX8_cause_43 ?_
          exact (wbC_X8_cause_44 CX hRm) _ _ _ _ _ _ hf hR hS (lv_sub hl [0] rfl)
        · rw [if_pos hc] at hf
          refine lv_aload_n hx hb dX8_cause_23 rfl (lv_at hl 0 rfl) ?_
          refine cr_getR kc_8 CX hR fa_X8_28 rfl hk_x0_9 dX8_cause_24 ?_
          obtain ⟨a3, ha3, hf⟩ := nn_some hf
          refine rf_0 ha3 ?_
          obtain ⟨hk_a3_5, hf⟩ := gd_some hf
          refine cr_getR kc_4 CX hR fa_X8_277 rfl hk_a3_5 dX8_cause_27 ?_
          refine lv_iload_n hx hb dX8_cause_30 rfl (lv_at hl 1 rfl) ?_
          obtain ⟨a4, ha4, hf⟩ := nn_some hf
          refine rf_1 ha4 ?_
          obtain ⟨hk_a4_22, hf⟩ := gd_some hf
          obtain ⟨hi, hf⟩ := ck_some hf
          refine cr_iald CX hR hk_a4_22 hi dX8_cause_31 ?_
          refine lv_goto (tgt := 44) hx hb dX8_cause_32 (by decide) ?_
          exact (wbC_X8_cause_44 CX hRm) _ _ _ _ _ _ hf hR hS (lv_sub hl [0] rfl)
      · rw [if_neg hc] at hf
        exact (wbC_X8_cause_17 CX hRm) _ _ _ _ _ hf hR hS (lv_sub hl [0] rfl)
theorem MC_X8_cause (l : Launch) (x : Xc) (N : Nat) (K : Ka) (x0 : Nat) (x1 : Int32) (x2 : Int32) (M : Cm) (o : Int32 × Cm) (hf : fC_X8_cause N K x0 x1 x2 M = some o) : CtI l x yX8_cause cX8_cause 3 (some .int) 1 21 [.ref x0, .int x1, .int x2] K M o :=
  cr_metI RX8 (by decide) rfl (Nat.le_of_ble_eq_true rfl) (fun p e s m args below meth c ls CX hR hl => wfC_X8_cause CX ⟨Nat.le_refl _, Nat.le_refl _⟩ x0 x1 x2 M s.heap [] ls hf hR va_S.rf hl)
def bC_X8_need_25 (N : Nat) (K : Ka) (x0 : Nat) (M : Cm) : Option (Int32 × Cm) := some ((-1), M)
set_option maxRecDepth 100000 in
set_option maxHeartbeats 4000000 in
theorem wbC_X8_need_25 {p : Program} {l : Launch} {e : Env} {R : Room} {s : State} {m : MethodId} {args : Array Value} {below : List Frame} {meth : Method} {c : Code} {x : Xc} {o : Int32 × Cm} {N : Nat} {K : Ka} (CX : CC p s m args meth c x K RX8 cX8_need 3 (some .int)) (hRm : 1 ≤ R.frames ∧ 21 ≤ R.locals) (x0 : Nat) (M : Cm) (H : Heap) (locs : List Loc) (ls : Array Slot) (hf : bC_X8_need_25 N K x0 M = some o) (hR : RC x K M H) (hS : va_S (AC K) s.heap H locs) (hl : lv_has ls 3 [(0, .ref x0)]) : W p l e R s m args below meth c H locs 0 0 (MQ below (CQI x K o) args s 0 0 (AC K)) (F0 m 25 ls []) := by
  obtain ⟨hx, hb, hml, hown, hts, hE, hB, hr, hlk⟩ := id CX
  have hL : KLe K K := KLe.rf K
  have hcs : 0 ≤ R.cells ∧ 0 ≤ R.slots := ⟨Nat.zero_le _, Nat.zero_le _⟩
  unfold bC_X8_need_25 at hf
  refine lv_iconst (v := (-1)) hx hb dX8_need_25 (by decide) ?_
  exact cr_iret CX hR hS hf dX8_need_26
def fC_X8_need (N : Nat) (K : Ka) (x0 : Nat) (x1 : Int32) (x2 : Int32) (M : Cm) : Option (Int32 × Cm) := gd (kd K x0 == 9) ((fC_X8_isUnit N K x0 x1 M).bind fun o2 => if o2.1 = 0 then ((bC_X8_need_25 N K) x0 o2.2) else (if x2 < 0 then ((bC_X8_need_25 N K) x0 o2.2) else (nn (cR o2.2 x0 2) fun a1 => gd (kd K a1 == 5) (nn (cR o2.2 a1 6) fun a2 => gd (kd K a2 == 22) (ck x1 (le K a2) (if x2 < (cI o2.2 a2 (x1 : Int32).toNatClampNeg) then (nn (cR o2.2 x0 2) fun a3 => gd (kd K a3 == 5) (nn (cR o2.2 a3 5) fun a4 => gd (kd K a4 == 22) (ck ((x1 * 24) + x2) (le K a4) (some (cI o2.2 a4 ((x1 * 24) + x2 : Int32).toNatClampNeg, o2.2))))) else ((bC_X8_need_25 N K) x0 o2.2)))))))
set_option maxRecDepth 100000 in
set_option maxHeartbeats 4000000 in
theorem wfC_X8_need {p : Program} {l : Launch} {e : Env} {R : Room} {s : State} {m : MethodId} {args : Array Value} {below : List Frame} {meth : Method} {c : Code} {x : Xc} {o : Int32 × Cm} {N : Nat} {K : Ka} (CX : CC p s m args meth c x K RX8 cX8_need 3 (some .int)) (hRm : 1 ≤ R.frames ∧ 21 ≤ R.locals) (x0 : Nat) (x1 : Int32) (x2 : Int32) (M : Cm) (H : Heap) (locs : List Loc) (ls : Array Slot) (hf : fC_X8_need N K x0 x1 x2 M = some o) (hR : RC x K M H) (hS : va_S (AC K) s.heap H locs) (hl : lv_has ls 3 [(0, .ref x0), (1, .int x1), (2, .int x2)]) : W p l e R s m args below meth c H locs 0 0 (MQ below (CQI x K o) args s 0 0 (AC K)) (F0 m 0 ls []) := by
  obtain ⟨hx, hb, hml, hown, hts, hE, hB, hr, hlk⟩ := id CX
  have hL : KLe K K := KLe.rf K
  have hcs : 0 ≤ R.cells ∧ 0 ≤ R.slots := ⟨Nat.zero_le _, Nat.zero_le _⟩
  unfold fC_X8_need at hf
  refine lv_aload_n hx hb dX8_need_0 rfl (lv_at hl 0 rfl) ?_
  refine lv_iload_n hx hb dX8_need_1 rfl (lv_at hl 1 rfl) ?_
  obtain ⟨hk_x0_9, hf⟩ := gd_some hf
  obtain ⟨o2, ho2, hf⟩ := bnd_some hf
  refine cr_callIv kc_8 CX hR hL hS (As := [.int x1]) (rest := []) hk_x0_9 (MC_X8_isUnit l x N K x0 x1 M o2 ho2) cv_X8_162 ⟨by omega, by omega⟩ rfl rfl (Nat.le_of_ble_eq_true rfl) hl.1 dX8_need_2 hcs (fun H locs hR hS => ?_)
  refine lv_if_eq (tgt := 25) hx hb dX8_need_5 (by decide) (fun hc => ?_) (fun hc => ?_)
  · rw [if_pos hc] at hf
    exact (wbC_X8_need_25 CX hRm) _ _ _ _ _ hf hR hS (lv_sub hl [0] rfl)
  · rw [if_neg hc] at hf
    refine lv_iload_n hx hb dX8_need_8 rfl (lv_at hl 2 rfl) ?_
    refine lv_if_lt (tgt := 25) hx hb dX8_need_9 (by decide) (fun hc => ?_) (fun hc => ?_)
    · rw [if_pos hc] at hf
      exact (wbC_X8_need_25 CX hRm) _ _ _ _ _ hf hR hS (lv_sub hl [0] rfl)
    · rw [if_neg hc] at hf
      refine lv_iload_n hx hb dX8_need_12 rfl (lv_at hl 2 rfl) ?_
      refine lv_aload_n hx hb dX8_need_13 rfl (lv_at hl 0 rfl) ?_
      refine cr_getR kc_8 CX hR fa_X8_28 rfl hk_x0_9 dX8_need_14 ?_
      obtain ⟨a1, ha1, hf⟩ := nn_some hf
      refine rf_0 ha1 ?_
      obtain ⟨hk_a1_5, hf⟩ := gd_some hf
      refine cr_getR kc_4 CX hR fa_X8_283 rfl hk_a1_5 dX8_need_17 ?_
      refine lv_iload_n hx hb dX8_need_20 rfl (lv_at hl 1 rfl) ?_
      obtain ⟨a2, ha2, hf⟩ := nn_some hf
      refine rf_1 ha2 ?_
      obtain ⟨hk_a2_22, hf⟩ := gd_some hf
      obtain ⟨hi, hf⟩ := ck_some hf
      refine cr_iald CX hR hk_a2_22 hi dX8_need_21 ?_
      refine lv_icmp_lt (tgt := 27) hx hb dX8_need_22 (by decide) (fun hc => ?_) (fun hc => ?_)
      · rw [if_pos hc] at hf
        refine lv_aload_n hx hb dX8_need_27 rfl (lv_at hl 0 rfl) ?_
        refine cr_getR kc_8 CX hR fa_X8_28 rfl hk_x0_9 dX8_need_28 ?_
        obtain ⟨a3, ha3, hf⟩ := nn_some hf
        refine rf_0 ha3 ?_
        obtain ⟨hk_a3_5, hf⟩ := gd_some hf
        refine cr_getR kc_4 CX hR fa_X8_286 rfl hk_a3_5 dX8_need_31 ?_
        refine lv_iload_n hx hb dX8_need_34 rfl (lv_at hl 1 rfl) ?_
        refine lv_bipush (v := 24) hx hb dX8_need_35 (by decide) ?_
        refine lv_imul hx hb dX8_need_37 ?_
        refine lv_iload_n hx hb dX8_need_38 rfl (lv_at hl 2 rfl) ?_
        refine lv_iadd hx hb dX8_need_39 ?_
        obtain ⟨a4, ha4, hf⟩ := nn_some hf
        refine rf_1 ha4 ?_
        obtain ⟨hk_a4_22, hf⟩ := gd_some hf
        obtain ⟨hi, hf⟩ := ck_some hf
        refine cr_iald CX hR hk_a4_22 hi dX8_need_40 ?_
        exact cr_iret CX hR hS hf dX8_need_41
      · rw [if_neg hc] at hf
        exact (wbC_X8_need_25 CX hRm) _ _ _ _ _ hf hR hS (lv_sub hl [0] rfl)
theorem MC_X8_need (l : Launch) (x : Xc) (N : Nat) (K : Ka) (x0 : Nat) (x1 : Int32) (x2 : Int32) (M : Cm) (o : Int32 × Cm) (hf : fC_X8_need N K x0 x1 x2 M = some o) : CtI l x yX8_need cX8_need 3 (some .int) 1 21 [.ref x0, .int x1, .int x2] K M o :=
  cr_metI RX8 (by decide) rfl (Nat.le_of_ble_eq_true rfl) (fun p e s m args below meth c ls CX hR hl => wfC_X8_need CX ⟨Nat.le_refl _, Nat.le_refl _⟩ x0 x1 x2 M s.heap [] ls hf hR va_S.rf hl)
def bC_X8_leans_16 (N : Nat) (K : Ka) (x0 : Nat) (M : Cm) : Option (Int32 × Cm) := some ((-1), M)
set_option maxRecDepth 100000 in
set_option maxHeartbeats 4000000 in
theorem wbC_X8_leans_16 {p : Program} {l : Launch} {e : Env} {R : Room} {s : State} {m : MethodId} {args : Array Value} {below : List Frame} {meth : Method} {c : Code} {x : Xc} {o : Int32 × Cm} {N : Nat} {K : Ka} (CX : CC p s m args meth c x K RX8 cX8_leans 3 (some .int)) (hRm : 1 ≤ R.frames ∧ 22 ≤ R.locals) (x0 : Nat) (M : Cm) (H : Heap) (locs : List Loc) (ls : Array Slot) (hf : bC_X8_leans_16 N K x0 M = some o) (hR : RC x K M H) (hS : va_S (AC K) s.heap H locs) (hl : lv_has ls 3 [(0, .ref x0)]) : W p l e R s m args below meth c H locs 0 0 (MQ below (CQI x K o) args s 0 0 (AC K)) (F0 m 16 ls []) := by
  obtain ⟨hx, hb, hml, hown, hts, hE, hB, hr, hlk⟩ := id CX
  have hL : KLe K K := KLe.rf K
  have hcs : 0 ≤ R.cells ∧ 0 ≤ R.slots := ⟨Nat.zero_le _, Nat.zero_le _⟩
  unfold bC_X8_leans_16 at hf
  refine lv_iconst (v := (-1)) hx hb dX8_leans_16 (by decide) ?_
  exact cr_iret CX hR hS hf dX8_leans_17
def bC_X8_leans_35 (N : Nat) (K : Ka) (x0 : Nat) (s0 : Int32) (M : Cm) : Option (Int32 × Cm) := some (s0, M)
set_option maxRecDepth 100000 in
set_option maxHeartbeats 4000000 in
theorem wbC_X8_leans_35 {p : Program} {l : Launch} {e : Env} {R : Room} {s : State} {m : MethodId} {args : Array Value} {below : List Frame} {meth : Method} {c : Code} {x : Xc} {o : Int32 × Cm} {N : Nat} {K : Ka} (CX : CC p s m args meth c x K RX8 cX8_leans 3 (some .int)) (hRm : 1 ≤ R.frames ∧ 22 ≤ R.locals) (x0 : Nat) (s0 : Int32) (M : Cm) (H : Heap) (locs : List Loc) (ls : Array Slot) (hf : bC_X8_leans_35 N K x0 s0 M = some o) (hR : RC x K M H) (hS : va_S (AC K) s.heap H locs) (hl : lv_has ls 3 [(0, .ref x0)]) : W p l e R s m args below meth c H locs 0 0 (MQ below (CQI x K o) args s 0 0 (AC K)) (F0 m 35 ls [.int s0]) := by
  obtain ⟨hx, hb, hml, hown, hts, hE, hB, hr, hlk⟩ := id CX
  have hL : KLe K K := KLe.rf K
  have hcs : 0 ≤ R.cells ∧ 0 ≤ R.slots := ⟨Nat.zero_le _, Nat.zero_le _⟩
  unfold bC_X8_leans_35 at hf
  exact cr_iret CX hR hS hf dX8_leans_35
def fC_X8_leans (N : Nat) (K : Ka) (x0 : Nat) (x1 : Int32) (x2 : Int32) (M : Cm) : Option (Int32 × Cm) := gd (kd K x0 == 9) ((fC_X8_isUnit N K x0 x1 M).bind fun o2 => if o2.1 = 0 then ((bC_X8_leans_16 N K) x0 o2.2) else ((fC_X8_isUnit N K x0 x2 o2.2).bind fun o10 => if o10.1 = 0 then ((bC_X8_leans_16 N K) x0 o10.2) else (nn (cR o10.2 x0 7) fun a1 => gd (kd K a1 == 6) ((fC_X5_leaning N K a1 x1 x2 o10.2).bind fun o24 => if o24.1 = 0 then ((bC_X8_leans_35 N K) x0 0 o24.2) else ((bC_X8_leans_35 N K) x0 1 o24.2)))))
set_option maxRecDepth 100000 in
set_option maxHeartbeats 4000000 in
theorem wfC_X8_leans {p : Program} {l : Launch} {e : Env} {R : Room} {s : State} {m : MethodId} {args : Array Value} {below : List Frame} {meth : Method} {c : Code} {x : Xc} {o : Int32 × Cm} {N : Nat} {K : Ka} (CX : CC p s m args meth c x K RX8 cX8_leans 3 (some .int)) (hRm : 1 ≤ R.frames ∧ 22 ≤ R.locals) (x0 : Nat) (x1 : Int32) (x2 : Int32) (M : Cm) (H : Heap) (locs : List Loc) (ls : Array Slot) (hf : fC_X8_leans N K x0 x1 x2 M = some o) (hR : RC x K M H) (hS : va_S (AC K) s.heap H locs) (hl : lv_has ls 3 [(0, .ref x0), (1, .int x1), (2, .int x2)]) : W p l e R s m args below meth c H locs 0 0 (MQ below (CQI x K o) args s 0 0 (AC K)) (F0 m 0 ls []) := by
  obtain ⟨hx, hb, hml, hown, hts, hE, hB, hr, hlk⟩ := id CX
  have hL : KLe K K := KLe.rf K
  have hcs : 0 ≤ R.cells ∧ 0 ≤ R.slots := ⟨Nat.zero_le _, Nat.zero_le _⟩
  unfold fC_X8_leans at hf
  refine lv_aload_n hx hb dX8_leans_0 rfl (lv_at hl 0 rfl) ?_
  refine lv_iload_n hx hb dX8_leans_1 rfl (lv_at hl 1 rfl) ?_
  obtain ⟨hk_x0_9, hf⟩ := gd_some hf
  obtain ⟨o2, ho2, hf⟩ := bnd_some hf
  refine cr_callIv kc_8 CX hR hL hS (As := [.int x1]) (rest := []) hk_x0_9 (MC_X8_isUnit l x N K x0 x1 M o2 ho2) cv_X8_162 ⟨by omega, by omega⟩ rfl rfl (Nat.le_of_ble_eq_true rfl) hl.1 dX8_leans_2 hcs (fun H locs hR hS => ?_)
  refine lv_if_eq (tgt := 16) hx hb dX8_leans_5 (by decide) (fun hc => ?_) (fun hc => ?_)
  · rw [if_pos hc] at hf
    exact (wbC_X8_leans_16 CX hRm) _ _ _ _ _ hf hR hS (lv_sub hl [0] rfl)
  · rw [if_neg hc] at hf
    refine lv_aload_n hx hb dX8_leans_8 rfl (lv_at hl 0 rfl) ?_
    refine lv_iload_n hx hb dX8_leans_9 rfl (lv_at hl 2 rfl) ?_
    obtain ⟨o10, ho10, hf⟩ := bnd_some hf
    refine cr_callIv kc_8 CX hR hL hS (As := [.int x2]) (rest := []) hk_x0_9 (MC_X8_isUnit l x N K x0 x2 o2.2 o10 ho10) cv_X8_162 ⟨by omega, by omega⟩ rfl rfl (Nat.le_of_ble_eq_true rfl) hl.1 dX8_leans_10 hcs (fun H locs hR hS => ?_)
    refine lv_if_ne (tgt := 18) hx hb dX8_leans_13 (by decide) (fun hc => ?_) (fun hc => ?_)
    · rw [if_neg hc] at hf
      refine lv_aload_n hx hb dX8_leans_18 rfl (lv_at hl 0 rfl) ?_
      refine cr_getR kc_8 CX hR fa_X8_60 rfl hk_x0_9 dX8_leans_19 ?_
      refine lv_iload_n hx hb dX8_leans_22 rfl (lv_at hl 1 rfl) ?_
      refine lv_iload_n hx hb dX8_leans_23 rfl (lv_at hl 2 rfl) ?_
      obtain ⟨a1, ha1, hf⟩ := nn_some hf
      refine rf_2 ha1 ?_
      obtain ⟨hk_a1_6, hf⟩ := gd_some hf
      obtain ⟨o24, ho24, hf⟩ := bnd_some hf
      refine cr_callIv kc_5 CX hR hL hS (As := [.int x1, .int x2]) (rest := []) hk_a1_6 (MC_X5_leaning l x N K a1 x1 x2 o10.2 o24 ho24) cv_X8_289 ⟨by omega, by omega⟩ rfl rfl (Nat.le_of_ble_eq_true rfl) hl.1 dX8_leans_24 hcs (fun H locs hR hS => ?_)
      refine lv_if_eq (tgt := 34) hx hb dX8_leans_27 (by decide) (fun hc => ?_) (fun hc => ?_)
      · rw [if_pos hc] at hf
        refine lv_iconst (v := 0) hx hb dX8_leans_34 (by decide) ?_
        exact (wbC_X8_leans_35 CX hRm) _ _ _ _ _ _ hf hR hS (lv_sub hl [0] rfl)
      · rw [if_neg hc] at hf
        refine lv_iconst (v := 1) hx hb dX8_leans_30 (by decide) ?_
        refine lv_goto (tgt := 35) hx hb dX8_leans_31 (by decide) ?_
        exact (wbC_X8_leans_35 CX hRm) _ _ _ _ _ _ hf hR hS (lv_sub hl [0] rfl)
    · rw [if_pos hc] at hf
      exact (wbC_X8_leans_16 CX hRm) _ _ _ _ _ hf hR hS (lv_sub hl [0] rfl)
theorem MC_X8_leans (l : Launch) (x : Xc) (N : Nat) (K : Ka) (x0 : Nat) (x1 : Int32) (x2 : Int32) (M : Cm) (o : Int32 × Cm) (hf : fC_X8_leans N K x0 x1 x2 M = some o) : CtI l x yX8_leans cX8_leans 3 (some .int) 1 22 [.ref x0, .int x1, .int x2] K M o :=
  cr_metI RX8 (by decide) rfl (Nat.le_of_ble_eq_true rfl) (fun p e s m args below meth c ls CX hR hl => wfC_X8_leans CX ⟨Nat.le_refl _, Nat.le_refl _⟩ x0 x1 x2 M s.heap [] ls hf hR va_S.rf hl)
def fC_X8_up (N : Nat) (K : Ka) (x0 : Nat) (x1 : Int32) (x2 : Int32) (M : Cm) : Option (Int32 × Cm) := gd (kd K x0 == 9) (nn (cR M x0 4) fun a1 => gd (kd K a1 == 1) ((fC_X0_upAt N K a1 x1 x2 M).bind fun o6 => some (o6.1, o6.2)))
set_option maxRecDepth 100000 in
set_option maxHeartbeats 4000000 in
theorem wfC_X8_up {p : Program} {l : Launch} {e : Env} {R : Room} {s : State} {m : MethodId} {args : Array Value} {below : List Frame} {meth : Method} {c : Code} {x : Xc} {o : Int32 × Cm} {N : Nat} {K : Ka} (CX : CC p s m args meth c x K RX8 cX8_up 3 (some .int)) (hRm : 2 ≤ R.frames ∧ 47 ≤ R.locals) (x0 : Nat) (x1 : Int32) (x2 : Int32) (M : Cm) (H : Heap) (locs : List Loc) (ls : Array Slot) (hf : fC_X8_up N K x0 x1 x2 M = some o) (hR : RC x K M H) (hS : va_S (AC K) s.heap H locs) (hl : lv_has ls 3 [(0, .ref x0), (1, .int x1), (2, .int x2)]) : W p l e R s m args below meth c H locs 0 0 (MQ below (CQI x K o) args s 0 0 (AC K)) (F0 m 0 ls []) := by
  obtain ⟨hx, hb, hml, hown, hts, hE, hB, hr, hlk⟩ := id CX
  have hL : KLe K K := KLe.rf K
  have hcs : 0 ≤ R.cells ∧ 0 ≤ R.slots := ⟨Nat.zero_le _, Nat.zero_le _⟩
  unfold fC_X8_up at hf
  refine lv_aload_n hx hb dX8_up_0 rfl (lv_at hl 0 rfl) ?_
  obtain ⟨hk_x0_9, hf⟩ := gd_some hf
  refine cr_getR kc_8 CX hR fa_X8_38 rfl hk_x0_9 dX8_up_1 ?_
  refine lv_iload_n hx hb dX8_up_4 rfl (lv_at hl 1 rfl) ?_
  refine lv_iload_n hx hb dX8_up_5 rfl (lv_at hl 2 rfl) ?_
  obtain ⟨a1, ha1, hf⟩ := nn_some hf
  refine rf_2 ha1 ?_
  obtain ⟨hk_a1_1, hf⟩ := gd_some hf
  obtain ⟨o6, ho6, hf⟩ := bnd_some hf
  refine cr_callIv kc_0 CX hR hL hS (As := [.int x1, .int x2]) (rest := []) hk_a1_1 (MC_X0_upAt l x N K a1 x1 x2 M o6 ho6) cv_X8_191 ⟨by omega, by omega⟩ rfl rfl (Nat.le_of_ble_eq_true rfl) hl.1 dX8_up_6 hcs (fun H locs hR hS => ?_)
  exact cr_iret CX hR hS hf dX8_up_9
theorem MC_X8_up (l : Launch) (x : Xc) (N : Nat) (K : Ka) (x0 : Nat) (x1 : Int32) (x2 : Int32) (M : Cm) (o : Int32 × Cm) (hf : fC_X8_up N K x0 x1 x2 M = some o) : CtI l x yX8_up cX8_up 3 (some .int) 2 47 [.ref x0, .int x1, .int x2] K M o :=
  cr_metI RX8 (by decide) rfl (Nat.le_of_ble_eq_true rfl) (fun p e s m args below meth c ls CX hR hl => wfC_X8_up CX ⟨Nat.le_refl _, Nat.le_refl _⟩ x0 x1 x2 M s.heap [] ls hf hR va_S.rf hl)
def fC_X8_half (N : Nat) (K : Ka) (x0 : Nat) (x1 : Int32) (x2 : Int32) (M : Cm) : Option (Int32 × Cm) := gd (kd K x0 == 9) (nn (cR M x0 4) fun a1 => gd (kd K a1 == 1) ((fC_X0_halfAt N K a1 x1 x2 M).bind fun o6 => some (o6.1, o6.2)))
set_option maxRecDepth 100000 in
set_option maxHeartbeats 4000000 in
theorem wfC_X8_half {p : Program} {l : Launch} {e : Env} {R : Room} {s : State} {m : MethodId} {args : Array Value} {below : List Frame} {meth : Method} {c : Code} {x : Xc} {o : Int32 × Cm} {N : Nat} {K : Ka} (CX : CC p s m args meth c x K RX8 cX8_half 3 (some .int)) (hRm : 2 ≤ R.frames ∧ 62 ≤ R.locals) (x0 : Nat) (x1 : Int32) (x2 : Int32) (M : Cm) (H : Heap) (locs : List Loc) (ls : Array Slot) (hf : fC_X8_half N K x0 x1 x2 M = some o) (hR : RC x K M H) (hS : va_S (AC K) s.heap H locs) (hl : lv_has ls 3 [(0, .ref x0), (1, .int x1), (2, .int x2)]) : W p l e R s m args below meth c H locs 0 0 (MQ below (CQI x K o) args s 0 0 (AC K)) (F0 m 0 ls []) := by
  obtain ⟨hx, hb, hml, hown, hts, hE, hB, hr, hlk⟩ := id CX
  have hL : KLe K K := KLe.rf K
  have hcs : 0 ≤ R.cells ∧ 0 ≤ R.slots := ⟨Nat.zero_le _, Nat.zero_le _⟩
  unfold fC_X8_half at hf
  refine lv_aload_n hx hb dX8_half_0 rfl (lv_at hl 0 rfl) ?_
  obtain ⟨hk_x0_9, hf⟩ := gd_some hf
  refine cr_getR kc_8 CX hR fa_X8_38 rfl hk_x0_9 dX8_half_1 ?_
  refine lv_iload_n hx hb dX8_half_4 rfl (lv_at hl 1 rfl) ?_
  refine lv_iload_n hx hb dX8_half_5 rfl (lv_at hl 2 rfl) ?_
  obtain ⟨a1, ha1, hf⟩ := nn_some hf
  refine rf_2 ha1 ?_
  obtain ⟨hk_a1_1, hf⟩ := gd_some hf
  obtain ⟨o6, ho6, hf⟩ := bnd_some hf
  refine cr_callIv kc_0 CX hR hL hS (As := [.int x1, .int x2]) (rest := []) hk_a1_1 (MC_X0_halfAt l x N K a1 x1 x2 M o6 ho6) cv_X8_292 ⟨by omega, by omega⟩ rfl rfl (Nat.le_of_ble_eq_true rfl) hl.1 dX8_half_6 hcs (fun H locs hR hS => ?_)
  exact cr_iret CX hR hS hf dX8_half_9
theorem MC_X8_half (l : Launch) (x : Xc) (N : Nat) (K : Ka) (x0 : Nat) (x1 : Int32) (x2 : Int32) (M : Cm) (o : Int32 × Cm) (hf : fC_X8_half N K x0 x1 x2 M = some o) : CtI l x yX8_half cX8_half 3 (some .int) 2 62 [.ref x0, .int x1, .int x2] K M o :=
  cr_metI RX8 (by decide) rfl (Nat.le_of_ble_eq_true rfl) (fun p e s m args below meth c ls CX hR hl => wfC_X8_half CX ⟨Nat.le_refl _, Nat.le_refl _⟩ x0 x1 x2 M s.heap [] ls hf hR va_S.rf hl)
def fC_X8_order (N : Nat) (K : Ka) (x0 : Nat) (x1 : Int32) (x2 : Int32) (M : Cm) : Option (Int32 × Cm) := gd (kd K x0 == 9) (nn (cR M x0 4) fun a1 => gd (kd K a1 == 1) ((fC_X0_orderAt N K a1 x1 x2 M).bind fun o6 => some (o6.1, o6.2)))
set_option maxRecDepth 100000 in
set_option maxHeartbeats 4000000 in
theorem wfC_X8_order {p : Program} {l : Launch} {e : Env} {R : Room} {s : State} {m : MethodId} {args : Array Value} {below : List Frame} {meth : Method} {c : Code} {x : Xc} {o : Int32 × Cm} {N : Nat} {K : Ka} (CX : CC p s m args meth c x K RX8 cX8_order 3 (some .int)) (hRm : 2 ≤ R.frames ∧ 62 ≤ R.locals) (x0 : Nat) (x1 : Int32) (x2 : Int32) (M : Cm) (H : Heap) (locs : List Loc) (ls : Array Slot) (hf : fC_X8_order N K x0 x1 x2 M = some o) (hR : RC x K M H) (hS : va_S (AC K) s.heap H locs) (hl : lv_has ls 3 [(0, .ref x0), (1, .int x1), (2, .int x2)]) : W p l e R s m args below meth c H locs 0 0 (MQ below (CQI x K o) args s 0 0 (AC K)) (F0 m 0 ls []) := by
  obtain ⟨hx, hb, hml, hown, hts, hE, hB, hr, hlk⟩ := id CX
  have hL : KLe K K := KLe.rf K
  have hcs : 0 ≤ R.cells ∧ 0 ≤ R.slots := ⟨Nat.zero_le _, Nat.zero_le _⟩
  unfold fC_X8_order at hf
  refine lv_aload_n hx hb dX8_order_0 rfl (lv_at hl 0 rfl) ?_
  obtain ⟨hk_x0_9, hf⟩ := gd_some hf
  refine cr_getR kc_8 CX hR fa_X8_38 rfl hk_x0_9 dX8_order_1 ?_
  refine lv_iload_n hx hb dX8_order_4 rfl (lv_at hl 1 rfl) ?_
  refine lv_iload_n hx hb dX8_order_5 rfl (lv_at hl 2 rfl) ?_
  obtain ⟨a1, ha1, hf⟩ := nn_some hf
  refine rf_2 ha1 ?_
  obtain ⟨hk_a1_1, hf⟩ := gd_some hf
  obtain ⟨o6, ho6, hf⟩ := bnd_some hf
  refine cr_callIv kc_0 CX hR hL hS (As := [.int x1, .int x2]) (rest := []) hk_a1_1 (MC_X0_orderAt l x N K a1 x1 x2 M o6 ho6) cv_X8_295 ⟨by omega, by omega⟩ rfl rfl (Nat.le_of_ble_eq_true rfl) hl.1 dX8_order_6 hcs (fun H locs hR hS => ?_)
  exact cr_iret CX hR hS hf dX8_order_9
theorem MC_X8_order (l : Launch) (x : Xc) (N : Nat) (K : Ka) (x0 : Nat) (x1 : Int32) (x2 : Int32) (M : Cm) (o : Int32 × Cm) (hf : fC_X8_order N K x0 x1 x2 M = some o) : CtI l x yX8_order cX8_order 3 (some .int) 2 62 [.ref x0, .int x1, .int x2] K M o :=
  cr_metI RX8 (by decide) rfl (Nat.le_of_ble_eq_true rfl) (fun p e s m args below meth c ls CX hR hl => wfC_X8_order CX ⟨Nat.le_refl _, Nat.le_refl _⟩ x0 x1 x2 M s.heap [] ls hf hR va_S.rf hl)
def fC_X8_closed (N : Nat) (K : Ka) (x0 : Nat) (x1 : Int32) (x2 : Int32) (M : Cm) : Option (Int32 × Cm) := gd (kd K x0 == 9) (nn (cR M x0 4) fun a1 => gd (kd K a1 == 1) ((fC_X0_closedAt N K a1 x1 x2 M).bind fun o6 => some (o6.1, o6.2)))
set_option maxRecDepth 100000 in
set_option maxHeartbeats 4000000 in
theorem wfC_X8_closed {p : Program} {l : Launch} {e : Env} {R : Room} {s : State} {m : MethodId} {args : Array Value} {below : List Frame} {meth : Method} {c : Code} {x : Xc} {o : Int32 × Cm} {N : Nat} {K : Ka} (CX : CC p s m args meth c x K RX8 cX8_closed 3 (some .int)) (hRm : 2 ≤ R.frames ∧ 47 ≤ R.locals) (x0 : Nat) (x1 : Int32) (x2 : Int32) (M : Cm) (H : Heap) (locs : List Loc) (ls : Array Slot) (hf : fC_X8_closed N K x0 x1 x2 M = some o) (hR : RC x K M H) (hS : va_S (AC K) s.heap H locs) (hl : lv_has ls 3 [(0, .ref x0), (1, .int x1), (2, .int x2)]) : W p l e R s m args below meth c H locs 0 0 (MQ below (CQI x K o) args s 0 0 (AC K)) (F0 m 0 ls []) := by
  obtain ⟨hx, hb, hml, hown, hts, hE, hB, hr, hlk⟩ := id CX
  have hL : KLe K K := KLe.rf K
  have hcs : 0 ≤ R.cells ∧ 0 ≤ R.slots := ⟨Nat.zero_le _, Nat.zero_le _⟩
  unfold fC_X8_closed at hf
  refine lv_aload_n hx hb dX8_closed_0 rfl (lv_at hl 0 rfl) ?_
  obtain ⟨hk_x0_9, hf⟩ := gd_some hf
  refine cr_getR kc_8 CX hR fa_X8_38 rfl hk_x0_9 dX8_closed_1 ?_
  refine lv_iload_n hx hb dX8_closed_4 rfl (lv_at hl 1 rfl) ?_
  refine lv_iload_n hx hb dX8_closed_5 rfl (lv_at hl 2 rfl) ?_
  obtain ⟨a1, ha1, hf⟩ := nn_some hf
  refine rf_2 ha1 ?_
  obtain ⟨hk_a1_1, hf⟩ := gd_some hf
  obtain ⟨o6, ho6, hf⟩ := bnd_some hf
  refine cr_callIv kc_0 CX hR hL hS (As := [.int x1, .int x2]) (rest := []) hk_a1_1 (MC_X0_closedAt l x N K a1 x1 x2 M o6 ho6) cv_X8_298 ⟨by omega, by omega⟩ rfl rfl (Nat.le_of_ble_eq_true rfl) hl.1 dX8_closed_6 hcs (fun H locs hR hS => ?_)
  exact cr_iret CX hR hS hf dX8_closed_9
theorem MC_X8_closed (l : Launch) (x : Xc) (N : Nat) (K : Ka) (x0 : Nat) (x1 : Int32) (x2 : Int32) (M : Cm) (o : Int32 × Cm) (hf : fC_X8_closed N K x0 x1 x2 M = some o) : CtI l x yX8_closed cX8_closed 3 (some .int) 2 47 [.ref x0, .int x1, .int x2] K M o :=
  cr_metI RX8 (by decide) rfl (Nat.le_of_ble_eq_true rfl) (fun p e s m args below meth c ls CX hR hl => wfC_X8_closed CX ⟨Nat.le_refl _, Nat.le_refl _⟩ x0 x1 x2 M s.heap [] ls hf hR va_S.rf hl)
def bC_X8_count_171 (N : Nat) (K : Ka) (x0 : Nat) (s0 : Int32) (M : Cm) : Option (Int32 × Cm) := some (s0, M)
set_option maxRecDepth 100000 in
set_option maxHeartbeats 4000000 in
theorem wbC_X8_count_171 {p : Program} {l : Launch} {e : Env} {R : Room} {s : State} {m : MethodId} {args : Array Value} {below : List Frame} {meth : Method} {c : Code} {x : Xc} {o : Int32 × Cm} {N : Nat} {K : Ka} (CX : CC p s m args meth c x K RX8 cX8_count 2 (some .int)) (hRm : 1 ≤ R.frames ∧ 23 ≤ R.locals) (x0 : Nat) (s0 : Int32) (M : Cm) (H : Heap) (locs : List Loc) (ls : Array Slot) (hf : bC_X8_count_171 N K x0 s0 M = some o) (hR : RC x K M H) (hS : va_S (AC K) s.heap H locs) (hl : lv_has ls 2 [(0, .ref x0)]) : W p l e R s m args below meth c H locs 0 0 (MQ below (CQI x K o) args s 0 0 (AC K)) (F0 m 171 ls [.int s0]) := by
  obtain ⟨hx, hb, hml, hown, hts, hE, hB, hr, hlk⟩ := id CX
  have hL : KLe K K := KLe.rf K
  have hcs : 0 ≤ R.cells ∧ 0 ≤ R.slots := ⟨Nat.zero_le _, Nat.zero_le _⟩
  unfold bC_X8_count_171 at hf
  exact cr_iret CX hR hS hf dX8_count_171
def fC_X8_count (N : Nat) (K : Ka) (x0 : Nat) (x1 : Int32) (M : Cm) : Option (Int32 × Cm) := if x1 = 0 then (gd (kd K x0 == 9) (nn (cR M x0 7) fun a1 => gd (kd K a1 == 6) (some (cI M a1 10, M)))) else if x1 = 1 then (gd (kd K x0 == 9) (nn (cR M x0 7) fun a2 => gd (kd K a2 == 6) (some (cI M a2 11, M)))) else if x1 = 2 then (gd (kd K x0 == 9) (nn (cR M x0 7) fun a3 => gd (kd K a3 == 6) (some (cI M a3 12, M)))) else if x1 = 3 then (gd (kd K x0 == 9) (nn (cR M x0 2) fun a4 => gd (kd K a4 == 5) ((fC_X4_unitsAt N K a4 2 M).bind fun o101 => some (o101.1, o101.2)))) else if x1 = 4 then (gd (kd K x0 == 9) (nn (cR M x0 2) fun a5 => gd (kd K a5 == 5) ((fC_X4_unitsAt N K a5 3 M).bind fun o110 => some (o110.1, o110.2)))) else if x1 = 5 then (gd (kd K x0 == 9) (nn (cR M x0 4) fun a6 => gd (kd K a6 == 1) (some (cI M a6 5, M)))) else if x1 = 6 then (gd (kd K x0 == 9) (nn (cR M x0 4) fun a7 => gd (kd K a7 == 1) (some (cI M a7 6, M)))) else if x1 = 7 then (gd (kd K x0 == 9) (nn (cR M x0 4) fun a8 => gd (kd K a8 == 1) (some (cI M a8 4, M)))) else if x1 = 8 then (gd (kd K x0 == 9) (nn (cR M x0 2) fun a9 => gd (kd K a9 == 5) (some (cI M a9 11, M)))) else if x1 = 9 then (gd (kd K x0 == 9) (nn (cR M x0 5) fun a10 => gd (kd K a10 == 3) (some (cI M a10 11, M)))) else if x1 = 10 then (gd (kd K x0 == 9) (some (cI M x0 11, M))) else if x1 = 11 then (gd (kd K x0 == 9) (if (cI M x0 12) = 0 then ((bC_X8_count_171 N K) x0 0 M) else ((bC_X8_count_171 N K) x0 1 M))) else if x1 = 12 then (gd (kd K x0 == 9) (nn (cR M x0 2) fun a11 => gd (kd K a11 == 5) (some (cI M a11 10, M)))) else if x1 = 13 then (gd (kd K x0 == 9) (nn (cR M x0 0) fun a12 => gd (kd K a12 == 7) (some (cI M a12 5, M)))) else (some ((-1), M))
set_option maxRecDepth 100000 in
set_option maxHeartbeats 4000000 in
theorem wfC_X8_count {p : Program} {l : Launch} {e : Env} {R : Room} {s : State} {m : MethodId} {args : Array Value} {below : List Frame} {meth : Method} {c : Code} {x : Xc} {o : Int32 × Cm} {N : Nat} {K : Ka} (CX : CC p s m args meth c x K RX8 cX8_count 2 (some .int)) (hRm : 1 ≤ R.frames ∧ 23 ≤ R.locals) (x0 : Nat) (x1 : Int32) (M : Cm) (H : Heap) (locs : List Loc) (ls : Array Slot) (hf : fC_X8_count N K x0 x1 M = some o) (hR : RC x K M H) (hS : va_S (AC K) s.heap H locs) (hl : lv_has ls 2 [(0, .ref x0), (1, .int x1)]) : W p l e R s m args below meth c H locs 0 0 (MQ below (CQI x K o) args s 0 0 (AC K)) (F0 m 0 ls []) := by
  obtain ⟨hx, hb, hml, hown, hts, hE, hB, hr, hlk⟩ := id CX
  have hL : KLe K K := KLe.rf K
  have hcs : 0 ≤ R.cells ∧ 0 ≤ R.slots := ⟨Nat.zero_le _, Nat.zero_le _⟩
  unfold fC_X8_count at hf
  refine lv_iload_n hx hb dX8_count_0 rfl (lv_at hl 1 rfl) ?_
  by_cases hc0 : x1 = 0
  · rw [if_pos hc0] at hf
    refine lv_tableIn (off := 71) (tgt := 72) hx hb dX8_count_1 (by rw [hc0]; decide) (by rw [hc0]; decide) (by rw [hc0]; decide) (by decide) ?_
    refine lv_aload_n hx hb dX8_count_72 rfl (lv_at hl 0 rfl) ?_
    obtain ⟨hk_x0_9, hf⟩ := gd_some hf
    refine cr_getR kc_8 CX hR fa_X8_60 rfl hk_x0_9 dX8_count_73 ?_
    obtain ⟨a1, ha1, hf⟩ := nn_some hf
    refine rf_0 ha1 ?_
    obtain ⟨hk_a1_6, hf⟩ := gd_some hf
    refine cr_getI kc_5 CX hR fa_X8_123 rfl hk_a1_6 dX8_count_76 ?_
    exact cr_iret CX hR hS hf dX8_count_79
  · rw [if_neg hc0] at hf
    by_cases hc1 : x1 = 1
    · rw [if_pos hc1] at hf
      refine lv_tableIn (off := 79) (tgt := 80) hx hb dX8_count_1 (by rw [hc1]; decide) (by rw [hc1]; decide) (by rw [hc1]; decide) (by decide) ?_
      refine lv_aload_n hx hb dX8_count_80 rfl (lv_at hl 0 rfl) ?_
      obtain ⟨hk_x0_9, hf⟩ := gd_some hf
      refine cr_getR kc_8 CX hR fa_X8_60 rfl hk_x0_9 dX8_count_81 ?_
      obtain ⟨a2, ha2, hf⟩ := nn_some hf
      refine rf_0 ha2 ?_
      obtain ⟨hk_a2_6, hf⟩ := gd_some hf
      refine cr_getI kc_5 CX hR fa_X8_133 rfl hk_a2_6 dX8_count_84 ?_
      exact cr_iret CX hR hS hf dX8_count_87
    · rw [if_neg hc1] at hf
      by_cases hc2 : x1 = 2
      · rw [if_pos hc2] at hf
        refine lv_tableIn (off := 87) (tgt := 88) hx hb dX8_count_1 (by rw [hc2]; decide) (by rw [hc2]; decide) (by rw [hc2]; decide) (by decide) ?_
        refine lv_aload_n hx hb dX8_count_88 rfl (lv_at hl 0 rfl) ?_
        obtain ⟨hk_x0_9, hf⟩ := gd_some hf
        refine cr_getR kc_8 CX hR fa_X8_60 rfl hk_x0_9 dX8_count_89 ?_
        obtain ⟨a3, ha3, hf⟩ := nn_some hf
        refine rf_0 ha3 ?_
        obtain ⟨hk_a3_6, hf⟩ := gd_some hf
        refine cr_getI kc_5 CX hR fa_X8_139 rfl hk_a3_6 dX8_count_92 ?_
        exact cr_iret CX hR hS hf dX8_count_95
      · rw [if_neg hc2] at hf
        by_cases hc3 : x1 = 3
        · rw [if_pos hc3] at hf
          refine lv_tableIn (off := 95) (tgt := 96) hx hb dX8_count_1 (by rw [hc3]; decide) (by rw [hc3]; decide) (by rw [hc3]; decide) (by decide) ?_
          refine lv_aload_n hx hb dX8_count_96 rfl (lv_at hl 0 rfl) ?_
          obtain ⟨hk_x0_9, hf⟩ := gd_some hf
          refine cr_getR kc_8 CX hR fa_X8_28 rfl hk_x0_9 dX8_count_97 ?_
          refine lv_iconst (v := 2) hx hb dX8_count_100 (by decide) ?_
          obtain ⟨a4, ha4, hf⟩ := nn_some hf
          refine rf_1 ha4 ?_
          obtain ⟨hk_a4_5, hf⟩ := gd_some hf
          obtain ⟨o101, ho101, hf⟩ := bnd_some hf
          refine cr_callIv kc_4 CX hR hL hS (As := [.int 2]) (rest := []) hk_a4_5 (MC_X4_unitsAt l x N K a4 2 M o101 ho101) cv_X8_305 ⟨by omega, by omega⟩ rfl rfl (Nat.le_of_ble_eq_true rfl) hl.1 dX8_count_101 hcs (fun H locs hR hS => ?_)
          exact cr_iret CX hR hS hf dX8_count_104
        · rw [if_neg hc3] at hf
          by_cases hc4 : x1 = 4
          · rw [if_pos hc4] at hf
            refine lv_tableIn (off := 104) (tgt := 105) hx hb dX8_count_1 (by rw [hc4]; decide) (by rw [hc4]; decide) (by rw [hc4]; decide) (by decide) ?_
            refine lv_aload_n hx hb dX8_count_105 rfl (lv_at hl 0 rfl) ?_
            obtain ⟨hk_x0_9, hf⟩ := gd_some hf
            refine cr_getR kc_8 CX hR fa_X8_28 rfl hk_x0_9 dX8_count_106 ?_
            refine lv_iconst (v := 3) hx hb dX8_count_109 (by decide) ?_
            obtain ⟨a5, ha5, hf⟩ := nn_some hf
            refine rf_1 ha5 ?_
            obtain ⟨hk_a5_5, hf⟩ := gd_some hf
            obtain ⟨o110, ho110, hf⟩ := bnd_some hf
            refine cr_callIv kc_4 CX hR hL hS (As := [.int 3]) (rest := []) hk_a5_5 (MC_X4_unitsAt l x N K a5 3 M o110 ho110) cv_X8_305 ⟨by omega, by omega⟩ rfl rfl (Nat.le_of_ble_eq_true rfl) hl.1 dX8_count_110 hcs (fun H locs hR hS => ?_)
            exact cr_iret CX hR hS hf dX8_count_113
          · rw [if_neg hc4] at hf
            by_cases hc5 : x1 = 5
            · rw [if_pos hc5] at hf
              refine lv_tableIn (off := 113) (tgt := 114) hx hb dX8_count_1 (by rw [hc5]; decide) (by rw [hc5]; decide) (by rw [hc5]; decide) (by decide) ?_
              refine lv_aload_n hx hb dX8_count_114 rfl (lv_at hl 0 rfl) ?_
              obtain ⟨hk_x0_9, hf⟩ := gd_some hf
              refine cr_getR kc_8 CX hR fa_X8_38 rfl hk_x0_9 dX8_count_115 ?_
              obtain ⟨a6, ha6, hf⟩ := nn_some hf
              refine rf_0 ha6 ?_
              obtain ⟨hk_a6_1, hf⟩ := gd_some hf
              refine cr_getI kc_0 CX hR fa_X8_230 rfl hk_a6_1 dX8_count_118 ?_
              exact cr_iret CX hR hS hf dX8_count_121
            · rw [if_neg hc5] at hf
              by_cases hc6 : x1 = 6
              · rw [if_pos hc6] at hf
                refine lv_tableIn (off := 121) (tgt := 122) hx hb dX8_count_1 (by rw [hc6]; decide) (by rw [hc6]; decide) (by rw [hc6]; decide) (by decide) ?_
                refine lv_aload_n hx hb dX8_count_122 rfl (lv_at hl 0 rfl) ?_
                obtain ⟨hk_x0_9, hf⟩ := gd_some hf
                refine cr_getR kc_8 CX hR fa_X8_38 rfl hk_x0_9 dX8_count_123 ?_
                obtain ⟨a7, ha7, hf⟩ := nn_some hf
                refine rf_0 ha7 ?_
                obtain ⟨hk_a7_1, hf⟩ := gd_some hf
                refine cr_getI kc_0 CX hR fa_X8_233 rfl hk_a7_1 dX8_count_126 ?_
                exact cr_iret CX hR hS hf dX8_count_129
              · rw [if_neg hc6] at hf
                by_cases hc7 : x1 = 7
                · rw [if_pos hc7] at hf
                  refine lv_tableIn (off := 129) (tgt := 130) hx hb dX8_count_1 (by rw [hc7]; decide) (by rw [hc7]; decide) (by rw [hc7]; decide) (by decide) ?_
                  refine lv_aload_n hx hb dX8_count_130 rfl (lv_at hl 0 rfl) ?_
                  obtain ⟨hk_x0_9, hf⟩ := gd_some hf
                  refine cr_getR kc_8 CX hR fa_X8_38 rfl hk_x0_9 dX8_count_131 ?_
                  obtain ⟨a8, ha8, hf⟩ := nn_some hf
                  refine rf_0 ha8 ?_
                  obtain ⟨hk_a8_1, hf⟩ := gd_some hf
                  refine cr_getI kc_0 CX hR fa_X8_188 rfl hk_a8_1 dX8_count_134 ?_
                  exact cr_iret CX hR hS hf dX8_count_137
                · rw [if_neg hc7] at hf
                  by_cases hc8 : x1 = 8
                  · rw [if_pos hc8] at hf
                    refine lv_tableIn (off := 137) (tgt := 138) hx hb dX8_count_1 (by rw [hc8]; decide) (by rw [hc8]; decide) (by rw [hc8]; decide) (by decide) ?_
                    refine lv_aload_n hx hb dX8_count_138 rfl (lv_at hl 0 rfl) ?_
                    obtain ⟨hk_x0_9, hf⟩ := gd_some hf
                    refine cr_getR kc_8 CX hR fa_X8_28 rfl hk_x0_9 dX8_count_139 ?_
                    obtain ⟨a9, ha9, hf⟩ := nn_some hf
                    refine rf_0 ha9 ?_
                    obtain ⟨hk_a9_5, hf⟩ := gd_some hf
                    refine cr_getI kc_4 CX hR fa_X8_223 rfl hk_a9_5 dX8_count_142 ?_
                    exact cr_iret CX hR hS hf dX8_count_145
                  · rw [if_neg hc8] at hf
                    by_cases hc9 : x1 = 9
                    · rw [if_pos hc9] at hf
                      refine lv_tableIn (off := 145) (tgt := 146) hx hb dX8_count_1 (by rw [hc9]; decide) (by rw [hc9]; decide) (by rw [hc9]; decide) (by decide) ?_
                      refine lv_aload_n hx hb dX8_count_146 rfl (lv_at hl 0 rfl) ?_
                      obtain ⟨hk_x0_9, hf⟩ := gd_some hf
                      refine cr_getR kc_8 CX hR fa_X8_47 rfl hk_x0_9 dX8_count_147 ?_
                      obtain ⟨a10, ha10, hf⟩ := nn_some hf
                      refine rf_0 ha10 ?_
                      obtain ⟨hk_a10_3, hf⟩ := gd_some hf
                      refine cr_getI kc_2 CX hR fa_X8_308 rfl hk_a10_3 dX8_count_150 ?_
                      exact cr_iret CX hR hS hf dX8_count_153
                    · rw [if_neg hc9] at hf
                      by_cases hc10 : x1 = 10
                      · rw [if_pos hc10] at hf
                        refine lv_tableIn (off := 153) (tgt := 154) hx hb dX8_count_1 (by rw [hc10]; decide) (by rw [hc10]; decide) (by rw [hc10]; decide) (by decide) ?_
                        refine lv_aload_n hx hb dX8_count_154 rfl (lv_at hl 0 rfl) ?_
                        obtain ⟨hk_x0_9, hf⟩ := gd_some hf
                        refine cr_getI kc_8 CX hR fa_X8_74 rfl hk_x0_9 dX8_count_155 ?_
                        exact cr_iret CX hR hS hf dX8_count_158
                      · rw [if_neg hc10] at hf
                        by_cases hc11 : x1 = 11
                        · rw [if_pos hc11] at hf
                          refine lv_tableIn (off := 158) (tgt := 159) hx hb dX8_count_1 (by rw [hc11]; decide) (by rw [hc11]; decide) (by rw [hc11]; decide) (by decide) ?_
                          refine lv_aload_n hx hb dX8_count_159 rfl (lv_at hl 0 rfl) ?_
                          obtain ⟨hk_x0_9, hf⟩ := gd_some hf
                          refine cr_getI kc_8 CX hR fa_X8_77 rfl hk_x0_9 dX8_count_160 ?_
                          refine lv_if_eq (tgt := 170) hx hb dX8_count_163 (by decide) (fun hc => ?_) (fun hc => ?_)
                          · rw [if_pos hc] at hf
                            refine lv_iconst (v := 0) hx hb dX8_count_170 (by decide) ?_
                            exact (wbC_X8_count_171 CX hRm) _ _ _ _ _ _ hf hR hS (lv_sub hl [0] rfl)
                          · rw [if_neg hc] at hf
                            refine lv_iconst (v := 1) hx hb dX8_count_166 (by decide) ?_
                            refine lv_goto (tgt := 171) hx hb dX8_count_167 (by decide) ?_
                            exact (wbC_X8_count_171 CX hRm) _ _ _ _ _ _ hf hR hS (lv_sub hl [0] rfl)
                        · rw [if_neg hc11] at hf
                          by_cases hc12 : x1 = 12
                          · rw [if_pos hc12] at hf
                            refine lv_tableIn (off := 171) (tgt := 172) hx hb dX8_count_1 (by rw [hc12]; decide) (by rw [hc12]; decide) (by rw [hc12]; decide) (by decide) ?_
                            refine lv_aload_n hx hb dX8_count_172 rfl (lv_at hl 0 rfl) ?_
                            obtain ⟨hk_x0_9, hf⟩ := gd_some hf
                            refine cr_getR kc_8 CX hR fa_X8_28 rfl hk_x0_9 dX8_count_173 ?_
                            obtain ⟨a11, ha11, hf⟩ := nn_some hf
                            refine rf_0 ha11 ?_
                            obtain ⟨hk_a11_5, hf⟩ := gd_some hf
                            refine cr_getI kc_4 CX hR fa_X8_169 rfl hk_a11_5 dX8_count_176 ?_
                            exact cr_iret CX hR hS hf dX8_count_179
                          · rw [if_neg hc12] at hf
                            by_cases hc13 : x1 = 13
                            · rw [if_pos hc13] at hf
                              refine lv_tableIn (off := 179) (tgt := 180) hx hb dX8_count_1 (by rw [hc13]; decide) (by rw [hc13]; decide) (by rw [hc13]; decide) (by decide) ?_
                              refine lv_aload_n hx hb dX8_count_180 rfl (lv_at hl 0 rfl) ?_
                              obtain ⟨hk_x0_9, hf⟩ := gd_some hf
                              refine cr_getR kc_8 CX hR fa_X8_12 rfl hk_x0_9 dX8_count_181 ?_
                              obtain ⟨a12, ha12, hf⟩ := nn_some hf
                              refine rf_0 ha12 ?_
                              obtain ⟨hk_a12_7, hf⟩ := gd_some hf
                              refine cr_getI kc_6 CX hR fa_X8_85 rfl hk_a12_7 dX8_count_184 ?_
                              exact cr_iret CX hR hS hf dX8_count_187
                            · rw [if_neg hc13] at hf
                              have hn0 := tsw_ne (k := 0) rfl hc0
                              have hn1 := tsw_ne (k := 1) rfl hc1
                              have hn2 := tsw_ne (k := 2) rfl hc2
                              have hn3 := tsw_ne (k := 3) rfl hc3
                              have hn4 := tsw_ne (k := 4) rfl hc4
                              have hn5 := tsw_ne (k := 5) rfl hc5
                              have hn6 := tsw_ne (k := 6) rfl hc6
                              have hn7 := tsw_ne (k := 7) rfl hc7
                              have hn8 := tsw_ne (k := 8) rfl hc8
                              have hn9 := tsw_ne (k := 9) rfl hc9
                              have hn10 := tsw_ne (k := 10) rfl hc10
                              have hn11 := tsw_ne (k := 11) rfl hc11
                              have hn12 := tsw_ne (k := 12) rfl hc12
                              have hn13 := tsw_ne (k := 13) rfl hc13
                              refine lv_tableOut (tgt := 188) hx hb dX8_count_1 (by omega) (by decide) ?_
                              refine lv_iconst (v := (-1)) hx hb dX8_count_188 (by decide) ?_
                              exact cr_iret CX hR hS hf dX8_count_189
theorem MC_X8_count (l : Launch) (x : Xc) (N : Nat) (K : Ka) (x0 : Nat) (x1 : Int32) (M : Cm) (o : Int32 × Cm) (hf : fC_X8_count N K x0 x1 M = some o) : CtI l x yX8_count cX8_count 2 (some .int) 1 23 [.ref x0, .int x1] K M o :=
  cr_metI RX8 (by decide) rfl (Nat.le_of_ble_eq_true rfl) (fun p e s m args below meth c ls CX hR hl => wfC_X8_count CX ⟨Nat.le_refl _, Nat.le_refl _⟩ x0 x1 M s.heap [] ls hf hR va_S.rf hl)
def bC_J3_checkIndex_8e157_9 (N : Nat) (K : Ka)  (M : Cm) : Option (Int32 × Cm) := none
set_option maxRecDepth 100000 in
set_option maxHeartbeats 4000000 in
theorem wbC_J3_checkIndex_8e157_9 {p : Program} {l : Launch} {e : Env} {R : Room} {s : State} {m : MethodId} {args : Array Value} {below : List Frame} {meth : Method} {c : Code} {x : Xc} {o : Int32 × Cm} {N : Nat} {K : Ka} (CX : CC p s m args meth c x K RJ3 cJ3_checkIndex_8e157 3 (some .int)) (hRm : 0 ≤ R.frames ∧ 0 ≤ R.locals)  (M : Cm) (H : Heap) (locs : List Loc) (ls : Array Slot) (hf : bC_J3_checkIndex_8e157_9 N K  M = some o) (hR : RC x K M H) (hS : va_S (AC K) s.heap H locs) (hl : lv_has ls 3 []) : W p l e R s m args below meth c H locs 0 0 (MQ below (CQI x K o) args s 0 0 (AC K)) (F0 m 9 ls []) := by
  obtain ⟨hx, hb, hml, hown, hts, hE, hB, hr, hlk⟩ := id CX
  have hL : KLe K K := KLe.rf K
  have hcs : 0 ≤ R.cells ∧ 0 ≤ R.slots := ⟨Nat.zero_le _, Nat.zero_le _⟩
  unfold bC_J3_checkIndex_8e157_9 at hf
  cases hf
def fC_J3_checkIndex_8e157 (N : Nat) (K : Ka) (x0 : Int32) (x1 : Int32) (M : Cm) : Option (Int32 × Cm) := if x0 < 0 then ((bC_J3_checkIndex_8e157_9 N K) M) else (if x0 < x1 then (some (x0, M)) else ((bC_J3_checkIndex_8e157_9 N K) M))
set_option maxRecDepth 100000 in
set_option maxHeartbeats 4000000 in
theorem wfC_J3_checkIndex_8e157 {p : Program} {l : Launch} {e : Env} {R : Room} {s : State} {m : MethodId} {args : Array Value} {below : List Frame} {meth : Method} {c : Code} {x : Xc} {o : Int32 × Cm} {N : Nat} {K : Ka} (CX : CC p s m args meth c x K RJ3 cJ3_checkIndex_8e157 3 (some .int)) (hRm : 0 ≤ R.frames ∧ 0 ≤ R.locals) (x0 : Int32) (x1 : Int32) (M : Cm) (H : Heap) (locs : List Loc) (ls : Array Slot) (hf : fC_J3_checkIndex_8e157 N K x0 x1 M = some o) (hR : RC x K M H) (hS : va_S (AC K) s.heap H locs) (hl : lv_has ls 3 [(0, .int x0), (1, .int x1)]) : W p l e R s m args below meth c H locs 0 0 (MQ below (CQI x K o) args s 0 0 (AC K)) (F0 m 0 ls []) := by
  obtain ⟨hx, hb, hml, hown, hts, hE, hB, hr, hlk⟩ := id CX
  have hL : KLe K K := KLe.rf K
  have hcs : 0 ≤ R.cells ∧ 0 ≤ R.slots := ⟨Nat.zero_le _, Nat.zero_le _⟩
  unfold fC_J3_checkIndex_8e157 at hf
  refine lv_iload_n hx hb dJ3_checkIndex_8e157_0 rfl (lv_at hl 0 rfl) ?_
  refine lv_if_lt (tgt := 9) hx hb dJ3_checkIndex_8e157_1 (by decide) (fun hc => ?_) (fun hc => ?_)
  · rw [if_pos hc] at hf
    exact (wbC_J3_checkIndex_8e157_9 CX hRm) _ _ _ _ hf hR hS (lv_sub hl [] rfl)
  · rw [if_neg hc] at hf
    refine lv_iload_n hx hb dJ3_checkIndex_8e157_4 rfl (lv_at hl 0 rfl) ?_
    refine lv_iload_n hx hb dJ3_checkIndex_8e157_5 rfl (lv_at hl 1 rfl) ?_
    refine lv_icmp_lt (tgt := 16) hx hb dJ3_checkIndex_8e157_6 (by decide) (fun hc => ?_) (fun hc => ?_)
    · rw [if_pos hc] at hf
      refine lv_iload_n hx hb dJ3_checkIndex_8e157_16 rfl (lv_at hl 0 rfl) ?_
      exact cr_iret CX hR hS hf dJ3_checkIndex_8e157_17
    · rw [if_neg hc] at hf
      exact (wbC_J3_checkIndex_8e157_9 CX hRm) _ _ _ _ hf hR hS (lv_sub hl [] rfl)
theorem MC_J3_checkIndex_8e157 (l : Launch) (x : Xc) (N : Nat) (K : Ka) (x0 : Int32) (x1 : Int32) (x2 : Option Nat) (M : Cm) (o : Int32 × Cm) (hf : fC_J3_checkIndex_8e157 N K x0 x1 M = some o) : CtI l x yJ3_checkIndex_8e157 cJ3_checkIndex_8e157 3 (some .int) 0 0 [.int x0, .int x1, va_rf x2] K M o :=
  cr_metI RJ3 (by decide) rfl (by cases x2 <;> exact Nat.le_of_ble_eq_true rfl) (fun p e s m args below meth c ls CX hR hl => wfC_J3_checkIndex_8e157 CX ⟨Nat.le_refl _, Nat.le_refl _⟩ x0 x1 M s.heap [] ls hf hR va_S.rf (lv_sub hl [0, 1] rfl))
def fC_J0_checkIndex_df160 (N : Nat) (K : Ka) (x0 : Int32) (x1 : Int32) (M : Cm) : Option (Cm) := (fC_J3_checkIndex_8e157 N K x0 x1 M).bind fun o5 => some o5.2
set_option maxRecDepth 100000 in
set_option maxHeartbeats 4000000 in
theorem wfC_J0_checkIndex_df160 {p : Program} {l : Launch} {e : Env} {R : Room} {s : State} {m : MethodId} {args : Array Value} {below : List Frame} {meth : Method} {c : Code} {x : Xc} {o : Cm} {N : Nat} {K : Ka} (CX : CC p s m args meth c x K RJ0 cJ0_checkIndex_df160 2 none) (hRm : 1 ≤ R.frames ∧ 22 ≤ R.locals) (x0 : Int32) (x1 : Int32) (M : Cm) (H : Heap) (locs : List Loc) (ls : Array Slot) (hf : fC_J0_checkIndex_df160 N K x0 x1 M = some o) (hR : RC x K M H) (hS : va_S (AC K) s.heap H locs) (hl : lv_has ls 2 [(0, .int x0), (1, .int x1)]) : W p l e R s m args below meth c H locs 0 0 (MQ below (CQV x K o) args s 0 0 (AC K)) (F0 m 0 ls []) := by
  obtain ⟨hx, hb, hml, hown, hts, hE, hB, hr, hlk⟩ := id CX
  have hL : KLe K K := KLe.rf K
  have hcs : 0 ≤ R.cells ∧ 0 ≤ R.slots := ⟨Nat.zero_le _, Nat.zero_le _⟩
  unfold fC_J0_checkIndex_df160 at hf
  refine lv_iload_n hx hb dJ0_checkIndex_df160_0 rfl (lv_at hl 0 rfl) ?_
  refine lv_iload_n hx hb dJ0_checkIndex_df160_1 rfl (lv_at hl 1 rfl) ?_
  refine ss_fmt CX hS wf_J0_1053 dJ0_checkIndex_df160_2 ?_
  obtain ⟨o5, ho5, hf⟩ := bnd_some hf
  refine cr_callIs CX hR hL hS (As := [.int x0, .int x1, va_rf x.2.2.2.2]) (rest := []) (MC_J3_checkIndex_8e157 l x N K x0 x1 x.2.2.2.2 M o5 ho5) cs_J0_1059 ⟨by omega, by omega⟩ rfl rfl (Nat.le_of_ble_eq_true rfl) hl.1 dJ0_checkIndex_df160_5 hcs (fun H locs hR hS => ?_)
  refine lv_pop hx hb dJ0_checkIndex_df160_8 rfl ?_
  exact cr_vret CX hR hS hf dJ0_checkIndex_df160_9
theorem MC_J0_checkIndex_df160 (l : Launch) (x : Xc) (N : Nat) (K : Ka) (x0 : Int32) (x1 : Int32) (M : Cm) (o : Cm) (hf : fC_J0_checkIndex_df160 N K x0 x1 M = some o) : CtV l x yJ0_checkIndex_df160 cJ0_checkIndex_df160 2 1 22 [.int x0, .int x1] K M o :=
  cr_metV RJ0 (by decide) rfl (Nat.le_of_ble_eq_true rfl) (fun p e s m args below meth c ls CX hR hl => wfC_J0_checkIndex_df160 CX ⟨Nat.le_refl _, Nat.le_refl _⟩ x0 x1 M s.heap [] ls hf hR va_S.rf hl)
def fC_J1_charAt_3b067 (N : Nat) (K : Ka) (x0 : Nat) (x1 : Int32) (M : Cm) : Option (Int32 × Cm) := gd (decide (x0 < strN)) ((fC_J0_checkIndex_df160 N K x1 (nI (sN x0)) M).bind fun o3 => ck x1 (sN x0) (gd (isCh ((((sB x0 (x1 : Int32).toNatClampNeg) &&& 255 : Int32).toUInt32 % 65536).toInt32)) (some ((((sB x0 (x1 : Int32).toNatClampNeg) &&& 255 : Int32).toUInt32 % 65536).toInt32, o3))))
set_option maxRecDepth 100000 in
set_option maxHeartbeats 4000000 in
theorem wfC_J1_charAt_3b067 {p : Program} {l : Launch} {e : Env} {R : Room} {s : State} {m : MethodId} {args : Array Value} {below : List Frame} {meth : Method} {c : Code} {x : Xc} {o : Int32 × Cm} {N : Nat} {K : Ka} (CX : CC p s m args meth c x K RJ1 cJ1_charAt_3b067 2 (some .char)) (hRm : 2 ≤ R.frames ∧ 43 ≤ R.locals) (x0 : Nat) (x1 : Int32) (M : Cm) (H : Heap) (locs : List Loc) (ls : Array Slot) (hf : fC_J1_charAt_3b067 N K x0 x1 M = some o) (hR : RC x K M H) (hS : va_S (AC K) s.heap H locs) (hl : lv_has ls 2 [(0, .ref (x.2.2.2.1 x0)), (1, .int x1)]) : W p l e R s m args below meth c H locs 0 0 (MQ below (CQI x K o) args s 0 0 (AC K)) (F0 m 0 ls []) := by
  obtain ⟨hx, hb, hml, hown, hts, hE, hB, hr, hlk⟩ := id CX
  have hL : KLe K K := KLe.rf K
  have hcs : 0 ≤ R.cells ∧ 0 ≤ R.slots := ⟨Nat.zero_le _, Nat.zero_le _⟩
  unfold fC_J1_charAt_3b067 at hf
  refine lv_iload_n hx hb dJ1_charAt_3b067_0 rfl (lv_at hl 1 rfl) ?_
  refine lv_aload_n hx hb dJ1_charAt_3b067_1 rfl (lv_at hl 0 rfl) ?_
  obtain ⟨hs_x0, hf⟩ := gd_some hf
  refine ss_blen CX hS hs_x0 dJ1_charAt_3b067_2 ?_
  obtain ⟨o3, ho3, hf⟩ := bnd_some hf
  refine cr_callVs CX hR hL hS (As := [.int x1, .int (nI (sN x0))]) (rest := []) (MC_J0_checkIndex_df160 l x N K x1 (nI (sN x0)) M o3 ho3) cs_J1_9 ⟨by omega, by omega⟩ rfl rfl (Nat.le_of_ble_eq_true rfl) hl.1 dJ1_charAt_3b067_3 hcs (fun H locs hR hS => ?_)
  refine lv_aload_n hx hb dJ1_charAt_3b067_6 rfl (lv_at hl 0 rfl) ?_
  refine lv_iload_n hx hb dJ1_charAt_3b067_7 rfl (lv_at hl 1 rfl) ?_
  obtain ⟨hi, hf⟩ := ck_some hf
  refine ss_bald CX hS hs_x0 hi dJ1_charAt_3b067_8 ?_
  refine lv_sipush (v := 255) hx hb dJ1_charAt_3b067_9 (by decide) ?_
  refine lv_iand hx hb dJ1_charAt_3b067_12 ?_
  refine lv_i2c (v := (((sB x0 (x1 : Int32).toNatClampNeg) &&& 255 : Int32).toUInt32 % 65536).toInt32) hx hb dJ1_charAt_3b067_13 rfl ?_
  obtain ⟨hz, hf⟩ := gd_some hf
  exact cr_cret CX hR hS hz hf dJ1_charAt_3b067_14
theorem MC_J1_charAt_3b067 (l : Launch) (x : Xc) (N : Nat) (K : Ka) (x0 : Nat) (x1 : Int32) (M : Cm) (o : Int32 × Cm) (hf : fC_J1_charAt_3b067 N K x0 x1 M = some o) : CtI l x yJ1_charAt_3b067 cJ1_charAt_3b067 2 (some .char) 2 43 [.ref (x.2.2.2.1 x0), .int x1] K M o :=
  cr_metI RJ1 (by decide) rfl (Nat.le_of_ble_eq_true rfl) (fun p e s m args below meth c ls CX hR hl => wfC_J1_charAt_3b067 CX ⟨Nat.le_refl _, Nat.le_refl _⟩ x0 x1 M s.heap [] ls hf hR va_S.rf hl)
def fC_J0_charAt_5068e (N : Nat) (K : Ka) (x0 : Nat) (x1 : Int32) (M : Cm) : Option (Int32 × Cm) := gd (decide (x0 < strN)) ((fC_J0_isLatin1_aae02 N K x0 M).bind fun o1 => if o1.1 = 0 then (none) else ((fC_J1_charAt_3b067 N K x0 x1 o1.2).bind fun o12 => gd (isCh o12.1) (some (o12.1, o12.2))))
set_option maxRecDepth 100000 in
set_option maxHeartbeats 4000000 in
theorem wfC_J0_charAt_5068e {p : Program} {l : Launch} {e : Env} {R : Room} {s : State} {m : MethodId} {args : Array Value} {below : List Frame} {meth : Method} {c : Code} {x : Xc} {o : Int32 × Cm} {N : Nat} {K : Ka} (CX : CC p s m args meth c x K RJ0 cJ0_charAt_5068e 2 (some .char)) (hRm : 3 ≤ R.frames ∧ 64 ≤ R.locals) (x0 : Nat) (x1 : Int32) (M : Cm) (H : Heap) (locs : List Loc) (ls : Array Slot) (hf : fC_J0_charAt_5068e N K x0 x1 M = some o) (hR : RC x K M H) (hS : va_S (AC K) s.heap H locs) (hl : lv_has ls 2 [(0, .ref (x.2.2.1 x0)), (1, .int x1)]) : W p l e R s m args below meth c H locs 0 0 (MQ below (CQI x K o) args s 0 0 (AC K)) (F0 m 0 ls []) := by
  obtain ⟨hx, hb, hml, hown, hts, hE, hB, hr, hlk⟩ := id CX
  have hL : KLe K K := KLe.rf K
  have hcs : 0 ≤ R.cells ∧ 0 ≤ R.slots := ⟨Nat.zero_le _, Nat.zero_le _⟩
  unfold fC_J0_charAt_5068e at hf
  refine lv_aload_n hx hb dJ0_charAt_5068e_0 rfl (lv_at hl 0 rfl) ?_
  obtain ⟨hs_x0, hf⟩ := gd_some hf
  obtain ⟨o1, ho1, hf⟩ := bnd_some hf
  refine cr_callIvS CX hR hL hS (As := []) (rest := []) hs_x0 (MC_J0_isLatin1_aae02 l x N K x0 M o1 ho1) cv_J0_492 ⟨by omega, by omega⟩ rfl rfl (Nat.le_of_ble_eq_true rfl) hl.1 dJ0_charAt_5068e_1 hcs (fun H locs hR hS => ?_)
  refine lv_if_eq (tgt := 16) hx hb dJ0_charAt_5068e_4 (by decide) (fun hc => ?_) (fun hc => ?_)
  · rw [if_pos hc] at hf
    refine lv_aload_n hx hb dJ0_charAt_5068e_16 rfl (lv_at hl 0 rfl) ?_
    refine ss_value CX hS hs_x0 wf_J0_9 dJ0_charAt_5068e_17 ?_
    refine lv_iload_n hx hb dJ0_charAt_5068e_20 rfl (lv_at hl 1 rfl) ?_
    cases hf
  · rw [if_neg hc] at hf
    refine lv_aload_n hx hb dJ0_charAt_5068e_7 rfl (lv_at hl 0 rfl) ?_
    refine ss_value CX hS hs_x0 wf_J0_9 dJ0_charAt_5068e_8 ?_
    refine lv_iload_n hx hb dJ0_charAt_5068e_11 rfl (lv_at hl 1 rfl) ?_
    obtain ⟨o12, ho12, hf⟩ := bnd_some hf
    refine cr_callIs CX hR hL hS (As := [.ref (x.2.2.2.1 x0), .int x1]) (rest := []) (MC_J1_charAt_3b067 l x N K x0 x1 o1.2 o12 ho12) cs_J0_495 ⟨by omega, by omega⟩ rfl rfl (Nat.le_of_ble_eq_true rfl) hl.1 dJ0_charAt_5068e_12 hcs (fun H locs hR hS => ?_)
    obtain ⟨hz, hf⟩ := gd_some hf
    exact cr_cret CX hR hS hz hf dJ0_charAt_5068e_15
theorem MC_J0_charAt_5068e (l : Launch) (x : Xc) (N : Nat) (K : Ka) (x0 : Nat) (x1 : Int32) (M : Cm) (o : Int32 × Cm) (hf : fC_J0_charAt_5068e N K x0 x1 M = some o) : CtI l x yJ0_charAt_5068e cJ0_charAt_5068e 2 (some .char) 3 64 [.ref (x.2.2.1 x0), .int x1] K M o :=
  cr_metI RJ0 (by decide) rfl (Nat.le_of_ble_eq_true rfl) (fun p e s m args below meth c ls CX hR hl => wfC_J0_charAt_5068e CX ⟨Nat.le_refl _, Nat.le_refl _⟩ x0 x1 M s.heap [] ls hf hR va_S.rf hl)
