def bC_X5_find_12 (N : Nat) (K : Ka) (x0 : Nat) (M : Cm) : Option (Int32 × Cm) := some ((-1), M)
set_option maxRecDepth 100000 in
set_option maxHeartbeats 4000000 in
theorem wbC_X5_find_12 {p : Program} {l : Launch} {e : Env} {R : Room} {s : State} {m : MethodId} {args : Array Value} {below : List Frame} {meth : Method} {c : Code} {x : Xc} {o : Int32 × Cm} {N : Nat} {K : Ka} (CX : CC p s m args meth c x K RX5 cX5_find 8 (some .int)) (hRm : 0 ≤ R.frames ∧ 0 ≤ R.locals) (x0 : Nat) (M : Cm) (H : Heap) (locs : List Loc) (ls : Array Slot) (hf : bC_X5_find_12 N K x0 M = some o) (hR : RC x K M H) (hS : va_S (AC K) s.heap H locs) (hl : lv_has ls 8 [(0, .ref x0)]) : W p l e R s m args below meth c H locs 0 0 (MQ below (CQI x K o) args s 0 0 (AC K)) (F0 m 12 ls []) := by
  obtain ⟨hx, hb, hml, hown, hts, hE, hB, hr, hlk⟩ := id CX
  have hL : KLe K K := KLe.rf K
  have hcs : 0 ≤ R.cells ∧ 0 ≤ R.slots := ⟨Nat.zero_le _, Nat.zero_le _⟩
  unfold bC_X5_find_12 at hf
  refine lv_iconst (v := (-1)) hx hb dX5_find_12 (by decide) ?_
  exact cr_iret CX hR hS hf dX5_find_13
def lC_X5_find_51 (N : Nat) (K : Ka) (k74 : Nat → Nat → Int32 → Int32 → Cm → Option (Int32 × Cm)) (k92 : Nat → Int64 → Nat → Int32 → Cm → Option (Int32 × Cm)) : Nat → Nat → Int64 → Nat → Int32 → Nat → Int32 → Cm → Option (Int32 × Cm)
  | 0, _, _, _, _, _, _, _ => none
  | n + 1, x0, x2, x4, x5, x6, x7, M => gd (kd K x6 == 8) (if (cI M x6 8) ≤ x7 then (k92 x0 x2 x4 x5 M) else (nn (cR M x6 3) fun a1 => gd (kd K a1 == 23) (ck x7 (le K a1) (if (lg_cmp (cL M a1 (x7 : Int32).toNatClampNeg) x2) = 0 then (k74 x0 x4 x5 x7 M) else (lC_X5_find_51 N K k74 k92 n x0 x2 x4 x5 x6 (x7 + 1) M)))))
set_option maxRecDepth 100000 in
set_option maxHeartbeats 4000000 in
theorem wlC_X5_find_51 {p : Program} {l : Launch} {e : Env} {R : Room} {s : State} {m : MethodId} {args : Array Value} {below : List Frame} {meth : Method} {c : Code} {x : Xc} {o : Int32 × Cm} {N : Nat} {K : Ka} {k74 : Nat → Nat → Int32 → Int32 → Cm → Option (Int32 × Cm)} {k92 : Nat → Int64 → Nat → Int32 → Cm → Option (Int32 × Cm)} (CX : CC p s m args meth c x K RX5 cX5_find 8 (some .int)) (hRm : 0 ≤ R.frames ∧ 0 ≤ R.locals) (hk74 : ∀ (x0 : Nat) (x4 : Nat) (x5 : Int32) (x7 : Int32) (M : Cm) (H : Heap) (locs : List Loc) (ls : Array Slot), k74 x0 x4 x5 x7 M = some o → RC x K M H → va_S (AC K) s.heap H locs → lv_has ls 8 [(0, .ref x0), (4, .ref x4), (5, .int x5), (7, .int x7)] → W p l e R s m args below meth c H locs 0 0 (MQ below (CQI x K o) args s 0 0 (AC K)) (F0 m 74 ls [])) (hk92 : ∀ (x0 : Nat) (x2 : Int64) (x4 : Nat) (x5 : Int32) (M : Cm) (H : Heap) (locs : List Loc) (ls : Array Slot), k92 x0 x2 x4 x5 M = some o → RC x K M H → va_S (AC K) s.heap H locs → lv_has ls 8 [(0, .ref x0), (2, .long x2), (4, .ref x4), (5, .int x5)] → W p l e R s m args below meth c H locs 0 0 (MQ below (CQI x K o) args s 0 0 (AC K)) (F0 m 92 ls [])) : ∀ (n : Nat) (x0 : Nat) (x2 : Int64) (x4 : Nat) (x5 : Int32) (x6 : Nat) (x7 : Int32) (M : Cm) (H : Heap) (locs : List Loc) (ls : Array Slot), lC_X5_find_51 N K k74 k92 n x0 x2 x4 x5 x6 x7 M = some o → RC x K M H → va_S (AC K) s.heap H locs → lv_has ls 8 [(0, .ref x0), (2, .long x2), (4, .ref x4), (5, .int x5), (6, .ref x6), (7, .int x7)] → W p l e R s m args below meth c H locs 0 0 (MQ below (CQI x K o) args s 0 0 (AC K)) (F0 m 51 ls []) := by
  obtain ⟨hx, hb, hml, hown, hts, hE, hB, hr, hlk⟩ := id CX
  have hL : KLe K K := KLe.rf K
  have hcs : 0 ≤ R.cells ∧ 0 ≤ R.slots := ⟨Nat.zero_le _, Nat.zero_le _⟩
  intro n
  induction n with
  | zero => intro x0 x2 x4 x5 x6 x7 M H locs ls hf; cases hf
  | succ n ih =>
    intro x0 x2 x4 x5 x6 x7 M H locs ls hf hR hS hl
    rw [lC_X5_find_51] at hf
    refine lv_iload hx hb dX5_find_51 (lv_at hl 5 rfl) ?_
    refine lv_aload hx hb dX5_find_53 (lv_at hl 4 rfl) ?_
    obtain ⟨hk_x6_8, hf⟩ := gd_some hf
    refine cr_getI kc_7 CX hR fa_X5_109 rfl hk_x6_8 dX5_find_55 ?_
    refine lv_icmp_ge (tgt := 92) hx hb dX5_find_58 (by decide) (fun hc => ?_) (fun hc => ?_)
    · rw [if_pos hc] at hf
      exact hk92 _ _ _ _ _ _ _ _ hf hR hS (lv_sub hl [0, 1, 2, 3] rfl)
    · rw [if_neg hc] at hf
      refine lv_aload hx hb dX5_find_61 (lv_at hl 4 rfl) ?_
      refine cr_getR kc_7 CX hR fa_X5_112 rfl hk_x6_8 dX5_find_63 ?_
      refine lv_iload hx hb dX5_find_66 (lv_at hl 5 rfl) ?_
      obtain ⟨a1, ha1, hf⟩ := nn_some hf
      refine rf_1 ha1 ?_
      obtain ⟨hk_a1_23, hf⟩ := gd_some hf
      obtain ⟨hi, hf⟩ := ck_some hf
      refine cr_lald CX hR hk_a1_23 hi dX5_find_68 ?_
      refine lv_lload_n hx hb dX5_find_69 rfl (lv_at hl 1 rfl) ?_
      refine W.lcmp hx hb dX5_find_70 ?_
      refine lv_if_ne (tgt := 86) hx hb dX5_find_71 (by decide) (fun hc => ?_) (fun hc => ?_)
      · rw [if_neg hc] at hf
        refine lv_iinc (v := x7 + 1) (lv' := [(7, .int (x7 + 1)), (0, .ref x0), (2, .long x2), (4, .ref x4), (5, .int x5), (6, .ref x6)]) hx hb dX5_find_86 hl (k := 5) rfl rfl (by decide) rfl (fun ls hl => ?_)
        refine lv_goto (tgt := 51) hx hb dX5_find_89 (by decide) ?_
        exact ih _ _ _ _ _ _ _ _ _ _ hf hR hS (lv_sub hl [1, 2, 3, 4, 5, 0] rfl)
      · rw [if_pos hc] at hf
        exact hk74 _ _ _ _ _ _ _ _ hf hR hS (lv_sub hl [0, 2, 3, 5] rfl)
def bC_X5_find_92 (N : Nat) (K : Ka) (r28 : Nat → Int64 → Nat → Int32 → Cm → Option (Int32 × Cm)) (k74 : Nat → Nat → Int32 → Int32 → Cm → Option (Int32 × Cm)) (k98 : Nat → Cm → Option (Int32 × Cm)) (x0 : Nat) (x2 : Int64) (x4 : Nat) (x5 : Int32) (M : Cm) : Option (Int32 × Cm) := r28 x0 x2 x4 (x5 + 1) M
set_option maxRecDepth 100000 in
set_option maxHeartbeats 4000000 in
theorem wbC_X5_find_92 {p : Program} {l : Launch} {e : Env} {R : Room} {s : State} {m : MethodId} {args : Array Value} {below : List Frame} {meth : Method} {c : Code} {x : Xc} {o : Int32 × Cm} {N : Nat} {K : Ka} {r28 : Nat → Int64 → Nat → Int32 → Cm → Option (Int32 × Cm)} {k74 : Nat → Nat → Int32 → Int32 → Cm → Option (Int32 × Cm)} {k98 : Nat → Cm → Option (Int32 × Cm)} (CX : CC p s m args meth c x K RX5 cX5_find 8 (some .int)) (hRm : 0 ≤ R.frames ∧ 0 ≤ R.locals) (hr28 : ∀ (x0 : Nat) (x2 : Int64) (x4 : Nat) (x5 : Int32) (M : Cm) (H : Heap) (locs : List Loc) (ls : Array Slot), r28 x0 x2 x4 x5 M = some o → RC x K M H → va_S (AC K) s.heap H locs → lv_has ls 8 [(0, .ref x0), (2, .long x2), (4, .ref x4), (5, .int x5)] → W p l e R s m args below meth c H locs 0 0 (MQ below (CQI x K o) args s 0 0 (AC K)) (F0 m 28 ls [])) (hk74 : ∀ (x0 : Nat) (x4 : Nat) (x5 : Int32) (x7 : Int32) (M : Cm) (H : Heap) (locs : List Loc) (ls : Array Slot), k74 x0 x4 x5 x7 M = some o → RC x K M H → va_S (AC K) s.heap H locs → lv_has ls 8 [(0, .ref x0), (4, .ref x4), (5, .int x5), (7, .int x7)] → W p l e R s m args below meth c H locs 0 0 (MQ below (CQI x K o) args s 0 0 (AC K)) (F0 m 74 ls [])) (hk98 : ∀ (x0 : Nat) (M : Cm) (H : Heap) (locs : List Loc) (ls : Array Slot), k98 x0 M = some o → RC x K M H → va_S (AC K) s.heap H locs → lv_has ls 8 [(0, .ref x0)] → W p l e R s m args below meth c H locs 0 0 (MQ below (CQI x K o) args s 0 0 (AC K)) (F0 m 98 ls [])) (x0 : Nat) (x2 : Int64) (x4 : Nat) (x5 : Int32) (M : Cm) (H : Heap) (locs : List Loc) (ls : Array Slot) (hf : bC_X5_find_92 N K r28 k74 k98 x0 x2 x4 x5 M = some o) (hR : RC x K M H) (hS : va_S (AC K) s.heap H locs) (hl : lv_has ls 8 [(0, .ref x0), (2, .long x2), (4, .ref x4), (5, .int x5)]) : W p l e R s m args below meth c H locs 0 0 (MQ below (CQI x K o) args s 0 0 (AC K)) (F0 m 92 ls []) := by
  obtain ⟨hx, hb, hml, hown, hts, hE, hB, hr, hlk⟩ := id CX
  have hL : KLe K K := KLe.rf K
  have hcs : 0 ≤ R.cells ∧ 0 ≤ R.slots := ⟨Nat.zero_le _, Nat.zero_le _⟩
  unfold bC_X5_find_92 at hf
  refine lv_iinc (v := x5 + 1) (lv' := [(5, .int (x5 + 1)), (0, .ref x0), (2, .long x2), (4, .ref x4)]) hx hb dX5_find_92 hl (k := 3) rfl rfl (by decide) rfl (fun ls hl => ?_)
  refine lv_goto (tgt := 28) hx hb dX5_find_95 (by decide) ?_
  exact hr28 _ _ _ _ _ _ _ _ hf hR hS (lv_sub hl [1, 2, 3, 0] rfl)
def lC_X5_find_28 (N : Nat) (K : Ka) (k74 : Nat → Nat → Int32 → Int32 → Cm → Option (Int32 × Cm)) (k98 : Nat → Cm → Option (Int32 × Cm)) : Nat → Nat → Int64 → Nat → Int32 → Cm → Option (Int32 × Cm)
  | 0, _, _, _, _, _ => none
  | n + 1, x0, x2, x4, x5, M => gd (kd K x4 == 22) (if (nI (le K x4)) ≤ x5 then (k98 x0 M) else (gd (kd K x0 == 6) (ck x5 (le K x4) (nn (cR M x0 5) fun a1 => gd (kd K a1 == 26) (ck (cI M x4 (x5 : Int32).toNatClampNeg) (le K a1) (nn (cR M a1 (cI M x4 (x5 : Int32).toNatClampNeg : Int32).toNatClampNeg) fun a2 => (lC_X5_find_51 N K k74 (bC_X5_find_92 N K (lC_X5_find_28 N K k74 k98 n) k74 k98) N) x0 x2 x4 x5 a2 0 M))))))
set_option maxRecDepth 100000 in
set_option maxHeartbeats 4000000 in
theorem wlC_X5_find_28 {p : Program} {l : Launch} {e : Env} {R : Room} {s : State} {m : MethodId} {args : Array Value} {below : List Frame} {meth : Method} {c : Code} {x : Xc} {o : Int32 × Cm} {N : Nat} {K : Ka} {k74 : Nat → Nat → Int32 → Int32 → Cm → Option (Int32 × Cm)} {k98 : Nat → Cm → Option (Int32 × Cm)} (CX : CC p s m args meth c x K RX5 cX5_find 8 (some .int)) (hRm : 0 ≤ R.frames ∧ 0 ≤ R.locals) (hk74 : ∀ (x0 : Nat) (x4 : Nat) (x5 : Int32) (x7 : Int32) (M : Cm) (H : Heap) (locs : List Loc) (ls : Array Slot), k74 x0 x4 x5 x7 M = some o → RC x K M H → va_S (AC K) s.heap H locs → lv_has ls 8 [(0, .ref x0), (4, .ref x4), (5, .int x5), (7, .int x7)] → W p l e R s m args below meth c H locs 0 0 (MQ below (CQI x K o) args s 0 0 (AC K)) (F0 m 74 ls [])) (hk98 : ∀ (x0 : Nat) (M : Cm) (H : Heap) (locs : List Loc) (ls : Array Slot), k98 x0 M = some o → RC x K M H → va_S (AC K) s.heap H locs → lv_has ls 8 [(0, .ref x0)] → W p l e R s m args below meth c H locs 0 0 (MQ below (CQI x K o) args s 0 0 (AC K)) (F0 m 98 ls [])) : ∀ (n : Nat) (x0 : Nat) (x2 : Int64) (x4 : Nat) (x5 : Int32) (M : Cm) (H : Heap) (locs : List Loc) (ls : Array Slot), lC_X5_find_28 N K k74 k98 n x0 x2 x4 x5 M = some o → RC x K M H → va_S (AC K) s.heap H locs → lv_has ls 8 [(0, .ref x0), (2, .long x2), (4, .ref x4), (5, .int x5)] → W p l e R s m args below meth c H locs 0 0 (MQ below (CQI x K o) args s 0 0 (AC K)) (F0 m 28 ls []) := by
  obtain ⟨hx, hb, hml, hown, hts, hE, hB, hr, hlk⟩ := id CX
  have hL : KLe K K := KLe.rf K
  have hcs : 0 ≤ R.cells ∧ 0 ≤ R.slots := ⟨Nat.zero_le _, Nat.zero_le _⟩
  intro n
  induction n with
  | zero => intro x0 x2 x4 x5 M H locs ls hf; cases hf
  | succ n ih =>
    intro x0 x2 x4 x5 M H locs ls hf hR hS hl
    rw [lC_X5_find_28] at hf
    refine lv_iload hx hb dX5_find_28 (lv_at hl 3 rfl) ?_
    refine lv_aload hx hb dX5_find_30 (lv_at hl 2 rfl) ?_
    obtain ⟨hk_x4_22, hf⟩ := gd_some hf
    refine cr_ilen CX hR hk_x4_22 dX5_find_32 ?_
    refine lv_icmp_ge (tgt := 98) hx hb dX5_find_33 (by decide) (fun hc => ?_) (fun hc => ?_)
    · rw [if_pos hc] at hf
      exact hk98 _ _ _ _ _ hf hR hS (lv_sub hl [0] rfl)
    · rw [if_neg hc] at hf
      refine lv_aload_n hx hb dX5_find_36 rfl (lv_at hl 0 rfl) ?_
      obtain ⟨hk_x0_6, hf⟩ := gd_some hf
      refine cr_getR kc_5 CX hR fa_X5_49 rfl hk_x0_6 dX5_find_37 ?_
      refine lv_aload hx hb dX5_find_40 (lv_at hl 2 rfl) ?_
      refine lv_iload hx hb dX5_find_42 (lv_at hl 3 rfl) ?_
      obtain ⟨hi, hf⟩ := ck_some hf
      refine cr_iald CX hR hk_x4_22 hi dX5_find_44 ?_
      obtain ⟨a1, ha1, hf⟩ := nn_some hf
      refine rf_1 ha1 ?_
      obtain ⟨hk_a1_26, hf⟩ := gd_some hf
      obtain ⟨hi, hf⟩ := ck_some hf
      refine cr_uald CX hR hk_a1_26 hi dX5_find_45 ?_
      obtain ⟨a2, ha2, hf⟩ := nn_some hf
      refine rf_0 ha2 ?_
      refine lv_astore (lv' := [(6, .ref a2), (0, .ref x0), (2, .long x2), (4, .ref x4), (5, .int x5)]) hx hb dX5_find_46 hl (by decide) rfl (fun ls hl => ?_)
      refine lv_iconst (v := 0) hx hb dX5_find_48 (by decide) ?_
      refine lv_istore (lv' := [(7, .int 0), (6, .ref a2), (0, .ref x0), (2, .long x2), (4, .ref x4), (5, .int x5)]) hx hb dX5_find_49 hl (by decide) rfl (fun ls hl => ?_)
      exact (wlC_X5_find_51 CX hRm hk74 (wbC_X5_find_92 CX hRm ih hk74 hk98) N) _ _ _ _ _ _ _ _ _ _ hf hR hS (lv_sub hl [2, 3, 4, 5, 1, 0] rfl)
def bC_X5_find_74 (N : Nat) (K : Ka) (x0 : Nat) (x4 : Nat) (x5 : Int32) (x7 : Int32) (M : Cm) : Option (Int32 × Cm) := gd (kd K x4 == 22) (ck x5 (le K x4) (some (((cI M x4 (x5 : Int32).toNatClampNeg) * 8) + x7, M)))
set_option maxRecDepth 100000 in
set_option maxHeartbeats 4000000 in
theorem wbC_X5_find_74 {p : Program} {l : Launch} {e : Env} {R : Room} {s : State} {m : MethodId} {args : Array Value} {below : List Frame} {meth : Method} {c : Code} {x : Xc} {o : Int32 × Cm} {N : Nat} {K : Ka} (CX : CC p s m args meth c x K RX5 cX5_find 8 (some .int)) (hRm : 0 ≤ R.frames ∧ 0 ≤ R.locals) (x0 : Nat) (x4 : Nat) (x5 : Int32) (x7 : Int32) (M : Cm) (H : Heap) (locs : List Loc) (ls : Array Slot) (hf : bC_X5_find_74 N K x0 x4 x5 x7 M = some o) (hR : RC x K M H) (hS : va_S (AC K) s.heap H locs) (hl : lv_has ls 8 [(0, .ref x0), (4, .ref x4), (5, .int x5), (7, .int x7)]) : W p l e R s m args below meth c H locs 0 0 (MQ below (CQI x K o) args s 0 0 (AC K)) (F0 m 74 ls []) := by
  obtain ⟨hx, hb, hml, hown, hts, hE, hB, hr, hlk⟩ := id CX
  have hL : KLe K K := KLe.rf K
  have hcs : 0 ≤ R.cells ∧ 0 ≤ R.slots := ⟨Nat.zero_le _, Nat.zero_le _⟩
  unfold bC_X5_find_74 at hf
  refine lv_aload hx hb dX5_find_74 (lv_at hl 1 rfl) ?_
  refine lv_iload hx hb dX5_find_76 (lv_at hl 2 rfl) ?_
  obtain ⟨hk_x4_22, hf⟩ := gd_some hf
  obtain ⟨hi, hf⟩ := ck_some hf
  refine cr_iald CX hR hk_x4_22 hi dX5_find_78 ?_
  refine lv_bipush (v := 8) hx hb dX5_find_79 (by decide) ?_
  refine lv_imul hx hb dX5_find_81 ?_
  refine lv_iload hx hb dX5_find_82 (lv_at hl 3 rfl) ?_
  refine lv_iadd hx hb dX5_find_84 ?_
  exact cr_iret CX hR hS hf dX5_find_85
def bC_X5_find_98 (N : Nat) (K : Ka) (x0 : Nat) (M : Cm) : Option (Int32 × Cm) := some ((-1), M)
set_option maxRecDepth 100000 in
set_option maxHeartbeats 4000000 in
theorem wbC_X5_find_98 {p : Program} {l : Launch} {e : Env} {R : Room} {s : State} {m : MethodId} {args : Array Value} {below : List Frame} {meth : Method} {c : Code} {x : Xc} {o : Int32 × Cm} {N : Nat} {K : Ka} (CX : CC p s m args meth c x K RX5 cX5_find 8 (some .int)) (hRm : 0 ≤ R.frames ∧ 0 ≤ R.locals) (x0 : Nat) (M : Cm) (H : Heap) (locs : List Loc) (ls : Array Slot) (hf : bC_X5_find_98 N K x0 M = some o) (hR : RC x K M H) (hS : va_S (AC K) s.heap H locs) (hl : lv_has ls 8 [(0, .ref x0)]) : W p l e R s m args below meth c H locs 0 0 (MQ below (CQI x K o) args s 0 0 (AC K)) (F0 m 98 ls []) := by
  obtain ⟨hx, hb, hml, hown, hts, hE, hB, hr, hlk⟩ := id CX
  have hL : KLe K K := KLe.rf K
  have hcs : 0 ≤ R.cells ∧ 0 ≤ R.slots := ⟨Nat.zero_le _, Nat.zero_le _⟩
  unfold bC_X5_find_98 at hf
  refine lv_iconst (v := (-1)) hx hb dX5_find_98 (by decide) ?_
  exact cr_iret CX hR hS hf dX5_find_99
def fC_X5_find (N : Nat) (K : Ka) (x0 : Nat) (x1 : Int32) (x2 : Int64) (M : Cm) : Option (Int32 × Cm) := if x1 < 0 then ((bC_X5_find_12 N K) x0 M) else (gd (kd K x0 == 6) (if x1 < (cI M x0 11) then (nn (cR M x0 5) fun a1 => gd (kd K a1 == 26) (ck x1 (le K a1) (nn (cR M a1 (x1 : Int32).toNatClampNeg) fun a2 => gd (kd K a2 == 8) (nn (cR M a2 10) fun a3 => (lC_X5_find_28 N K (bC_X5_find_74 N K) (bC_X5_find_98 N K) N) x0 x2 a3 0 M)))) else ((bC_X5_find_12 N K) x0 M)))
set_option maxRecDepth 100000 in
set_option maxHeartbeats 4000000 in
theorem wfC_X5_find {p : Program} {l : Launch} {e : Env} {R : Room} {s : State} {m : MethodId} {args : Array Value} {below : List Frame} {meth : Method} {c : Code} {x : Xc} {o : Int32 × Cm} {N : Nat} {K : Ka} (CX : CC p s m args meth c x K RX5 cX5_find 8 (some .int)) (hRm : 0 ≤ R.frames ∧ 0 ≤ R.locals) (x0 : Nat) (x1 : Int32) (x2 : Int64) (M : Cm) (H : Heap) (locs : List Loc) (ls : Array Slot) (hf : fC_X5_find N K x0 x1 x2 M = some o) (hR : RC x K M H) (hS : va_S (AC K) s.heap H locs) (hl : lv_has ls 8 [(0, .ref x0), (1, .int x1), (2, .long x2)]) : W p l e R s m args below meth c H locs 0 0 (MQ below (CQI x K o) args s 0 0 (AC K)) (F0 m 0 ls []) := by
  obtain ⟨hx, hb, hml, hown, hts, hE, hB, hr, hlk⟩ := id CX
  have hL : KLe K K := KLe.rf K
  have hcs : 0 ≤ R.cells ∧ 0 ≤ R.slots := ⟨Nat.zero_le _, Nat.zero_le _⟩
  unfold fC_X5_find at hf
  refine lv_iload_n hx hb dX5_find_0 rfl (lv_at hl 1 rfl) ?_
  refine lv_if_lt (tgt := 12) hx hb dX5_find_1 (by decide) (fun hc => ?_) (fun hc => ?_)
  · rw [if_pos hc] at hf
    exact (wbC_X5_find_12 CX hRm) _ _ _ _ _ hf hR hS (lv_sub hl [0] rfl)
  · rw [if_neg hc] at hf
    refine lv_iload_n hx hb dX5_find_4 rfl (lv_at hl 1 rfl) ?_
    refine lv_aload_n hx hb dX5_find_5 rfl (lv_at hl 0 rfl) ?_
    obtain ⟨hk_x0_6, hf⟩ := gd_some hf
    refine cr_getI kc_5 CX hR fa_X5_15 rfl hk_x0_6 dX5_find_6 ?_
    refine lv_icmp_lt (tgt := 14) hx hb dX5_find_9 (by decide) (fun hc => ?_) (fun hc => ?_)
    · rw [if_pos hc] at hf
      refine lv_aload_n hx hb dX5_find_14 rfl (lv_at hl 0 rfl) ?_
      refine cr_getR kc_5 CX hR fa_X5_49 rfl hk_x0_6 dX5_find_15 ?_
      refine lv_iload_n hx hb dX5_find_18 rfl (lv_at hl 1 rfl) ?_
      obtain ⟨a1, ha1, hf⟩ := nn_some hf
      refine rf_1 ha1 ?_
      obtain ⟨hk_a1_26, hf⟩ := gd_some hf
      obtain ⟨hi, hf⟩ := ck_some hf
      refine cr_uald CX hR hk_a1_26 hi dX5_find_19 ?_
      obtain ⟨a2, ha2, hf⟩ := nn_some hf
      refine rf_0 ha2 ?_
      obtain ⟨hk_a2_8, hf⟩ := gd_some hf
      refine cr_getR kc_7 CX hR fa_X5_75 rfl hk_a2_8 dX5_find_20 ?_
      obtain ⟨a3, ha3, hf⟩ := nn_some hf
      refine rf_0 ha3 ?_
      refine lv_astore (lv' := [(4, .ref a3), (0, .ref x0), (1, .int x1), (2, .long x2)]) hx hb dX5_find_23 hl (by decide) rfl (fun ls hl => ?_)
      refine lv_iconst (v := 0) hx hb dX5_find_25 (by decide) ?_
      refine lv_istore (lv' := [(5, .int 0), (4, .ref a3), (0, .ref x0), (1, .int x1), (2, .long x2)]) hx hb dX5_find_26 hl (by decide) rfl (fun ls hl => ?_)
      exact (wlC_X5_find_28 CX hRm (wbC_X5_find_74 CX hRm) (wbC_X5_find_98 CX hRm) N) _ _ _ _ _ _ _ _ hf hR hS (lv_sub hl [2, 4, 1, 0] rfl)
    · rw [if_neg hc] at hf
      exact (wbC_X5_find_12 CX hRm) _ _ _ _ _ hf hR hS (lv_sub hl [0] rfl)
theorem MC_X5_find (l : Launch) (x : Xc) (N : Nat) (K : Ka) (x0 : Nat) (x1 : Int32) (x2 : Int64) (M : Cm) (o : Int32 × Cm) (hf : fC_X5_find N K x0 x1 x2 M = some o) : CtI l x yX5_find cX5_find 8 (some .int) 0 0 [.ref x0, .int x1, .long x2] K M o :=
  cr_metI RX5 (by decide) rfl (Nat.le_of_ble_eq_true rfl) (fun p e s m args below meth c ls CX hR hl => wfC_X5_find CX ⟨Nat.le_refl _, Nat.le_refl _⟩ x0 x1 x2 M s.heap [] ls hf hR va_S.rf hl)
def fC_X5_isStatic (N : Nat) (K : Ka) (x0 : Nat) (x1 : Int32) (M : Cm) : Option (Int32 × Cm) := gd (kd K x0 == 6) (gd (8 != 0) (nn (cR M x0 5) fun a1 => gd (kd K a1 == 26) (ck (x1 / 8) (le K a1) (nn (cR M a1 (x1 / 8 : Int32).toNatClampNeg) fun a2 => gd (kd K a2 == 8) (gd (8 != 0) (nn (cR M a2 5) fun a3 => gd (kd K a3 == 24) (ck (x1 - x1 / 8 * 8) (le K a3) (gd (is01 (cI M a3 (x1 - x1 / 8 * 8 : Int32).toNatClampNeg)) (some (cI M a3 (x1 - x1 / 8 * 8 : Int32).toNatClampNeg, M))))))))))
set_option maxRecDepth 100000 in
set_option maxHeartbeats 4000000 in
theorem wfC_X5_isStatic {p : Program} {l : Launch} {e : Env} {R : Room} {s : State} {m : MethodId} {args : Array Value} {below : List Frame} {meth : Method} {c : Code} {x : Xc} {o : Int32 × Cm} {N : Nat} {K : Ka} (CX : CC p s m args meth c x K RX5 cX5_isStatic 2 (some .boolean)) (hRm : 0 ≤ R.frames ∧ 0 ≤ R.locals) (x0 : Nat) (x1 : Int32) (M : Cm) (H : Heap) (locs : List Loc) (ls : Array Slot) (hf : fC_X5_isStatic N K x0 x1 M = some o) (hR : RC x K M H) (hS : va_S (AC K) s.heap H locs) (hl : lv_has ls 2 [(0, .ref x0), (1, .int x1)]) : W p l e R s m args below meth c H locs 0 0 (MQ below (CQI x K o) args s 0 0 (AC K)) (F0 m 0 ls []) := by
  obtain ⟨hx, hb, hml, hown, hts, hE, hB, hr, hlk⟩ := id CX
  have hL : KLe K K := KLe.rf K
  have hcs : 0 ≤ R.cells ∧ 0 ≤ R.slots := ⟨Nat.zero_le _, Nat.zero_le _⟩
  unfold fC_X5_isStatic at hf
  refine lv_aload_n hx hb dX5_isStatic_0 rfl (lv_at hl 0 rfl) ?_
  obtain ⟨hk_x0_6, hf⟩ := gd_some hf
  refine cr_getR kc_5 CX hR fa_X5_49 rfl hk_x0_6 dX5_isStatic_1 ?_
  refine lv_iload_n hx hb dX5_isStatic_4 rfl (lv_at hl 1 rfl) ?_
  refine lv_bipush (v := 8) hx hb dX5_isStatic_5 (by decide) ?_
  obtain ⟨hq, hf⟩ := gd_some hf
  refine lv_idiv hx hb dX5_isStatic_7 (by simpa using hq) ?_
  obtain ⟨a1, ha1, hf⟩ := nn_some hf
  refine rf_1 ha1 ?_
  obtain ⟨hk_a1_26, hf⟩ := gd_some hf
  obtain ⟨hi, hf⟩ := ck_some hf
  refine cr_uald CX hR hk_a1_26 hi dX5_isStatic_8 ?_
  obtain ⟨a2, ha2, hf⟩ := nn_some hf
  refine rf_0 ha2 ?_
  obtain ⟨hk_a2_8, hf⟩ := gd_some hf
  refine cr_getR kc_7 CX hR fa_X5_115 rfl hk_a2_8 dX5_isStatic_9 ?_
  refine lv_iload_n hx hb dX5_isStatic_12 rfl (lv_at hl 1 rfl) ?_
  refine lv_bipush (v := 8) hx hb dX5_isStatic_13 (by decide) ?_
  obtain ⟨hq, hf⟩ := gd_some hf
  refine lv_irem hx hb dX5_isStatic_15 (by simpa using hq) ?_
  obtain ⟨a3, ha3, hf⟩ := nn_some hf
  refine rf_1 ha3 ?_
  obtain ⟨hk_a3_24, hf⟩ := gd_some hf
  obtain ⟨hi, hf⟩ := ck_some hf
  refine cr_zald CX hR hk_a3_24 hi dX5_isStatic_16 ?_
  obtain ⟨hz, hf⟩ := gd_some hf
  exact cr_zret CX hR hS hz hf dX5_isStatic_17
theorem MC_X5_isStatic (l : Launch) (x : Xc) (N : Nat) (K : Ka) (x0 : Nat) (x1 : Int32) (M : Cm) (o : Int32 × Cm) (hf : fC_X5_isStatic N K x0 x1 M = some o) : CtI l x yX5_isStatic cX5_isStatic 2 (some .boolean) 0 0 [.ref x0, .int x1] K M o :=
  cr_metI RX5 (by decide) rfl (Nat.le_of_ble_eq_true rfl) (fun p e s m args below meth c ls CX hR hl => wfC_X5_isStatic CX ⟨Nat.le_refl _, Nat.le_refl _⟩ x0 x1 M s.heap [] ls hf hR va_S.rf hl)
def bC_X5_leanOn_24 (N : Nat) (K : Ka) (x0 : Nat) (M : Cm) : Option (Cm) := some M
set_option maxRecDepth 100000 in
set_option maxHeartbeats 4000000 in
theorem wbC_X5_leanOn_24 {p : Program} {l : Launch} {e : Env} {R : Room} {s : State} {m : MethodId} {args : Array Value} {below : List Frame} {meth : Method} {c : Code} {x : Xc} {o : Cm} {N : Nat} {K : Ka} (CX : CC p s m args meth c x K RX5 cX5_leanOn 3 none) (hRm : 0 ≤ R.frames ∧ 0 ≤ R.locals) (x0 : Nat) (M : Cm) (H : Heap) (locs : List Loc) (ls : Array Slot) (hf : bC_X5_leanOn_24 N K x0 M = some o) (hR : RC x K M H) (hS : va_S (AC K) s.heap H locs) (hl : lv_has ls 3 [(0, .ref x0)]) : W p l e R s m args below meth c H locs 0 0 (MQ below (CQV x K o) args s 0 0 (AC K)) (F0 m 24 ls []) := by
  obtain ⟨hx, hb, hml, hown, hts, hE, hB, hr, hlk⟩ := id CX
  have hL : KLe K K := KLe.rf K
  have hcs : 0 ≤ R.cells ∧ 0 ≤ R.slots := ⟨Nat.zero_le _, Nat.zero_le _⟩
  unfold bC_X5_leanOn_24 at hf
  exact cr_vret CX hR hS hf dX5_leanOn_24
def fC_X5_leanOn (N : Nat) (K : Ka) (x0 : Nat) (x1 : Int32) (x2 : Int32) (M : Cm) : Option (Cm) := if x1 < 0 then ((bC_X5_leanOn_24 N K) x0 M) else (gd (kd K x0 == 6) (if (cI M x0 11) ≤ x1 then ((bC_X5_leanOn_24 N K) x0 M) else (nn (cR M x0 6) fun a1 => gd (kd K a1 == 22) (ck x1 (le K a1) (ck x1 (le K a1) ((bC_X5_leanOn_24 N K) x0 (wI M a1 (x1 : Int32).toNatClampNeg ((cI M a1 (x1 : Int32).toNatClampNeg) ||| (1 <<< (x2 &&& 31))))))))))
set_option maxRecDepth 100000 in
set_option maxHeartbeats 4000000 in
theorem wfC_X5_leanOn {p : Program} {l : Launch} {e : Env} {R : Room} {s : State} {m : MethodId} {args : Array Value} {below : List Frame} {meth : Method} {c : Code} {x : Xc} {o : Cm} {N : Nat} {K : Ka} (CX : CC p s m args meth c x K RX5 cX5_leanOn 3 none) (hRm : 0 ≤ R.frames ∧ 0 ≤ R.locals) (x0 : Nat) (x1 : Int32) (x2 : Int32) (M : Cm) (H : Heap) (locs : List Loc) (ls : Array Slot) (hf : fC_X5_leanOn N K x0 x1 x2 M = some o) (hR : RC x K M H) (hS : va_S (AC K) s.heap H locs) (hl : lv_has ls 3 [(0, .ref x0), (1, .int x1), (2, .int x2)]) : W p l e R s m args below meth c H locs 0 0 (MQ below (CQV x K o) args s 0 0 (AC K)) (F0 m 0 ls []) := by
  obtain ⟨hx, hb, hml, hown, hts, hE, hB, hr, hlk⟩ := id CX
  have hL : KLe K K := KLe.rf K
  have hcs : 0 ≤ R.cells ∧ 0 ≤ R.slots := ⟨Nat.zero_le _, Nat.zero_le _⟩
  unfold fC_X5_leanOn at hf
  refine lv_iload_n hx hb dX5_leanOn_0 rfl (lv_at hl 1 rfl) ?_
  refine lv_if_lt (tgt := 24) hx hb dX5_leanOn_1 (by decide) (fun hc => ?_) (fun hc => ?_)
  · rw [if_pos hc] at hf
    exact (wbC_X5_leanOn_24 CX hRm) _ _ _ _ _ hf hR hS (lv_sub hl [0] rfl)
  · rw [if_neg hc] at hf
    refine lv_iload_n hx hb dX5_leanOn_4 rfl (lv_at hl 1 rfl) ?_
    refine lv_aload_n hx hb dX5_leanOn_5 rfl (lv_at hl 0 rfl) ?_
    obtain ⟨hk_x0_6, hf⟩ := gd_some hf
    refine cr_getI kc_5 CX hR fa_X5_15 rfl hk_x0_6 dX5_leanOn_6 ?_
    refine lv_icmp_ge (tgt := 24) hx hb dX5_leanOn_9 (by decide) (fun hc => ?_) (fun hc => ?_)
    · rw [if_pos hc] at hf
      exact (wbC_X5_leanOn_24 CX hRm) _ _ _ _ _ hf hR hS (lv_sub hl [0] rfl)
    · rw [if_neg hc] at hf
      refine lv_aload_n hx hb dX5_leanOn_12 rfl (lv_at hl 0 rfl) ?_
      refine cr_getR kc_5 CX hR fa_X5_53 rfl hk_x0_6 dX5_leanOn_13 ?_
      refine lv_iload_n hx hb dX5_leanOn_16 rfl (lv_at hl 1 rfl) ?_
      obtain ⟨a1, ha1, hf⟩ := nn_some hf
      refine rf_1 ha1 ?_
      refine lv_dup2_11 hx hb dX5_leanOn_17 rfl rfl ?_
      obtain ⟨hk_a1_22, hf⟩ := gd_some hf
      obtain ⟨hi, hf⟩ := ck_some hf
      refine cr_iald CX hR hk_a1_22 hi dX5_leanOn_18 ?_
      refine lv_iconst (v := 1) hx hb dX5_leanOn_19 (by decide) ?_
      refine lv_iload_n hx hb dX5_leanOn_20 rfl (lv_at hl 2 rfl) ?_
      refine lv_ishl hx hb dX5_leanOn_21 ?_
      refine lv_ior hx hb dX5_leanOn_22 ?_
      obtain ⟨hi, hf⟩ := ck_some hf
      refine cr_iast CX hR hL hS hk_a1_22 hi dX5_leanOn_23 (fun H locs hR hS => ?_)
      exact (wbC_X5_leanOn_24 CX hRm) _ _ _ _ _ hf hR hS (lv_sub hl [0] rfl)
theorem MC_X5_leanOn (l : Launch) (x : Xc) (N : Nat) (K : Ka) (x0 : Nat) (x1 : Int32) (x2 : Int32) (M : Cm) (o : Cm) (hf : fC_X5_leanOn N K x0 x1 x2 M = some o) : CtV l x yX5_leanOn cX5_leanOn 3 0 0 [.ref x0, .int x1, .int x2] K M o :=
  cr_metV RX5 (by decide) rfl (Nat.le_of_ble_eq_true rfl) (fun p e s m args below meth c ls CX hR hl => wfC_X5_leanOn CX ⟨Nat.le_refl _, Nat.le_refl _⟩ x0 x1 x2 M s.heap [] ls hf hR va_S.rf hl)
def fC_X5_word (N : Nat) (K : Ka) (x0 : Int32) (x1 : Int32) (x2 : Int32) (M : Cm) : Option (Int64 × Cm) := some (((((x2 : Int32).toInt64) <<< ((32 : Int32).toInt64 &&& 63)) ||| (((x1 &&& 16777215 : Int32).toInt64) <<< ((8 : Int32).toInt64 &&& 63))) ||| ((x0 : Int32).toInt64), M)
set_option maxRecDepth 100000 in
set_option maxHeartbeats 4000000 in
theorem wfC_X5_word {p : Program} {l : Launch} {e : Env} {R : Room} {s : State} {m : MethodId} {args : Array Value} {below : List Frame} {meth : Method} {c : Code} {x : Xc} {o : Int64 × Cm} {N : Nat} {K : Ka} (CX : CC p s m args meth c x K RX5 cX5_word 3 (some .long)) (hRm : 0 ≤ R.frames ∧ 0 ≤ R.locals) (x0 : Int32) (x1 : Int32) (x2 : Int32) (M : Cm) (H : Heap) (locs : List Loc) (ls : Array Slot) (hf : fC_X5_word N K x0 x1 x2 M = some o) (hR : RC x K M H) (hS : va_S (AC K) s.heap H locs) (hl : lv_has ls 3 [(0, .int x0), (1, .int x1), (2, .int x2)]) : W p l e R s m args below meth c H locs 0 0 (MQ below (CQL x K o) args s 0 0 (AC K)) (F0 m 0 ls []) := by
  obtain ⟨hx, hb, hml, hown, hts, hE, hB, hr, hlk⟩ := id CX
  have hL : KLe K K := KLe.rf K
  have hcs : 0 ≤ R.cells ∧ 0 ≤ R.slots := ⟨Nat.zero_le _, Nat.zero_le _⟩
  unfold fC_X5_word at hf
  refine lv_iload_n hx hb dX5_word_0 rfl (lv_at hl 2 rfl) ?_
  refine lv_i2l (v := (x2 : Int32).toInt64) hx hb dX5_word_1 rfl ?_
  refine lv_bipush (v := 32) hx hb dX5_word_2 (by decide) ?_
  refine lv_lshl (v := ((x2 : Int32).toInt64) <<< ((32 : Int32).toInt64 &&& 63)) hx hb dX5_word_4 rfl ?_
  refine lv_iload_n hx hb dX5_word_5 rfl (lv_at hl 1 rfl) ?_
  refine lv_ldc hx hb hown (hts _ wc_932) dX5_word_6 ?_
  refine lv_iand hx hb dX5_word_8 ?_
  refine lv_i2l (v := (x1 &&& 16777215 : Int32).toInt64) hx hb dX5_word_9 rfl ?_
  refine lv_bipush (v := 8) hx hb dX5_word_10 (by decide) ?_
  refine lv_lshl (v := ((x1 &&& 16777215 : Int32).toInt64) <<< ((8 : Int32).toInt64 &&& 63)) hx hb dX5_word_12 rfl ?_
  refine lv_lor hx hb dX5_word_13 ?_
  refine lv_iload_n hx hb dX5_word_14 rfl (lv_at hl 0 rfl) ?_
  refine lv_i2l (v := (x0 : Int32).toInt64) hx hb dX5_word_15 rfl ?_
  refine lv_lor hx hb dX5_word_16 ?_
  exact cr_lret CX hR hS hf dX5_word_17
theorem MC_X5_word (l : Launch) (x : Xc) (N : Nat) (K : Ka) (x0 : Int32) (x1 : Int32) (x2 : Int32) (M : Cm) (o : Int64 × Cm) (hf : fC_X5_word N K x0 x1 x2 M = some o) : CtL l x yX5_word cX5_word 3 0 0 [.int x0, .int x1, .int x2] K M o :=
  cr_metL RX5 (by decide) rfl (Nat.le_of_ble_eq_true rfl) (fun p e s m args below meth c ls CX hR hl => wfC_X5_word CX ⟨Nat.le_refl _, Nat.le_refl _⟩ x0 x1 x2 M s.heap [] ls hf hR va_S.rf hl)
def bC_X5_placeWord_21 (N : Nat) (K : Ka) (x0 : Nat) (x1 : Int32) (s0 : Int32) (M : Cm) : Option (Int64 × Cm) := gd (8 != 0) (gd (kd K x0 == 6) (nn (cR M x0 5) fun a1 => gd (kd K a1 == 26) (ck (x1 / 8) (le K a1) (nn (cR M a1 (x1 / 8 : Int32).toNatClampNeg) fun a2 => gd (kd K a2 == 8) (gd (8 != 0) (nn (cR M a2 4) fun a3 => gd (kd K a3 == 22) (ck (x1 - x1 / 8 * 8) (le K a3) ((fC_X5_word N K s0 (x1 / 8) (cI M a3 (x1 - x1 / 8 * 8 : Int32).toNatClampNeg) M).bind fun o46 => some (o46.1, o46.2)))))))))
set_option maxRecDepth 100000 in
set_option maxHeartbeats 4000000 in
theorem wbC_X5_placeWord_21 {p : Program} {l : Launch} {e : Env} {R : Room} {s : State} {m : MethodId} {args : Array Value} {below : List Frame} {meth : Method} {c : Code} {x : Xc} {o : Int64 × Cm} {N : Nat} {K : Ka} (CX : CC p s m args meth c x K RX5 cX5_placeWord 5 (some .long)) (hRm : 1 ≤ R.frames ∧ 22 ≤ R.locals) (x0 : Nat) (x1 : Int32) (s0 : Int32) (M : Cm) (H : Heap) (locs : List Loc) (ls : Array Slot) (hf : bC_X5_placeWord_21 N K x0 x1 s0 M = some o) (hR : RC x K M H) (hS : va_S (AC K) s.heap H locs) (hl : lv_has ls 5 [(0, .ref x0), (1, .int x1)]) : W p l e R s m args below meth c H locs 0 0 (MQ below (CQL x K o) args s 0 0 (AC K)) (F0 m 21 ls [.int s0]) := by
  obtain ⟨hx, hb, hml, hown, hts, hE, hB, hr, hlk⟩ := id CX
  have hL : KLe K K := KLe.rf K
  have hcs : 0 ≤ R.cells ∧ 0 ≤ R.slots := ⟨Nat.zero_le _, Nat.zero_le _⟩
  unfold bC_X5_placeWord_21 at hf
  refine lv_istore_n (lv' := [(3, .int s0), (0, .ref x0), (1, .int x1)]) hx hb dX5_placeWord_21 rfl hl (by decide) rfl (fun ls hl => ?_)
  refine lv_iload_n hx hb dX5_placeWord_22 rfl (lv_at hl 2 rfl) ?_
  refine lv_bipush (v := 8) hx hb dX5_placeWord_23 (by decide) ?_
  obtain ⟨hq, hf⟩ := gd_some hf
  refine lv_idiv hx hb dX5_placeWord_25 (by simpa using hq) ?_
  refine lv_istore (lv' := [(4, .int (x1 / 8)), (3, .int s0), (0, .ref x0), (1, .int x1)]) hx hb dX5_placeWord_26 hl (by decide) rfl (fun ls hl => ?_)
  refine lv_iload_n hx hb dX5_placeWord_28 rfl (lv_at hl 1 rfl) ?_
  refine lv_iload hx hb dX5_placeWord_29 (lv_at hl 0 rfl) ?_
  refine lv_aload_n hx hb dX5_placeWord_31 rfl (lv_at hl 2 rfl) ?_
  obtain ⟨hk_x0_6, hf⟩ := gd_some hf
  refine cr_getR kc_5 CX hR fa_X5_49 rfl hk_x0_6 dX5_placeWord_32 ?_
  refine lv_iload hx hb dX5_placeWord_35 (lv_at hl 0 rfl) ?_
  obtain ⟨a1, ha1, hf⟩ := nn_some hf
  refine rf_1 ha1 ?_
  obtain ⟨hk_a1_26, hf⟩ := gd_some hf
  obtain ⟨hi, hf⟩ := ck_some hf
  refine cr_uald CX hR hk_a1_26 hi dX5_placeWord_37 ?_
  obtain ⟨a2, ha2, hf⟩ := nn_some hf
  refine rf_0 ha2 ?_
  obtain ⟨hk_a2_8, hf⟩ := gd_some hf
  refine cr_getR kc_7 CX hR fa_X5_123 rfl hk_a2_8 dX5_placeWord_38 ?_
  refine lv_iload_n hx hb dX5_placeWord_41 rfl (lv_at hl 3 rfl) ?_
  refine lv_bipush (v := 8) hx hb dX5_placeWord_42 (by decide) ?_
  obtain ⟨hq, hf⟩ := gd_some hf
  refine lv_irem hx hb dX5_placeWord_44 (by simpa using hq) ?_
  obtain ⟨a3, ha3, hf⟩ := nn_some hf
  refine rf_1 ha3 ?_
  obtain ⟨hk_a3_22, hf⟩ := gd_some hf
  obtain ⟨hi, hf⟩ := ck_some hf
  refine cr_iald CX hR hk_a3_22 hi dX5_placeWord_45 ?_
  obtain ⟨o46, ho46, hf⟩ := bnd_some hf
  refine cr_callLs CX hR hL hS (As := [.int s0, .int (x1 / 8), .int (cI M a3 (x1 - x1 / 8 * 8 : Int32).toNatClampNeg)]) (rest := []) (MC_X5_word l x N K s0 (x1 / 8) (cI M a3 (x1 - x1 / 8 * 8 : Int32).toNatClampNeg) M o46 ho46) cs_X5_126 ⟨by omega, by omega⟩ rfl rfl (Nat.le_of_ble_eq_true rfl) hl.1 dX5_placeWord_46 hcs (fun H locs hR hS => ?_)
  exact cr_lret CX hR hS hf dX5_placeWord_49
def fC_X5_placeWord (N : Nat) (K : Ka) (x0 : Nat) (x1 : Int32) (x2 : Int32) (M : Cm) : Option (Int64 × Cm) := if x2 = 0 then (gd (kd K x0 == 6) ((fC_X5_isStatic N K x0 x1 M).bind fun o10 => if o10.1 = 0 then ((bC_X5_placeWord_21 N K) x0 x1 3 o10.2) else ((bC_X5_placeWord_21 N K) x0 x1 4 o10.2))) else ((bC_X5_placeWord_21 N K) x0 x1 5 M)
set_option maxRecDepth 100000 in
set_option maxHeartbeats 4000000 in
theorem wfC_X5_placeWord {p : Program} {l : Launch} {e : Env} {R : Room} {s : State} {m : MethodId} {args : Array Value} {below : List Frame} {meth : Method} {c : Code} {x : Xc} {o : Int64 × Cm} {N : Nat} {K : Ka} (CX : CC p s m args meth c x K RX5 cX5_placeWord 5 (some .long)) (hRm : 1 ≤ R.frames ∧ 22 ≤ R.locals) (x0 : Nat) (x1 : Int32) (x2 : Int32) (M : Cm) (H : Heap) (locs : List Loc) (ls : Array Slot) (hf : fC_X5_placeWord N K x0 x1 x2 M = some o) (hR : RC x K M H) (hS : va_S (AC K) s.heap H locs) (hl : lv_has ls 5 [(0, .ref x0), (1, .int x1), (2, .int x2)]) : W p l e R s m args below meth c H locs 0 0 (MQ below (CQL x K o) args s 0 0 (AC K)) (F0 m 0 ls []) := by
  obtain ⟨hx, hb, hml, hown, hts, hE, hB, hr, hlk⟩ := id CX
  have hL : KLe K K := KLe.rf K
  have hcs : 0 ≤ R.cells ∧ 0 ≤ R.slots := ⟨Nat.zero_le _, Nat.zero_le _⟩
  unfold fC_X5_placeWord at hf
  refine lv_iload_n hx hb dX5_placeWord_0 rfl (lv_at hl 2 rfl) ?_
  refine lv_if_eq (tgt := 8) hx hb dX5_placeWord_1 (by decide) (fun hc => ?_) (fun hc => ?_)
  · rw [if_pos hc] at hf
    refine lv_aload_n hx hb dX5_placeWord_8 rfl (lv_at hl 0 rfl) ?_
    refine lv_iload_n hx hb dX5_placeWord_9 rfl (lv_at hl 1 rfl) ?_
    obtain ⟨hk_x0_6, hf⟩ := gd_some hf
    obtain ⟨o10, ho10, hf⟩ := bnd_some hf
    refine cr_callIv kc_5 CX hR hL hS (As := [.int x1]) (rest := []) hk_x0_6 (MC_X5_isStatic l x N K x0 x1 M o10 ho10) cv_X5_119 ⟨by omega, by omega⟩ rfl rfl (Nat.le_of_ble_eq_true rfl) hl.1 dX5_placeWord_10 hcs (fun H locs hR hS => ?_)
    refine lv_if_eq (tgt := 20) hx hb dX5_placeWord_13 (by decide) (fun hc => ?_) (fun hc => ?_)
    · rw [if_pos hc] at hf
      refine lv_iconst (v := 3) hx hb dX5_placeWord_20 (by decide) ?_
      exact (wbC_X5_placeWord_21 CX hRm) _ _ _ _ _ _ _ hf hR hS (lv_sub hl [0, 1] rfl)
    · rw [if_neg hc] at hf
      refine lv_iconst (v := 4) hx hb dX5_placeWord_16 (by decide) ?_
      refine lv_goto (tgt := 21) hx hb dX5_placeWord_17 (by decide) ?_
      exact (wbC_X5_placeWord_21 CX hRm) _ _ _ _ _ _ _ hf hR hS (lv_sub hl [0, 1] rfl)
  · rw [if_neg hc] at hf
    refine lv_iconst (v := 5) hx hb dX5_placeWord_4 (by decide) ?_
    refine lv_goto (tgt := 21) hx hb dX5_placeWord_5 (by decide) ?_
    exact (wbC_X5_placeWord_21 CX hRm) _ _ _ _ _ _ _ hf hR hS (lv_sub hl [0, 1] rfl)
theorem MC_X5_placeWord (l : Launch) (x : Xc) (N : Nat) (K : Ka) (x0 : Nat) (x1 : Int32) (x2 : Int32) (M : Cm) (o : Int64 × Cm) (hf : fC_X5_placeWord N K x0 x1 x2 M = some o) : CtL l x yX5_placeWord cX5_placeWord 5 1 22 [.ref x0, .int x1, .int x2] K M o :=
  cr_metL RX5 (by decide) rfl (Nat.le_of_ble_eq_true rfl) (fun p e s m args below meth c ls CX hR hl => wfC_X5_placeWord CX ⟨Nat.le_refl _, Nat.le_refl _⟩ x0 x1 x2 M s.heap [] ls hf hR va_S.rf hl)
def bC_X6_valueAt_22 (N : Nat) (K : Ka) (x0 : Nat) (s0 : Int64) (M : Cm) : Option (Int64 × Cm) := some (s0, M)
set_option maxRecDepth 100000 in
set_option maxHeartbeats 4000000 in
theorem wbC_X6_valueAt_22 {p : Program} {l : Launch} {e : Env} {R : Room} {s : State} {m : MethodId} {args : Array Value} {below : List Frame} {meth : Method} {c : Code} {x : Xc} {o : Int64 × Cm} {N : Nat} {K : Ka} (CX : CC p s m args meth c x K RX6 cX6_valueAt 2 (some .long)) (hRm : 0 ≤ R.frames ∧ 0 ≤ R.locals) (x0 : Nat) (s0 : Int64) (M : Cm) (H : Heap) (locs : List Loc) (ls : Array Slot) (hf : bC_X6_valueAt_22 N K x0 s0 M = some o) (hR : RC x K M H) (hS : va_S (AC K) s.heap H locs) (hl : lv_has ls 2 [(0, .ref x0)]) : W p l e R s m args below meth c H locs 0 0 (MQ below (CQL x K o) args s 0 0 (AC K)) (F0 m 22 ls [.long s0]) := by
  obtain ⟨hx, hb, hml, hown, hts, hE, hB, hr, hlk⟩ := id CX
  have hL : KLe K K := KLe.rf K
  have hcs : 0 ≤ R.cells ∧ 0 ≤ R.slots := ⟨Nat.zero_le _, Nat.zero_le _⟩
  unfold bC_X6_valueAt_22 at hf
  exact cr_lret CX hR hS hf dX6_valueAt_22
def bC_X6_valueAt_12 (N : Nat) (K : Ka) (x0 : Nat) (M : Cm) : Option (Int64 × Cm) := (bC_X6_valueAt_22 N K) x0 0 M
set_option maxRecDepth 100000 in
set_option maxHeartbeats 4000000 in
theorem wbC_X6_valueAt_12 {p : Program} {l : Launch} {e : Env} {R : Room} {s : State} {m : MethodId} {args : Array Value} {below : List Frame} {meth : Method} {c : Code} {x : Xc} {o : Int64 × Cm} {N : Nat} {K : Ka} (CX : CC p s m args meth c x K RX6 cX6_valueAt 2 (some .long)) (hRm : 0 ≤ R.frames ∧ 0 ≤ R.locals) (x0 : Nat) (M : Cm) (H : Heap) (locs : List Loc) (ls : Array Slot) (hf : bC_X6_valueAt_12 N K x0 M = some o) (hR : RC x K M H) (hS : va_S (AC K) s.heap H locs) (hl : lv_has ls 2 [(0, .ref x0)]) : W p l e R s m args below meth c H locs 0 0 (MQ below (CQL x K o) args s 0 0 (AC K)) (F0 m 12 ls []) := by
  obtain ⟨hx, hb, hml, hown, hts, hE, hB, hr, hlk⟩ := id CX
  have hL : KLe K K := KLe.rf K
  have hcs : 0 ≤ R.cells ∧ 0 ≤ R.slots := ⟨Nat.zero_le _, Nat.zero_le _⟩
  unfold bC_X6_valueAt_12 at hf
  refine lv_lconst (v := 0) hx hb dX6_valueAt_12 (by decide) ?_
  refine lv_goto (tgt := 22) hx hb dX6_valueAt_13 (by decide) ?_
  exact (wbC_X6_valueAt_22 CX hRm) _ _ _ _ _ _ hf hR hS (lv_sub hl [0] rfl)
def fC_X6_valueAt (N : Nat) (K : Ka) (x0 : Nat) (x1 : Int32) (M : Cm) : Option (Int64 × Cm) := if x1 < 0 then ((bC_X6_valueAt_12 N K) x0 M) else (gd (kd K x0 == 7) (if x1 < (cI M x0 6) then (nn (cR M x0 3) fun a1 => gd (kd K a1 == 23) (ck x1 (le K a1) ((bC_X6_valueAt_22 N K) x0 (cL M a1 (x1 : Int32).toNatClampNeg) M))) else ((bC_X6_valueAt_12 N K) x0 M)))
set_option maxRecDepth 100000 in
set_option maxHeartbeats 4000000 in
theorem wfC_X6_valueAt {p : Program} {l : Launch} {e : Env} {R : Room} {s : State} {m : MethodId} {args : Array Value} {below : List Frame} {meth : Method} {c : Code} {x : Xc} {o : Int64 × Cm} {N : Nat} {K : Ka} (CX : CC p s m args meth c x K RX6 cX6_valueAt 2 (some .long)) (hRm : 0 ≤ R.frames ∧ 0 ≤ R.locals) (x0 : Nat) (x1 : Int32) (M : Cm) (H : Heap) (locs : List Loc) (ls : Array Slot) (hf : fC_X6_valueAt N K x0 x1 M = some o) (hR : RC x K M H) (hS : va_S (AC K) s.heap H locs) (hl : lv_has ls 2 [(0, .ref x0), (1, .int x1)]) : W p l e R s m args below meth c H locs 0 0 (MQ below (CQL x K o) args s 0 0 (AC K)) (F0 m 0 ls []) := by
  obtain ⟨hx, hb, hml, hown, hts, hE, hB, hr, hlk⟩ := id CX
  have hL : KLe K K := KLe.rf K
  have hcs : 0 ≤ R.cells ∧ 0 ≤ R.slots := ⟨Nat.zero_le _, Nat.zero_le _⟩
  unfold fC_X6_valueAt at hf
  refine lv_iload_n hx hb dX6_valueAt_0 rfl (lv_at hl 1 rfl) ?_
  refine lv_if_lt (tgt := 12) hx hb dX6_valueAt_1 (by decide) (fun hc => ?_) (fun hc => ?_)
  · rw [if_pos hc] at hf
    exact (wbC_X6_valueAt_12 CX hRm) _ _ _ _ _ hf hR hS (lv_sub hl [0] rfl)
  · rw [if_neg hc] at hf
    refine lv_iload_n hx hb dX6_valueAt_4 rfl (lv_at hl 1 rfl) ?_
    refine lv_aload_n hx hb dX6_valueAt_5 rfl (lv_at hl 0 rfl) ?_
    obtain ⟨hk_x0_7, hf⟩ := gd_some hf
    refine cr_getI kc_6 CX hR fa_X6_33 rfl hk_x0_7 dX6_valueAt_6 ?_
    refine lv_icmp_lt (tgt := 16) hx hb dX6_valueAt_9 (by decide) (fun hc => ?_) (fun hc => ?_)
    · rw [if_pos hc] at hf
      refine lv_aload_n hx hb dX6_valueAt_16 rfl (lv_at hl 0 rfl) ?_
      refine cr_getR kc_6 CX hR fa_X6_22 rfl hk_x0_7 dX6_valueAt_17 ?_
      refine lv_iload_n hx hb dX6_valueAt_20 rfl (lv_at hl 1 rfl) ?_
      obtain ⟨a1, ha1, hf⟩ := nn_some hf
      refine rf_1 ha1 ?_
      obtain ⟨hk_a1_23, hf⟩ := gd_some hf
      obtain ⟨hi, hf⟩ := ck_some hf
      refine cr_lald CX hR hk_a1_23 hi dX6_valueAt_21 ?_
      exact (wbC_X6_valueAt_22 CX hRm) _ _ _ _ _ _ hf hR hS (lv_sub hl [0] rfl)
    · rw [if_neg hc] at hf
      exact (wbC_X6_valueAt_12 CX hRm) _ _ _ _ _ hf hR hS (lv_sub hl [0] rfl)
theorem MC_X6_valueAt (l : Launch) (x : Xc) (N : Nat) (K : Ka) (x0 : Nat) (x1 : Int32) (M : Cm) (o : Int64 × Cm) (hf : fC_X6_valueAt N K x0 x1 M = some o) : CtL l x yX6_valueAt cX6_valueAt 2 0 0 [.ref x0, .int x1] K M o :=
  cr_metL RX6 (by decide) rfl (Nat.le_of_ble_eq_true rfl) (fun p e s m args below meth c ls CX hR hl => wfC_X6_valueAt CX ⟨Nat.le_refl _, Nat.le_refl _⟩ x0 x1 M s.heap [] ls hf hR va_S.rf hl)
def lC_X8_rankOf_3 (N : Nat) (K : Ka) (k25 : Int32 → Cm → Option (Int32 × Cm)) (k34 : Cm → Option (Int32 × Cm)) : Nat → Int64 → Nat → Int32 → Int32 → Cm → Option (Int32 × Cm)
  | 0, _, _, _, _, _ => none
  | n + 1, x0, x2, x3, x4, M => if x3 ≤ x4 then (k34 M) else (gd (kd K x2 == 23) (if (nI (le K x2)) ≤ x4 then (k34 M) else (ck x4 (le K x2) (if (lg_cmp (cL M x2 (x4 : Int32).toNatClampNeg) x0) = 0 then (k25 x4 M) else (lC_X8_rankOf_3 N K k25 k34 n x0 x2 x3 (x4 + 1) M)))))
set_option maxRecDepth 100000 in
set_option maxHeartbeats 4000000 in
theorem wlC_X8_rankOf_3 {p : Program} {l : Launch} {e : Env} {R : Room} {s : State} {m : MethodId} {args : Array Value} {below : List Frame} {meth : Method} {c : Code} {x : Xc} {o : Int32 × Cm} {N : Nat} {K : Ka} {k25 : Int32 → Cm → Option (Int32 × Cm)} {k34 : Cm → Option (Int32 × Cm)} (CX : CC p s m args meth c x K RX8 cX8_rankOf 5 (some .int)) (hRm : 0 ≤ R.frames ∧ 0 ≤ R.locals) (hk25 : ∀ (x4 : Int32) (M : Cm) (H : Heap) (locs : List Loc) (ls : Array Slot), k25 x4 M = some o → RC x K M H → va_S (AC K) s.heap H locs → lv_has ls 5 [(4, .int x4)] → W p l e R s m args below meth c H locs 0 0 (MQ below (CQI x K o) args s 0 0 (AC K)) (F0 m 25 ls [])) (hk34 : ∀  (M : Cm) (H : Heap) (locs : List Loc) (ls : Array Slot), k34 M = some o → RC x K M H → va_S (AC K) s.heap H locs → lv_has ls 5 [] → W p l e R s m args below meth c H locs 0 0 (MQ below (CQI x K o) args s 0 0 (AC K)) (F0 m 34 ls [])) : ∀ (n : Nat) (x0 : Int64) (x2 : Nat) (x3 : Int32) (x4 : Int32) (M : Cm) (H : Heap) (locs : List Loc) (ls : Array Slot), lC_X8_rankOf_3 N K k25 k34 n x0 x2 x3 x4 M = some o → RC x K M H → va_S (AC K) s.heap H locs → lv_has ls 5 [(0, .long x0), (2, .ref x2), (3, .int x3), (4, .int x4)] → W p l e R s m args below meth c H locs 0 0 (MQ below (CQI x K o) args s 0 0 (AC K)) (F0 m 3 ls []) := by
  obtain ⟨hx, hb, hml, hown, hts, hE, hB, hr, hlk⟩ := id CX
  have hL : KLe K K := KLe.rf K
  have hcs : 0 ≤ R.cells ∧ 0 ≤ R.slots := ⟨Nat.zero_le _, Nat.zero_le _⟩
  intro n
  induction n with
  | zero => intro x0 x2 x3 x4 M H locs ls hf; cases hf
  | succ n ih =>
    intro x0 x2 x3 x4 M H locs ls hf hR hS hl
    rw [lC_X8_rankOf_3] at hf
    refine lv_iload hx hb dX8_rankOf_3 (lv_at hl 3 rfl) ?_
    refine lv_iload_n hx hb dX8_rankOf_5 rfl (lv_at hl 2 rfl) ?_
    refine lv_icmp_ge (tgt := 34) hx hb dX8_rankOf_6 (by decide) (fun hc => ?_) (fun hc => ?_)
    · rw [if_pos hc] at hf
      exact hk34 _ _ _ _ hf hR hS (lv_sub hl [] rfl)
    · rw [if_neg hc] at hf
      refine lv_iload hx hb dX8_rankOf_9 (lv_at hl 3 rfl) ?_
      refine lv_aload_n hx hb dX8_rankOf_11 rfl (lv_at hl 1 rfl) ?_
      obtain ⟨hk_x2_23, hf⟩ := gd_some hf
      refine cr_llen CX hR hk_x2_23 dX8_rankOf_12 ?_
      refine lv_icmp_ge (tgt := 34) hx hb dX8_rankOf_13 (by decide) (fun hc => ?_) (fun hc => ?_)
      · rw [if_pos hc] at hf
        exact hk34 _ _ _ _ hf hR hS (lv_sub hl [] rfl)
      · rw [if_neg hc] at hf
        refine lv_aload_n hx hb dX8_rankOf_16 rfl (lv_at hl 1 rfl) ?_
        refine lv_iload hx hb dX8_rankOf_17 (lv_at hl 3 rfl) ?_
        obtain ⟨hi, hf⟩ := ck_some hf
        refine cr_lald CX hR hk_x2_23 hi dX8_rankOf_19 ?_
        refine lv_lload_n hx hb dX8_rankOf_20 rfl (lv_at hl 0 rfl) ?_
        refine W.lcmp hx hb dX8_rankOf_21 ?_
        refine lv_if_ne (tgt := 28) hx hb dX8_rankOf_22 (by decide) (fun hc => ?_) (fun hc => ?_)
        · rw [if_neg hc] at hf
          refine lv_iinc (v := x4 + 1) (lv' := [(4, .int (x4 + 1)), (0, .long x0), (2, .ref x2), (3, .int x3)]) hx hb dX8_rankOf_28 hl (k := 3) rfl rfl (by decide) rfl (fun ls hl => ?_)
          refine lv_goto (tgt := 3) hx hb dX8_rankOf_31 (by decide) ?_
          exact ih _ _ _ _ _ _ _ _ hf hR hS (lv_sub hl [1, 2, 3, 0] rfl)
        · rw [if_pos hc] at hf
          exact hk25 _ _ _ _ _ hf hR hS (lv_sub hl [3] rfl)
def bC_X8_rankOf_25 (N : Nat) (K : Ka) (x4 : Int32) (M : Cm) : Option (Int32 × Cm) := some (x4, M)
set_option maxRecDepth 100000 in
set_option maxHeartbeats 4000000 in
theorem wbC_X8_rankOf_25 {p : Program} {l : Launch} {e : Env} {R : Room} {s : State} {m : MethodId} {args : Array Value} {below : List Frame} {meth : Method} {c : Code} {x : Xc} {o : Int32 × Cm} {N : Nat} {K : Ka} (CX : CC p s m args meth c x K RX8 cX8_rankOf 5 (some .int)) (hRm : 0 ≤ R.frames ∧ 0 ≤ R.locals) (x4 : Int32) (M : Cm) (H : Heap) (locs : List Loc) (ls : Array Slot) (hf : bC_X8_rankOf_25 N K x4 M = some o) (hR : RC x K M H) (hS : va_S (AC K) s.heap H locs) (hl : lv_has ls 5 [(4, .int x4)]) : W p l e R s m args below meth c H locs 0 0 (MQ below (CQI x K o) args s 0 0 (AC K)) (F0 m 25 ls []) := by
  obtain ⟨hx, hb, hml, hown, hts, hE, hB, hr, hlk⟩ := id CX
  have hL : KLe K K := KLe.rf K
  have hcs : 0 ≤ R.cells ∧ 0 ≤ R.slots := ⟨Nat.zero_le _, Nat.zero_le _⟩
  unfold bC_X8_rankOf_25 at hf
  refine lv_iload hx hb dX8_rankOf_25 (lv_at hl 0 rfl) ?_
  exact cr_iret CX hR hS hf dX8_rankOf_27
def bC_X8_rankOf_34 (N : Nat) (K : Ka)  (M : Cm) : Option (Int32 × Cm) := some ((-1), M)
set_option maxRecDepth 100000 in
set_option maxHeartbeats 4000000 in
theorem wbC_X8_rankOf_34 {p : Program} {l : Launch} {e : Env} {R : Room} {s : State} {m : MethodId} {args : Array Value} {below : List Frame} {meth : Method} {c : Code} {x : Xc} {o : Int32 × Cm} {N : Nat} {K : Ka} (CX : CC p s m args meth c x K RX8 cX8_rankOf 5 (some .int)) (hRm : 0 ≤ R.frames ∧ 0 ≤ R.locals)  (M : Cm) (H : Heap) (locs : List Loc) (ls : Array Slot) (hf : bC_X8_rankOf_34 N K  M = some o) (hR : RC x K M H) (hS : va_S (AC K) s.heap H locs) (hl : lv_has ls 5 []) : W p l e R s m args below meth c H locs 0 0 (MQ below (CQI x K o) args s 0 0 (AC K)) (F0 m 34 ls []) := by
  obtain ⟨hx, hb, hml, hown, hts, hE, hB, hr, hlk⟩ := id CX
  have hL : KLe K K := KLe.rf K
  have hcs : 0 ≤ R.cells ∧ 0 ≤ R.slots := ⟨Nat.zero_le _, Nat.zero_le _⟩
  unfold bC_X8_rankOf_34 at hf
  refine lv_iconst (v := (-1)) hx hb dX8_rankOf_34 (by decide) ?_
  exact cr_iret CX hR hS hf dX8_rankOf_35
def fC_X8_rankOf (N : Nat) (K : Ka) (x0 : Int64) (x2 : Nat) (x3 : Int32) (M : Cm) : Option (Int32 × Cm) := (lC_X8_rankOf_3 N K (bC_X8_rankOf_25 N K) (bC_X8_rankOf_34 N K) N) x0 x2 x3 0 M
set_option maxRecDepth 100000 in
set_option maxHeartbeats 4000000 in
theorem wfC_X8_rankOf {p : Program} {l : Launch} {e : Env} {R : Room} {s : State} {m : MethodId} {args : Array Value} {below : List Frame} {meth : Method} {c : Code} {x : Xc} {o : Int32 × Cm} {N : Nat} {K : Ka} (CX : CC p s m args meth c x K RX8 cX8_rankOf 5 (some .int)) (hRm : 0 ≤ R.frames ∧ 0 ≤ R.locals) (x0 : Int64) (x2 : Nat) (x3 : Int32) (M : Cm) (H : Heap) (locs : List Loc) (ls : Array Slot) (hf : fC_X8_rankOf N K x0 x2 x3 M = some o) (hR : RC x K M H) (hS : va_S (AC K) s.heap H locs) (hl : lv_has ls 5 [(0, .long x0), (2, .ref x2), (3, .int x3)]) : W p l e R s m args below meth c H locs 0 0 (MQ below (CQI x K o) args s 0 0 (AC K)) (F0 m 0 ls []) := by
  obtain ⟨hx, hb, hml, hown, hts, hE, hB, hr, hlk⟩ := id CX
  have hL : KLe K K := KLe.rf K
  have hcs : 0 ≤ R.cells ∧ 0 ≤ R.slots := ⟨Nat.zero_le _, Nat.zero_le _⟩
  unfold fC_X8_rankOf at hf
  refine lv_iconst (v := 0) hx hb dX8_rankOf_0 (by decide) ?_
  refine lv_istore (lv' := [(4, .int 0), (0, .long x0), (2, .ref x2), (3, .int x3)]) hx hb dX8_rankOf_1 hl (by decide) rfl (fun ls hl => ?_)
  exact (wlC_X8_rankOf_3 CX hRm (wbC_X8_rankOf_25 CX hRm) (wbC_X8_rankOf_34 CX hRm) N) _ _ _ _ _ _ _ _ hf hR hS (lv_sub hl [1, 2, 3, 0] rfl)
theorem MC_X8_rankOf (l : Launch) (x : Xc) (N : Nat) (K : Ka) (x0 : Int64) (x2 : Nat) (x3 : Int32) (M : Cm) (o : Int32 × Cm) (hf : fC_X8_rankOf N K x0 x2 x3 M = some o) : CtI l x yX8_rankOf cX8_rankOf 5 (some .int) 0 0 [.long x0, .ref x2, .int x3] K M o :=
  cr_metI RX8 (by decide) rfl (Nat.le_of_ble_eq_true rfl) (fun p e s m args below meth c ls CX hR hl => wfC_X8_rankOf CX ⟨Nat.le_refl _, Nat.le_refl _⟩ x0 x2 x3 M s.heap [] ls hf hR va_S.rf hl)
def bC_X3_settleOne_183 (N : Nat) (K : Ka) (x0 : Nat) (x1 : Int32) (x6 : Int32) (x7 : Int32) (M : Cm) : Option (Int32 × Cm) := gd (kd K x0 == 4) (nn (cR M x0 1) fun a1 => gd (kd K a1 == 6) (nn (cR M x0 1) fun a2 => nn (cR M a1 9) fun a3 => gd (kd K a2 == 6) ((fC_X5_placeWord N K a2 x6 x7 M).bind fun o199 => gd (kd K a3 == 23) (ck x1 (le K a3) (some (0, wL o199.2 a3 (x1 : Int32).toNatClampNeg o199.1))))))
set_option maxRecDepth 100000 in
set_option maxHeartbeats 4000000 in
theorem wbC_X3_settleOne_183 {p : Program} {l : Launch} {e : Env} {R : Room} {s : State} {m : MethodId} {args : Array Value} {below : List Frame} {meth : Method} {c : Code} {x : Xc} {o : Int32 × Cm} {N : Nat} {K : Ka} (CX : CC p s m args meth c x K RX3 cX3_settleOne 8 (some .int)) (hRm : 2 ≤ R.frames ∧ 46 ≤ R.locals) (x0 : Nat) (x1 : Int32) (x6 : Int32) (x7 : Int32) (M : Cm) (H : Heap) (locs : List Loc) (ls : Array Slot) (hf : bC_X3_settleOne_183 N K x0 x1 x6 x7 M = some o) (hR : RC x K M H) (hS : va_S (AC K) s.heap H locs) (hl : lv_has ls 8 [(0, .ref x0), (1, .int x1), (6, .int x6), (7, .int x7)]) : W p l e R s m args below meth c H locs 0 0 (MQ below (CQI x K o) args s 0 0 (AC K)) (F0 m 183 ls []) := by
  obtain ⟨hx, hb, hml, hown, hts, hE, hB, hr, hlk⟩ := id CX
  have hL : KLe K K := KLe.rf K
  have hcs : 0 ≤ R.cells ∧ 0 ≤ R.slots := ⟨Nat.zero_le _, Nat.zero_le _⟩
  unfold bC_X3_settleOne_183 at hf
  refine lv_aload_n hx hb dX3_settleOne_183 rfl (lv_at hl 0 rfl) ?_
  obtain ⟨hk_x0_4, hf⟩ := gd_some hf
  refine cr_getR kc_3 CX hR fa_X3_9 rfl hk_x0_4 dX3_settleOne_184 ?_
  obtain ⟨a1, ha1, hf⟩ := nn_some hf
  refine rf_0 ha1 ?_
  obtain ⟨hk_a1_6, hf⟩ := gd_some hf
  refine cr_getR kc_5 CX hR fa_X3_284 rfl hk_a1_6 dX3_settleOne_187 ?_
  refine lv_iload_n hx hb dX3_settleOne_190 rfl (lv_at hl 1 rfl) ?_
  refine lv_aload_n hx hb dX3_settleOne_191 rfl (lv_at hl 0 rfl) ?_
  refine cr_getR kc_3 CX hR fa_X3_9 rfl hk_x0_4 dX3_settleOne_192 ?_
  refine lv_iload hx hb dX3_settleOne_195 (lv_at hl 2 rfl) ?_
  refine lv_iload hx hb dX3_settleOne_197 (lv_at hl 3 rfl) ?_
  obtain ⟨a2, ha2, hf⟩ := nn_some hf
  refine rf_2 ha2 ?_
  obtain ⟨a3, ha3, hf⟩ := nn_some hf
  refine rf_4 ha3 ?_
  obtain ⟨hk_a2_6, hf⟩ := gd_some hf
  obtain ⟨o199, ho199, hf⟩ := bnd_some hf
  refine cr_callLv kc_5 CX hR hL hS (As := [.int x6, .int x7]) (rest := [.int x1, .ref a3]) hk_a2_6 (MC_X5_placeWord l x N K a2 x6 x7 M o199 ho199) cv_X3_270 ⟨by omega, by omega⟩ rfl rfl (Nat.le_of_ble_eq_true rfl) hl.1 dX3_settleOne_199 hcs (fun H locs hR hS => ?_)
  obtain ⟨hk_a3_23, hf⟩ := gd_some hf
  obtain ⟨hi, hf⟩ := ck_some hf
  refine cr_last CX hR hL hS hk_a3_23 hi dX3_settleOne_202 (fun H locs hR hS => ?_)
  refine lv_iconst (v := 0) hx hb dX3_settleOne_203 (by decide) ?_
  exact cr_iret CX hR hS hf dX3_settleOne_204
def bC_X3_settleOne_154 (N : Nat) (K : Ka) (x0 : Nat) (x1 : Int32) (x3 : Int32) (x6 : Int32) (s0 : Int32) (M : Cm) : Option (Int32 × Cm) := if s0 = 0 then ((bC_X3_settleOne_183 N K) x0 x1 x6 s0 M) else (gd (kd K x0 == 4) (nn (cR M x0 1) fun a1 => gd (kd K a1 == 6) ((fC_X5_isStatic N K a1 x6 M).bind fun o167 => if o167.1 = 0 then (some (6 + (16 * (x3 + 2)), o167.2)) else ((bC_X3_settleOne_183 N K) x0 x1 x6 s0 o167.2))))
set_option maxRecDepth 100000 in
set_option maxHeartbeats 4000000 in
theorem wbC_X3_settleOne_154 {p : Program} {l : Launch} {e : Env} {R : Room} {s : State} {m : MethodId} {args : Array Value} {below : List Frame} {meth : Method} {c : Code} {x : Xc} {o : Int32 × Cm} {N : Nat} {K : Ka} (CX : CC p s m args meth c x K RX3 cX3_settleOne 8 (some .int)) (hRm : 2 ≤ R.frames ∧ 46 ≤ R.locals) (x0 : Nat) (x1 : Int32) (x3 : Int32) (x6 : Int32) (s0 : Int32) (M : Cm) (H : Heap) (locs : List Loc) (ls : Array Slot) (hf : bC_X3_settleOne_154 N K x0 x1 x3 x6 s0 M = some o) (hR : RC x K M H) (hS : va_S (AC K) s.heap H locs) (hl : lv_has ls 8 [(0, .ref x0), (1, .int x1), (3, .int x3), (6, .int x6)]) : W p l e R s m args below meth c H locs 0 0 (MQ below (CQI x K o) args s 0 0 (AC K)) (F0 m 154 ls [.int s0]) := by
  obtain ⟨hx, hb, hml, hown, hts, hE, hB, hr, hlk⟩ := id CX
  have hL : KLe K K := KLe.rf K
  have hcs : 0 ≤ R.cells ∧ 0 ≤ R.slots := ⟨Nat.zero_le _, Nat.zero_le _⟩
  unfold bC_X3_settleOne_154 at hf
  refine lv_istore (lv' := [(7, .int s0), (0, .ref x0), (1, .int x1), (3, .int x3), (6, .int x6)]) hx hb dX3_settleOne_154 hl (by decide) rfl (fun ls hl => ?_)
  refine lv_iload hx hb dX3_settleOne_156 (lv_at hl 0 rfl) ?_
  refine lv_if_eq (tgt := 183) hx hb dX3_settleOne_158 (by decide) (fun hc => ?_) (fun hc => ?_)
  · rw [if_pos hc] at hf
    exact (wbC_X3_settleOne_183 CX hRm) _ _ _ _ _ _ _ _ hf hR hS (lv_sub hl [1, 2, 4, 0] rfl)
  · rw [if_neg hc] at hf
    refine lv_aload_n hx hb dX3_settleOne_161 rfl (lv_at hl 1 rfl) ?_
    obtain ⟨hk_x0_4, hf⟩ := gd_some hf
    refine cr_getR kc_3 CX hR fa_X3_9 rfl hk_x0_4 dX3_settleOne_162 ?_
    refine lv_iload hx hb dX3_settleOne_165 (lv_at hl 4 rfl) ?_
    obtain ⟨a1, ha1, hf⟩ := nn_some hf
    refine rf_1 ha1 ?_
    obtain ⟨hk_a1_6, hf⟩ := gd_some hf
    obtain ⟨o167, ho167, hf⟩ := bnd_some hf
    refine cr_callIv kc_5 CX hR hL hS (As := [.int x6]) (rest := []) hk_a1_6 (MC_X5_isStatic l x N K a1 x6 M o167 ho167) cv_X3_264 ⟨by omega, by omega⟩ rfl rfl (Nat.le_of_ble_eq_true rfl) hl.1 dX3_settleOne_167 hcs (fun H locs hR hS => ?_)
    refine lv_if_ne (tgt := 183) hx hb dX3_settleOne_170 (by decide) (fun hc => ?_) (fun hc => ?_)
    · rw [if_neg hc] at hf
      exact (wbC_X3_settleOne_183 CX hRm) _ _ _ _ _ _ _ _ hf hR hS (lv_sub hl [1, 2, 4, 0] rfl)
    · rw [if_pos hc] at hf
      refine lv_bipush (v := 6) hx hb dX3_settleOne_173 (by decide) ?_
      refine lv_bipush (v := 16) hx hb dX3_settleOne_175 (by decide) ?_
      refine lv_iload_n hx hb dX3_settleOne_177 rfl (lv_at hl 3 rfl) ?_
      refine lv_iconst (v := 2) hx hb dX3_settleOne_178 (by decide) ?_
      refine lv_iadd hx hb dX3_settleOne_179 ?_
      refine lv_imul hx hb dX3_settleOne_180 ?_
      refine lv_iadd hx hb dX3_settleOne_181 ?_
      exact cr_iret CX hR hS hf dX3_settleOne_182
def fC_X3_settleOne (N : Nat) (K : Ka) (x0 : Nat) (x1 : Int32) (x2 : Int32) (M : Cm) : Option (Int32 × Cm) := gd (kd K x0 == 4) (nn (cR M x0 1) fun a1 => gd (kd K a1 == 6) (nn (cR M a1 9) fun a2 => gd (kd K a2 == 23) (ck x1 (le K a2) (nn (cR M x0 1) fun a3 => gd (kd K a3 == 6) (nn (cR M a3 9) fun a4 => gd (kd K a4 == 23) (ck x1 (le K a4) (nn (cR M x0 0) fun a5 => gd (kd K a5 == 7) ((fC_X6_valueAt N K a5 ((((cL M a2 (x1 : Int32).toNatClampNeg) >>> ((8 : Int32).toInt64 &&& 63) : Int64).toInt32) &&& 16777215) M).bind fun o38 => nn (cR o38.2 x0 1) fun a6 => gd (kd K a6 == 6) (nn (cR o38.2 x0 1) fun a7 => gd (kd K a7 == 6) (nn (cR o38.2 a6 4) fun a8 => (fC_X8_rankOf N K o38.1 a8 (cI o38.2 a7 11) o38.2).bind fun o55 => if 0 ≤ o55.1 then (nn (cR o55.2 x0 1) fun a9 => gd (kd K a9 == 6) ((fC_X5_leanOn N K a9 (((cL M a4 (x1 : Int32).toNatClampNeg) >>> ((32 : Int32).toInt64 &&& 63) : Int64).toInt32) o55.1 o55.2).bind fun o80 => if x2 = 23 then (nn (cR o80 x0 1) fun a12 => gd (kd K a12 == 6) (nn (cR o80 a12 9) fun a13 => (fC_X5_word N K 6 o55.1 0 o80).bind fun o102 => gd (kd K a13 == 23) (ck x1 (le K a13) (some (0, wL o102.2 a13 (x1 : Int32).toNatClampNeg o102.1))))) else (nn (cR o80 x0 0) fun a10 => nn (cR o80 x0 1) fun a11 => gd (kd K a10 == 7) ((fC_X6_valueAt N K a10 (((((cL M a2 (x1 : Int32).toNatClampNeg) >>> ((8 : Int32).toInt64 &&& 63) : Int64).toInt32) &&& 16777215) + 2) o80).bind fun o121 => gd (kd K a11 == 6) ((fC_X5_find N K a11 o55.1 o121.1 o121.2).bind fun o124 => if 0 ≤ o124.1 then (if x2 = 22 then ((bC_X3_settleOne_154 N K) x0 x1 ((((cL M a2 (x1 : Int32).toNatClampNeg) >>> ((8 : Int32).toInt64 &&& 63) : Int64).toInt32) &&& 16777215) o124.1 1 o124.2) else ((bC_X3_settleOne_154 N K) x0 x1 ((((cL M a2 (x1 : Int32).toNatClampNeg) >>> ((8 : Int32).toInt64 &&& 63) : Int64).toInt32) &&& 16777215) o124.1 0 o124.2)) else (some (2 + (16 * (((((cL M a2 (x1 : Int32).toNatClampNeg) >>> ((8 : Int32).toInt64 &&& 63) : Int64).toInt32) &&& 16777215) + 2)), o124.2))))))) else (some (2 + (16 * ((((cL M a2 (x1 : Int32).toNatClampNeg) >>> ((8 : Int32).toInt64 &&& 63) : Int64).toInt32) &&& 16777215)), o55.2))))))))))))
set_option maxRecDepth 100000 in
set_option maxHeartbeats 4000000 in
theorem wfC_X3_settleOne {p : Program} {l : Launch} {e : Env} {R : Room} {s : State} {m : MethodId} {args : Array Value} {below : List Frame} {meth : Method} {c : Code} {x : Xc} {o : Int32 × Cm} {N : Nat} {K : Ka} (CX : CC p s m args meth c x K RX3 cX3_settleOne 8 (some .int)) (hRm : 2 ≤ R.frames ∧ 46 ≤ R.locals) (x0 : Nat) (x1 : Int32) (x2 : Int32) (M : Cm) (H : Heap) (locs : List Loc) (ls : Array Slot) (hf : fC_X3_settleOne N K x0 x1 x2 M = some o) (hR : RC x K M H) (hS : va_S (AC K) s.heap H locs) (hl : lv_has ls 8 [(0, .ref x0), (1, .int x1), (2, .int x2)]) : W p l e R s m args below meth c H locs 0 0 (MQ below (CQI x K o) args s 0 0 (AC K)) (F0 m 0 ls []) := by
  obtain ⟨hx, hb, hml, hown, hts, hE, hB, hr, hlk⟩ := id CX
  have hL : KLe K K := KLe.rf K
  have hcs : 0 ≤ R.cells ∧ 0 ≤ R.slots := ⟨Nat.zero_le _, Nat.zero_le _⟩
  unfold fC_X3_settleOne at hf
  refine lv_aload_n hx hb dX3_settleOne_0 rfl (lv_at hl 0 rfl) ?_
  obtain ⟨hk_x0_4, hf⟩ := gd_some hf
  refine cr_getR kc_3 CX hR fa_X3_9 rfl hk_x0_4 dX3_settleOne_1 ?_
  obtain ⟨a1, ha1, hf⟩ := nn_some hf
  refine rf_0 ha1 ?_
  obtain ⟨hk_a1_6, hf⟩ := gd_some hf
  refine cr_getR kc_5 CX hR fa_X3_284 rfl hk_a1_6 dX3_settleOne_4 ?_
  refine lv_iload_n hx hb dX3_settleOne_7 rfl (lv_at hl 1 rfl) ?_
  obtain ⟨a2, ha2, hf⟩ := nn_some hf
  refine rf_1 ha2 ?_
  obtain ⟨hk_a2_23, hf⟩ := gd_some hf
  obtain ⟨hi, hf⟩ := ck_some hf
  refine cr_lald CX hR hk_a2_23 hi dX3_settleOne_8 ?_
  refine lv_bipush (v := 8) hx hb dX3_settleOne_9 (by decide) ?_
  refine lv_lshr (v := (cL M a2 (x1 : Int32).toNatClampNeg) >>> ((8 : Int32).toInt64 &&& 63)) hx hb dX3_settleOne_11 rfl ?_
  refine lv_l2i (v := ((cL M a2 (x1 : Int32).toNatClampNeg) >>> ((8 : Int32).toInt64 &&& 63) : Int64).toInt32) hx hb dX3_settleOne_12 rfl ?_
  refine lv_ldcw hx hb hown (hts _ wc_1054) dX3_settleOne_13 ?_
  refine lv_iand hx hb dX3_settleOne_16 ?_
  refine lv_istore_n (lv' := [(3, .int ((((cL M a2 (x1 : Int32).toNatClampNeg) >>> ((8 : Int32).toInt64 &&& 63) : Int64).toInt32) &&& 16777215)), (0, .ref x0), (1, .int x1), (2, .int x2)]) hx hb dX3_settleOne_17 rfl hl (by decide) rfl (fun ls hl => ?_)
  refine lv_aload_n hx hb dX3_settleOne_18 rfl (lv_at hl 1 rfl) ?_
  refine cr_getR kc_3 CX hR fa_X3_9 rfl hk_x0_4 dX3_settleOne_19 ?_
  obtain ⟨a3, ha3, hf⟩ := nn_some hf
  refine rf_0 ha3 ?_
  obtain ⟨hk_a3_6, hf⟩ := gd_some hf
  refine cr_getR kc_5 CX hR fa_X3_284 rfl hk_a3_6 dX3_settleOne_22 ?_
  refine lv_iload_n hx hb dX3_settleOne_25 rfl (lv_at hl 2 rfl) ?_
  obtain ⟨a4, ha4, hf⟩ := nn_some hf
  refine rf_1 ha4 ?_
  obtain ⟨hk_a4_23, hf⟩ := gd_some hf
  obtain ⟨hi, hf⟩ := ck_some hf
  refine cr_lald CX hR hk_a4_23 hi dX3_settleOne_26 ?_
  refine lv_bipush (v := 32) hx hb dX3_settleOne_27 (by decide) ?_
  refine lv_lshr (v := (cL M a4 (x1 : Int32).toNatClampNeg) >>> ((32 : Int32).toInt64 &&& 63)) hx hb dX3_settleOne_29 rfl ?_
  refine lv_l2i (v := ((cL M a4 (x1 : Int32).toNatClampNeg) >>> ((32 : Int32).toInt64 &&& 63) : Int64).toInt32) hx hb dX3_settleOne_30 rfl ?_
  refine lv_istore (lv' := [(4, .int (((cL M a4 (x1 : Int32).toNatClampNeg) >>> ((32 : Int32).toInt64 &&& 63) : Int64).toInt32)), (3, .int ((((cL M a2 (x1 : Int32).toNatClampNeg) >>> ((8 : Int32).toInt64 &&& 63) : Int64).toInt32) &&& 16777215)), (0, .ref x0), (1, .int x1), (2, .int x2)]) hx hb dX3_settleOne_31 hl (by decide) rfl (fun ls hl => ?_)
  refine lv_aload_n hx hb dX3_settleOne_33 rfl (lv_at hl 2 rfl) ?_
  refine cr_getR kc_3 CX hR fa_X3_28 rfl hk_x0_4 dX3_settleOne_34 ?_
  refine lv_iload_n hx hb dX3_settleOne_37 rfl (lv_at hl 1 rfl) ?_
  obtain ⟨a5, ha5, hf⟩ := nn_some hf
  refine rf_1 ha5 ?_
  obtain ⟨hk_a5_7, hf⟩ := gd_some hf
  obtain ⟨o38, ho38, hf⟩ := bnd_some hf
  refine cr_callLv kc_6 CX hR hL hS (As := [.int ((((cL M a2 (x1 : Int32).toNatClampNeg) >>> ((8 : Int32).toInt64 &&& 63) : Int64).toInt32) &&& 16777215)]) (rest := []) hk_a5_7 (MC_X6_valueAt l x N K a5 ((((cL M a2 (x1 : Int32).toNatClampNeg) >>> ((8 : Int32).toInt64 &&& 63) : Int64).toInt32) &&& 16777215) M o38 ho38) cv_X3_88 ⟨by omega, by omega⟩ rfl rfl (Nat.le_of_ble_eq_true rfl) hl.1 dX3_settleOne_38 hcs (fun H locs hR hS => ?_)
  refine lv_aload_n hx hb dX3_settleOne_41 rfl (lv_at hl 2 rfl) ?_
  refine cr_getR kc_3 CX hR fa_X3_9 rfl hk_x0_4 dX3_settleOne_42 ?_
  obtain ⟨a6, ha6, hf⟩ := nn_some hf
  refine rf_0 ha6 ?_
  obtain ⟨hk_a6_6, hf⟩ := gd_some hf
  refine cr_getR kc_5 CX hR fa_X3_197 rfl hk_a6_6 dX3_settleOne_45 ?_
  refine lv_aload_n hx hb dX3_settleOne_48 rfl (lv_at hl 2 rfl) ?_
  refine cr_getR kc_3 CX hR fa_X3_9 rfl hk_x0_4 dX3_settleOne_49 ?_
  obtain ⟨a7, ha7, hf⟩ := nn_some hf
  refine rf_0 ha7 ?_
  obtain ⟨hk_a7_6, hf⟩ := gd_some hf
  refine cr_getI kc_5 CX hR fa_X3_147 rfl hk_a7_6 dX3_settleOne_52 ?_
  obtain ⟨a8, ha8, hf⟩ := nn_some hf
  refine rf_1 ha8 ?_
  obtain ⟨o55, ho55, hf⟩ := bnd_some hf
  refine cr_callIs CX hR hL hS (As := [.long o38.1, .ref a8, .int (cI o38.2 a7 11)]) (rest := []) (MC_X8_rankOf l x N K o38.1 a8 (cI o38.2 a7 11) o38.2 o55 ho55) cs_X3_105 ⟨by omega, by omega⟩ rfl rfl (Nat.le_of_ble_eq_true rfl) hl.1 dX3_settleOne_55 hcs (fun H locs hR hS => ?_)
  refine lv_istore (lv' := [(5, .int o55.1), (4, .int (((cL M a4 (x1 : Int32).toNatClampNeg) >>> ((32 : Int32).toInt64 &&& 63) : Int64).toInt32)), (3, .int ((((cL M a2 (x1 : Int32).toNatClampNeg) >>> ((8 : Int32).toInt64 &&& 63) : Int64).toInt32) &&& 16777215)), (0, .ref x0), (1, .int x1), (2, .int x2)]) hx hb dX3_settleOne_58 hl (by decide) rfl (fun ls hl => ?_)
  refine lv_iload hx hb dX3_settleOne_60 (lv_at hl 0 rfl) ?_
  refine lv_if_ge (tgt := 72) hx hb dX3_settleOne_62 (by decide) (fun hc => ?_) (fun hc => ?_)
  · rw [if_pos hc] at hf
    refine lv_aload_n hx hb dX3_settleOne_72 rfl (lv_at hl 3 rfl) ?_
    refine cr_getR kc_3 CX hR fa_X3_9 rfl hk_x0_4 dX3_settleOne_73 ?_
    refine lv_iload hx hb dX3_settleOne_76 (lv_at hl 1 rfl) ?_
    refine lv_iload hx hb dX3_settleOne_78 (lv_at hl 0 rfl) ?_
    obtain ⟨a9, ha9, hf⟩ := nn_some hf
    refine rf_2 ha9 ?_
    obtain ⟨hk_a9_6, hf⟩ := gd_some hf
    obtain ⟨o80, ho80, hf⟩ := bnd_some hf
    refine cr_callVv kc_5 CX hR hL hS (As := [.int (((cL M a4 (x1 : Int32).toNatClampNeg) >>> ((32 : Int32).toInt64 &&& 63) : Int64).toInt32), .int o55.1]) (rest := []) hk_a9_6 (MC_X5_leanOn l x N K a9 (((cL M a4 (x1 : Int32).toNatClampNeg) >>> ((32 : Int32).toInt64 &&& 63) : Int64).toInt32) o55.1 o55.2 o80 ho80) cv_X3_267 ⟨by omega, by omega⟩ rfl rfl (Nat.le_of_ble_eq_true rfl) hl.1 dX3_settleOne_80 hcs (fun H locs hR hS => ?_)
    refine lv_iload_n hx hb dX3_settleOne_83 rfl (lv_at hl 5 rfl) ?_
    refine lv_bipush (v := 23) hx hb dX3_settleOne_84 (by decide) ?_
    refine lv_icmp_ne (tgt := 108) hx hb dX3_settleOne_86 (by decide) (fun hc => ?_) (fun hc => ?_)
    · rw [if_neg hc] at hf
      refine lv_aload_n hx hb dX3_settleOne_108 rfl (lv_at hl 3 rfl) ?_
      refine cr_getR kc_3 CX hR fa_X3_9 rfl hk_x0_4 dX3_settleOne_109 ?_
      refine lv_iload hx hb dX3_settleOne_112 (lv_at hl 0 rfl) ?_
      refine lv_aload_n hx hb dX3_settleOne_114 rfl (lv_at hl 3 rfl) ?_
      refine cr_getR kc_3 CX hR fa_X3_28 rfl hk_x0_4 dX3_settleOne_115 ?_
      refine lv_iload_n hx hb dX3_settleOne_118 rfl (lv_at hl 2 rfl) ?_
      refine lv_iconst (v := 2) hx hb dX3_settleOne_119 (by decide) ?_
      refine lv_iadd hx hb dX3_settleOne_120 ?_
      obtain ⟨a10, ha10, hf⟩ := nn_some hf
      refine rf_1 ha10 ?_
      obtain ⟨a11, ha11, hf⟩ := nn_some hf
      refine rf_3 ha11 ?_
      obtain ⟨hk_a10_7, hf⟩ := gd_some hf
      obtain ⟨o121, ho121, hf⟩ := bnd_some hf
      refine cr_callLv kc_6 CX hR hL hS (As := [.int (((((cL M a2 (x1 : Int32).toNatClampNeg) >>> ((8 : Int32).toInt64 &&& 63) : Int64).toInt32) &&& 16777215) + 2)]) (rest := [.int o55.1, .ref a11]) hk_a10_7 (MC_X6_valueAt l x N K a10 (((((cL M a2 (x1 : Int32).toNatClampNeg) >>> ((8 : Int32).toInt64 &&& 63) : Int64).toInt32) &&& 16777215) + 2) o80 o121 ho121) cv_X3_88 ⟨by omega, by omega⟩ rfl rfl (Nat.le_of_ble_eq_true rfl) hl.1 dX3_settleOne_121 hcs (fun H locs hR hS => ?_)
      obtain ⟨hk_a11_6, hf⟩ := gd_some hf
      obtain ⟨o124, ho124, hf⟩ := bnd_some hf
      refine cr_callIv kc_5 CX hR hL hS (As := [.int o55.1, .long o121.1]) (rest := []) hk_a11_6 (MC_X5_find l x N K a11 o55.1 o121.1 o121.2 o124 ho124) cv_X3_260 ⟨by omega, by omega⟩ rfl rfl (Nat.le_of_ble_eq_true rfl) hl.1 dX3_settleOne_124 hcs (fun H locs hR hS => ?_)
      refine lv_istore (lv' := [(6, .int o124.1), (5, .int o55.1), (4, .int (((cL M a4 (x1 : Int32).toNatClampNeg) >>> ((32 : Int32).toInt64 &&& 63) : Int64).toInt32)), (3, .int ((((cL M a2 (x1 : Int32).toNatClampNeg) >>> ((8 : Int32).toInt64 &&& 63) : Int64).toInt32) &&& 16777215)), (0, .ref x0), (1, .int x1), (2, .int x2)]) hx hb dX3_settleOne_127 hl (by decide) rfl (fun ls hl => ?_)
      refine lv_iload hx hb dX3_settleOne_129 (lv_at hl 0 rfl) ?_
      refine lv_if_ge (tgt := 143) hx hb dX3_settleOne_131 (by decide) (fun hc => ?_) (fun hc => ?_)
      · rw [if_pos hc] at hf
        refine lv_iload_n hx hb dX3_settleOne_143 rfl (lv_at hl 6 rfl) ?_
        refine lv_bipush (v := 22) hx hb dX3_settleOne_144 (by decide) ?_
        refine lv_icmp_ne (tgt := 153) hx hb dX3_settleOne_146 (by decide) (fun hc => ?_) (fun hc => ?_)
        · rw [if_neg hc] at hf
          refine lv_iconst (v := 0) hx hb dX3_settleOne_153 (by decide) ?_
          exact (wbC_X3_settleOne_154 CX hRm) _ _ _ _ _ _ _ _ _ hf hR hS (lv_sub hl [4, 5, 3, 0] rfl)
        · rw [if_pos hc] at hf
          refine lv_iconst (v := 1) hx hb dX3_settleOne_149 (by decide) ?_
          refine lv_goto (tgt := 154) hx hb dX3_settleOne_150 (by decide) ?_
          exact (wbC_X3_settleOne_154 CX hRm) _ _ _ _ _ _ _ _ _ hf hR hS (lv_sub hl [4, 5, 3, 0] rfl)
      · rw [if_neg hc] at hf
        refine lv_iconst (v := 2) hx hb dX3_settleOne_134 (by decide) ?_
        refine lv_bipush (v := 16) hx hb dX3_settleOne_135 (by decide) ?_
        refine lv_iload_n hx hb dX3_settleOne_137 rfl (lv_at hl 3 rfl) ?_
        refine lv_iconst (v := 2) hx hb dX3_settleOne_138 (by decide) ?_
        refine lv_iadd hx hb dX3_settleOne_139 ?_
        refine lv_imul hx hb dX3_settleOne_140 ?_
        refine lv_iadd hx hb dX3_settleOne_141 ?_
        exact cr_iret CX hR hS hf dX3_settleOne_142
    · rw [if_pos hc] at hf
      refine lv_aload_n hx hb dX3_settleOne_89 rfl (lv_at hl 3 rfl) ?_
      refine cr_getR kc_3 CX hR fa_X3_9 rfl hk_x0_4 dX3_settleOne_90 ?_
      obtain ⟨a12, ha12, hf⟩ := nn_some hf
      refine rf_0 ha12 ?_
      obtain ⟨hk_a12_6, hf⟩ := gd_some hf
      refine cr_getR kc_5 CX hR fa_X3_284 rfl hk_a12_6 dX3_settleOne_93 ?_
      refine lv_iload_n hx hb dX3_settleOne_96 rfl (lv_at hl 4 rfl) ?_
      refine lv_bipush (v := 6) hx hb dX3_settleOne_97 (by decide) ?_
      refine lv_iload hx hb dX3_settleOne_99 (lv_at hl 0 rfl) ?_
      refine lv_iconst (v := 0) hx hb dX3_settleOne_101 (by decide) ?_
      obtain ⟨a13, ha13, hf⟩ := nn_some hf
      refine rf_4 ha13 ?_
      obtain ⟨o102, ho102, hf⟩ := bnd_some hf
      refine cr_callLs CX hR hL hS (As := [.int 6, .int o55.1, .int 0]) (rest := [.int x1, .ref a13]) (MC_X5_word l x N K 6 o55.1 0 o80 o102 ho102) cs_X3_80 ⟨by omega, by omega⟩ rfl rfl (Nat.le_of_ble_eq_true rfl) hl.1 dX3_settleOne_102 hcs (fun H locs hR hS => ?_)
      obtain ⟨hk_a13_23, hf⟩ := gd_some hf
      obtain ⟨hi, hf⟩ := ck_some hf
      refine cr_last CX hR hL hS hk_a13_23 hi dX3_settleOne_105 (fun H locs hR hS => ?_)
      refine lv_iconst (v := 0) hx hb dX3_settleOne_106 (by decide) ?_
      exact cr_iret CX hR hS hf dX3_settleOne_107
  · rw [if_neg hc] at hf
    refine lv_iconst (v := 2) hx hb dX3_settleOne_65 (by decide) ?_
    refine lv_bipush (v := 16) hx hb dX3_settleOne_66 (by decide) ?_
    refine lv_iload_n hx hb dX3_settleOne_68 rfl (lv_at hl 2 rfl) ?_
    refine lv_imul hx hb dX3_settleOne_69 ?_
    refine lv_iadd hx hb dX3_settleOne_70 ?_
    exact cr_iret CX hR hS hf dX3_settleOne_71
theorem MC_X3_settleOne (l : Launch) (x : Xc) (N : Nat) (K : Ka) (x0 : Nat) (x1 : Int32) (x2 : Int32) (M : Cm) (o : Int32 × Cm) (hf : fC_X3_settleOne N K x0 x1 x2 M = some o) : CtI l x yX3_settleOne cX3_settleOne 8 (some .int) 2 46 [.ref x0, .int x1, .int x2] K M o :=
  cr_metI RX3 (by decide) rfl (Nat.le_of_ble_eq_true rfl) (fun p e s m args below meth c ls CX hR hl => wfC_X3_settleOne CX ⟨Nat.le_refl _, Nat.le_refl _⟩ x0 x1 x2 M s.heap [] ls hf hR va_S.rf hl)
def lC_J7_fill_53178_5 (N : Nat) (K : Ka) (k20 : Cm → Option (Cm)) : Nat → Nat → Int32 → Int32 → Int32 → Cm → Option (Cm)
  | 0, _, _, _, _, _ => none
  | n + 1, x0, x1, x2, x3, M => if x3 ≤ x2 then (k20 M) else (gd (kd K x0 == 22) (ck x2 (le K x0) (lC_J7_fill_53178_5 N K k20 n x0 x1 (x2 + 1) x3 (wI M x0 (x2 : Int32).toNatClampNeg x1))))
set_option maxRecDepth 100000 in
set_option maxHeartbeats 4000000 in
theorem wlC_J7_fill_53178_5 {p : Program} {l : Launch} {e : Env} {R : Room} {s : State} {m : MethodId} {args : Array Value} {below : List Frame} {meth : Method} {c : Code} {x : Xc} {o : Cm} {N : Nat} {K : Ka} {k20 : Cm → Option (Cm)} (CX : CC p s m args meth c x K RJ7 cJ7_fill_53178 4 none) (hRm : 0 ≤ R.frames ∧ 0 ≤ R.locals) (hk20 : ∀  (M : Cm) (H : Heap) (locs : List Loc) (ls : Array Slot), k20 M = some o → RC x K M H → va_S (AC K) s.heap H locs → lv_has ls 4 [] → W p l e R s m args below meth c H locs 0 0 (MQ below (CQV x K o) args s 0 0 (AC K)) (F0 m 20 ls [])) : ∀ (n : Nat) (x0 : Nat) (x1 : Int32) (x2 : Int32) (x3 : Int32) (M : Cm) (H : Heap) (locs : List Loc) (ls : Array Slot), lC_J7_fill_53178_5 N K k20 n x0 x1 x2 x3 M = some o → RC x K M H → va_S (AC K) s.heap H locs → lv_has ls 4 [(0, .ref x0), (1, .int x1), (2, .int x2), (3, .int x3)] → W p l e R s m args below meth c H locs 0 0 (MQ below (CQV x K o) args s 0 0 (AC K)) (F0 m 5 ls []) := by
  obtain ⟨hx, hb, hml, hown, hts, hE, hB, hr, hlk⟩ := id CX
  have hL : KLe K K := KLe.rf K
  have hcs : 0 ≤ R.cells ∧ 0 ≤ R.slots := ⟨Nat.zero_le _, Nat.zero_le _⟩
  intro n
  induction n with
  | zero => intro x0 x1 x2 x3 M H locs ls hf; cases hf
  | succ n ih =>
    intro x0 x1 x2 x3 M H locs ls hf hR hS hl
    rw [lC_J7_fill_53178_5] at hf
    refine lv_iload_n hx hb dJ7_fill_53178_5 rfl (lv_at hl 2 rfl) ?_
    refine lv_iload_n hx hb dJ7_fill_53178_6 rfl (lv_at hl 3 rfl) ?_
    refine lv_icmp_ge (tgt := 20) hx hb dJ7_fill_53178_7 (by decide) (fun hc => ?_) (fun hc => ?_)
    · rw [if_pos hc] at hf
      exact hk20 _ _ _ _ hf hR hS (lv_sub hl [] rfl)
    · rw [if_neg hc] at hf
      refine lv_aload_n hx hb dJ7_fill_53178_10 rfl (lv_at hl 0 rfl) ?_
      refine lv_iload_n hx hb dJ7_fill_53178_11 rfl (lv_at hl 2 rfl) ?_
      refine lv_iload_n hx hb dJ7_fill_53178_12 rfl (lv_at hl 1 rfl) ?_
      obtain ⟨hk_x0_22, hf⟩ := gd_some hf
      obtain ⟨hi, hf⟩ := ck_some hf
      refine cr_iast CX hR hL hS hk_x0_22 hi dJ7_fill_53178_13 (fun H locs hR hS => ?_)
      refine lv_iinc (v := x2 + 1) (lv' := [(2, .int (x2 + 1)), (0, .ref x0), (1, .int x1), (3, .int x3)]) hx hb dJ7_fill_53178_14 hl (k := 2) rfl rfl (by decide) rfl (fun ls hl => ?_)
      refine lv_goto (tgt := 5) hx hb dJ7_fill_53178_17 (by decide) ?_
      exact ih _ _ _ _ _ _ _ _ hf hR hS (lv_sub hl [1, 2, 0, 3] rfl)
def bC_J7_fill_53178_20 (N : Nat) (K : Ka)  (M : Cm) : Option (Cm) := some M
set_option maxRecDepth 100000 in
set_option maxHeartbeats 4000000 in
theorem wbC_J7_fill_53178_20 {p : Program} {l : Launch} {e : Env} {R : Room} {s : State} {m : MethodId} {args : Array Value} {below : List Frame} {meth : Method} {c : Code} {x : Xc} {o : Cm} {N : Nat} {K : Ka} (CX : CC p s m args meth c x K RJ7 cJ7_fill_53178 4 none) (hRm : 0 ≤ R.frames ∧ 0 ≤ R.locals)  (M : Cm) (H : Heap) (locs : List Loc) (ls : Array Slot) (hf : bC_J7_fill_53178_20 N K  M = some o) (hR : RC x K M H) (hS : va_S (AC K) s.heap H locs) (hl : lv_has ls 4 []) : W p l e R s m args below meth c H locs 0 0 (MQ below (CQV x K o) args s 0 0 (AC K)) (F0 m 20 ls []) := by
  obtain ⟨hx, hb, hml, hown, hts, hE, hB, hr, hlk⟩ := id CX
  have hL : KLe K K := KLe.rf K
  have hcs : 0 ≤ R.cells ∧ 0 ≤ R.slots := ⟨Nat.zero_le _, Nat.zero_le _⟩
  unfold bC_J7_fill_53178_20 at hf
  exact cr_vret CX hR hS hf dJ7_fill_53178_20
def fC_J7_fill_53178 (N : Nat) (K : Ka) (x0 : Nat) (x1 : Int32) (M : Cm) : Option (Cm) := gd (kd K x0 == 22) ((lC_J7_fill_53178_5 N K (bC_J7_fill_53178_20 N K) N) x0 x1 0 (nI (le K x0)) M)
set_option maxRecDepth 100000 in
set_option maxHeartbeats 4000000 in
theorem wfC_J7_fill_53178 {p : Program} {l : Launch} {e : Env} {R : Room} {s : State} {m : MethodId} {args : Array Value} {below : List Frame} {meth : Method} {c : Code} {x : Xc} {o : Cm} {N : Nat} {K : Ka} (CX : CC p s m args meth c x K RJ7 cJ7_fill_53178 4 none) (hRm : 0 ≤ R.frames ∧ 0 ≤ R.locals) (x0 : Nat) (x1 : Int32) (M : Cm) (H : Heap) (locs : List Loc) (ls : Array Slot) (hf : fC_J7_fill_53178 N K x0 x1 M = some o) (hR : RC x K M H) (hS : va_S (AC K) s.heap H locs) (hl : lv_has ls 4 [(0, .ref x0), (1, .int x1)]) : W p l e R s m args below meth c H locs 0 0 (MQ below (CQV x K o) args s 0 0 (AC K)) (F0 m 0 ls []) := by
  obtain ⟨hx, hb, hml, hown, hts, hE, hB, hr, hlk⟩ := id CX
  have hL : KLe K K := KLe.rf K
  have hcs : 0 ≤ R.cells ∧ 0 ≤ R.slots := ⟨Nat.zero_le _, Nat.zero_le _⟩
  unfold fC_J7_fill_53178 at hf
  refine lv_iconst (v := 0) hx hb dJ7_fill_53178_0 (by decide) ?_
  refine lv_istore_n (lv' := [(2, .int 0), (0, .ref x0), (1, .int x1)]) hx hb dJ7_fill_53178_1 rfl hl (by decide) rfl (fun ls hl => ?_)
  refine lv_aload_n hx hb dJ7_fill_53178_2 rfl (lv_at hl 1 rfl) ?_
  obtain ⟨hk_x0_22, hf⟩ := gd_some hf
  refine cr_ilen CX hR hk_x0_22 dJ7_fill_53178_3 ?_
  refine lv_istore_n (lv' := [(3, .int (nI (le K x0))), (2, .int 0), (0, .ref x0), (1, .int x1)]) hx hb dJ7_fill_53178_4 rfl hl (by decide) rfl (fun ls hl => ?_)
  exact (wlC_J7_fill_53178_5 CX hRm (wbC_J7_fill_53178_20 CX hRm) N) _ _ _ _ _ _ _ _ hf hR hS (lv_sub hl [2, 3, 1, 0] rfl)
theorem MC_J7_fill_53178 (l : Launch) (x : Xc) (N : Nat) (K : Ka) (x0 : Nat) (x1 : Int32) (M : Cm) (o : Cm) (hf : fC_J7_fill_53178 N K x0 x1 M = some o) : CtV l x yJ7_fill_53178 cJ7_fill_53178 4 0 0 [.ref x0, .int x1] K M o :=
  cr_metV RJ7 (by decide) rfl (Nat.le_of_ble_eq_true rfl) (fun p e s m args below meth c ls CX hR hl => wfC_J7_fill_53178 CX ⟨Nat.le_refl _, Nat.le_refl _⟩ x0 x1 M s.heap [] ls hf hR va_S.rf hl)
def fC_X4_dropPlans (N : Nat) (K : Ka) (x0 : Nat) (M : Cm) : Option (Cm) := gd (kd K x0 == 5) (nn (cR M x0 7) fun a1 => (fC_J7_fill_53178 N K a1 0 M).bind fun o5 => some (wI o5 x0 10 0))
set_option maxRecDepth 100000 in
set_option maxHeartbeats 4000000 in
theorem wfC_X4_dropPlans {p : Program} {l : Launch} {e : Env} {R : Room} {s : State} {m : MethodId} {args : Array Value} {below : List Frame} {meth : Method} {c : Code} {x : Xc} {o : Cm} {N : Nat} {K : Ka} (CX : CC p s m args meth c x K RX4 cX4_dropPlans 1 none) (hRm : 1 ≤ R.frames ∧ 23 ≤ R.locals) (x0 : Nat) (M : Cm) (H : Heap) (locs : List Loc) (ls : Array Slot) (hf : fC_X4_dropPlans N K x0 M = some o) (hR : RC x K M H) (hS : va_S (AC K) s.heap H locs) (hl : lv_has ls 1 [(0, .ref x0)]) : W p l e R s m args below meth c H locs 0 0 (MQ below (CQV x K o) args s 0 0 (AC K)) (F0 m 0 ls []) := by
  obtain ⟨hx, hb, hml, hown, hts, hE, hB, hr, hlk⟩ := id CX
  have hL : KLe K K := KLe.rf K
  have hcs : 0 ≤ R.cells ∧ 0 ≤ R.slots := ⟨Nat.zero_le _, Nat.zero_le _⟩
  unfold fC_X4_dropPlans at hf
  refine lv_aload_n hx hb dX4_dropPlans_0 rfl (lv_at hl 0 rfl) ?_
  obtain ⟨hk_x0_5, hf⟩ := gd_some hf
  refine cr_getR kc_4 CX hR fa_X4_33 rfl hk_x0_5 dX4_dropPlans_1 ?_
  refine lv_iconst (v := 0) hx hb dX4_dropPlans_4 (by decide) ?_
  obtain ⟨a1, ha1, hf⟩ := nn_some hf
  refine rf_1 ha1 ?_
  obtain ⟨o5, ho5, hf⟩ := bnd_some hf
  refine cr_callVs CX hR hL hS (As := [.ref a1, .int 0]) (rest := []) (MC_J7_fill_53178 l x N K a1 0 M o5 ho5) cs_X4_76 ⟨by omega, by omega⟩ rfl rfl (Nat.le_of_ble_eq_true rfl) hl.1 dX4_dropPlans_5 hcs (fun H locs hR hS => ?_)
  refine lv_aload_n hx hb dX4_dropPlans_8 rfl (lv_at hl 0 rfl) ?_
  refine lv_iconst (v := 0) hx hb dX4_dropPlans_9 (by decide) ?_
  refine cr_putI kc_4 CX hR hL hS fa_X4_42 ⟨rfl, rfl, rfl⟩ hk_x0_5 dX4_dropPlans_10 (fun H locs hR hS => ?_)
  exact cr_vret CX hR hS hf dX4_dropPlans_13
theorem MC_X4_dropPlans (l : Launch) (x : Xc) (N : Nat) (K : Ka) (x0 : Nat) (M : Cm) (o : Cm) (hf : fC_X4_dropPlans N K x0 M = some o) : CtV l x yX4_dropPlans cX4_dropPlans 1 1 23 [.ref x0] K M o :=
  cr_metV RX4 (by decide) rfl (Nat.le_of_ble_eq_true rfl) (fun p e s m args below meth c ls CX hR hl => wfC_X4_dropPlans CX ⟨Nat.le_refl _, Nat.le_refl _⟩ x0 M s.heap [] ls hf hR va_S.rf hl)
def fC_J7_rangeCheck_23922 (N : Nat) (K : Ka) (x0 : Int32) (x1 : Int32) (x2 : Int32) (M : Cm) : Option (Cm) := if x1 ≤ x2 then (if 0 ≤ x1 then (if x2 ≤ x0 then (some M) else (none)) else (none)) else (none)
set_option maxRecDepth 100000 in
set_option maxHeartbeats 4000000 in
theorem wfC_J7_rangeCheck_23922 {p : Program} {l : Launch} {e : Env} {R : Room} {s : State} {m : MethodId} {args : Array Value} {below : List Frame} {meth : Method} {c : Code} {x : Xc} {o : Cm} {N : Nat} {K : Ka} (CX : CC p s m args meth c x K RJ7 cJ7_rangeCheck_23922 3 none) (hRm : 0 ≤ R.frames ∧ 0 ≤ R.locals) (x0 : Int32) (x1 : Int32) (x2 : Int32) (M : Cm) (H : Heap) (locs : List Loc) (ls : Array Slot) (hf : fC_J7_rangeCheck_23922 N K x0 x1 x2 M = some o) (hR : RC x K M H) (hS : va_S (AC K) s.heap H locs) (hl : lv_has ls 3 [(0, .int x0), (1, .int x1), (2, .int x2)]) : W p l e R s m args below meth c H locs 0 0 (MQ below (CQV x K o) args s 0 0 (AC K)) (F0 m 0 ls []) := by
  obtain ⟨hx, hb, hml, hown, hts, hE, hB, hr, hlk⟩ := id CX
  have hL : KLe K K := KLe.rf K
  have hcs : 0 ≤ R.cells ∧ 0 ≤ R.slots := ⟨Nat.zero_le _, Nat.zero_le _⟩
  unfold fC_J7_rangeCheck_23922 at hf
  refine lv_iload_n hx hb dJ7_rangeCheck_23922_0 rfl (lv_at hl 1 rfl) ?_
  refine lv_iload_n hx hb dJ7_rangeCheck_23922_1 rfl (lv_at hl 2 rfl) ?_
  refine lv_icmp_le (tgt := 46) hx hb dJ7_rangeCheck_23922_2 (by decide) (fun hc => ?_) (fun hc => ?_)
  · rw [if_pos hc] at hf
    refine lv_iload_n hx hb dJ7_rangeCheck_23922_46 rfl (lv_at hl 1 rfl) ?_
    refine lv_if_ge (tgt := 59) hx hb dJ7_rangeCheck_23922_47 (by decide) (fun hc => ?_) (fun hc => ?_)
    · rw [if_pos hc] at hf
      refine lv_iload_n hx hb dJ7_rangeCheck_23922_59 rfl (lv_at hl 2 rfl) ?_
      refine lv_iload_n hx hb dJ7_rangeCheck_23922_60 rfl (lv_at hl 0 rfl) ?_
      refine lv_icmp_le (tgt := 73) hx hb dJ7_rangeCheck_23922_61 (by decide) (fun hc => ?_) (fun hc => ?_)
      · rw [if_pos hc] at hf
        exact cr_vret CX hR hS hf dJ7_rangeCheck_23922_73
      · rw [if_neg hc] at hf
        cases hf
    · rw [if_neg hc] at hf
      cases hf
  · rw [if_neg hc] at hf
    cases hf
theorem MC_J7_rangeCheck_23922 (l : Launch) (x : Xc) (N : Nat) (K : Ka) (x0 : Int32) (x1 : Int32) (x2 : Int32) (M : Cm) (o : Cm) (hf : fC_J7_rangeCheck_23922 N K x0 x1 x2 M = some o) : CtV l x yJ7_rangeCheck_23922 cJ7_rangeCheck_23922 3 0 0 [.int x0, .int x1, .int x2] K M o :=
  cr_metV RJ7 (by decide) rfl (Nat.le_of_ble_eq_true rfl) (fun p e s m args below meth c ls CX hR hl => wfC_J7_rangeCheck_23922 CX ⟨Nat.le_refl _, Nat.le_refl _⟩ x0 x1 x2 M s.heap [] ls hf hR va_S.rf hl)
def lC_J7_fill_fda19_10 (N : Nat) (K : Ka) (k27 : Cm → Option (Cm)) : Nat → Nat → Int32 → Int32 → Int32 → Cm → Option (Cm)
  | 0, _, _, _, _, _ => none
  | n + 1, x0, x2, x3, x4, M => if x2 ≤ x4 then (k27 M) else (gd (kd K x0 == 22) (ck x4 (le K x0) (lC_J7_fill_fda19_10 N K k27 n x0 x2 x3 (x4 + 1) (wI M x0 (x4 : Int32).toNatClampNeg x3))))
set_option maxRecDepth 100000 in
set_option maxHeartbeats 4000000 in
theorem wlC_J7_fill_fda19_10 {p : Program} {l : Launch} {e : Env} {R : Room} {s : State} {m : MethodId} {args : Array Value} {below : List Frame} {meth : Method} {c : Code} {x : Xc} {o : Cm} {N : Nat} {K : Ka} {k27 : Cm → Option (Cm)} (CX : CC p s m args meth c x K RJ7 cJ7_fill_fda19 5 none) (hRm : 1 ≤ R.frames ∧ 22 ≤ R.locals) (hk27 : ∀  (M : Cm) (H : Heap) (locs : List Loc) (ls : Array Slot), k27 M = some o → RC x K M H → va_S (AC K) s.heap H locs → lv_has ls 5 [] → W p l e R s m args below meth c H locs 0 0 (MQ below (CQV x K o) args s 0 0 (AC K)) (F0 m 27 ls [])) : ∀ (n : Nat) (x0 : Nat) (x2 : Int32) (x3 : Int32) (x4 : Int32) (M : Cm) (H : Heap) (locs : List Loc) (ls : Array Slot), lC_J7_fill_fda19_10 N K k27 n x0 x2 x3 x4 M = some o → RC x K M H → va_S (AC K) s.heap H locs → lv_has ls 5 [(0, .ref x0), (2, .int x2), (3, .int x3), (4, .int x4)] → W p l e R s m args below meth c H locs 0 0 (MQ below (CQV x K o) args s 0 0 (AC K)) (F0 m 10 ls []) := by
  obtain ⟨hx, hb, hml, hown, hts, hE, hB, hr, hlk⟩ := id CX
  have hL : KLe K K := KLe.rf K
  have hcs : 0 ≤ R.cells ∧ 0 ≤ R.slots := ⟨Nat.zero_le _, Nat.zero_le _⟩
  intro n
  induction n with
  | zero => intro x0 x2 x3 x4 M H locs ls hf; cases hf
  | succ n ih =>
    intro x0 x2 x3 x4 M H locs ls hf hR hS hl
    rw [lC_J7_fill_fda19_10] at hf
    refine lv_iload hx hb dJ7_fill_fda19_10 (lv_at hl 3 rfl) ?_
    refine lv_iload_n hx hb dJ7_fill_fda19_12 rfl (lv_at hl 1 rfl) ?_
    refine lv_icmp_ge (tgt := 27) hx hb dJ7_fill_fda19_13 (by decide) (fun hc => ?_) (fun hc => ?_)
    · rw [if_pos hc] at hf
      exact hk27 _ _ _ _ hf hR hS (lv_sub hl [] rfl)
    · rw [if_neg hc] at hf
      refine lv_aload_n hx hb dJ7_fill_fda19_16 rfl (lv_at hl 0 rfl) ?_
      refine lv_iload hx hb dJ7_fill_fda19_17 (lv_at hl 3 rfl) ?_
      refine lv_iload_n hx hb dJ7_fill_fda19_19 rfl (lv_at hl 2 rfl) ?_
      obtain ⟨hk_x0_22, hf⟩ := gd_some hf
      obtain ⟨hi, hf⟩ := ck_some hf
      refine cr_iast CX hR hL hS hk_x0_22 hi dJ7_fill_fda19_20 (fun H locs hR hS => ?_)
      refine lv_iinc (v := x4 + 1) (lv' := [(4, .int (x4 + 1)), (0, .ref x0), (2, .int x2), (3, .int x3)]) hx hb dJ7_fill_fda19_21 hl (k := 3) rfl rfl (by decide) rfl (fun ls hl => ?_)
      refine lv_goto (tgt := 10) hx hb dJ7_fill_fda19_24 (by decide) ?_
      exact ih _ _ _ _ _ _ _ _ hf hR hS (lv_sub hl [1, 2, 3, 0] rfl)
def bC_J7_fill_fda19_27 (N : Nat) (K : Ka)  (M : Cm) : Option (Cm) := some M
set_option maxRecDepth 100000 in
set_option maxHeartbeats 4000000 in
theorem wbC_J7_fill_fda19_27 {p : Program} {l : Launch} {e : Env} {R : Room} {s : State} {m : MethodId} {args : Array Value} {below : List Frame} {meth : Method} {c : Code} {x : Xc} {o : Cm} {N : Nat} {K : Ka} (CX : CC p s m args meth c x K RJ7 cJ7_fill_fda19 5 none) (hRm : 1 ≤ R.frames ∧ 22 ≤ R.locals)  (M : Cm) (H : Heap) (locs : List Loc) (ls : Array Slot) (hf : bC_J7_fill_fda19_27 N K  M = some o) (hR : RC x K M H) (hS : va_S (AC K) s.heap H locs) (hl : lv_has ls 5 []) : W p l e R s m args below meth c H locs 0 0 (MQ below (CQV x K o) args s 0 0 (AC K)) (F0 m 27 ls []) := by
  obtain ⟨hx, hb, hml, hown, hts, hE, hB, hr, hlk⟩ := id CX
  have hL : KLe K K := KLe.rf K
  have hcs : 0 ≤ R.cells ∧ 0 ≤ R.slots := ⟨Nat.zero_le _, Nat.zero_le _⟩
  unfold bC_J7_fill_fda19_27 at hf
  exact cr_vret CX hR hS hf dJ7_fill_fda19_27
def fC_J7_fill_fda19 (N : Nat) (K : Ka) (x0 : Nat) (x1 : Int32) (x2 : Int32) (x3 : Int32) (M : Cm) : Option (Cm) := gd (kd K x0 == 22) ((fC_J7_rangeCheck_23922 N K (nI (le K x0)) x1 x2 M).bind fun o4 => (lC_J7_fill_fda19_10 N K (bC_J7_fill_fda19_27 N K) N) x0 x2 x3 x1 o4)
set_option maxRecDepth 100000 in
set_option maxHeartbeats 4000000 in
theorem wfC_J7_fill_fda19 {p : Program} {l : Launch} {e : Env} {R : Room} {s : State} {m : MethodId} {args : Array Value} {below : List Frame} {meth : Method} {c : Code} {x : Xc} {o : Cm} {N : Nat} {K : Ka} (CX : CC p s m args meth c x K RJ7 cJ7_fill_fda19 5 none) (hRm : 1 ≤ R.frames ∧ 22 ≤ R.locals) (x0 : Nat) (x1 : Int32) (x2 : Int32) (x3 : Int32) (M : Cm) (H : Heap) (locs : List Loc) (ls : Array Slot) (hf : fC_J7_fill_fda19 N K x0 x1 x2 x3 M = some o) (hR : RC x K M H) (hS : va_S (AC K) s.heap H locs) (hl : lv_has ls 5 [(0, .ref x0), (1, .int x1), (2, .int x2), (3, .int x3)]) : W p l e R s m args below meth c H locs 0 0 (MQ below (CQV x K o) args s 0 0 (AC K)) (F0 m 0 ls []) := by
  obtain ⟨hx, hb, hml, hown, hts, hE, hB, hr, hlk⟩ := id CX
  have hL : KLe K K := KLe.rf K
  have hcs : 0 ≤ R.cells ∧ 0 ≤ R.slots := ⟨Nat.zero_le _, Nat.zero_le _⟩
  unfold fC_J7_fill_fda19 at hf
  refine lv_aload_n hx hb dJ7_fill_fda19_0 rfl (lv_at hl 0 rfl) ?_
  obtain ⟨hk_x0_22, hf⟩ := gd_some hf
  refine cr_ilen CX hR hk_x0_22 dJ7_fill_fda19_1 ?_
  refine lv_iload_n hx hb dJ7_fill_fda19_2 rfl (lv_at hl 1 rfl) ?_
  refine lv_iload_n hx hb dJ7_fill_fda19_3 rfl (lv_at hl 2 rfl) ?_
  obtain ⟨o4, ho4, hf⟩ := bnd_some hf
  refine cr_callVs CX hR hL hS (As := [.int (nI (le K x0)), .int x1, .int x2]) (rest := []) (MC_J7_rangeCheck_23922 l x N K (nI (le K x0)) x1 x2 M o4 ho4) cs_J7_13 ⟨by omega, by omega⟩ rfl rfl (Nat.le_of_ble_eq_true rfl) hl.1 dJ7_fill_fda19_4 hcs (fun H locs hR hS => ?_)
  refine lv_iload_n hx hb dJ7_fill_fda19_7 rfl (lv_at hl 1 rfl) ?_
  refine lv_istore (lv' := [(4, .int x1), (0, .ref x0), (1, .int x1), (2, .int x2), (3, .int x3)]) hx hb dJ7_fill_fda19_8 hl (by decide) rfl (fun ls hl => ?_)
  exact (wlC_J7_fill_fda19_10 CX hRm (wbC_J7_fill_fda19_27 CX hRm) N) _ _ _ _ _ _ _ _ hf hR hS (lv_sub hl [1, 3, 4, 0] rfl)
theorem MC_J7_fill_fda19 (l : Launch) (x : Xc) (N : Nat) (K : Ka) (x0 : Nat) (x1 : Int32) (x2 : Int32) (x3 : Int32) (M : Cm) (o : Cm) (hf : fC_J7_fill_fda19 N K x0 x1 x2 x3 M = some o) : CtV l x yJ7_fill_fda19 cJ7_fill_fda19 5 1 22 [.ref x0, .int x1, .int x2, .int x3] K M o :=
  cr_metV RJ7 (by decide) rfl (Nat.le_of_ble_eq_true rfl) (fun p e s m args below meth c ls CX hR hl => wfC_J7_fill_fda19 CX ⟨Nat.le_refl _, Nat.le_refl _⟩ x0 x1 x2 x3 M s.heap [] ls hf hR va_S.rf hl)
def fC_X4_renew (N : Nat) (K : Ka) (x0 : Nat) (x1 : Int32) (M : Cm) : Option (Cm) := gd (kd K x0 == 5) (nn (cR M x0 0) fun a1 => gd (kd K a1 == 22) (ck x1 (le K a1) (nn (cR (wI M a1 (x1 : Int32).toNatClampNeg 0) x0 1) fun a2 => gd (kd K a2 == 22) (ck x1 (le K a2) (ck x1 (le K a2) (nn (cR (wI (wI M a1 (x1 : Int32).toNatClampNeg 0) a2 (x1 : Int32).toNatClampNeg ((cI (wI M a1 (x1 : Int32).toNatClampNeg 0) a2 (x1 : Int32).toNatClampNeg) + 1)) x0 3) fun a3 => gd (kd K a3 == 22) (ck x1 (le K a3) (nn (cR (wI (wI (wI M a1 (x1 : Int32).toNatClampNeg 0) a2 (x1 : Int32).toNatClampNeg ((cI (wI M a1 (x1 : Int32).toNatClampNeg 0) a2 (x1 : Int32).toNatClampNeg) + 1)) a3 (x1 : Int32).toNatClampNeg 0) x0 4) fun a4 => gd (kd K a4 == 22) (ck x1 (le K a4) (nn (cR (wI (wI (wI (wI M a1 (x1 : Int32).toNatClampNeg 0) a2 (x1 : Int32).toNatClampNeg ((cI (wI M a1 (x1 : Int32).toNatClampNeg 0) a2 (x1 : Int32).toNatClampNeg) + 1)) a3 (x1 : Int32).toNatClampNeg 0) a4 (x1 : Int32).toNatClampNeg 0) x0 6) fun a5 => gd (kd K a5 == 22) (ck x1 (le K a5) (nn (cR (wI (wI (wI (wI (wI M a1 (x1 : Int32).toNatClampNeg 0) a2 (x1 : Int32).toNatClampNeg ((cI (wI M a1 (x1 : Int32).toNatClampNeg 0) a2 (x1 : Int32).toNatClampNeg) + 1)) a3 (x1 : Int32).toNatClampNeg 0) a4 (x1 : Int32).toNatClampNeg 0) a5 (x1 : Int32).toNatClampNeg 0) x0 2) fun a6 => (fC_J7_fill_fda19 N K a6 (x1 * 8) ((x1 + 1) * 8) 0 (wI (wI (wI (wI (wI M a1 (x1 : Int32).toNatClampNeg 0) a2 (x1 : Int32).toNatClampNeg ((cI (wI M a1 (x1 : Int32).toNatClampNeg 0) a2 (x1 : Int32).toNatClampNeg) + 1)) a3 (x1 : Int32).toNatClampNeg 0) a4 (x1 : Int32).toNatClampNeg 0) a5 (x1 : Int32).toNatClampNeg 0)).bind fun o53 => some o53))))))))))))
set_option maxRecDepth 100000 in
set_option maxHeartbeats 4000000 in
theorem wfC_X4_renew {p : Program} {l : Launch} {e : Env} {R : Room} {s : State} {m : MethodId} {args : Array Value} {below : List Frame} {meth : Method} {c : Code} {x : Xc} {o : Cm} {N : Nat} {K : Ka} (CX : CC p s m args meth c x K RX4 cX4_renew 2 none) (hRm : 2 ≤ R.frames ∧ 46 ≤ R.locals) (x0 : Nat) (x1 : Int32) (M : Cm) (H : Heap) (locs : List Loc) (ls : Array Slot) (hf : fC_X4_renew N K x0 x1 M = some o) (hR : RC x K M H) (hS : va_S (AC K) s.heap H locs) (hl : lv_has ls 2 [(0, .ref x0), (1, .int x1)]) : W p l e R s m args below meth c H locs 0 0 (MQ below (CQV x K o) args s 0 0 (AC K)) (F0 m 0 ls []) := by
  obtain ⟨hx, hb, hml, hown, hts, hE, hB, hr, hlk⟩ := id CX
  have hL : KLe K K := KLe.rf K
  have hcs : 0 ≤ R.cells ∧ 0 ≤ R.slots := ⟨Nat.zero_le _, Nat.zero_le _⟩
  unfold fC_X4_renew at hf
  refine lv_aload_n hx hb dX4_renew_0 rfl (lv_at hl 0 rfl) ?_
  obtain ⟨hk_x0_5, hf⟩ := gd_some hf
  refine cr_getR kc_4 CX hR fa_X4_9 rfl hk_x0_5 dX4_renew_1 ?_
  refine lv_iload_n hx hb dX4_renew_4 rfl (lv_at hl 1 rfl) ?_
  refine lv_iconst (v := 0) hx hb dX4_renew_5 (by decide) ?_
  obtain ⟨a1, ha1, hf⟩ := nn_some hf
  refine rf_2 ha1 ?_
  obtain ⟨hk_a1_22, hf⟩ := gd_some hf
  obtain ⟨hi, hf⟩ := ck_some hf
  refine cr_iast CX hR hL hS hk_a1_22 hi dX4_renew_6 (fun H locs hR hS => ?_)
  refine lv_aload_n hx hb dX4_renew_7 rfl (lv_at hl 0 rfl) ?_
  refine cr_getR kc_4 CX hR fa_X4_15 rfl hk_x0_5 dX4_renew_8 ?_
  refine lv_iload_n hx hb dX4_renew_11 rfl (lv_at hl 1 rfl) ?_
  obtain ⟨a2, ha2, hf⟩ := nn_some hf
  refine rf_1 ha2 ?_
  refine lv_dup2_11 hx hb dX4_renew_12 rfl rfl ?_
  obtain ⟨hk_a2_22, hf⟩ := gd_some hf
  obtain ⟨hi, hf⟩ := ck_some hf
  refine cr_iald CX hR hk_a2_22 hi dX4_renew_13 ?_
  refine lv_iconst (v := 1) hx hb dX4_renew_14 (by decide) ?_
  refine lv_iadd hx hb dX4_renew_15 ?_
  obtain ⟨hi, hf⟩ := ck_some hf
  refine cr_iast CX hR hL hS hk_a2_22 hi dX4_renew_16 (fun H locs hR hS => ?_)
  refine lv_aload_n hx hb dX4_renew_17 rfl (lv_at hl 0 rfl) ?_
  refine cr_getR kc_4 CX hR fa_X4_21 rfl hk_x0_5 dX4_renew_18 ?_
  refine lv_iload_n hx hb dX4_renew_21 rfl (lv_at hl 1 rfl) ?_
  refine lv_iconst (v := 0) hx hb dX4_renew_22 (by decide) ?_
  obtain ⟨a3, ha3, hf⟩ := nn_some hf
  refine rf_2 ha3 ?_
  obtain ⟨hk_a3_22, hf⟩ := gd_some hf
  obtain ⟨hi, hf⟩ := ck_some hf
  refine cr_iast CX hR hL hS hk_a3_22 hi dX4_renew_23 (fun H locs hR hS => ?_)
  refine lv_aload_n hx hb dX4_renew_24 rfl (lv_at hl 0 rfl) ?_
  refine cr_getR kc_4 CX hR fa_X4_24 rfl hk_x0_5 dX4_renew_25 ?_
  refine lv_iload_n hx hb dX4_renew_28 rfl (lv_at hl 1 rfl) ?_
  refine lv_iconst (v := 0) hx hb dX4_renew_29 (by decide) ?_
  obtain ⟨a4, ha4, hf⟩ := nn_some hf
  refine rf_2 ha4 ?_
  obtain ⟨hk_a4_22, hf⟩ := gd_some hf
  obtain ⟨hi, hf⟩ := ck_some hf
  refine cr_iast CX hR hL hS hk_a4_22 hi dX4_renew_30 (fun H locs hR hS => ?_)
  refine lv_aload_n hx hb dX4_renew_31 rfl (lv_at hl 0 rfl) ?_
  refine cr_getR kc_4 CX hR fa_X4_30 rfl hk_x0_5 dX4_renew_32 ?_
  refine lv_iload_n hx hb dX4_renew_35 rfl (lv_at hl 1 rfl) ?_
  refine lv_iconst (v := 0) hx hb dX4_renew_36 (by decide) ?_
  obtain ⟨a5, ha5, hf⟩ := nn_some hf
  refine rf_2 ha5 ?_
  obtain ⟨hk_a5_22, hf⟩ := gd_some hf
  obtain ⟨hi, hf⟩ := ck_some hf
  refine cr_iast CX hR hL hS hk_a5_22 hi dX4_renew_37 (fun H locs hR hS => ?_)
  refine lv_aload_n hx hb dX4_renew_38 rfl (lv_at hl 0 rfl) ?_
  refine cr_getR kc_4 CX hR fa_X4_18 rfl hk_x0_5 dX4_renew_39 ?_
  refine lv_iload_n hx hb dX4_renew_42 rfl (lv_at hl 1 rfl) ?_
  refine lv_bipush (v := 8) hx hb dX4_renew_43 (by decide) ?_
  refine lv_imul hx hb dX4_renew_45 ?_
  refine lv_iload_n hx hb dX4_renew_46 rfl (lv_at hl 1 rfl) ?_
  refine lv_iconst (v := 1) hx hb dX4_renew_47 (by decide) ?_
  refine lv_iadd hx hb dX4_renew_48 ?_
  refine lv_bipush (v := 8) hx hb dX4_renew_49 (by decide) ?_
  refine lv_imul hx hb dX4_renew_51 ?_
  refine lv_iconst (v := 0) hx hb dX4_renew_52 (by decide) ?_
  obtain ⟨a6, ha6, hf⟩ := nn_some hf
  refine rf_3 ha6 ?_
  obtain ⟨o53, ho53, hf⟩ := bnd_some hf
  refine cr_callVs CX hR hL hS (As := [.ref a6, .int (x1 * 8), .int ((x1 + 1) * 8), .int 0]) (rest := []) (MC_J7_fill_fda19 l x N K a6 (x1 * 8) ((x1 + 1) * 8) 0 (wI (wI (wI (wI (wI M a1 (x1 : Int32).toNatClampNeg 0) a2 (x1 : Int32).toNatClampNeg ((cI (wI M a1 (x1 : Int32).toNatClampNeg 0) a2 (x1 : Int32).toNatClampNeg) + 1)) a3 (x1 : Int32).toNatClampNeg 0) a4 (x1 : Int32).toNatClampNeg 0) a5 (x1 : Int32).toNatClampNeg 0) o53 ho53) cs_X4_64 ⟨by omega, by omega⟩ rfl rfl (Nat.le_of_ble_eq_true rfl) hl.1 dX4_renew_53 hcs (fun H locs hR hS => ?_)
  exact cr_vret CX hR hS hf dX4_renew_56
theorem MC_X4_renew (l : Launch) (x : Xc) (N : Nat) (K : Ka) (x0 : Nat) (x1 : Int32) (M : Cm) (o : Cm) (hf : fC_X4_renew N K x0 x1 M = some o) : CtV l x yX4_renew cX4_renew 2 2 46 [.ref x0, .int x1] K M o :=
  cr_metV RX4 (by decide) rfl (Nat.le_of_ble_eq_true rfl) (fun p e s m args below meth c ls CX hR hl => wfC_X4_renew CX ⟨Nat.le_refl _, Nat.le_refl _⟩ x0 x1 M s.heap [] ls hf hR va_S.rf hl)
def lC_X4_reset_2 (N : Nat) (K : Ka) (k26 : Nat → Nat → Cm → Option (Cm)) : Nat → Nat → Nat → Int32 → Cm → Option (Cm)
  | 0, _, _, _, _ => none
  | n + 1, x0, x1, x2, M => if 24 ≤ x2 then (k26 x0 x1 M) else (gd (kd K x0 == 5) ((fC_X4_renew N K x0 x2 M).bind fun o10 => nn (cR o10 x0 1) fun a1 => gd (kd K a1 == 22) (ck x2 (le K a1) (lC_X4_reset_2 N K k26 n x0 x1 (x2 + 1) (wI o10 a1 (x2 : Int32).toNatClampNeg 0)))))
set_option maxRecDepth 100000 in
set_option maxHeartbeats 4000000 in
theorem wlC_X4_reset_2 {p : Program} {l : Launch} {e : Env} {R : Room} {s : State} {m : MethodId} {args : Array Value} {below : List Frame} {meth : Method} {c : Code} {x : Xc} {o : Cm} {N : Nat} {K : Ka} {k26 : Nat → Nat → Cm → Option (Cm)} (CX : CC p s m args meth c x K RX4 cX4_reset 3 none) (hRm : 3 ≤ R.frames ∧ 67 ≤ R.locals) (hk26 : ∀ (x0 : Nat) (x1 : Nat) (M : Cm) (H : Heap) (locs : List Loc) (ls : Array Slot), k26 x0 x1 M = some o → RC x K M H → va_S (AC K) s.heap H locs → lv_has ls 3 [(0, .ref x0), (1, .ref x1)] → W p l e R s m args below meth c H locs 0 0 (MQ below (CQV x K o) args s 0 0 (AC K)) (F0 m 26 ls [])) : ∀ (n : Nat) (x0 : Nat) (x1 : Nat) (x2 : Int32) (M : Cm) (H : Heap) (locs : List Loc) (ls : Array Slot), lC_X4_reset_2 N K k26 n x0 x1 x2 M = some o → RC x K M H → va_S (AC K) s.heap H locs → lv_has ls 3 [(0, .ref x0), (1, .ref x1), (2, .int x2)] → W p l e R s m args below meth c H locs 0 0 (MQ below (CQV x K o) args s 0 0 (AC K)) (F0 m 2 ls []) := by
  obtain ⟨hx, hb, hml, hown, hts, hE, hB, hr, hlk⟩ := id CX
  have hL : KLe K K := KLe.rf K
  have hcs : 0 ≤ R.cells ∧ 0 ≤ R.slots := ⟨Nat.zero_le _, Nat.zero_le _⟩
  intro n
  induction n with
  | zero => intro x0 x1 x2 M H locs ls hf; cases hf
  | succ n ih =>
    intro x0 x1 x2 M H locs ls hf hR hS hl
    rw [lC_X4_reset_2] at hf
    refine lv_iload_n hx hb dX4_reset_2 rfl (lv_at hl 2 rfl) ?_
    refine lv_bipush (v := 24) hx hb dX4_reset_3 (by decide) ?_
    refine lv_icmp_ge (tgt := 26) hx hb dX4_reset_5 (by decide) (fun hc => ?_) (fun hc => ?_)
    · rw [if_pos hc] at hf
      exact hk26 _ _ _ _ _ _ hf hR hS (lv_sub hl [0, 1] rfl)
    · rw [if_neg hc] at hf
      refine lv_aload_n hx hb dX4_reset_8 rfl (lv_at hl 0 rfl) ?_
      refine lv_iload_n hx hb dX4_reset_9 rfl (lv_at hl 2 rfl) ?_
      obtain ⟨hk_x0_5, hf⟩ := gd_some hf
      obtain ⟨o10, ho10, hf⟩ := bnd_some hf
      refine cr_callVv kc_4 CX hR hL hS (As := [.int x2]) (rest := []) hk_x0_5 (MC_X4_renew l x N K x0 x2 M o10 ho10) cv_X4_49 ⟨by omega, by omega⟩ rfl rfl (Nat.le_of_ble_eq_true rfl) hl.1 dX4_reset_10 hcs (fun H locs hR hS => ?_)
      refine lv_aload_n hx hb dX4_reset_13 rfl (lv_at hl 0 rfl) ?_
      refine cr_getR kc_4 CX hR fa_X4_15 rfl hk_x0_5 dX4_reset_14 ?_
      refine lv_iload_n hx hb dX4_reset_17 rfl (lv_at hl 2 rfl) ?_
      refine lv_iconst (v := 0) hx hb dX4_reset_18 (by decide) ?_
      obtain ⟨a1, ha1, hf⟩ := nn_some hf
      refine rf_2 ha1 ?_
      obtain ⟨hk_a1_22, hf⟩ := gd_some hf
      obtain ⟨hi, hf⟩ := ck_some hf
      refine cr_iast CX hR hL hS hk_a1_22 hi dX4_reset_19 (fun H locs hR hS => ?_)
      refine lv_iinc (v := x2 + 1) (lv' := [(2, .int (x2 + 1)), (0, .ref x0), (1, .ref x1)]) hx hb dX4_reset_20 hl (k := 2) rfl rfl (by decide) rfl (fun ls hl => ?_)
      refine lv_goto (tgt := 2) hx hb dX4_reset_23 (by decide) ?_
      exact ih _ _ _ _ _ _ _ hf hR hS (lv_sub hl [1, 2, 0] rfl)
def lC_X4_reset_28 (N : Nat) (K : Ka) (k66 : Nat → Cm → Option (Cm)) : Nat → Nat → Nat → Int32 → Cm → Option (Cm)
  | 0, _, _, _, _ => none
  | n + 1, x0, x1, x2, M => gd (kd K x1 == 6) (if (cI M x1 10) ≤ x2 then (k66 x0 M) else (gd (kd K x0 == 5) (nn (cR M x1 1) fun a1 => gd (kd K a1 == 22) (ck x2 (le K a1) (nn (cR M x0 8) fun a2 => gd (kd K a2 == 22) (ck x2 (le K a2) (nn (cR (wI M a2 (x2 : Int32).toNatClampNeg (cI M a1 (x2 : Int32).toNatClampNeg)) x1 1) fun a3 => gd (kd K a3 == 22) (ck x2 (le K a3) (nn (cR (wI M a2 (x2 : Int32).toNatClampNeg (cI M a1 (x2 : Int32).toNatClampNeg)) x0 9) fun a4 => gd (kd K a4 == 22) (ck x2 (le K a4) (lC_X4_reset_28 N K k66 n x0 x1 (x2 + 1) (wI (wI M a2 (x2 : Int32).toNatClampNeg (cI M a1 (x2 : Int32).toNatClampNeg)) a4 (x2 : Int32).toNatClampNeg (cI (wI M a2 (x2 : Int32).toNatClampNeg (cI M a1 (x2 : Int32).toNatClampNeg)) a3 (x2 : Int32).toNatClampNeg)))))))))))))
set_option maxRecDepth 100000 in
set_option maxHeartbeats 4000000 in
theorem wlC_X4_reset_28 {p : Program} {l : Launch} {e : Env} {R : Room} {s : State} {m : MethodId} {args : Array Value} {below : List Frame} {meth : Method} {c : Code} {x : Xc} {o : Cm} {N : Nat} {K : Ka} {k66 : Nat → Cm → Option (Cm)} (CX : CC p s m args meth c x K RX4 cX4_reset 3 none) (hRm : 3 ≤ R.frames ∧ 67 ≤ R.locals) (hk66 : ∀ (x0 : Nat) (M : Cm) (H : Heap) (locs : List Loc) (ls : Array Slot), k66 x0 M = some o → RC x K M H → va_S (AC K) s.heap H locs → lv_has ls 3 [(0, .ref x0)] → W p l e R s m args below meth c H locs 0 0 (MQ below (CQV x K o) args s 0 0 (AC K)) (F0 m 66 ls [])) : ∀ (n : Nat) (x0 : Nat) (x1 : Nat) (x2 : Int32) (M : Cm) (H : Heap) (locs : List Loc) (ls : Array Slot), lC_X4_reset_28 N K k66 n x0 x1 x2 M = some o → RC x K M H → va_S (AC K) s.heap H locs → lv_has ls 3 [(0, .ref x0), (1, .ref x1), (2, .int x2)] → W p l e R s m args below meth c H locs 0 0 (MQ below (CQV x K o) args s 0 0 (AC K)) (F0 m 28 ls []) := by
  obtain ⟨hx, hb, hml, hown, hts, hE, hB, hr, hlk⟩ := id CX
  have hL : KLe K K := KLe.rf K
  have hcs : 0 ≤ R.cells ∧ 0 ≤ R.slots := ⟨Nat.zero_le _, Nat.zero_le _⟩
  intro n
  induction n with
  | zero => intro x0 x1 x2 M H locs ls hf; cases hf
  | succ n ih =>
    intro x0 x1 x2 M H locs ls hf hR hS hl
    rw [lC_X4_reset_28] at hf
    refine lv_iload_n hx hb dX4_reset_28 rfl (lv_at hl 2 rfl) ?_
    refine lv_aload_n hx hb dX4_reset_29 rfl (lv_at hl 1 rfl) ?_
    obtain ⟨hk_x1_6, hf⟩ := gd_some hf
    refine cr_getI kc_5 CX hR fa_X4_53 rfl hk_x1_6 dX4_reset_30 ?_
    refine lv_icmp_ge (tgt := 66) hx hb dX4_reset_33 (by decide) (fun hc => ?_) (fun hc => ?_)
    · rw [if_pos hc] at hf
      exact hk66 _ _ _ _ _ hf hR hS (lv_sub hl [0] rfl)
    · rw [if_neg hc] at hf
      refine lv_aload_n hx hb dX4_reset_36 rfl (lv_at hl 0 rfl) ?_
      obtain ⟨hk_x0_5, hf⟩ := gd_some hf
      refine cr_getR kc_4 CX hR fa_X4_36 rfl hk_x0_5 dX4_reset_37 ?_
      refine lv_iload_n hx hb dX4_reset_40 rfl (lv_at hl 2 rfl) ?_
      refine lv_aload_n hx hb dX4_reset_41 rfl (lv_at hl 1 rfl) ?_
      refine cr_getR kc_5 CX hR fa_X4_58 rfl hk_x1_6 dX4_reset_42 ?_
      refine lv_iload_n hx hb dX4_reset_45 rfl (lv_at hl 2 rfl) ?_
      obtain ⟨a1, ha1, hf⟩ := nn_some hf
      refine rf_1 ha1 ?_
      obtain ⟨hk_a1_22, hf⟩ := gd_some hf
      obtain ⟨hi, hf⟩ := ck_some hf
      refine cr_iald CX hR hk_a1_22 hi dX4_reset_46 ?_
      obtain ⟨a2, ha2, hf⟩ := nn_some hf
      refine rf_2 ha2 ?_
      obtain ⟨hk_a2_22, hf⟩ := gd_some hf
      obtain ⟨hi, hf⟩ := ck_some hf
      refine cr_iast CX hR hL hS hk_a2_22 hi dX4_reset_47 (fun H locs hR hS => ?_)
      refine lv_aload_n hx hb dX4_reset_48 rfl (lv_at hl 0 rfl) ?_
      refine cr_getR kc_4 CX hR fa_X4_39 rfl hk_x0_5 dX4_reset_49 ?_
      refine lv_iload_n hx hb dX4_reset_52 rfl (lv_at hl 2 rfl) ?_
      refine lv_aload_n hx hb dX4_reset_53 rfl (lv_at hl 1 rfl) ?_
      refine cr_getR kc_5 CX hR fa_X4_58 rfl hk_x1_6 dX4_reset_54 ?_
      refine lv_iload_n hx hb dX4_reset_57 rfl (lv_at hl 2 rfl) ?_
      obtain ⟨a3, ha3, hf⟩ := nn_some hf
      refine rf_1 ha3 ?_
      obtain ⟨hk_a3_22, hf⟩ := gd_some hf
      obtain ⟨hi, hf⟩ := ck_some hf
      refine cr_iald CX hR hk_a3_22 hi dX4_reset_58 ?_
      obtain ⟨a4, ha4, hf⟩ := nn_some hf
      refine rf_2 ha4 ?_
      obtain ⟨hk_a4_22, hf⟩ := gd_some hf
      obtain ⟨hi, hf⟩ := ck_some hf
      refine cr_iast CX hR hL hS hk_a4_22 hi dX4_reset_59 (fun H locs hR hS => ?_)
      refine lv_iinc (v := x2 + 1) (lv' := [(2, .int (x2 + 1)), (0, .ref x0), (1, .ref x1)]) hx hb dX4_reset_60 hl (k := 2) rfl rfl (by decide) rfl (fun ls hl => ?_)
      refine lv_goto (tgt := 28) hx hb dX4_reset_63 (by decide) ?_
      exact ih _ _ _ _ _ _ _ hf hR hS (lv_sub hl [1, 2, 0] rfl)
def bC_X4_reset_66 (N : Nat) (K : Ka) (x0 : Nat) (M : Cm) : Option (Cm) := gd (kd K x0 == 5) ((fC_X4_dropPlans N K x0 (wI M x0 11 0)).bind fun o72 => some o72)
set_option maxRecDepth 100000 in
set_option maxHeartbeats 4000000 in
theorem wbC_X4_reset_66 {p : Program} {l : Launch} {e : Env} {R : Room} {s : State} {m : MethodId} {args : Array Value} {below : List Frame} {meth : Method} {c : Code} {x : Xc} {o : Cm} {N : Nat} {K : Ka} (CX : CC p s m args meth c x K RX4 cX4_reset 3 none) (hRm : 3 ≤ R.frames ∧ 67 ≤ R.locals) (x0 : Nat) (M : Cm) (H : Heap) (locs : List Loc) (ls : Array Slot) (hf : bC_X4_reset_66 N K x0 M = some o) (hR : RC x K M H) (hS : va_S (AC K) s.heap H locs) (hl : lv_has ls 3 [(0, .ref x0)]) : W p l e R s m args below meth c H locs 0 0 (MQ below (CQV x K o) args s 0 0 (AC K)) (F0 m 66 ls []) := by
  obtain ⟨hx, hb, hml, hown, hts, hE, hB, hr, hlk⟩ := id CX
  have hL : KLe K K := KLe.rf K
  have hcs : 0 ≤ R.cells ∧ 0 ≤ R.slots := ⟨Nat.zero_le _, Nat.zero_le _⟩
  unfold bC_X4_reset_66 at hf
  refine lv_aload_n hx hb dX4_reset_66 rfl (lv_at hl 0 rfl) ?_
  refine lv_iconst (v := 0) hx hb dX4_reset_67 (by decide) ?_
  obtain ⟨hk_x0_5, hf⟩ := gd_some hf
  refine cr_putI kc_4 CX hR hL hS fa_X4_46 ⟨rfl, rfl, rfl⟩ hk_x0_5 dX4_reset_68 (fun H locs hR hS => ?_)
  refine lv_aload_n hx hb dX4_reset_71 rfl (lv_at hl 0 rfl) ?_
  obtain ⟨o72, ho72, hf⟩ := bnd_some hf
  refine cr_callVv kc_4 CX hR hL hS (As := []) (rest := []) hk_x0_5 (MC_X4_dropPlans l x N K x0 (wI M x0 11 0) o72 ho72) cv_X4_61 ⟨by omega, by omega⟩ rfl rfl (Nat.le_of_ble_eq_true rfl) hl.1 dX4_reset_72 hcs (fun H locs hR hS => ?_)
  exact cr_vret CX hR hS hf dX4_reset_75
def bC_X4_reset_26 (N : Nat) (K : Ka) (x0 : Nat) (x1 : Nat) (M : Cm) : Option (Cm) := (lC_X4_reset_28 N K (bC_X4_reset_66 N K) N) x0 x1 0 M
set_option maxRecDepth 100000 in
set_option maxHeartbeats 4000000 in
theorem wbC_X4_reset_26 {p : Program} {l : Launch} {e : Env} {R : Room} {s : State} {m : MethodId} {args : Array Value} {below : List Frame} {meth : Method} {c : Code} {x : Xc} {o : Cm} {N : Nat} {K : Ka} (CX : CC p s m args meth c x K RX4 cX4_reset 3 none) (hRm : 3 ≤ R.frames ∧ 67 ≤ R.locals) (x0 : Nat) (x1 : Nat) (M : Cm) (H : Heap) (locs : List Loc) (ls : Array Slot) (hf : bC_X4_reset_26 N K x0 x1 M = some o) (hR : RC x K M H) (hS : va_S (AC K) s.heap H locs) (hl : lv_has ls 3 [(0, .ref x0), (1, .ref x1)]) : W p l e R s m args below meth c H locs 0 0 (MQ below (CQV x K o) args s 0 0 (AC K)) (F0 m 26 ls []) := by
  obtain ⟨hx, hb, hml, hown, hts, hE, hB, hr, hlk⟩ := id CX
  have hL : KLe K K := KLe.rf K
  have hcs : 0 ≤ R.cells ∧ 0 ≤ R.slots := ⟨Nat.zero_le _, Nat.zero_le _⟩
  unfold bC_X4_reset_26 at hf
  refine lv_iconst (v := 0) hx hb dX4_reset_26 (by decide) ?_
  refine lv_istore_n (lv' := [(2, .int 0), (0, .ref x0), (1, .ref x1)]) hx hb dX4_reset_27 rfl hl (by decide) rfl (fun ls hl => ?_)
  exact (wlC_X4_reset_28 CX hRm (wbC_X4_reset_66 CX hRm) N) _ _ _ _ _ _ _ hf hR hS (lv_sub hl [1, 2, 0] rfl)
def fC_X4_reset (N : Nat) (K : Ka) (x0 : Nat) (x1 : Nat) (M : Cm) : Option (Cm) := (lC_X4_reset_2 N K (bC_X4_reset_26 N K) N) x0 x1 0 M
set_option maxRecDepth 100000 in
set_option maxHeartbeats 4000000 in
theorem wfC_X4_reset {p : Program} {l : Launch} {e : Env} {R : Room} {s : State} {m : MethodId} {args : Array Value} {below : List Frame} {meth : Method} {c : Code} {x : Xc} {o : Cm} {N : Nat} {K : Ka} (CX : CC p s m args meth c x K RX4 cX4_reset 3 none) (hRm : 3 ≤ R.frames ∧ 67 ≤ R.locals) (x0 : Nat) (x1 : Nat) (M : Cm) (H : Heap) (locs : List Loc) (ls : Array Slot) (hf : fC_X4_reset N K x0 x1 M = some o) (hR : RC x K M H) (hS : va_S (AC K) s.heap H locs) (hl : lv_has ls 3 [(0, .ref x0), (1, .ref x1)]) : W p l e R s m args below meth c H locs 0 0 (MQ below (CQV x K o) args s 0 0 (AC K)) (F0 m 0 ls []) := by
  obtain ⟨hx, hb, hml, hown, hts, hE, hB, hr, hlk⟩ := id CX
  have hL : KLe K K := KLe.rf K
  have hcs : 0 ≤ R.cells ∧ 0 ≤ R.slots := ⟨Nat.zero_le _, Nat.zero_le _⟩
  unfold fC_X4_reset at hf
  refine lv_iconst (v := 0) hx hb dX4_reset_0 (by decide) ?_
  refine lv_istore_n (lv' := [(2, .int 0), (0, .ref x0), (1, .ref x1)]) hx hb dX4_reset_1 rfl hl (by decide) rfl (fun ls hl => ?_)
  exact (wlC_X4_reset_2 CX hRm (wbC_X4_reset_26 CX hRm) N) _ _ _ _ _ _ _ hf hR hS (lv_sub hl [1, 2, 0] rfl)
theorem MC_X4_reset (l : Launch) (x : Xc) (N : Nat) (K : Ka) (x0 : Nat) (x1 : Nat) (M : Cm) (o : Cm) (hf : fC_X4_reset N K x0 x1 M = some o) : CtV l x yX4_reset cX4_reset 3 3 67 [.ref x0, .ref x1] K M o :=
  cr_metV RX4 (by decide) rfl (Nat.le_of_ble_eq_true rfl) (fun p e s m args below meth c ls CX hR hl => wfC_X4_reset CX ⟨Nat.le_refl _, Nat.le_refl _⟩ x0 x1 M s.heap [] ls hf hR va_S.rf hl)
def fC_X4_copy (N : Nat) (K : Ka) (x0 : Nat) (x1 : Nat) (M : Cm) : Option (Cm) := gd (kd K x1 == 5) (gd (kd K x0 == 5) (nn (cR M x0 0) fun a1 => gd (kd K a1 == 22) (nn (cR M x0 0) fun a2 => nn (cR M x1 0) fun a3 => gd (kd K a3 == 22) (gd (kd K a2 == 22) (gd (cpok 0 0 (nI (le K a1)) (le K a3) (le K a2)) (nn (cR (wCp M a3 a2 (0 : Int32).toNatClampNeg (0 : Int32).toNatClampNeg (nI (le K a1) : Int32).toNatClampNeg) x0 2) fun a4 => gd (kd K a4 == 22) (nn (cR (wCp M a3 a2 (0 : Int32).toNatClampNeg (0 : Int32).toNatClampNeg (nI (le K a1) : Int32).toNatClampNeg) x0 2) fun a5 => nn (cR (wCp M a3 a2 (0 : Int32).toNatClampNeg (0 : Int32).toNatClampNeg (nI (le K a1) : Int32).toNatClampNeg) x1 2) fun a6 => gd (kd K a6 == 22) (gd (kd K a5 == 22) (gd (cpok 0 0 (nI (le K a4)) (le K a6) (le K a5)) (nn (cR (wCp (wCp M a3 a2 (0 : Int32).toNatClampNeg (0 : Int32).toNatClampNeg (nI (le K a1) : Int32).toNatClampNeg) a6 a5 (0 : Int32).toNatClampNeg (0 : Int32).toNatClampNeg (nI (le K a4) : Int32).toNatClampNeg) x0 3) fun a7 => gd (kd K a7 == 22) (nn (cR (wCp (wCp M a3 a2 (0 : Int32).toNatClampNeg (0 : Int32).toNatClampNeg (nI (le K a1) : Int32).toNatClampNeg) a6 a5 (0 : Int32).toNatClampNeg (0 : Int32).toNatClampNeg (nI (le K a4) : Int32).toNatClampNeg) x0 3) fun a8 => nn (cR (wCp (wCp M a3 a2 (0 : Int32).toNatClampNeg (0 : Int32).toNatClampNeg (nI (le K a1) : Int32).toNatClampNeg) a6 a5 (0 : Int32).toNatClampNeg (0 : Int32).toNatClampNeg (nI (le K a4) : Int32).toNatClampNeg) x1 3) fun a9 => gd (kd K a9 == 22) (gd (kd K a8 == 22) (gd (cpok 0 0 (nI (le K a7)) (le K a9) (le K a8)) (nn (cR (wCp (wCp (wCp M a3 a2 (0 : Int32).toNatClampNeg (0 : Int32).toNatClampNeg (nI (le K a1) : Int32).toNatClampNeg) a6 a5 (0 : Int32).toNatClampNeg (0 : Int32).toNatClampNeg (nI (le K a4) : Int32).toNatClampNeg) a9 a8 (0 : Int32).toNatClampNeg (0 : Int32).toNatClampNeg (nI (le K a7) : Int32).toNatClampNeg) x0 4) fun a10 => gd (kd K a10 == 22) (nn (cR (wCp (wCp (wCp M a3 a2 (0 : Int32).toNatClampNeg (0 : Int32).toNatClampNeg (nI (le K a1) : Int32).toNatClampNeg) a6 a5 (0 : Int32).toNatClampNeg (0 : Int32).toNatClampNeg (nI (le K a4) : Int32).toNatClampNeg) a9 a8 (0 : Int32).toNatClampNeg (0 : Int32).toNatClampNeg (nI (le K a7) : Int32).toNatClampNeg) x0 4) fun a11 => nn (cR (wCp (wCp (wCp M a3 a2 (0 : Int32).toNatClampNeg (0 : Int32).toNatClampNeg (nI (le K a1) : Int32).toNatClampNeg) a6 a5 (0 : Int32).toNatClampNeg (0 : Int32).toNatClampNeg (nI (le K a4) : Int32).toNatClampNeg) a9 a8 (0 : Int32).toNatClampNeg (0 : Int32).toNatClampNeg (nI (le K a7) : Int32).toNatClampNeg) x1 4) fun a12 => gd (kd K a12 == 22) (gd (kd K a11 == 22) (gd (cpok 0 0 (nI (le K a10)) (le K a12) (le K a11)) (nn (cR (wCp (wCp (wCp (wCp M a3 a2 (0 : Int32).toNatClampNeg (0 : Int32).toNatClampNeg (nI (le K a1) : Int32).toNatClampNeg) a6 a5 (0 : Int32).toNatClampNeg (0 : Int32).toNatClampNeg (nI (le K a4) : Int32).toNatClampNeg) a9 a8 (0 : Int32).toNatClampNeg (0 : Int32).toNatClampNeg (nI (le K a7) : Int32).toNatClampNeg) a12 a11 (0 : Int32).toNatClampNeg (0 : Int32).toNatClampNeg (nI (le K a10) : Int32).toNatClampNeg) x0 6) fun a13 => gd (kd K a13 == 22) (nn (cR (wCp (wCp (wCp (wCp M a3 a2 (0 : Int32).toNatClampNeg (0 : Int32).toNatClampNeg (nI (le K a1) : Int32).toNatClampNeg) a6 a5 (0 : Int32).toNatClampNeg (0 : Int32).toNatClampNeg (nI (le K a4) : Int32).toNatClampNeg) a9 a8 (0 : Int32).toNatClampNeg (0 : Int32).toNatClampNeg (nI (le K a7) : Int32).toNatClampNeg) a12 a11 (0 : Int32).toNatClampNeg (0 : Int32).toNatClampNeg (nI (le K a10) : Int32).toNatClampNeg) x0 6) fun a14 => nn (cR (wCp (wCp (wCp (wCp M a3 a2 (0 : Int32).toNatClampNeg (0 : Int32).toNatClampNeg (nI (le K a1) : Int32).toNatClampNeg) a6 a5 (0 : Int32).toNatClampNeg (0 : Int32).toNatClampNeg (nI (le K a4) : Int32).toNatClampNeg) a9 a8 (0 : Int32).toNatClampNeg (0 : Int32).toNatClampNeg (nI (le K a7) : Int32).toNatClampNeg) a12 a11 (0 : Int32).toNatClampNeg (0 : Int32).toNatClampNeg (nI (le K a10) : Int32).toNatClampNeg) x1 6) fun a15 => gd (kd K a15 == 22) (gd (kd K a14 == 22) (gd (cpok 0 0 (nI (le K a13)) (le K a15) (le K a14)) (nn (cR (wCp (wCp (wCp (wCp (wCp M a3 a2 (0 : Int32).toNatClampNeg (0 : Int32).toNatClampNeg (nI (le K a1) : Int32).toNatClampNeg) a6 a5 (0 : Int32).toNatClampNeg (0 : Int32).toNatClampNeg (nI (le K a4) : Int32).toNatClampNeg) a9 a8 (0 : Int32).toNatClampNeg (0 : Int32).toNatClampNeg (nI (le K a7) : Int32).toNatClampNeg) a12 a11 (0 : Int32).toNatClampNeg (0 : Int32).toNatClampNeg (nI (le K a10) : Int32).toNatClampNeg) a15 a14 (0 : Int32).toNatClampNeg (0 : Int32).toNatClampNeg (nI (le K a13) : Int32).toNatClampNeg) x0 9) fun a16 => gd (kd K a16 == 22) (nn (cR (wCp (wCp (wCp (wCp (wCp M a3 a2 (0 : Int32).toNatClampNeg (0 : Int32).toNatClampNeg (nI (le K a1) : Int32).toNatClampNeg) a6 a5 (0 : Int32).toNatClampNeg (0 : Int32).toNatClampNeg (nI (le K a4) : Int32).toNatClampNeg) a9 a8 (0 : Int32).toNatClampNeg (0 : Int32).toNatClampNeg (nI (le K a7) : Int32).toNatClampNeg) a12 a11 (0 : Int32).toNatClampNeg (0 : Int32).toNatClampNeg (nI (le K a10) : Int32).toNatClampNeg) a15 a14 (0 : Int32).toNatClampNeg (0 : Int32).toNatClampNeg (nI (le K a13) : Int32).toNatClampNeg) x0 9) fun a17 => nn (cR (wCp (wCp (wCp (wCp (wCp M a3 a2 (0 : Int32).toNatClampNeg (0 : Int32).toNatClampNeg (nI (le K a1) : Int32).toNatClampNeg) a6 a5 (0 : Int32).toNatClampNeg (0 : Int32).toNatClampNeg (nI (le K a4) : Int32).toNatClampNeg) a9 a8 (0 : Int32).toNatClampNeg (0 : Int32).toNatClampNeg (nI (le K a7) : Int32).toNatClampNeg) a12 a11 (0 : Int32).toNatClampNeg (0 : Int32).toNatClampNeg (nI (le K a10) : Int32).toNatClampNeg) a15 a14 (0 : Int32).toNatClampNeg (0 : Int32).toNatClampNeg (nI (le K a13) : Int32).toNatClampNeg) x1 9) fun a18 => gd (kd K a18 == 22) (gd (kd K a17 == 22) (gd (cpok 0 0 (nI (le K a16)) (le K a18) (le K a17)) (some (wCp (wCp (wCp (wCp (wCp (wCp M a3 a2 (0 : Int32).toNatClampNeg (0 : Int32).toNatClampNeg (nI (le K a1) : Int32).toNatClampNeg) a6 a5 (0 : Int32).toNatClampNeg (0 : Int32).toNatClampNeg (nI (le K a4) : Int32).toNatClampNeg) a9 a8 (0 : Int32).toNatClampNeg (0 : Int32).toNatClampNeg (nI (le K a7) : Int32).toNatClampNeg) a12 a11 (0 : Int32).toNatClampNeg (0 : Int32).toNatClampNeg (nI (le K a10) : Int32).toNatClampNeg) a15 a14 (0 : Int32).toNatClampNeg (0 : Int32).toNatClampNeg (nI (le K a13) : Int32).toNatClampNeg) a18 a17 (0 : Int32).toNatClampNeg (0 : Int32).toNatClampNeg (nI (le K a16) : Int32).toNatClampNeg)))))))))))))))))))))))))))
set_option maxRecDepth 100000 in
set_option maxHeartbeats 4000000 in
theorem wfC_X4_copy {p : Program} {l : Launch} {e : Env} {R : Room} {s : State} {m : MethodId} {args : Array Value} {below : List Frame} {meth : Method} {c : Code} {x : Xc} {o : Cm} {N : Nat} {K : Ka} (CX : CC p s m args meth c x K RX4 cX4_copy 2 none) (hRm : 1 ≤ R.frames ∧ 40 ≤ R.locals) (x0 : Nat) (x1 : Nat) (M : Cm) (H : Heap) (locs : List Loc) (ls : Array Slot) (hf : fC_X4_copy N K x0 x1 M = some o) (hR : RC x K M H) (hS : va_S (AC K) s.heap H locs) (hl : lv_has ls 2 [(0, .ref x0), (1, .ref x1)]) : W p l e R s m args below meth c H locs 0 0 (MQ below (CQV x K o) args s 0 0 (AC K)) (F0 m 0 ls []) := by
  obtain ⟨hx, hb, hml, hown, hts, hE, hB, hr, hlk⟩ := id CX
  have hL : KLe K K := KLe.rf K
  have hcs : 0 ≤ R.cells ∧ 0 ≤ R.slots := ⟨Nat.zero_le _, Nat.zero_le _⟩
  unfold fC_X4_copy at hf
  refine lv_aload_n hx hb dX4_copy_0 rfl (lv_at hl 1 rfl) ?_
  obtain ⟨hk_x1_5, hf⟩ := gd_some hf
  refine cr_getR kc_4 CX hR fa_X4_9 rfl hk_x1_5 dX4_copy_1 ?_
  refine lv_iconst (v := 0) hx hb dX4_copy_4 (by decide) ?_
  refine lv_aload_n hx hb dX4_copy_5 rfl (lv_at hl 0 rfl) ?_
  obtain ⟨hk_x0_5, hf⟩ := gd_some hf
  refine cr_getR kc_4 CX hR fa_X4_9 rfl hk_x0_5 dX4_copy_6 ?_
  refine lv_iconst (v := 0) hx hb dX4_copy_9 (by decide) ?_
  refine lv_aload_n hx hb dX4_copy_10 rfl (lv_at hl 0 rfl) ?_
  refine cr_getR kc_4 CX hR fa_X4_9 rfl hk_x0_5 dX4_copy_11 ?_
  obtain ⟨a1, ha1, hf⟩ := nn_some hf
  refine rf_0 ha1 ?_
  obtain ⟨hk_a1_22, hf⟩ := gd_some hf
  refine cr_ilen CX hR hk_a1_22 dX4_copy_14 ?_
  obtain ⟨a2, ha2, hf⟩ := nn_some hf
  refine rf_2 ha2 ?_
  obtain ⟨a3, ha3, hf⟩ := nn_some hf
  refine rf_4 ha3 ?_
  obtain ⟨hk_a3_22, hf⟩ := gd_some hf
  obtain ⟨hk_a2_22, hf⟩ := gd_some hf
  obtain ⟨hq, hf⟩ := gd_some hf
  refine cr_copyi CX hR hL hS hk_a3_22 hk_a2_22 hq wn_X4_70 hl.1 (by omega) (by omega) (Nat.le_of_ble_eq_true rfl) dX4_copy_15 (fun H locs hR hS => ?_)
  refine lv_aload_n hx hb dX4_copy_18 rfl (lv_at hl 1 rfl) ?_
  refine cr_getR kc_4 CX hR fa_X4_18 rfl hk_x1_5 dX4_copy_19 ?_
  refine lv_iconst (v := 0) hx hb dX4_copy_22 (by decide) ?_
  refine lv_aload_n hx hb dX4_copy_23 rfl (lv_at hl 0 rfl) ?_
  refine cr_getR kc_4 CX hR fa_X4_18 rfl hk_x0_5 dX4_copy_24 ?_
  refine lv_iconst (v := 0) hx hb dX4_copy_27 (by decide) ?_
  refine lv_aload_n hx hb dX4_copy_28 rfl (lv_at hl 0 rfl) ?_
  refine cr_getR kc_4 CX hR fa_X4_18 rfl hk_x0_5 dX4_copy_29 ?_
  obtain ⟨a4, ha4, hf⟩ := nn_some hf
  refine rf_0 ha4 ?_
  obtain ⟨hk_a4_22, hf⟩ := gd_some hf
  refine cr_ilen CX hR hk_a4_22 dX4_copy_32 ?_
  obtain ⟨a5, ha5, hf⟩ := nn_some hf
  refine rf_2 ha5 ?_
  obtain ⟨a6, ha6, hf⟩ := nn_some hf
  refine rf_4 ha6 ?_
  obtain ⟨hk_a6_22, hf⟩ := gd_some hf
  obtain ⟨hk_a5_22, hf⟩ := gd_some hf
  obtain ⟨hq, hf⟩ := gd_some hf
  refine cr_copyi CX hR hL hS hk_a6_22 hk_a5_22 hq wn_X4_70 hl.1 (by omega) (by omega) (Nat.le_of_ble_eq_true rfl) dX4_copy_33 (fun H locs hR hS => ?_)
  refine lv_aload_n hx hb dX4_copy_36 rfl (lv_at hl 1 rfl) ?_
  refine cr_getR kc_4 CX hR fa_X4_21 rfl hk_x1_5 dX4_copy_37 ?_
  refine lv_iconst (v := 0) hx hb dX4_copy_40 (by decide) ?_
  refine lv_aload_n hx hb dX4_copy_41 rfl (lv_at hl 0 rfl) ?_
  refine cr_getR kc_4 CX hR fa_X4_21 rfl hk_x0_5 dX4_copy_42 ?_
  refine lv_iconst (v := 0) hx hb dX4_copy_45 (by decide) ?_
  refine lv_aload_n hx hb dX4_copy_46 rfl (lv_at hl 0 rfl) ?_
  refine cr_getR kc_4 CX hR fa_X4_21 rfl hk_x0_5 dX4_copy_47 ?_
  obtain ⟨a7, ha7, hf⟩ := nn_some hf
  refine rf_0 ha7 ?_
  obtain ⟨hk_a7_22, hf⟩ := gd_some hf
  refine cr_ilen CX hR hk_a7_22 dX4_copy_50 ?_
  obtain ⟨a8, ha8, hf⟩ := nn_some hf
  refine rf_2 ha8 ?_
  obtain ⟨a9, ha9, hf⟩ := nn_some hf
  refine rf_4 ha9 ?_
  obtain ⟨hk_a9_22, hf⟩ := gd_some hf
  obtain ⟨hk_a8_22, hf⟩ := gd_some hf
  obtain ⟨hq, hf⟩ := gd_some hf
  refine cr_copyi CX hR hL hS hk_a9_22 hk_a8_22 hq wn_X4_70 hl.1 (by omega) (by omega) (Nat.le_of_ble_eq_true rfl) dX4_copy_51 (fun H locs hR hS => ?_)
  refine lv_aload_n hx hb dX4_copy_54 rfl (lv_at hl 1 rfl) ?_
  refine cr_getR kc_4 CX hR fa_X4_24 rfl hk_x1_5 dX4_copy_55 ?_
  refine lv_iconst (v := 0) hx hb dX4_copy_58 (by decide) ?_
  refine lv_aload_n hx hb dX4_copy_59 rfl (lv_at hl 0 rfl) ?_
  refine cr_getR kc_4 CX hR fa_X4_24 rfl hk_x0_5 dX4_copy_60 ?_
  refine lv_iconst (v := 0) hx hb dX4_copy_63 (by decide) ?_
  refine lv_aload_n hx hb dX4_copy_64 rfl (lv_at hl 0 rfl) ?_
  refine cr_getR kc_4 CX hR fa_X4_24 rfl hk_x0_5 dX4_copy_65 ?_
  obtain ⟨a10, ha10, hf⟩ := nn_some hf
  refine rf_0 ha10 ?_
  obtain ⟨hk_a10_22, hf⟩ := gd_some hf
  refine cr_ilen CX hR hk_a10_22 dX4_copy_68 ?_
  obtain ⟨a11, ha11, hf⟩ := nn_some hf
  refine rf_2 ha11 ?_
  obtain ⟨a12, ha12, hf⟩ := nn_some hf
  refine rf_4 ha12 ?_
  obtain ⟨hk_a12_22, hf⟩ := gd_some hf
  obtain ⟨hk_a11_22, hf⟩ := gd_some hf
  obtain ⟨hq, hf⟩ := gd_some hf
  refine cr_copyi CX hR hL hS hk_a12_22 hk_a11_22 hq wn_X4_70 hl.1 (by omega) (by omega) (Nat.le_of_ble_eq_true rfl) dX4_copy_69 (fun H locs hR hS => ?_)
  refine lv_aload_n hx hb dX4_copy_72 rfl (lv_at hl 1 rfl) ?_
  refine cr_getR kc_4 CX hR fa_X4_30 rfl hk_x1_5 dX4_copy_73 ?_
  refine lv_iconst (v := 0) hx hb dX4_copy_76 (by decide) ?_
  refine lv_aload_n hx hb dX4_copy_77 rfl (lv_at hl 0 rfl) ?_
  refine cr_getR kc_4 CX hR fa_X4_30 rfl hk_x0_5 dX4_copy_78 ?_
  refine lv_iconst (v := 0) hx hb dX4_copy_81 (by decide) ?_
  refine lv_aload_n hx hb dX4_copy_82 rfl (lv_at hl 0 rfl) ?_
  refine cr_getR kc_4 CX hR fa_X4_30 rfl hk_x0_5 dX4_copy_83 ?_
  obtain ⟨a13, ha13, hf⟩ := nn_some hf
  refine rf_0 ha13 ?_
  obtain ⟨hk_a13_22, hf⟩ := gd_some hf
  refine cr_ilen CX hR hk_a13_22 dX4_copy_86 ?_
  obtain ⟨a14, ha14, hf⟩ := nn_some hf
  refine rf_2 ha14 ?_
  obtain ⟨a15, ha15, hf⟩ := nn_some hf
  refine rf_4 ha15 ?_
  obtain ⟨hk_a15_22, hf⟩ := gd_some hf
  obtain ⟨hk_a14_22, hf⟩ := gd_some hf
  obtain ⟨hq, hf⟩ := gd_some hf
  refine cr_copyi CX hR hL hS hk_a15_22 hk_a14_22 hq wn_X4_70 hl.1 (by omega) (by omega) (Nat.le_of_ble_eq_true rfl) dX4_copy_87 (fun H locs hR hS => ?_)
  refine lv_aload_n hx hb dX4_copy_90 rfl (lv_at hl 1 rfl) ?_
  refine cr_getR kc_4 CX hR fa_X4_39 rfl hk_x1_5 dX4_copy_91 ?_
  refine lv_iconst (v := 0) hx hb dX4_copy_94 (by decide) ?_
  refine lv_aload_n hx hb dX4_copy_95 rfl (lv_at hl 0 rfl) ?_
  refine cr_getR kc_4 CX hR fa_X4_39 rfl hk_x0_5 dX4_copy_96 ?_
  refine lv_iconst (v := 0) hx hb dX4_copy_99 (by decide) ?_
  refine lv_aload_n hx hb dX4_copy_100 rfl (lv_at hl 0 rfl) ?_
  refine cr_getR kc_4 CX hR fa_X4_39 rfl hk_x0_5 dX4_copy_101 ?_
  obtain ⟨a16, ha16, hf⟩ := nn_some hf
  refine rf_0 ha16 ?_
  obtain ⟨hk_a16_22, hf⟩ := gd_some hf
  refine cr_ilen CX hR hk_a16_22 dX4_copy_104 ?_
  obtain ⟨a17, ha17, hf⟩ := nn_some hf
  refine rf_2 ha17 ?_
  obtain ⟨a18, ha18, hf⟩ := nn_some hf
  refine rf_4 ha18 ?_
  obtain ⟨hk_a18_22, hf⟩ := gd_some hf
  obtain ⟨hk_a17_22, hf⟩ := gd_some hf
  obtain ⟨hq, hf⟩ := gd_some hf
  refine cr_copyi CX hR hL hS hk_a18_22 hk_a17_22 hq wn_X4_70 hl.1 (by omega) (by omega) (Nat.le_of_ble_eq_true rfl) dX4_copy_105 (fun H locs hR hS => ?_)
  exact cr_vret CX hR hS hf dX4_copy_108
theorem MC_X4_copy (l : Launch) (x : Xc) (N : Nat) (K : Ka) (x0 : Nat) (x1 : Nat) (M : Cm) (o : Cm) (hf : fC_X4_copy N K x0 x1 M = some o) : CtV l x yX4_copy cX4_copy 2 1 40 [.ref x0, .ref x1] K M o :=
  cr_metV RX4 (by decide) rfl (Nat.le_of_ble_eq_true rfl) (fun p e s m args below meth c ls CX hR hl => wfC_X4_copy CX ⟨Nat.le_refl _, Nat.le_refl _⟩ x0 x1 M s.heap [] ls hf hR va_S.rf hl)
def bC_X4_unitsAt_23 (N : Nat) (K : Ka) (r4 : Nat → Int32 → Int32 → Int32 → Cm → Option (Int32 × Cm)) (k29 : Nat → Int32 → Cm → Option (Int32 × Cm)) (x0 : Nat) (x1 : Int32) (x2 : Int32) (x3 : Int32) (M : Cm) : Option (Int32 × Cm) := r4 x0 x1 x2 (x3 + 1) M
set_option maxRecDepth 100000 in
set_option maxHeartbeats 4000000 in
theorem wbC_X4_unitsAt_23 {p : Program} {l : Launch} {e : Env} {R : Room} {s : State} {m : MethodId} {args : Array Value} {below : List Frame} {meth : Method} {c : Code} {x : Xc} {o : Int32 × Cm} {N : Nat} {K : Ka} {r4 : Nat → Int32 → Int32 → Int32 → Cm → Option (Int32 × Cm)} {k29 : Nat → Int32 → Cm → Option (Int32 × Cm)} (CX : CC p s m args meth c x K RX4 cX4_unitsAt 4 (some .int)) (hRm : 0 ≤ R.frames ∧ 0 ≤ R.locals) (hr4 : ∀ (x0 : Nat) (x1 : Int32) (x2 : Int32) (x3 : Int32) (M : Cm) (H : Heap) (locs : List Loc) (ls : Array Slot), r4 x0 x1 x2 x3 M = some o → RC x K M H → va_S (AC K) s.heap H locs → lv_has ls 4 [(0, .ref x0), (1, .int x1), (2, .int x2), (3, .int x3)] → W p l e R s m args below meth c H locs 0 0 (MQ below (CQI x K o) args s 0 0 (AC K)) (F0 m 4 ls [])) (hk29 : ∀ (x0 : Nat) (x2 : Int32) (M : Cm) (H : Heap) (locs : List Loc) (ls : Array Slot), k29 x0 x2 M = some o → RC x K M H → va_S (AC K) s.heap H locs → lv_has ls 4 [(0, .ref x0), (2, .int x2)] → W p l e R s m args below meth c H locs 0 0 (MQ below (CQI x K o) args s 0 0 (AC K)) (F0 m 29 ls [])) (x0 : Nat) (x1 : Int32) (x2 : Int32) (x3 : Int32) (M : Cm) (H : Heap) (locs : List Loc) (ls : Array Slot) (hf : bC_X4_unitsAt_23 N K r4 k29 x0 x1 x2 x3 M = some o) (hR : RC x K M H) (hS : va_S (AC K) s.heap H locs) (hl : lv_has ls 4 [(0, .ref x0), (1, .int x1), (2, .int x2), (3, .int x3)]) : W p l e R s m args below meth c H locs 0 0 (MQ below (CQI x K o) args s 0 0 (AC K)) (F0 m 23 ls []) := by
  obtain ⟨hx, hb, hml, hown, hts, hE, hB, hr, hlk⟩ := id CX
  have hL : KLe K K := KLe.rf K
  have hcs : 0 ≤ R.cells ∧ 0 ≤ R.slots := ⟨Nat.zero_le _, Nat.zero_le _⟩
  unfold bC_X4_unitsAt_23 at hf
  refine lv_iinc (v := x3 + 1) (lv' := [(3, .int (x3 + 1)), (0, .ref x0), (1, .int x1), (2, .int x2)]) hx hb dX4_unitsAt_23 hl (k := 3) rfl rfl (by decide) rfl (fun ls hl => ?_)
  refine lv_goto (tgt := 4) hx hb dX4_unitsAt_26 (by decide) ?_
  exact hr4 _ _ _ _ _ _ _ _ hf hR hS (lv_sub hl [1, 2, 3, 0] rfl)
def lC_X4_unitsAt_4 (N : Nat) (K : Ka) (k29 : Nat → Int32 → Cm → Option (Int32 × Cm)) : Nat → Nat → Int32 → Int32 → Int32 → Cm → Option (Int32 × Cm)
  | 0, _, _, _, _, _ => none
  | n + 1, x0, x1, x2, x3, M => if 24 ≤ x3 then (k29 x0 x2 M) else (gd (kd K x0 == 5) (nn (cR M x0 0) fun a1 => gd (kd K a1 == 22) (ck x3 (le K a1) (if (cI M a1 (x3 : Int32).toNatClampNeg) = x1 then ((bC_X4_unitsAt_23 N K (lC_X4_unitsAt_4 N K k29 n) k29) x0 x1 (x2 + 1) x3 M) else ((bC_X4_unitsAt_23 N K (lC_X4_unitsAt_4 N K k29 n) k29) x0 x1 x2 x3 M)))))
set_option maxRecDepth 100000 in
set_option maxHeartbeats 4000000 in
theorem wlC_X4_unitsAt_4 {p : Program} {l : Launch} {e : Env} {R : Room} {s : State} {m : MethodId} {args : Array Value} {below : List Frame} {meth : Method} {c : Code} {x : Xc} {o : Int32 × Cm} {N : Nat} {K : Ka} {k29 : Nat → Int32 → Cm → Option (Int32 × Cm)} (CX : CC p s m args meth c x K RX4 cX4_unitsAt 4 (some .int)) (hRm : 0 ≤ R.frames ∧ 0 ≤ R.locals) (hk29 : ∀ (x0 : Nat) (x2 : Int32) (M : Cm) (H : Heap) (locs : List Loc) (ls : Array Slot), k29 x0 x2 M = some o → RC x K M H → va_S (AC K) s.heap H locs → lv_has ls 4 [(0, .ref x0), (2, .int x2)] → W p l e R s m args below meth c H locs 0 0 (MQ below (CQI x K o) args s 0 0 (AC K)) (F0 m 29 ls [])) : ∀ (n : Nat) (x0 : Nat) (x1 : Int32) (x2 : Int32) (x3 : Int32) (M : Cm) (H : Heap) (locs : List Loc) (ls : Array Slot), lC_X4_unitsAt_4 N K k29 n x0 x1 x2 x3 M = some o → RC x K M H → va_S (AC K) s.heap H locs → lv_has ls 4 [(0, .ref x0), (1, .int x1), (2, .int x2), (3, .int x3)] → W p l e R s m args below meth c H locs 0 0 (MQ below (CQI x K o) args s 0 0 (AC K)) (F0 m 4 ls []) := by
  obtain ⟨hx, hb, hml, hown, hts, hE, hB, hr, hlk⟩ := id CX
  have hL : KLe K K := KLe.rf K
  have hcs : 0 ≤ R.cells ∧ 0 ≤ R.slots := ⟨Nat.zero_le _, Nat.zero_le _⟩
  intro n
  induction n with
  | zero => intro x0 x1 x2 x3 M H locs ls hf; cases hf
  | succ n ih =>
    intro x0 x1 x2 x3 M H locs ls hf hR hS hl
    rw [lC_X4_unitsAt_4] at hf
    refine lv_iload_n hx hb dX4_unitsAt_4 rfl (lv_at hl 3 rfl) ?_
    refine lv_bipush (v := 24) hx hb dX4_unitsAt_5 (by decide) ?_
    refine lv_icmp_ge (tgt := 29) hx hb dX4_unitsAt_7 (by decide) (fun hc => ?_) (fun hc => ?_)
    · rw [if_pos hc] at hf
      exact hk29 _ _ _ _ _ _ hf hR hS (lv_sub hl [0, 2] rfl)
    · rw [if_neg hc] at hf
      refine lv_aload_n hx hb dX4_unitsAt_10 rfl (lv_at hl 0 rfl) ?_
      obtain ⟨hk_x0_5, hf⟩ := gd_some hf
      refine cr_getR kc_4 CX hR fa_X4_9 rfl hk_x0_5 dX4_unitsAt_11 ?_
      refine lv_iload_n hx hb dX4_unitsAt_14 rfl (lv_at hl 3 rfl) ?_
      obtain ⟨a1, ha1, hf⟩ := nn_some hf
      refine rf_1 ha1 ?_
      obtain ⟨hk_a1_22, hf⟩ := gd_some hf
      obtain ⟨hi, hf⟩ := ck_some hf
      refine cr_iald CX hR hk_a1_22 hi dX4_unitsAt_15 ?_
      refine lv_iload_n hx hb dX4_unitsAt_16 rfl (lv_at hl 1 rfl) ?_
      refine lv_icmp_ne (tgt := 23) hx hb dX4_unitsAt_17 (by decide) (fun hc => ?_) (fun hc => ?_)
      · rw [if_neg hc] at hf
        exact (wbC_X4_unitsAt_23 CX hRm ih hk29) _ _ _ _ _ _ _ _ hf hR hS (lv_sub hl [0, 1, 2, 3] rfl)
      · rw [if_pos hc] at hf
        refine lv_iinc (v := x2 + 1) (lv' := [(2, .int (x2 + 1)), (0, .ref x0), (1, .int x1), (3, .int x3)]) hx hb dX4_unitsAt_20 hl (k := 2) rfl rfl (by decide) rfl (fun ls hl => ?_)
        exact (wbC_X4_unitsAt_23 CX hRm ih hk29) _ _ _ _ _ _ _ _ hf hR hS (lv_sub hl [1, 2, 0, 3] rfl)
def bC_X4_unitsAt_29 (N : Nat) (K : Ka) (x0 : Nat) (x2 : Int32) (M : Cm) : Option (Int32 × Cm) := some (x2, M)
set_option maxRecDepth 100000 in
set_option maxHeartbeats 4000000 in
theorem wbC_X4_unitsAt_29 {p : Program} {l : Launch} {e : Env} {R : Room} {s : State} {m : MethodId} {args : Array Value} {below : List Frame} {meth : Method} {c : Code} {x : Xc} {o : Int32 × Cm} {N : Nat} {K : Ka} (CX : CC p s m args meth c x K RX4 cX4_unitsAt 4 (some .int)) (hRm : 0 ≤ R.frames ∧ 0 ≤ R.locals) (x0 : Nat) (x2 : Int32) (M : Cm) (H : Heap) (locs : List Loc) (ls : Array Slot) (hf : bC_X4_unitsAt_29 N K x0 x2 M = some o) (hR : RC x K M H) (hS : va_S (AC K) s.heap H locs) (hl : lv_has ls 4 [(0, .ref x0), (2, .int x2)]) : W p l e R s m args below meth c H locs 0 0 (MQ below (CQI x K o) args s 0 0 (AC K)) (F0 m 29 ls []) := by
  obtain ⟨hx, hb, hml, hown, hts, hE, hB, hr, hlk⟩ := id CX
  have hL : KLe K K := KLe.rf K
  have hcs : 0 ≤ R.cells ∧ 0 ≤ R.slots := ⟨Nat.zero_le _, Nat.zero_le _⟩
  unfold bC_X4_unitsAt_29 at hf
  refine lv_iload_n hx hb dX4_unitsAt_29 rfl (lv_at hl 1 rfl) ?_
  exact cr_iret CX hR hS hf dX4_unitsAt_30
def fC_X4_unitsAt (N : Nat) (K : Ka) (x0 : Nat) (x1 : Int32) (M : Cm) : Option (Int32 × Cm) := (lC_X4_unitsAt_4 N K (bC_X4_unitsAt_29 N K) N) x0 x1 0 0 M
set_option maxRecDepth 100000 in
set_option maxHeartbeats 4000000 in
theorem wfC_X4_unitsAt {p : Program} {l : Launch} {e : Env} {R : Room} {s : State} {m : MethodId} {args : Array Value} {below : List Frame} {meth : Method} {c : Code} {x : Xc} {o : Int32 × Cm} {N : Nat} {K : Ka} (CX : CC p s m args meth c x K RX4 cX4_unitsAt 4 (some .int)) (hRm : 0 ≤ R.frames ∧ 0 ≤ R.locals) (x0 : Nat) (x1 : Int32) (M : Cm) (H : Heap) (locs : List Loc) (ls : Array Slot) (hf : fC_X4_unitsAt N K x0 x1 M = some o) (hR : RC x K M H) (hS : va_S (AC K) s.heap H locs) (hl : lv_has ls 4 [(0, .ref x0), (1, .int x1)]) : W p l e R s m args below meth c H locs 0 0 (MQ below (CQI x K o) args s 0 0 (AC K)) (F0 m 0 ls []) := by
  obtain ⟨hx, hb, hml, hown, hts, hE, hB, hr, hlk⟩ := id CX
  have hL : KLe K K := KLe.rf K
  have hcs : 0 ≤ R.cells ∧ 0 ≤ R.slots := ⟨Nat.zero_le _, Nat.zero_le _⟩
  unfold fC_X4_unitsAt at hf
  refine lv_iconst (v := 0) hx hb dX4_unitsAt_0 (by decide) ?_
  refine lv_istore_n (lv' := [(2, .int 0), (0, .ref x0), (1, .int x1)]) hx hb dX4_unitsAt_1 rfl hl (by decide) rfl (fun ls hl => ?_)
  refine lv_iconst (v := 0) hx hb dX4_unitsAt_2 (by decide) ?_
  refine lv_istore_n (lv' := [(3, .int 0), (2, .int 0), (0, .ref x0), (1, .int x1)]) hx hb dX4_unitsAt_3 rfl hl (by decide) rfl (fun ls hl => ?_)
  exact (wlC_X4_unitsAt_4 CX hRm (wbC_X4_unitsAt_29 CX hRm) N) _ _ _ _ _ _ _ _ hf hR hS (lv_sub hl [2, 3, 1, 0] rfl)
theorem MC_X4_unitsAt (l : Launch) (x : Xc) (N : Nat) (K : Ka) (x0 : Nat) (x1 : Int32) (M : Cm) (o : Int32 × Cm) (hf : fC_X4_unitsAt N K x0 x1 M = some o) : CtI l x yX4_unitsAt cX4_unitsAt 4 (some .int) 0 0 [.ref x0, .int x1] K M o :=
  cr_metI RX4 (by decide) rfl (Nat.le_of_ble_eq_true rfl) (fun p e s m args below meth c ls CX hR hl => wfC_X4_unitsAt CX ⟨Nat.le_refl _, Nat.le_refl _⟩ x0 x1 M s.heap [] ls hf hR va_S.rf hl)
def fC_X4_addPlan (N : Nat) (K : Ka) (x0 : Nat) (x1 : Int32) (x2 : Int32) (M : Cm) : Option (Cm) := gd (kd K x0 == 5) (nn (cR M x0 7) fun a1 => gd (kd K a1 == 22) (ck x1 (le K a1) (ck x1 (le K a1) (some (wI (wI M a1 (x1 : Int32).toNatClampNeg ((cI M a1 (x1 : Int32).toNatClampNeg) ||| (1 <<< (x2 &&& 31)))) x0 10 ((cI (wI M a1 (x1 : Int32).toNatClampNeg ((cI M a1 (x1 : Int32).toNatClampNeg) ||| (1 <<< (x2 &&& 31)))) x0 10) + 1))))))
set_option maxRecDepth 100000 in
set_option maxHeartbeats 4000000 in
theorem wfC_X4_addPlan {p : Program} {l : Launch} {e : Env} {R : Room} {s : State} {m : MethodId} {args : Array Value} {below : List Frame} {meth : Method} {c : Code} {x : Xc} {o : Cm} {N : Nat} {K : Ka} (CX : CC p s m args meth c x K RX4 cX4_addPlan 3 none) (hRm : 0 ≤ R.frames ∧ 0 ≤ R.locals) (x0 : Nat) (x1 : Int32) (x2 : Int32) (M : Cm) (H : Heap) (locs : List Loc) (ls : Array Slot) (hf : fC_X4_addPlan N K x0 x1 x2 M = some o) (hR : RC x K M H) (hS : va_S (AC K) s.heap H locs) (hl : lv_has ls 3 [(0, .ref x0), (1, .int x1), (2, .int x2)]) : W p l e R s m args below meth c H locs 0 0 (MQ below (CQV x K o) args s 0 0 (AC K)) (F0 m 0 ls []) := by
  obtain ⟨hx, hb, hml, hown, hts, hE, hB, hr, hlk⟩ := id CX
  have hL : KLe K K := KLe.rf K
  have hcs : 0 ≤ R.cells ∧ 0 ≤ R.slots := ⟨Nat.zero_le _, Nat.zero_le _⟩
  unfold fC_X4_addPlan at hf
  refine lv_aload_n hx hb dX4_addPlan_0 rfl (lv_at hl 0 rfl) ?_
  obtain ⟨hk_x0_5, hf⟩ := gd_some hf
  refine cr_getR kc_4 CX hR fa_X4_33 rfl hk_x0_5 dX4_addPlan_1 ?_
  refine lv_iload_n hx hb dX4_addPlan_4 rfl (lv_at hl 1 rfl) ?_
  obtain ⟨a1, ha1, hf⟩ := nn_some hf
  refine rf_1 ha1 ?_
  refine lv_dup2_11 hx hb dX4_addPlan_5 rfl rfl ?_
  obtain ⟨hk_a1_22, hf⟩ := gd_some hf
  obtain ⟨hi, hf⟩ := ck_some hf
  refine cr_iald CX hR hk_a1_22 hi dX4_addPlan_6 ?_
  refine lv_iconst (v := 1) hx hb dX4_addPlan_7 (by decide) ?_
  refine lv_iload_n hx hb dX4_addPlan_8 rfl (lv_at hl 2 rfl) ?_
  refine lv_ishl hx hb dX4_addPlan_9 ?_
  refine lv_ior hx hb dX4_addPlan_10 ?_
  obtain ⟨hi, hf⟩ := ck_some hf
  refine cr_iast CX hR hL hS hk_a1_22 hi dX4_addPlan_11 (fun H locs hR hS => ?_)
  refine lv_aload_n hx hb dX4_addPlan_12 rfl (lv_at hl 0 rfl) ?_
  refine lv_dup hx hb dX4_addPlan_13 rfl ?_
  refine cr_getI kc_4 CX hR fa_X4_42 rfl hk_x0_5 dX4_addPlan_14 ?_
  refine lv_iconst (v := 1) hx hb dX4_addPlan_17 (by decide) ?_
  refine lv_iadd hx hb dX4_addPlan_18 ?_
  refine cr_putI kc_4 CX hR hL hS fa_X4_42 ⟨rfl, rfl, rfl⟩ hk_x0_5 dX4_addPlan_19 (fun H locs hR hS => ?_)
  exact cr_vret CX hR hS hf dX4_addPlan_22
theorem MC_X4_addPlan (l : Launch) (x : Xc) (N : Nat) (K : Ka) (x0 : Nat) (x1 : Int32) (x2 : Int32) (M : Cm) (o : Cm) (hf : fC_X4_addPlan N K x0 x1 x2 M = some o) : CtV l x yX4_addPlan cX4_addPlan 3 0 0 [.ref x0, .int x1, .int x2] K M o :=
  cr_metV RX4 (by decide) rfl (Nat.le_of_ble_eq_true rfl) (fun p e s m args below meth c ls CX hR hl => wfC_X4_addPlan CX ⟨Nat.le_refl _, Nat.le_refl _⟩ x0 x1 x2 M s.heap [] ls hf hR va_S.rf hl)
def bC_X5_addDevice_64 (N : Nat) (K : Ka) (x0 : Nat) (M : Cm) : Option (Cm) := some M
set_option maxRecDepth 100000 in
set_option maxHeartbeats 4000000 in
theorem wbC_X5_addDevice_64 {p : Program} {l : Launch} {e : Env} {R : Room} {s : State} {m : MethodId} {args : Array Value} {below : List Frame} {meth : Method} {c : Code} {x : Xc} {o : Cm} {N : Nat} {K : Ka} (CX : CC p s m args meth c x K RX5 cX5_addDevice 6 none) (hRm : 0 ≤ R.frames ∧ 0 ≤ R.locals) (x0 : Nat) (M : Cm) (H : Heap) (locs : List Loc) (ls : Array Slot) (hf : bC_X5_addDevice_64 N K x0 M = some o) (hR : RC x K M H) (hS : va_S (AC K) s.heap H locs) (hl : lv_has ls 6 [(0, .ref x0)]) : W p l e R s m args below meth c H locs 0 0 (MQ below (CQV x K o) args s 0 0 (AC K)) (F0 m 64 ls []) := by
  obtain ⟨hx, hb, hml, hown, hts, hE, hB, hr, hlk⟩ := id CX
  have hL : KLe K K := KLe.rf K
  have hcs : 0 ≤ R.cells ∧ 0 ≤ R.slots := ⟨Nat.zero_le _, Nat.zero_le _⟩
  unfold bC_X5_addDevice_64 at hf
  exact cr_vret CX hR hS hf dX5_addDevice_64
def fC_X5_addDevice (N : Nat) (K : Ka) (x0 : Nat) (x1 : Int64) (x3 : Int32) (x4 : Int32) (x5 : Int32) (M : Cm) : Option (Cm) := gd (kd K x0 == 6) (nn (cR M x0 0) fun a1 => gd (kd K a1 == 23) (if (nI (le K a1)) ≤ (cI M x0 10) then ((bC_X5_addDevice_64 N K) x0 M) else (nn (cR M x0 0) fun a2 => gd (kd K a2 == 23) (ck (cI M x0 10) (le K a2) (nn (cR (wL M a2 (cI M x0 10 : Int32).toNatClampNeg x1) x0 1) fun a3 => gd (kd K a3 == 22) (ck (cI (wL M a2 (cI M x0 10 : Int32).toNatClampNeg x1) x0 10) (le K a3) (nn (cR (wI (wL M a2 (cI M x0 10 : Int32).toNatClampNeg x1) a3 (cI (wL M a2 (cI M x0 10 : Int32).toNatClampNeg x1) x0 10 : Int32).toNatClampNeg x3) x0 2) fun a4 => gd (kd K a4 == 22) (ck (cI (wI (wL M a2 (cI M x0 10 : Int32).toNatClampNeg x1) a3 (cI (wL M a2 (cI M x0 10 : Int32).toNatClampNeg x1) x0 10 : Int32).toNatClampNeg x3) x0 10) (le K a4) (nn (cR (wI (wI (wL M a2 (cI M x0 10 : Int32).toNatClampNeg x1) a3 (cI (wL M a2 (cI M x0 10 : Int32).toNatClampNeg x1) x0 10 : Int32).toNatClampNeg x3) a4 (cI (wI (wL M a2 (cI M x0 10 : Int32).toNatClampNeg x1) a3 (cI (wL M a2 (cI M x0 10 : Int32).toNatClampNeg x1) x0 10 : Int32).toNatClampNeg x3) x0 10 : Int32).toNatClampNeg x4) x0 3) fun a5 => gd (kd K a5 == 22) (ck (cI (wI (wI (wL M a2 (cI M x0 10 : Int32).toNatClampNeg x1) a3 (cI (wL M a2 (cI M x0 10 : Int32).toNatClampNeg x1) x0 10 : Int32).toNatClampNeg x3) a4 (cI (wI (wL M a2 (cI M x0 10 : Int32).toNatClampNeg x1) a3 (cI (wL M a2 (cI M x0 10 : Int32).toNatClampNeg x1) x0 10 : Int32).toNatClampNeg x3) x0 10 : Int32).toNatClampNeg x4) x0 10) (le K a5) ((bC_X5_addDevice_64 N K) x0 (wI (wI (wI (wI (wL M a2 (cI M x0 10 : Int32).toNatClampNeg x1) a3 (cI (wL M a2 (cI M x0 10 : Int32).toNatClampNeg x1) x0 10 : Int32).toNatClampNeg x3) a4 (cI (wI (wL M a2 (cI M x0 10 : Int32).toNatClampNeg x1) a3 (cI (wL M a2 (cI M x0 10 : Int32).toNatClampNeg x1) x0 10 : Int32).toNatClampNeg x3) x0 10 : Int32).toNatClampNeg x4) a5 (cI (wI (wI (wL M a2 (cI M x0 10 : Int32).toNatClampNeg x1) a3 (cI (wL M a2 (cI M x0 10 : Int32).toNatClampNeg x1) x0 10 : Int32).toNatClampNeg x3) a4 (cI (wI (wL M a2 (cI M x0 10 : Int32).toNatClampNeg x1) a3 (cI (wL M a2 (cI M x0 10 : Int32).toNatClampNeg x1) x0 10 : Int32).toNatClampNeg x3) x0 10 : Int32).toNatClampNeg x4) x0 10 : Int32).toNatClampNeg x5) x0 10 ((cI (wI (wI (wI (wL M a2 (cI M x0 10 : Int32).toNatClampNeg x1) a3 (cI (wL M a2 (cI M x0 10 : Int32).toNatClampNeg x1) x0 10 : Int32).toNatClampNeg x3) a4 (cI (wI (wL M a2 (cI M x0 10 : Int32).toNatClampNeg x1) a3 (cI (wL M a2 (cI M x0 10 : Int32).toNatClampNeg x1) x0 10 : Int32).toNatClampNeg x3) x0 10 : Int32).toNatClampNeg x4) a5 (cI (wI (wI (wL M a2 (cI M x0 10 : Int32).toNatClampNeg x1) a3 (cI (wL M a2 (cI M x0 10 : Int32).toNatClampNeg x1) x0 10 : Int32).toNatClampNeg x3) a4 (cI (wI (wL M a2 (cI M x0 10 : Int32).toNatClampNeg x1) a3 (cI (wL M a2 (cI M x0 10 : Int32).toNatClampNeg x1) x0 10 : Int32).toNatClampNeg x3) x0 10 : Int32).toNatClampNeg x4) x0 10 : Int32).toNatClampNeg x5) x0 10) + 1)))))))))))))
set_option maxRecDepth 100000 in
set_option maxHeartbeats 4000000 in
theorem wfC_X5_addDevice {p : Program} {l : Launch} {e : Env} {R : Room} {s : State} {m : MethodId} {args : Array Value} {below : List Frame} {meth : Method} {c : Code} {x : Xc} {o : Cm} {N : Nat} {K : Ka} (CX : CC p s m args meth c x K RX5 cX5_addDevice 6 none) (hRm : 0 ≤ R.frames ∧ 0 ≤ R.locals) (x0 : Nat) (x1 : Int64) (x3 : Int32) (x4 : Int32) (x5 : Int32) (M : Cm) (H : Heap) (locs : List Loc) (ls : Array Slot) (hf : fC_X5_addDevice N K x0 x1 x3 x4 x5 M = some o) (hR : RC x K M H) (hS : va_S (AC K) s.heap H locs) (hl : lv_has ls 6 [(0, .ref x0), (1, .long x1), (3, .int x3), (4, .int x4), (5, .int x5)]) : W p l e R s m args below meth c H locs 0 0 (MQ below (CQV x K o) args s 0 0 (AC K)) (F0 m 0 ls []) := by
  obtain ⟨hx, hb, hml, hown, hts, hE, hB, hr, hlk⟩ := id CX
  have hL : KLe K K := KLe.rf K
  have hcs : 0 ≤ R.cells ∧ 0 ≤ R.slots := ⟨Nat.zero_le _, Nat.zero_le _⟩
  unfold fC_X5_addDevice at hf
  refine lv_aload_n hx hb dX5_addDevice_0 rfl (lv_at hl 0 rfl) ?_
  obtain ⟨hk_x0_6, hf⟩ := gd_some hf
  refine cr_getI kc_5 CX hR fa_X5_9 rfl hk_x0_6 dX5_addDevice_1 ?_
  refine lv_aload_n hx hb dX5_addDevice_4 rfl (lv_at hl 0 rfl) ?_
  refine cr_getR kc_5 CX hR fa_X5_30 rfl hk_x0_6 dX5_addDevice_5 ?_
  obtain ⟨a1, ha1, hf⟩ := nn_some hf
  refine rf_0 ha1 ?_
  obtain ⟨hk_a1_23, hf⟩ := gd_some hf
  refine cr_llen CX hR hk_a1_23 dX5_addDevice_8 ?_
  refine lv_icmp_ge (tgt := 64) hx hb dX5_addDevice_9 (by decide) (fun hc => ?_) (fun hc => ?_)
  · rw [if_pos hc] at hf
    exact (wbC_X5_addDevice_64 CX hRm) _ _ _ _ _ hf hR hS (lv_sub hl [0] rfl)
  · rw [if_neg hc] at hf
    refine lv_aload_n hx hb dX5_addDevice_12 rfl (lv_at hl 0 rfl) ?_
    refine cr_getR kc_5 CX hR fa_X5_30 rfl hk_x0_6 dX5_addDevice_13 ?_
    refine lv_aload_n hx hb dX5_addDevice_16 rfl (lv_at hl 0 rfl) ?_
    refine cr_getI kc_5 CX hR fa_X5_9 rfl hk_x0_6 dX5_addDevice_17 ?_
    refine lv_lload_n hx hb dX5_addDevice_20 rfl (lv_at hl 1 rfl) ?_
    obtain ⟨a2, ha2, hf⟩ := nn_some hf
    refine rf_2 ha2 ?_
    obtain ⟨hk_a2_23, hf⟩ := gd_some hf
    obtain ⟨hi, hf⟩ := ck_some hf
    refine cr_last CX hR hL hS hk_a2_23 hi dX5_addDevice_21 (fun H locs hR hS => ?_)
    refine lv_aload_n hx hb dX5_addDevice_22 rfl (lv_at hl 0 rfl) ?_
    refine cr_getR kc_5 CX hR fa_X5_34 rfl hk_x0_6 dX5_addDevice_23 ?_
    refine lv_aload_n hx hb dX5_addDevice_26 rfl (lv_at hl 0 rfl) ?_
    refine cr_getI kc_5 CX hR fa_X5_9 rfl hk_x0_6 dX5_addDevice_27 ?_
    refine lv_iload_n hx hb dX5_addDevice_30 rfl (lv_at hl 2 rfl) ?_
    obtain ⟨a3, ha3, hf⟩ := nn_some hf
    refine rf_2 ha3 ?_
    obtain ⟨hk_a3_22, hf⟩ := gd_some hf
    obtain ⟨hi, hf⟩ := ck_some hf
    refine cr_iast CX hR hL hS hk_a3_22 hi dX5_addDevice_31 (fun H locs hR hS => ?_)
    refine lv_aload_n hx hb dX5_addDevice_32 rfl (lv_at hl 0 rfl) ?_
    refine cr_getR kc_5 CX hR fa_X5_38 rfl hk_x0_6 dX5_addDevice_33 ?_
    refine lv_aload_n hx hb dX5_addDevice_36 rfl (lv_at hl 0 rfl) ?_
    refine cr_getI kc_5 CX hR fa_X5_9 rfl hk_x0_6 dX5_addDevice_37 ?_
    refine lv_iload hx hb dX5_addDevice_40 (lv_at hl 3 rfl) ?_
    obtain ⟨a4, ha4, hf⟩ := nn_some hf
    refine rf_2 ha4 ?_
    obtain ⟨hk_a4_22, hf⟩ := gd_some hf
    obtain ⟨hi, hf⟩ := ck_some hf
    refine cr_iast CX hR hL hS hk_a4_22 hi dX5_addDevice_42 (fun H locs hR hS => ?_)
    refine lv_aload_n hx hb dX5_addDevice_43 rfl (lv_at hl 0 rfl) ?_
    refine cr_getR kc_5 CX hR fa_X5_41 rfl hk_x0_6 dX5_addDevice_44 ?_
    refine lv_aload_n hx hb dX5_addDevice_47 rfl (lv_at hl 0 rfl) ?_
    refine cr_getI kc_5 CX hR fa_X5_9 rfl hk_x0_6 dX5_addDevice_48 ?_
    refine lv_iload hx hb dX5_addDevice_51 (lv_at hl 4 rfl) ?_
    obtain ⟨a5, ha5, hf⟩ := nn_some hf
    refine rf_2 ha5 ?_
    obtain ⟨hk_a5_22, hf⟩ := gd_some hf
    obtain ⟨hi, hf⟩ := ck_some hf
    refine cr_iast CX hR hL hS hk_a5_22 hi dX5_addDevice_53 (fun H locs hR hS => ?_)
    refine lv_aload_n hx hb dX5_addDevice_54 rfl (lv_at hl 0 rfl) ?_
    refine lv_dup hx hb dX5_addDevice_55 rfl ?_
    refine cr_getI kc_5 CX hR fa_X5_9 rfl hk_x0_6 dX5_addDevice_56 ?_
    refine lv_iconst (v := 1) hx hb dX5_addDevice_59 (by decide) ?_
    refine lv_iadd hx hb dX5_addDevice_60 ?_
    refine cr_putI kc_5 CX hR hL hS fa_X5_9 ⟨rfl, rfl, rfl⟩ hk_x0_6 dX5_addDevice_61 (fun H locs hR hS => ?_)
    exact (wbC_X5_addDevice_64 CX hRm) _ _ _ _ _ hf hR hS (lv_sub hl [0] rfl)
theorem MC_X5_addDevice (l : Launch) (x : Xc) (N : Nat) (K : Ka) (x0 : Nat) (x1 : Int64) (x3 : Int32) (x4 : Int32) (x5 : Int32) (M : Cm) (o : Cm) (hf : fC_X5_addDevice N K x0 x1 x3 x4 x5 M = some o) : CtV l x yX5_addDevice cX5_addDevice 6 0 0 [.ref x0, .long x1, .int x3, .int x4, .int x5] K M o :=
  cr_metV RX5 (by decide) rfl (Nat.le_of_ble_eq_true rfl) (fun p e s m args below meth c ls CX hR hl => wfC_X5_addDevice CX ⟨Nat.le_refl _, Nat.le_refl _⟩ x0 x1 x3 x4 x5 M s.heap [] ls hf hR va_S.rf hl)
def lC_X5_contains_2 (N : Nat) (K : Ka) (k20 : Cm → Option (Int32 × Cm)) (k28 : Cm → Option (Int32 × Cm)) : Nat → Nat → Int32 → Int32 → Int32 → Cm → Option (Int32 × Cm)
  | 0, _, _, _, _, _ => none
  | n + 1, x0, x1, x2, x3, M => if x1 ≤ x3 then (k28 M) else (gd (kd K x0 == 22) (if (nI (le K x0)) ≤ x3 then (k28 M) else (ck x3 (le K x0) (if (cI M x0 (x3 : Int32).toNatClampNeg) = x2 then (k20 M) else (lC_X5_contains_2 N K k20 k28 n x0 x1 x2 (x3 + 1) M)))))
set_option maxRecDepth 100000 in
set_option maxHeartbeats 4000000 in
theorem wlC_X5_contains_2 {p : Program} {l : Launch} {e : Env} {R : Room} {s : State} {m : MethodId} {args : Array Value} {below : List Frame} {meth : Method} {c : Code} {x : Xc} {o : Int32 × Cm} {N : Nat} {K : Ka} {k20 : Cm → Option (Int32 × Cm)} {k28 : Cm → Option (Int32 × Cm)} (CX : CC p s m args meth c x K RX5 cX5_contains 4 (some .boolean)) (hRm : 0 ≤ R.frames ∧ 0 ≤ R.locals) (hk20 : ∀  (M : Cm) (H : Heap) (locs : List Loc) (ls : Array Slot), k20 M = some o → RC x K M H → va_S (AC K) s.heap H locs → lv_has ls 4 [] → W p l e R s m args below meth c H locs 0 0 (MQ below (CQI x K o) args s 0 0 (AC K)) (F0 m 20 ls [])) (hk28 : ∀  (M : Cm) (H : Heap) (locs : List Loc) (ls : Array Slot), k28 M = some o → RC x K M H → va_S (AC K) s.heap H locs → lv_has ls 4 [] → W p l e R s m args below meth c H locs 0 0 (MQ below (CQI x K o) args s 0 0 (AC K)) (F0 m 28 ls [])) : ∀ (n : Nat) (x0 : Nat) (x1 : Int32) (x2 : Int32) (x3 : Int32) (M : Cm) (H : Heap) (locs : List Loc) (ls : Array Slot), lC_X5_contains_2 N K k20 k28 n x0 x1 x2 x3 M = some o → RC x K M H → va_S (AC K) s.heap H locs → lv_has ls 4 [(0, .ref x0), (1, .int x1), (2, .int x2), (3, .int x3)] → W p l e R s m args below meth c H locs 0 0 (MQ below (CQI x K o) args s 0 0 (AC K)) (F0 m 2 ls []) := by
  obtain ⟨hx, hb, hml, hown, hts, hE, hB, hr, hlk⟩ := id CX
  have hL : KLe K K := KLe.rf K
  have hcs : 0 ≤ R.cells ∧ 0 ≤ R.slots := ⟨Nat.zero_le _, Nat.zero_le _⟩
  intro n
  induction n with
  | zero => intro x0 x1 x2 x3 M H locs ls hf; cases hf
  | succ n ih =>
    intro x0 x1 x2 x3 M H locs ls hf hR hS hl
    rw [lC_X5_contains_2] at hf
    refine lv_iload_n hx hb dX5_contains_2 rfl (lv_at hl 3 rfl) ?_
    refine lv_iload_n hx hb dX5_contains_3 rfl (lv_at hl 1 rfl) ?_
    refine lv_icmp_ge (tgt := 28) hx hb dX5_contains_4 (by decide) (fun hc => ?_) (fun hc => ?_)
    · rw [if_pos hc] at hf
      exact hk28 _ _ _ _ hf hR hS (lv_sub hl [] rfl)
    · rw [if_neg hc] at hf
      refine lv_iload_n hx hb dX5_contains_7 rfl (lv_at hl 3 rfl) ?_
      refine lv_aload_n hx hb dX5_contains_8 rfl (lv_at hl 0 rfl) ?_
      obtain ⟨hk_x0_22, hf⟩ := gd_some hf
      refine cr_ilen CX hR hk_x0_22 dX5_contains_9 ?_
      refine lv_icmp_ge (tgt := 28) hx hb dX5_contains_10 (by decide) (fun hc => ?_) (fun hc => ?_)
      · rw [if_pos hc] at hf
        exact hk28 _ _ _ _ hf hR hS (lv_sub hl [] rfl)
      · rw [if_neg hc] at hf
        refine lv_aload_n hx hb dX5_contains_13 rfl (lv_at hl 0 rfl) ?_
        refine lv_iload_n hx hb dX5_contains_14 rfl (lv_at hl 3 rfl) ?_
        obtain ⟨hi, hf⟩ := ck_some hf
        refine cr_iald CX hR hk_x0_22 hi dX5_contains_15 ?_
        refine lv_iload_n hx hb dX5_contains_16 rfl (lv_at hl 2 rfl) ?_
        refine lv_icmp_ne (tgt := 22) hx hb dX5_contains_17 (by decide) (fun hc => ?_) (fun hc => ?_)
        · rw [if_neg hc] at hf
          refine lv_iinc (v := x3 + 1) (lv' := [(3, .int (x3 + 1)), (0, .ref x0), (1, .int x1), (2, .int x2)]) hx hb dX5_contains_22 hl (k := 3) rfl rfl (by decide) rfl (fun ls hl => ?_)
          refine lv_goto (tgt := 2) hx hb dX5_contains_25 (by decide) ?_
          exact ih _ _ _ _ _ _ _ _ hf hR hS (lv_sub hl [1, 2, 3, 0] rfl)
        · rw [if_pos hc] at hf
          exact hk20 _ _ _ _ hf hR hS (lv_sub hl [] rfl)
def bC_X5_contains_20 (N : Nat) (K : Ka)  (M : Cm) : Option (Int32 × Cm) := gd (is01 1) (some (1, M))
set_option maxRecDepth 100000 in
set_option maxHeartbeats 4000000 in
theorem wbC_X5_contains_20 {p : Program} {l : Launch} {e : Env} {R : Room} {s : State} {m : MethodId} {args : Array Value} {below : List Frame} {meth : Method} {c : Code} {x : Xc} {o : Int32 × Cm} {N : Nat} {K : Ka} (CX : CC p s m args meth c x K RX5 cX5_contains 4 (some .boolean)) (hRm : 0 ≤ R.frames ∧ 0 ≤ R.locals)  (M : Cm) (H : Heap) (locs : List Loc) (ls : Array Slot) (hf : bC_X5_contains_20 N K  M = some o) (hR : RC x K M H) (hS : va_S (AC K) s.heap H locs) (hl : lv_has ls 4 []) : W p l e R s m args below meth c H locs 0 0 (MQ below (CQI x K o) args s 0 0 (AC K)) (F0 m 20 ls []) := by
  obtain ⟨hx, hb, hml, hown, hts, hE, hB, hr, hlk⟩ := id CX
  have hL : KLe K K := KLe.rf K
  have hcs : 0 ≤ R.cells ∧ 0 ≤ R.slots := ⟨Nat.zero_le _, Nat.zero_le _⟩
  unfold bC_X5_contains_20 at hf
  refine lv_iconst (v := 1) hx hb dX5_contains_20 (by decide) ?_
  obtain ⟨hz, hf⟩ := gd_some hf
  exact cr_zret CX hR hS hz hf dX5_contains_21
def bC_X5_contains_28 (N : Nat) (K : Ka)  (M : Cm) : Option (Int32 × Cm) := gd (is01 0) (some (0, M))
set_option maxRecDepth 100000 in
set_option maxHeartbeats 4000000 in
theorem wbC_X5_contains_28 {p : Program} {l : Launch} {e : Env} {R : Room} {s : State} {m : MethodId} {args : Array Value} {below : List Frame} {meth : Method} {c : Code} {x : Xc} {o : Int32 × Cm} {N : Nat} {K : Ka} (CX : CC p s m args meth c x K RX5 cX5_contains 4 (some .boolean)) (hRm : 0 ≤ R.frames ∧ 0 ≤ R.locals)  (M : Cm) (H : Heap) (locs : List Loc) (ls : Array Slot) (hf : bC_X5_contains_28 N K  M = some o) (hR : RC x K M H) (hS : va_S (AC K) s.heap H locs) (hl : lv_has ls 4 []) : W p l e R s m args below meth c H locs 0 0 (MQ below (CQI x K o) args s 0 0 (AC K)) (F0 m 28 ls []) := by
  obtain ⟨hx, hb, hml, hown, hts, hE, hB, hr, hlk⟩ := id CX
  have hL : KLe K K := KLe.rf K
  have hcs : 0 ≤ R.cells ∧ 0 ≤ R.slots := ⟨Nat.zero_le _, Nat.zero_le _⟩
  unfold bC_X5_contains_28 at hf
  refine lv_iconst (v := 0) hx hb dX5_contains_28 (by decide) ?_
  obtain ⟨hz, hf⟩ := gd_some hf
  exact cr_zret CX hR hS hz hf dX5_contains_29
def fC_X5_contains (N : Nat) (K : Ka) (x0 : Nat) (x1 : Int32) (x2 : Int32) (M : Cm) : Option (Int32 × Cm) := (lC_X5_contains_2 N K (bC_X5_contains_20 N K) (bC_X5_contains_28 N K) N) x0 x1 x2 0 M
set_option maxRecDepth 100000 in
set_option maxHeartbeats 4000000 in
theorem wfC_X5_contains {p : Program} {l : Launch} {e : Env} {R : Room} {s : State} {m : MethodId} {args : Array Value} {below : List Frame} {meth : Method} {c : Code} {x : Xc} {o : Int32 × Cm} {N : Nat} {K : Ka} (CX : CC p s m args meth c x K RX5 cX5_contains 4 (some .boolean)) (hRm : 0 ≤ R.frames ∧ 0 ≤ R.locals) (x0 : Nat) (x1 : Int32) (x2 : Int32) (M : Cm) (H : Heap) (locs : List Loc) (ls : Array Slot) (hf : fC_X5_contains N K x0 x1 x2 M = some o) (hR : RC x K M H) (hS : va_S (AC K) s.heap H locs) (hl : lv_has ls 4 [(0, .ref x0), (1, .int x1), (2, .int x2)]) : W p l e R s m args below meth c H locs 0 0 (MQ below (CQI x K o) args s 0 0 (AC K)) (F0 m 0 ls []) := by
  obtain ⟨hx, hb, hml, hown, hts, hE, hB, hr, hlk⟩ := id CX
  have hL : KLe K K := KLe.rf K
  have hcs : 0 ≤ R.cells ∧ 0 ≤ R.slots := ⟨Nat.zero_le _, Nat.zero_le _⟩
  unfold fC_X5_contains at hf
  refine lv_iconst (v := 0) hx hb dX5_contains_0 (by decide) ?_
  refine lv_istore_n (lv' := [(3, .int 0), (0, .ref x0), (1, .int x1), (2, .int x2)]) hx hb dX5_contains_1 rfl hl (by decide) rfl (fun ls hl => ?_)
  exact (wlC_X5_contains_2 CX hRm (wbC_X5_contains_20 CX hRm) (wbC_X5_contains_28 CX hRm) N) _ _ _ _ _ _ _ _ hf hR hS (lv_sub hl [1, 2, 3, 0] rfl)
theorem MC_X5_contains (l : Launch) (x : Xc) (N : Nat) (K : Ka) (x0 : Nat) (x1 : Int32) (x2 : Int32) (M : Cm) (o : Int32 × Cm) (hf : fC_X5_contains N K x0 x1 x2 M = some o) : CtI l x yX5_contains cX5_contains 4 (some .boolean) 0 0 [.ref x0, .int x1, .int x2] K M o :=
  cr_metI RX5 (by decide) rfl (Nat.le_of_ble_eq_true rfl) (fun p e s m args below meth c ls CX hR hl => wfC_X5_contains CX ⟨Nat.le_refl _, Nat.le_refl _⟩ x0 x1 x2 M s.heap [] ls hf hR va_S.rf hl)
