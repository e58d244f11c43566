def bC_X5_addMissing_40 (N : Nat) (K : Ka) (r5 : Nat → Nat → Int32 → Int32 → Cm → Option (Int32 × Cm)) (k46 : Int32 → Cm → Option (Int32 × Cm)) (x0 : Nat) (x1 : Nat) (x3 : Int32) (x4 : Int32) (M : Cm) : Option (Int32 × Cm) := r5 x0 x1 x3 (x4 + 1) M
set_option maxRecDepth 100000 in
set_option maxHeartbeats 4000000 in
theorem wbC_X5_addMissing_40 {p : Program} {l : Launch} {e : Env} {R : Room} {s : State} {m : MethodId} {args : Array Value} {below : List Frame} {meth : Method} {c : Code} {x : Xc} {o : Int32 × Cm} {N : Nat} {K : Ka} {r5 : Nat → Nat → Int32 → Int32 → Cm → Option (Int32 × Cm)} {k46 : Int32 → Cm → Option (Int32 × Cm)} (CX : CC p s m args meth c x K RX5 cX5_addMissing 5 (some .int)) (hRm : 1 ≤ R.frames ∧ 23 ≤ R.locals) (hr5 : ∀ (x0 : Nat) (x1 : Nat) (x3 : Int32) (x4 : Int32) (M : Cm) (H : Heap) (locs : List Loc) (ls : Array Slot), r5 x0 x1 x3 x4 M = some o → RC x K M H → va_S (AC K) s.heap H locs → lv_has ls 5 [(0, .ref x0), (1, .ref x1), (3, .int x3), (4, .int x4)] → W p l e R s m args below meth c H locs 0 0 (MQ below (CQI x K o) args s 0 0 (AC K)) (F0 m 5 ls [])) (hk46 : ∀ (x3 : Int32) (M : Cm) (H : Heap) (locs : List Loc) (ls : Array Slot), k46 x3 M = some o → RC x K M H → va_S (AC K) s.heap H locs → lv_has ls 5 [(3, .int x3)] → W p l e R s m args below meth c H locs 0 0 (MQ below (CQI x K o) args s 0 0 (AC K)) (F0 m 46 ls [])) (x0 : Nat) (x1 : Nat) (x3 : Int32) (x4 : Int32) (M : Cm) (H : Heap) (locs : List Loc) (ls : Array Slot) (hf : bC_X5_addMissing_40 N K r5 k46 x0 x1 x3 x4 M = some o) (hR : RC x K M H) (hS : va_S (AC K) s.heap H locs) (hl : lv_has ls 5 [(0, .ref x0), (1, .ref x1), (3, .int x3), (4, .int x4)]) : W p l e R s m args below meth c H locs 0 0 (MQ below (CQI x K o) args s 0 0 (AC K)) (F0 m 40 ls []) := by
  obtain ⟨hx, hb, hml, hown, hts, hE, hB, hr, hlk⟩ := id CX
  have hL : KLe K K := KLe.rf K
  have hcs : 0 ≤ R.cells ∧ 0 ≤ R.slots := ⟨Nat.zero_le _, Nat.zero_le _⟩
  unfold bC_X5_addMissing_40 at hf
  refine lv_iinc (v := x4 + 1) (lv' := [(4, .int (x4 + 1)), (0, .ref x0), (1, .ref x1), (3, .int x3)]) hx hb dX5_addMissing_40 hl (k := 3) rfl rfl (by decide) rfl (fun ls hl => ?_)
  refine lv_goto (tgt := 5) hx hb dX5_addMissing_43 (by decide) ?_
  exact hr5 _ _ _ _ _ _ _ _ hf hR hS (lv_sub hl [1, 2, 3, 0] rfl)
def lC_X5_addMissing_5 (N : Nat) (K : Ka) (k46 : Int32 → Cm → Option (Int32 × Cm)) : Nat → Nat → Nat → Int32 → Int32 → Cm → Option (Int32 × Cm)
  | 0, _, _, _, _, _ => none
  | n + 1, x0, x1, x3, x4, M => gd (kd K x0 == 22) (if (nI (le K x0)) ≤ x4 then (k46 x3 M) else (gd (kd K x1 == 22) (if (nI (le K x1)) ≤ x3 then ((bC_X5_addMissing_40 N K (lC_X5_addMissing_5 N K k46 n) k46) x0 x1 x3 x4 M) else (ck x4 (le K x0) ((fC_X5_contains N K x1 x3 (cI M x0 (x4 : Int32).toNatClampNeg) M).bind fun o24 => if o24.1 = 0 then (ck x4 (le K x0) (ck x3 (le K x1) ((bC_X5_addMissing_40 N K (lC_X5_addMissing_5 N K k46 n) k46) x0 x1 (x3 + 1) x4 (wI o24.2 x1 (x3 : Int32).toNatClampNeg (cI o24.2 x0 (x4 : Int32).toNatClampNeg))))) else ((bC_X5_addMissing_40 N K (lC_X5_addMissing_5 N K k46 n) k46) x0 x1 x3 x4 o24.2))))))
set_option maxRecDepth 100000 in
set_option maxHeartbeats 4000000 in
theorem wlC_X5_addMissing_5 {p : Program} {l : Launch} {e : Env} {R : Room} {s : State} {m : MethodId} {args : Array Value} {below : List Frame} {meth : Method} {c : Code} {x : Xc} {o : Int32 × Cm} {N : Nat} {K : Ka} {k46 : Int32 → Cm → Option (Int32 × Cm)} (CX : CC p s m args meth c x K RX5 cX5_addMissing 5 (some .int)) (hRm : 1 ≤ R.frames ∧ 23 ≤ R.locals) (hk46 : ∀ (x3 : Int32) (M : Cm) (H : Heap) (locs : List Loc) (ls : Array Slot), k46 x3 M = some o → RC x K M H → va_S (AC K) s.heap H locs → lv_has ls 5 [(3, .int x3)] → W p l e R s m args below meth c H locs 0 0 (MQ below (CQI x K o) args s 0 0 (AC K)) (F0 m 46 ls [])) : ∀ (n : Nat) (x0 : Nat) (x1 : Nat) (x3 : Int32) (x4 : Int32) (M : Cm) (H : Heap) (locs : List Loc) (ls : Array Slot), lC_X5_addMissing_5 N K k46 n x0 x1 x3 x4 M = some o → RC x K M H → va_S (AC K) s.heap H locs → lv_has ls 5 [(0, .ref x0), (1, .ref x1), (3, .int x3), (4, .int x4)] → W p l e R s m args below meth c H locs 0 0 (MQ below (CQI x K o) args s 0 0 (AC K)) (F0 m 5 ls []) := by
  obtain ⟨hx, hb, hml, hown, hts, hE, hB, hr, hlk⟩ := id CX
  have hL : KLe K K := KLe.rf K
  have hcs : 0 ≤ R.cells ∧ 0 ≤ R.slots := ⟨Nat.zero_le _, Nat.zero_le _⟩
  intro n
  induction n with
  | zero => intro x0 x1 x3 x4 M H locs ls hf; cases hf
  | succ n ih =>
    intro x0 x1 x3 x4 M H locs ls hf hR hS hl
    rw [lC_X5_addMissing_5] at hf
    refine lv_iload hx hb dX5_addMissing_5 (lv_at hl 3 rfl) ?_
    refine lv_aload_n hx hb dX5_addMissing_7 rfl (lv_at hl 0 rfl) ?_
    obtain ⟨hk_x0_22, hf⟩ := gd_some hf
    refine cr_ilen CX hR hk_x0_22 dX5_addMissing_8 ?_
    refine lv_icmp_ge (tgt := 46) hx hb dX5_addMissing_9 (by decide) (fun hc => ?_) (fun hc => ?_)
    · rw [if_pos hc] at hf
      exact hk46 _ _ _ _ _ hf hR hS (lv_sub hl [2] rfl)
    · rw [if_neg hc] at hf
      refine lv_iload_n hx hb dX5_addMissing_12 rfl (lv_at hl 2 rfl) ?_
      refine lv_aload_n hx hb dX5_addMissing_13 rfl (lv_at hl 1 rfl) ?_
      obtain ⟨hk_x1_22, hf⟩ := gd_some hf
      refine cr_ilen CX hR hk_x1_22 dX5_addMissing_14 ?_
      refine lv_icmp_ge (tgt := 40) hx hb dX5_addMissing_15 (by decide) (fun hc => ?_) (fun hc => ?_)
      · rw [if_pos hc] at hf
        exact (wbC_X5_addMissing_40 CX hRm ih hk46) _ _ _ _ _ _ _ _ hf hR hS (lv_sub hl [0, 1, 2, 3] rfl)
      · rw [if_neg hc] at hf
        refine lv_aload_n hx hb dX5_addMissing_18 rfl (lv_at hl 1 rfl) ?_
        refine lv_iload_n hx hb dX5_addMissing_19 rfl (lv_at hl 2 rfl) ?_
        refine lv_aload_n hx hb dX5_addMissing_20 rfl (lv_at hl 0 rfl) ?_
        refine lv_iload hx hb dX5_addMissing_21 (lv_at hl 3 rfl) ?_
        obtain ⟨hi, hf⟩ := ck_some hf
        refine cr_iald CX hR hk_x0_22 hi dX5_addMissing_23 ?_
        obtain ⟨o24, ho24, hf⟩ := bnd_some hf
        refine cr_callIs CX hR hL hS (As := [.ref x1, .int x3, .int (cI M x0 (x4 : Int32).toNatClampNeg)]) (rest := []) (MC_X5_contains l x N K x1 x3 (cI M x0 (x4 : Int32).toNatClampNeg) M o24 ho24) cs_X5_101 ⟨by omega, by omega⟩ rfl rfl (Nat.le_of_ble_eq_true rfl) hl.1 dX5_addMissing_24 hcs (fun H locs hR hS => ?_)
        refine lv_if_ne (tgt := 40) hx hb dX5_addMissing_27 (by decide) (fun hc => ?_) (fun hc => ?_)
        · rw [if_neg hc] at hf
          exact (wbC_X5_addMissing_40 CX hRm ih hk46) _ _ _ _ _ _ _ _ hf hR hS (lv_sub hl [0, 1, 2, 3] rfl)
        · rw [if_pos hc] at hf
          refine lv_aload_n hx hb dX5_addMissing_30 rfl (lv_at hl 1 rfl) ?_
          refine lv_iload_n hx hb dX5_addMissing_31 rfl (lv_at hl 2 rfl) ?_
          refine lv_aload_n hx hb dX5_addMissing_32 rfl (lv_at hl 0 rfl) ?_
          refine lv_iload hx hb dX5_addMissing_33 (lv_at hl 3 rfl) ?_
          obtain ⟨hi, hf⟩ := ck_some hf
          refine cr_iald CX hR hk_x0_22 hi dX5_addMissing_35 ?_
          obtain ⟨hi, hf⟩ := ck_some hf
          refine cr_iast CX hR hL hS hk_x1_22 hi dX5_addMissing_36 (fun H locs hR hS => ?_)
          refine lv_iinc (v := x3 + 1) (lv' := [(3, .int (x3 + 1)), (0, .ref x0), (1, .ref x1), (4, .int x4)]) hx hb dX5_addMissing_37 hl (k := 2) rfl rfl (by decide) rfl (fun ls hl => ?_)
          exact (wbC_X5_addMissing_40 CX hRm ih hk46) _ _ _ _ _ _ _ _ hf hR hS (lv_sub hl [1, 2, 0, 3] rfl)
def bC_X5_addMissing_46 (N : Nat) (K : Ka) (x3 : Int32) (M : Cm) : Option (Int32 × Cm) := some (x3, M)
set_option maxRecDepth 100000 in
set_option maxHeartbeats 4000000 in
theorem wbC_X5_addMissing_46 {p : Program} {l : Launch} {e : Env} {R : Room} {s : State} {m : MethodId} {args : Array Value} {below : List Frame} {meth : Method} {c : Code} {x : Xc} {o : Int32 × Cm} {N : Nat} {K : Ka} (CX : CC p s m args meth c x K RX5 cX5_addMissing 5 (some .int)) (hRm : 1 ≤ R.frames ∧ 23 ≤ R.locals) (x3 : Int32) (M : Cm) (H : Heap) (locs : List Loc) (ls : Array Slot) (hf : bC_X5_addMissing_46 N K x3 M = some o) (hR : RC x K M H) (hS : va_S (AC K) s.heap H locs) (hl : lv_has ls 5 [(3, .int x3)]) : W p l e R s m args below meth c H locs 0 0 (MQ below (CQI x K o) args s 0 0 (AC K)) (F0 m 46 ls []) := by
  obtain ⟨hx, hb, hml, hown, hts, hE, hB, hr, hlk⟩ := id CX
  have hL : KLe K K := KLe.rf K
  have hcs : 0 ≤ R.cells ∧ 0 ≤ R.slots := ⟨Nat.zero_le _, Nat.zero_le _⟩
  unfold bC_X5_addMissing_46 at hf
  refine lv_iload_n hx hb dX5_addMissing_46 rfl (lv_at hl 0 rfl) ?_
  exact cr_iret CX hR hS hf dX5_addMissing_47
def fC_X5_addMissing (N : Nat) (K : Ka) (x0 : Nat) (x1 : Nat) (x2 : Int32) (M : Cm) : Option (Int32 × Cm) := (lC_X5_addMissing_5 N K (bC_X5_addMissing_46 N K) N) x0 x1 x2 0 M
set_option maxRecDepth 100000 in
set_option maxHeartbeats 4000000 in
theorem wfC_X5_addMissing {p : Program} {l : Launch} {e : Env} {R : Room} {s : State} {m : MethodId} {args : Array Value} {below : List Frame} {meth : Method} {c : Code} {x : Xc} {o : Int32 × Cm} {N : Nat} {K : Ka} (CX : CC p s m args meth c x K RX5 cX5_addMissing 5 (some .int)) (hRm : 1 ≤ R.frames ∧ 23 ≤ R.locals) (x0 : Nat) (x1 : Nat) (x2 : Int32) (M : Cm) (H : Heap) (locs : List Loc) (ls : Array Slot) (hf : fC_X5_addMissing N K x0 x1 x2 M = some o) (hR : RC x K M H) (hS : va_S (AC K) s.heap H locs) (hl : lv_has ls 5 [(0, .ref x0), (1, .ref x1), (2, .int x2)]) : W p l e R s m args below meth c H locs 0 0 (MQ below (CQI x K o) args s 0 0 (AC K)) (F0 m 0 ls []) := by
  obtain ⟨hx, hb, hml, hown, hts, hE, hB, hr, hlk⟩ := id CX
  have hL : KLe K K := KLe.rf K
  have hcs : 0 ≤ R.cells ∧ 0 ≤ R.slots := ⟨Nat.zero_le _, Nat.zero_le _⟩
  unfold fC_X5_addMissing at hf
  refine lv_iload_n hx hb dX5_addMissing_0 rfl (lv_at hl 2 rfl) ?_
  refine lv_istore_n (lv' := [(3, .int x2), (0, .ref x0), (1, .ref x1), (2, .int x2)]) hx hb dX5_addMissing_1 rfl hl (by decide) rfl (fun ls hl => ?_)
  refine lv_iconst (v := 0) hx hb dX5_addMissing_2 (by decide) ?_
  refine lv_istore (lv' := [(4, .int 0), (3, .int x2), (0, .ref x0), (1, .ref x1), (2, .int x2)]) hx hb dX5_addMissing_3 hl (by decide) rfl (fun ls hl => ?_)
  exact (wlC_X5_addMissing_5 CX hRm (wbC_X5_addMissing_46 CX hRm) N) _ _ _ _ _ _ _ _ hf hR hS (lv_sub hl [2, 3, 1, 0] rfl)
theorem MC_X5_addMissing (l : Launch) (x : Xc) (N : Nat) (K : Ka) (x0 : Nat) (x1 : Nat) (x2 : Int32) (M : Cm) (o : Int32 × Cm) (hf : fC_X5_addMissing N K x0 x1 x2 M = some o) : CtI l x yX5_addMissing cX5_addMissing 5 (some .int) 1 23 [.ref x0, .ref x1, .int x2] K M o :=
  cr_metI RX5 (by decide) rfl (Nat.le_of_ble_eq_true rfl) (fun p e s m args below meth c ls CX hR hl => wfC_X5_addMissing CX ⟨Nat.le_refl _, Nat.le_refl _⟩ x0 x1 x2 M s.heap [] ls hf hR va_S.rf hl)
def lC_X5_fillSearch_12 (N : Nat) (K : Ka) (k48 : Nat → Nat → Nat → Int32 → Cm → Option (Int32 × Cm)) : Nat → Nat → Nat → Nat → Int32 → Int32 → Cm → Option (Int32 × Cm)
  | 0, _, _, _, _, _, _ => none
  | n + 1, x0, x1, x2, x3, x4, M => gd (kd K x1 == 8) (if (cI M x1 7) ≤ x4 then (k48 x0 x1 x2 x3 M) else (gd (kd K x0 == 6) (nn (cR M x1 2) fun a1 => gd (kd K a1 == 22) (ck x4 (le K a1) (nn (cR M x0 5) fun a2 => gd (kd K a2 == 26) (ck (cI M a1 (x4 : Int32).toNatClampNeg) (le K a2) (nn (cR M a2 (cI M a1 (x4 : Int32).toNatClampNeg : Int32).toNatClampNeg) fun a3 => gd (kd K a3 == 8) (nn (cR M a3 10) fun a4 => (fC_X5_addMissing N K a4 x2 x3 M).bind fun o38 => lC_X5_fillSearch_12 N K k48 n x0 x1 x2 o38.1 (x4 + 1) o38.2))))))))
set_option maxRecDepth 100000 in
set_option maxHeartbeats 4000000 in
theorem wlC_X5_fillSearch_12 {p : Program} {l : Launch} {e : Env} {R : Room} {s : State} {m : MethodId} {args : Array Value} {below : List Frame} {meth : Method} {c : Code} {x : Xc} {o : Int32 × Cm} {N : Nat} {K : Ka} {k48 : Nat → Nat → Nat → Int32 → Cm → Option (Int32 × Cm)} (CX : CC p s m args meth c x K RX5 cX5_fillSearch 5 (some .int)) (hRm : 2 ≤ R.frames ∧ 47 ≤ R.locals) (hk48 : ∀ (x0 : Nat) (x1 : Nat) (x2 : Nat) (x3 : Int32) (M : Cm) (H : Heap) (locs : List Loc) (ls : Array Slot), k48 x0 x1 x2 x3 M = some o → RC x K M H → va_S (AC K) s.heap H locs → lv_has ls 5 [(0, .ref x0), (1, .ref x1), (2, .ref x2), (3, .int x3)] → W p l e R s m args below meth c H locs 0 0 (MQ below (CQI x K o) args s 0 0 (AC K)) (F0 m 48 ls [])) : ∀ (n : Nat) (x0 : Nat) (x1 : Nat) (x2 : Nat) (x3 : Int32) (x4 : Int32) (M : Cm) (H : Heap) (locs : List Loc) (ls : Array Slot), lC_X5_fillSearch_12 N K k48 n x0 x1 x2 x3 x4 M = some o → RC x K M H → va_S (AC K) s.heap H locs → lv_has ls 5 [(0, .ref x0), (1, .ref x1), (2, .ref x2), (3, .int x3), (4, .int x4)] → W p l e R s m args below meth c H locs 0 0 (MQ below (CQI x K o) args s 0 0 (AC K)) (F0 m 12 ls []) := by
  obtain ⟨hx, hb, hml, hown, hts, hE, hB, hr, hlk⟩ := id CX
  have hL : KLe K K := KLe.rf K
  have hcs : 0 ≤ R.cells ∧ 0 ≤ R.slots := ⟨Nat.zero_le _, Nat.zero_le _⟩
  intro n
  induction n with
  | zero => intro x0 x1 x2 x3 x4 M H locs ls hf; cases hf
  | succ n ih =>
    intro x0 x1 x2 x3 x4 M H locs ls hf hR hS hl
    rw [lC_X5_fillSearch_12] at hf
    refine lv_iload hx hb dX5_fillSearch_12 (lv_at hl 4 rfl) ?_
    refine lv_aload_n hx hb dX5_fillSearch_14 rfl (lv_at hl 1 rfl) ?_
    obtain ⟨hk_x1_8, hf⟩ := gd_some hf
    refine cr_getI kc_7 CX hR fa_X5_87 rfl hk_x1_8 dX5_fillSearch_15 ?_
    refine lv_icmp_ge (tgt := 48) hx hb dX5_fillSearch_18 (by decide) (fun hc => ?_) (fun hc => ?_)
    · rw [if_pos hc] at hf
      exact hk48 _ _ _ _ _ _ _ _ hf hR hS (lv_sub hl [0, 1, 2, 3] rfl)
    · rw [if_neg hc] at hf
      refine lv_aload_n hx hb dX5_fillSearch_21 rfl (lv_at hl 0 rfl) ?_
      obtain ⟨hk_x0_6, hf⟩ := gd_some hf
      refine cr_getR kc_5 CX hR fa_X5_49 rfl hk_x0_6 dX5_fillSearch_22 ?_
      refine lv_aload_n hx hb dX5_fillSearch_25 rfl (lv_at hl 1 rfl) ?_
      refine cr_getR kc_7 CX hR fa_X5_90 rfl hk_x1_8 dX5_fillSearch_26 ?_
      refine lv_iload hx hb dX5_fillSearch_29 (lv_at hl 4 rfl) ?_
      obtain ⟨a1, ha1, hf⟩ := nn_some hf
      refine rf_1 ha1 ?_
      obtain ⟨hk_a1_22, hf⟩ := gd_some hf
      obtain ⟨hi, hf⟩ := ck_some hf
      refine cr_iald CX hR hk_a1_22 hi dX5_fillSearch_31 ?_
      obtain ⟨a2, ha2, hf⟩ := nn_some hf
      refine rf_1 ha2 ?_
      obtain ⟨hk_a2_26, hf⟩ := gd_some hf
      obtain ⟨hi, hf⟩ := ck_some hf
      refine cr_uald CX hR hk_a2_26 hi dX5_fillSearch_32 ?_
      obtain ⟨a3, ha3, hf⟩ := nn_some hf
      refine rf_0 ha3 ?_
      obtain ⟨hk_a3_8, hf⟩ := gd_some hf
      refine cr_getR kc_7 CX hR fa_X5_75 rfl hk_a3_8 dX5_fillSearch_33 ?_
      refine lv_aload_n hx hb dX5_fillSearch_36 rfl (lv_at hl 2 rfl) ?_
      refine lv_iload_n hx hb dX5_fillSearch_37 rfl (lv_at hl 3 rfl) ?_
      obtain ⟨a4, ha4, hf⟩ := nn_some hf
      refine rf_2 ha4 ?_
      obtain ⟨o38, ho38, hf⟩ := bnd_some hf
      refine cr_callIs CX hR hL hS (As := [.ref a4, .ref x2, .int x3]) (rest := []) (MC_X5_addMissing l x N K a4 x2 x3 M o38 ho38) cs_X5_93 ⟨by omega, by omega⟩ rfl rfl (Nat.le_of_ble_eq_true rfl) hl.1 dX5_fillSearch_38 hcs (fun H locs hR hS => ?_)
      refine lv_istore_n (lv' := [(3, .int o38.1), (0, .ref x0), (1, .ref x1), (2, .ref x2), (4, .int x4)]) hx hb dX5_fillSearch_41 rfl hl (by decide) rfl (fun ls hl => ?_)
      refine lv_iinc (v := x4 + 1) (lv' := [(4, .int (x4 + 1)), (3, .int o38.1), (0, .ref x0), (1, .ref x1), (2, .ref x2)]) hx hb dX5_fillSearch_42 hl (k := 4) rfl rfl (by decide) rfl (fun ls hl => ?_)
      refine lv_goto (tgt := 12) hx hb dX5_fillSearch_45 (by decide) ?_
      exact ih _ _ _ _ _ _ _ _ _ hf hR hS (lv_sub hl [2, 3, 4, 1, 0] rfl)
def bC_X5_fillSearch_76 (N : Nat) (K : Ka) (x0 : Nat) (s0 : Int32) (M : Cm) : Option (Int32 × Cm) := some (s0, M)
set_option maxRecDepth 100000 in
set_option maxHeartbeats 4000000 in
theorem wbC_X5_fillSearch_76 {p : Program} {l : Launch} {e : Env} {R : Room} {s : State} {m : MethodId} {args : Array Value} {below : List Frame} {meth : Method} {c : Code} {x : Xc} {o : Int32 × Cm} {N : Nat} {K : Ka} (CX : CC p s m args meth c x K RX5 cX5_fillSearch 5 (some .int)) (hRm : 2 ≤ R.frames ∧ 47 ≤ R.locals) (x0 : Nat) (s0 : Int32) (M : Cm) (H : Heap) (locs : List Loc) (ls : Array Slot) (hf : bC_X5_fillSearch_76 N K x0 s0 M = some o) (hR : RC x K M H) (hS : va_S (AC K) s.heap H locs) (hl : lv_has ls 5 [(0, .ref x0)]) : W p l e R s m args below meth c H locs 0 0 (MQ below (CQI x K o) args s 0 0 (AC K)) (F0 m 76 ls [.int s0]) := by
  obtain ⟨hx, hb, hml, hown, hts, hE, hB, hr, hlk⟩ := id CX
  have hL : KLe K K := KLe.rf K
  have hcs : 0 ≤ R.cells ∧ 0 ≤ R.slots := ⟨Nat.zero_le _, Nat.zero_le _⟩
  unfold bC_X5_fillSearch_76 at hf
  exact cr_iret CX hR hS hf dX5_fillSearch_76
def bC_X5_fillSearch_48 (N : Nat) (K : Ka) (x0 : Nat) (x1 : Nat) (x2 : Nat) (x3 : Int32) (M : Cm) : Option (Int32 × Cm) := gd (kd K x1 == 8) (if 0 ≤ (cI M x1 6) then (gd (kd K x0 == 6) (nn (cR M x0 5) fun a1 => gd (kd K a1 == 26) (ck (cI M x1 6) (le K a1) (nn (cR M a1 (cI M x1 6 : Int32).toNatClampNeg) fun a2 => gd (kd K a2 == 8) (nn (cR M a2 10) fun a3 => (fC_X5_addMissing N K a3 x2 x3 M).bind fun o73 => (bC_X5_fillSearch_76 N K) x0 o73.1 o73.2))))) else ((bC_X5_fillSearch_76 N K) x0 x3 M))
set_option maxRecDepth 100000 in
set_option maxHeartbeats 4000000 in
theorem wbC_X5_fillSearch_48 {p : Program} {l : Launch} {e : Env} {R : Room} {s : State} {m : MethodId} {args : Array Value} {below : List Frame} {meth : Method} {c : Code} {x : Xc} {o : Int32 × Cm} {N : Nat} {K : Ka} (CX : CC p s m args meth c x K RX5 cX5_fillSearch 5 (some .int)) (hRm : 2 ≤ R.frames ∧ 47 ≤ R.locals) (x0 : Nat) (x1 : Nat) (x2 : Nat) (x3 : Int32) (M : Cm) (H : Heap) (locs : List Loc) (ls : Array Slot) (hf : bC_X5_fillSearch_48 N K x0 x1 x2 x3 M = some o) (hR : RC x K M H) (hS : va_S (AC K) s.heap H locs) (hl : lv_has ls 5 [(0, .ref x0), (1, .ref x1), (2, .ref x2), (3, .int x3)]) : W p l e R s m args below meth c H locs 0 0 (MQ below (CQI x K o) args s 0 0 (AC K)) (F0 m 48 ls []) := by
  obtain ⟨hx, hb, hml, hown, hts, hE, hB, hr, hlk⟩ := id CX
  have hL : KLe K K := KLe.rf K
  have hcs : 0 ≤ R.cells ∧ 0 ≤ R.slots := ⟨Nat.zero_le _, Nat.zero_le _⟩
  unfold bC_X5_fillSearch_48 at hf
  refine lv_aload_n hx hb dX5_fillSearch_48 rfl (lv_at hl 1 rfl) ?_
  obtain ⟨hk_x1_8, hf⟩ := gd_some hf
  refine cr_getI kc_7 CX hR fa_X5_84 rfl hk_x1_8 dX5_fillSearch_49 ?_
  refine lv_if_ge (tgt := 59) hx hb dX5_fillSearch_52 (by decide) (fun hc => ?_) (fun hc => ?_)
  · rw [if_pos hc] at hf
    refine lv_aload_n hx hb dX5_fillSearch_59 rfl (lv_at hl 0 rfl) ?_
    obtain ⟨hk_x0_6, hf⟩ := gd_some hf
    refine cr_getR kc_5 CX hR fa_X5_49 rfl hk_x0_6 dX5_fillSearch_60 ?_
    refine lv_aload_n hx hb dX5_fillSearch_63 rfl (lv_at hl 1 rfl) ?_
    refine cr_getI kc_7 CX hR fa_X5_84 rfl hk_x1_8 dX5_fillSearch_64 ?_
    obtain ⟨a1, ha1, hf⟩ := nn_some hf
    refine rf_1 ha1 ?_
    obtain ⟨hk_a1_26, hf⟩ := gd_some hf
    obtain ⟨hi, hf⟩ := ck_some hf
    refine cr_uald CX hR hk_a1_26 hi dX5_fillSearch_67 ?_
    obtain ⟨a2, ha2, hf⟩ := nn_some hf
    refine rf_0 ha2 ?_
    obtain ⟨hk_a2_8, hf⟩ := gd_some hf
    refine cr_getR kc_7 CX hR fa_X5_75 rfl hk_a2_8 dX5_fillSearch_68 ?_
    refine lv_aload_n hx hb dX5_fillSearch_71 rfl (lv_at hl 2 rfl) ?_
    refine lv_iload_n hx hb dX5_fillSearch_72 rfl (lv_at hl 3 rfl) ?_
    obtain ⟨a3, ha3, hf⟩ := nn_some hf
    refine rf_2 ha3 ?_
    obtain ⟨o73, ho73, hf⟩ := bnd_some hf
    refine cr_callIs CX hR hL hS (As := [.ref a3, .ref x2, .int x3]) (rest := []) (MC_X5_addMissing l x N K a3 x2 x3 M o73 ho73) cs_X5_93 ⟨by omega, by omega⟩ rfl rfl (Nat.le_of_ble_eq_true rfl) hl.1 dX5_fillSearch_73 hcs (fun H locs hR hS => ?_)
    exact (wbC_X5_fillSearch_76 CX hRm) _ _ _ _ _ _ hf hR hS (lv_sub hl [0] rfl)
  · rw [if_neg hc] at hf
    refine lv_iload_n hx hb dX5_fillSearch_55 rfl (lv_at hl 3 rfl) ?_
    refine lv_goto (tgt := 76) hx hb dX5_fillSearch_56 (by decide) ?_
    exact (wbC_X5_fillSearch_76 CX hRm) _ _ _ _ _ _ hf hR hS (lv_sub hl [0] rfl)
def fC_X5_fillSearch (N : Nat) (K : Ka) (x0 : Nat) (x1 : Nat) (x2 : Nat) (M : Cm) : Option (Int32 × Cm) := gd (kd K x0 == 6) (gd (kd K x2 == 22) (ck 0 (le K x2) ((lC_X5_fillSearch_12 N K (bC_X5_fillSearch_48 N K) N) x0 x1 x2 1 0 (wI M x2 (0 : Int32).toNatClampNeg (cI M x0 11)))))
set_option maxRecDepth 100000 in
set_option maxHeartbeats 4000000 in
theorem wfC_X5_fillSearch {p : Program} {l : Launch} {e : Env} {R : Room} {s : State} {m : MethodId} {args : Array Value} {below : List Frame} {meth : Method} {c : Code} {x : Xc} {o : Int32 × Cm} {N : Nat} {K : Ka} (CX : CC p s m args meth c x K RX5 cX5_fillSearch 5 (some .int)) (hRm : 2 ≤ R.frames ∧ 47 ≤ R.locals) (x0 : Nat) (x1 : Nat) (x2 : Nat) (M : Cm) (H : Heap) (locs : List Loc) (ls : Array Slot) (hf : fC_X5_fillSearch N K x0 x1 x2 M = some o) (hR : RC x K M H) (hS : va_S (AC K) s.heap H locs) (hl : lv_has ls 5 [(0, .ref x0), (1, .ref x1), (2, .ref x2)]) : W p l e R s m args below meth c H locs 0 0 (MQ below (CQI x K o) args s 0 0 (AC K)) (F0 m 0 ls []) := by
  obtain ⟨hx, hb, hml, hown, hts, hE, hB, hr, hlk⟩ := id CX
  have hL : KLe K K := KLe.rf K
  have hcs : 0 ≤ R.cells ∧ 0 ≤ R.slots := ⟨Nat.zero_le _, Nat.zero_le _⟩
  unfold fC_X5_fillSearch at hf
  refine lv_aload_n hx hb dX5_fillSearch_0 rfl (lv_at hl 2 rfl) ?_
  refine lv_iconst (v := 0) hx hb dX5_fillSearch_1 (by decide) ?_
  refine lv_aload_n hx hb dX5_fillSearch_2 rfl (lv_at hl 0 rfl) ?_
  obtain ⟨hk_x0_6, hf⟩ := gd_some hf
  refine cr_getI kc_5 CX hR fa_X5_15 rfl hk_x0_6 dX5_fillSearch_3 ?_
  obtain ⟨hk_x2_22, hf⟩ := gd_some hf
  obtain ⟨hi, hf⟩ := ck_some hf
  refine cr_iast CX hR hL hS hk_x2_22 hi dX5_fillSearch_6 (fun H locs hR hS => ?_)
  refine lv_iconst (v := 1) hx hb dX5_fillSearch_7 (by decide) ?_
  refine lv_istore_n (lv' := [(3, .int 1), (0, .ref x0), (1, .ref x1), (2, .ref x2)]) hx hb dX5_fillSearch_8 rfl hl (by decide) rfl (fun ls hl => ?_)
  refine lv_iconst (v := 0) hx hb dX5_fillSearch_9 (by decide) ?_
  refine lv_istore (lv' := [(4, .int 0), (3, .int 1), (0, .ref x0), (1, .ref x1), (2, .ref x2)]) hx hb dX5_fillSearch_10 hl (by decide) rfl (fun ls hl => ?_)
  exact (wlC_X5_fillSearch_12 CX hRm (wbC_X5_fillSearch_48 CX hRm) N) _ _ _ _ _ _ _ _ _ hf hR hS (lv_sub hl [2, 3, 4, 1, 0] rfl)
theorem MC_X5_fillSearch (l : Launch) (x : Xc) (N : Nat) (K : Ka) (x0 : Nat) (x1 : Nat) (x2 : Nat) (M : Cm) (o : Int32 × Cm) (hf : fC_X5_fillSearch N K x0 x1 x2 M = some o) : CtI l x yX5_fillSearch cX5_fillSearch 5 (some .int) 2 47 [.ref x0, .ref x1, .ref x2] K M o :=
  cr_metI RX5 (by decide) rfl (Nat.le_of_ble_eq_true rfl) (fun p e s m args below meth c ls CX hR hl => wfC_X5_fillSearch CX ⟨Nat.le_refl _, Nat.le_refl _⟩ x0 x1 x2 M s.heap [] ls hf hR va_S.rf hl)
def lC_X5_fillClimb_5 (N : Nat) (K : Ka) (k41 : Nat → Nat → Nat → Int32 → Cm → Option (Int32 × Cm)) : Nat → Nat → Nat → Nat → Int32 → Int32 → Cm → Option (Int32 × Cm)
  | 0, _, _, _, _, _, _ => none
  | n + 1, x0, x1, x2, x3, x4, M => gd (kd K x1 == 8) (if (cI M x1 7) ≤ x4 then (k41 x0 x1 x2 x3 M) else (gd (kd K x0 == 6) (nn (cR M x1 2) fun a1 => gd (kd K a1 == 22) (ck x4 (le K a1) (nn (cR M x0 5) fun a2 => gd (kd K a2 == 26) (ck (cI M a1 (x4 : Int32).toNatClampNeg) (le K a2) (nn (cR M a2 (cI M a1 (x4 : Int32).toNatClampNeg : Int32).toNatClampNeg) fun a3 => gd (kd K a3 == 8) (nn (cR M a3 11) fun a4 => (fC_X5_addMissing N K a4 x2 x3 M).bind fun o31 => lC_X5_fillClimb_5 N K k41 n x0 x1 x2 o31.1 (x4 + 1) o31.2))))))))
set_option maxRecDepth 100000 in
set_option maxHeartbeats 4000000 in
theorem wlC_X5_fillClimb_5 {p : Program} {l : Launch} {e : Env} {R : Room} {s : State} {m : MethodId} {args : Array Value} {below : List Frame} {meth : Method} {c : Code} {x : Xc} {o : Int32 × Cm} {N : Nat} {K : Ka} {k41 : Nat → Nat → Nat → Int32 → Cm → Option (Int32 × Cm)} (CX : CC p s m args meth c x K RX5 cX5_fillClimb 5 (some .int)) (hRm : 2 ≤ R.frames ∧ 47 ≤ R.locals) (hk41 : ∀ (x0 : Nat) (x1 : Nat) (x2 : Nat) (x3 : Int32) (M : Cm) (H : Heap) (locs : List Loc) (ls : Array Slot), k41 x0 x1 x2 x3 M = some o → RC x K M H → va_S (AC K) s.heap H locs → lv_has ls 5 [(0, .ref x0), (1, .ref x1), (2, .ref x2), (3, .int x3)] → W p l e R s m args below meth c H locs 0 0 (MQ below (CQI x K o) args s 0 0 (AC K)) (F0 m 41 ls [])) : ∀ (n : Nat) (x0 : Nat) (x1 : Nat) (x2 : Nat) (x3 : Int32) (x4 : Int32) (M : Cm) (H : Heap) (locs : List Loc) (ls : Array Slot), lC_X5_fillClimb_5 N K k41 n x0 x1 x2 x3 x4 M = some o → RC x K M H → va_S (AC K) s.heap H locs → lv_has ls 5 [(0, .ref x0), (1, .ref x1), (2, .ref x2), (3, .int x3), (4, .int x4)] → W p l e R s m args below meth c H locs 0 0 (MQ below (CQI x K o) args s 0 0 (AC K)) (F0 m 5 ls []) := by
  obtain ⟨hx, hb, hml, hown, hts, hE, hB, hr, hlk⟩ := id CX
  have hL : KLe K K := KLe.rf K
  have hcs : 0 ≤ R.cells ∧ 0 ≤ R.slots := ⟨Nat.zero_le _, Nat.zero_le _⟩
  intro n
  induction n with
  | zero => intro x0 x1 x2 x3 x4 M H locs ls hf; cases hf
  | succ n ih =>
    intro x0 x1 x2 x3 x4 M H locs ls hf hR hS hl
    rw [lC_X5_fillClimb_5] at hf
    refine lv_iload hx hb dX5_fillClimb_5 (lv_at hl 4 rfl) ?_
    refine lv_aload_n hx hb dX5_fillClimb_7 rfl (lv_at hl 1 rfl) ?_
    obtain ⟨hk_x1_8, hf⟩ := gd_some hf
    refine cr_getI kc_7 CX hR fa_X5_87 rfl hk_x1_8 dX5_fillClimb_8 ?_
    refine lv_icmp_ge (tgt := 41) hx hb dX5_fillClimb_11 (by decide) (fun hc => ?_) (fun hc => ?_)
    · rw [if_pos hc] at hf
      exact hk41 _ _ _ _ _ _ _ _ hf hR hS (lv_sub hl [0, 1, 2, 3] rfl)
    · rw [if_neg hc] at hf
      refine lv_aload_n hx hb dX5_fillClimb_14 rfl (lv_at hl 0 rfl) ?_
      obtain ⟨hk_x0_6, hf⟩ := gd_some hf
      refine cr_getR kc_5 CX hR fa_X5_49 rfl hk_x0_6 dX5_fillClimb_15 ?_
      refine lv_aload_n hx hb dX5_fillClimb_18 rfl (lv_at hl 1 rfl) ?_
      refine cr_getR kc_7 CX hR fa_X5_90 rfl hk_x1_8 dX5_fillClimb_19 ?_
      refine lv_iload hx hb dX5_fillClimb_22 (lv_at hl 4 rfl) ?_
      obtain ⟨a1, ha1, hf⟩ := nn_some hf
      refine rf_1 ha1 ?_
      obtain ⟨hk_a1_22, hf⟩ := gd_some hf
      obtain ⟨hi, hf⟩ := ck_some hf
      refine cr_iald CX hR hk_a1_22 hi dX5_fillClimb_24 ?_
      obtain ⟨a2, ha2, hf⟩ := nn_some hf
      refine rf_1 ha2 ?_
      obtain ⟨hk_a2_26, hf⟩ := gd_some hf
      obtain ⟨hi, hf⟩ := ck_some hf
      refine cr_uald CX hR hk_a2_26 hi dX5_fillClimb_25 ?_
      obtain ⟨a3, ha3, hf⟩ := nn_some hf
      refine rf_0 ha3 ?_
      obtain ⟨hk_a3_8, hf⟩ := gd_some hf
      refine cr_getR kc_7 CX hR fa_X5_81 rfl hk_a3_8 dX5_fillClimb_26 ?_
      refine lv_aload_n hx hb dX5_fillClimb_29 rfl (lv_at hl 2 rfl) ?_
      refine lv_iload_n hx hb dX5_fillClimb_30 rfl (lv_at hl 3 rfl) ?_
      obtain ⟨a4, ha4, hf⟩ := nn_some hf
      refine rf_2 ha4 ?_
      obtain ⟨o31, ho31, hf⟩ := bnd_some hf
      refine cr_callIs CX hR hL hS (As := [.ref a4, .ref x2, .int x3]) (rest := []) (MC_X5_addMissing l x N K a4 x2 x3 M o31 ho31) cs_X5_93 ⟨by omega, by omega⟩ rfl rfl (Nat.le_of_ble_eq_true rfl) hl.1 dX5_fillClimb_31 hcs (fun H locs hR hS => ?_)
      refine lv_istore_n (lv' := [(3, .int o31.1), (0, .ref x0), (1, .ref x1), (2, .ref x2), (4, .int x4)]) hx hb dX5_fillClimb_34 rfl hl (by decide) rfl (fun ls hl => ?_)
      refine lv_iinc (v := x4 + 1) (lv' := [(4, .int (x4 + 1)), (3, .int o31.1), (0, .ref x0), (1, .ref x1), (2, .ref x2)]) hx hb dX5_fillClimb_35 hl (k := 4) rfl rfl (by decide) rfl (fun ls hl => ?_)
      refine lv_goto (tgt := 5) hx hb dX5_fillClimb_38 (by decide) ?_
      exact ih _ _ _ _ _ _ _ _ _ hf hR hS (lv_sub hl [2, 3, 4, 1, 0] rfl)
def bC_X5_fillClimb_64 (N : Nat) (K : Ka) (x0 : Nat) (x3 : Int32) (M : Cm) : Option (Int32 × Cm) := some (x3, M)
set_option maxRecDepth 100000 in
set_option maxHeartbeats 4000000 in
theorem wbC_X5_fillClimb_64 {p : Program} {l : Launch} {e : Env} {R : Room} {s : State} {m : MethodId} {args : Array Value} {below : List Frame} {meth : Method} {c : Code} {x : Xc} {o : Int32 × Cm} {N : Nat} {K : Ka} (CX : CC p s m args meth c x K RX5 cX5_fillClimb 5 (some .int)) (hRm : 2 ≤ R.frames ∧ 47 ≤ R.locals) (x0 : Nat) (x3 : Int32) (M : Cm) (H : Heap) (locs : List Loc) (ls : Array Slot) (hf : bC_X5_fillClimb_64 N K x0 x3 M = some o) (hR : RC x K M H) (hS : va_S (AC K) s.heap H locs) (hl : lv_has ls 5 [(0, .ref x0), (3, .int x3)]) : W p l e R s m args below meth c H locs 0 0 (MQ below (CQI x K o) args s 0 0 (AC K)) (F0 m 64 ls []) := by
  obtain ⟨hx, hb, hml, hown, hts, hE, hB, hr, hlk⟩ := id CX
  have hL : KLe K K := KLe.rf K
  have hcs : 0 ≤ R.cells ∧ 0 ≤ R.slots := ⟨Nat.zero_le _, Nat.zero_le _⟩
  unfold bC_X5_fillClimb_64 at hf
  refine lv_iload_n hx hb dX5_fillClimb_64 rfl (lv_at hl 1 rfl) ?_
  exact cr_iret CX hR hS hf dX5_fillClimb_65
def bC_X5_fillClimb_41 (N : Nat) (K : Ka) (x0 : Nat) (x1 : Nat) (x2 : Nat) (x3 : Int32) (M : Cm) : Option (Int32 × Cm) := gd (kd K x1 == 8) (if (cI M x1 0) = 0 then (gd (kd K x2 == 22) (if (nI (le K x2)) ≤ x3 then ((bC_X5_fillClimb_64 N K) x0 x3 M) else (gd (kd K x0 == 6) (ck x3 (le K x2) ((bC_X5_fillClimb_64 N K) x0 (x3 + 1) (wI M x2 (x3 : Int32).toNatClampNeg (cI M x0 11))))))) else ((bC_X5_fillClimb_64 N K) x0 x3 M))
set_option maxRecDepth 100000 in
set_option maxHeartbeats 4000000 in
theorem wbC_X5_fillClimb_41 {p : Program} {l : Launch} {e : Env} {R : Room} {s : State} {m : MethodId} {args : Array Value} {below : List Frame} {meth : Method} {c : Code} {x : Xc} {o : Int32 × Cm} {N : Nat} {K : Ka} (CX : CC p s m args meth c x K RX5 cX5_fillClimb 5 (some .int)) (hRm : 2 ≤ R.frames ∧ 47 ≤ R.locals) (x0 : Nat) (x1 : Nat) (x2 : Nat) (x3 : Int32) (M : Cm) (H : Heap) (locs : List Loc) (ls : Array Slot) (hf : bC_X5_fillClimb_41 N K x0 x1 x2 x3 M = some o) (hR : RC x K M H) (hS : va_S (AC K) s.heap H locs) (hl : lv_has ls 5 [(0, .ref x0), (1, .ref x1), (2, .ref x2), (3, .int x3)]) : W p l e R s m args below meth c H locs 0 0 (MQ below (CQI x K o) args s 0 0 (AC K)) (F0 m 41 ls []) := by
  obtain ⟨hx, hb, hml, hown, hts, hE, hB, hr, hlk⟩ := id CX
  have hL : KLe K K := KLe.rf K
  have hcs : 0 ≤ R.cells ∧ 0 ≤ R.slots := ⟨Nat.zero_le _, Nat.zero_le _⟩
  unfold bC_X5_fillClimb_41 at hf
  refine lv_aload_n hx hb dX5_fillClimb_41 rfl (lv_at hl 1 rfl) ?_
  obtain ⟨hk_x1_8, hf⟩ := gd_some hf
  refine cr_getI kc_7 CX hR fa_X5_97 rfl hk_x1_8 dX5_fillClimb_42 ?_
  refine lv_if_ne (tgt := 64) hx hb dX5_fillClimb_45 (by decide) (fun hc => ?_) (fun hc => ?_)
  · rw [if_neg hc] at hf
    exact (wbC_X5_fillClimb_64 CX hRm) _ _ _ _ _ _ hf hR hS (lv_sub hl [0, 3] rfl)
  · rw [if_pos hc] at hf
    refine lv_iload_n hx hb dX5_fillClimb_48 rfl (lv_at hl 3 rfl) ?_
    refine lv_aload_n hx hb dX5_fillClimb_49 rfl (lv_at hl 2 rfl) ?_
    obtain ⟨hk_x2_22, hf⟩ := gd_some hf
    refine cr_ilen CX hR hk_x2_22 dX5_fillClimb_50 ?_
    refine lv_icmp_ge (tgt := 64) hx hb dX5_fillClimb_51 (by decide) (fun hc => ?_) (fun hc => ?_)
    · rw [if_pos hc] at hf
      exact (wbC_X5_fillClimb_64 CX hRm) _ _ _ _ _ _ hf hR hS (lv_sub hl [0, 3] rfl)
    · rw [if_neg hc] at hf
      refine lv_aload_n hx hb dX5_fillClimb_54 rfl (lv_at hl 2 rfl) ?_
      refine lv_iload_n hx hb dX5_fillClimb_55 rfl (lv_at hl 3 rfl) ?_
      refine lv_aload_n hx hb dX5_fillClimb_56 rfl (lv_at hl 0 rfl) ?_
      obtain ⟨hk_x0_6, hf⟩ := gd_some hf
      refine cr_getI kc_5 CX hR fa_X5_15 rfl hk_x0_6 dX5_fillClimb_57 ?_
      obtain ⟨hi, hf⟩ := ck_some hf
      refine cr_iast CX hR hL hS hk_x2_22 hi dX5_fillClimb_60 (fun H locs hR hS => ?_)
      refine lv_iinc (v := x3 + 1) (lv' := [(3, .int (x3 + 1)), (0, .ref x0), (1, .ref x1), (2, .ref x2)]) hx hb dX5_fillClimb_61 hl (k := 3) rfl rfl (by decide) rfl (fun ls hl => ?_)
      exact (wbC_X5_fillClimb_64 CX hRm) _ _ _ _ _ _ hf hR hS (lv_sub hl [1, 0] rfl)
def fC_X5_fillClimb (N : Nat) (K : Ka) (x0 : Nat) (x1 : Nat) (x2 : Nat) (M : Cm) : Option (Int32 × Cm) := (lC_X5_fillClimb_5 N K (bC_X5_fillClimb_41 N K) N) x0 x1 x2 0 0 M
set_option maxRecDepth 100000 in
set_option maxHeartbeats 4000000 in
theorem wfC_X5_fillClimb {p : Program} {l : Launch} {e : Env} {R : Room} {s : State} {m : MethodId} {args : Array Value} {below : List Frame} {meth : Method} {c : Code} {x : Xc} {o : Int32 × Cm} {N : Nat} {K : Ka} (CX : CC p s m args meth c x K RX5 cX5_fillClimb 5 (some .int)) (hRm : 2 ≤ R.frames ∧ 47 ≤ R.locals) (x0 : Nat) (x1 : Nat) (x2 : Nat) (M : Cm) (H : Heap) (locs : List Loc) (ls : Array Slot) (hf : fC_X5_fillClimb N K x0 x1 x2 M = some o) (hR : RC x K M H) (hS : va_S (AC K) s.heap H locs) (hl : lv_has ls 5 [(0, .ref x0), (1, .ref x1), (2, .ref x2)]) : W p l e R s m args below meth c H locs 0 0 (MQ below (CQI x K o) args s 0 0 (AC K)) (F0 m 0 ls []) := by
  obtain ⟨hx, hb, hml, hown, hts, hE, hB, hr, hlk⟩ := id CX
  have hL : KLe K K := KLe.rf K
  have hcs : 0 ≤ R.cells ∧ 0 ≤ R.slots := ⟨Nat.zero_le _, Nat.zero_le _⟩
  unfold fC_X5_fillClimb at hf
  refine lv_iconst (v := 0) hx hb dX5_fillClimb_0 (by decide) ?_
  refine lv_istore_n (lv' := [(3, .int 0), (0, .ref x0), (1, .ref x1), (2, .ref x2)]) hx hb dX5_fillClimb_1 rfl hl (by decide) rfl (fun ls hl => ?_)
  refine lv_iconst (v := 0) hx hb dX5_fillClimb_2 (by decide) ?_
  refine lv_istore (lv' := [(4, .int 0), (3, .int 0), (0, .ref x0), (1, .ref x1), (2, .ref x2)]) hx hb dX5_fillClimb_3 hl (by decide) rfl (fun ls hl => ?_)
  exact (wlC_X5_fillClimb_5 CX hRm (wbC_X5_fillClimb_41 CX hRm) N) _ _ _ _ _ _ _ _ _ hf hR hS (lv_sub hl [2, 3, 4, 1, 0] rfl)
theorem MC_X5_fillClimb (l : Launch) (x : Xc) (N : Nat) (K : Ka) (x0 : Nat) (x1 : Nat) (x2 : Nat) (M : Cm) (o : Int32 × Cm) (hf : fC_X5_fillClimb N K x0 x1 x2 M = some o) : CtI l x yX5_fillClimb cX5_fillClimb 5 (some .int) 2 47 [.ref x0, .ref x1, .ref x2] K M o :=
  cr_metI RX5 (by decide) rfl (Nat.le_of_ble_eq_true rfl) (fun p e s m args below meth c ls CX hR hl => wfC_X5_fillClimb CX ⟨Nat.le_refl _, Nat.le_refl _⟩ x0 x1 x2 M s.heap [] ls hf hR va_S.rf hl)
def bC_X5_addDemand_42 (N : Nat) (K : Ka) (x0 : Nat) (M : Cm) : Option (Cm) := some M
set_option maxRecDepth 100000 in
set_option maxHeartbeats 4000000 in
theorem wbC_X5_addDemand_42 {p : Program} {l : Launch} {e : Env} {R : Room} {s : State} {m : MethodId} {args : Array Value} {below : List Frame} {meth : Method} {c : Code} {x : Xc} {o : Cm} {N : Nat} {K : Ka} (CX : CC p s m args meth c x K RX5 cX5_addDemand 4 none) (hRm : 0 ≤ R.frames ∧ 0 ≤ R.locals) (x0 : Nat) (M : Cm) (H : Heap) (locs : List Loc) (ls : Array Slot) (hf : bC_X5_addDemand_42 N K x0 M = some o) (hR : RC x K M H) (hS : va_S (AC K) s.heap H locs) (hl : lv_has ls 4 [(0, .ref x0)]) : W p l e R s m args below meth c H locs 0 0 (MQ below (CQV x K o) args s 0 0 (AC K)) (F0 m 42 ls []) := by
  obtain ⟨hx, hb, hml, hown, hts, hE, hB, hr, hlk⟩ := id CX
  have hL : KLe K K := KLe.rf K
  have hcs : 0 ≤ R.cells ∧ 0 ≤ R.slots := ⟨Nat.zero_le _, Nat.zero_le _⟩
  unfold bC_X5_addDemand_42 at hf
  exact cr_vret CX hR hS hf dX5_addDemand_42
def fC_X5_addDemand (N : Nat) (K : Ka) (x0 : Nat) (x1 : Int64) (x3 : Int32) (M : Cm) : Option (Cm) := gd (kd K x0 == 6) (nn (cR M x0 7) fun a1 => gd (kd K a1 == 23) (if (nI (le K a1)) ≤ (cI M x0 12) then ((bC_X5_addDemand_42 N K) x0 M) else (nn (cR M x0 7) fun a2 => gd (kd K a2 == 23) (ck (cI M x0 12) (le K a2) (nn (cR (wL M a2 (cI M x0 12 : Int32).toNatClampNeg x1) x0 8) fun a3 => gd (kd K a3 == 22) (ck (cI (wL M a2 (cI M x0 12 : Int32).toNatClampNeg x1) x0 12) (le K a3) ((bC_X5_addDemand_42 N K) x0 (wI (wI (wL M a2 (cI M x0 12 : Int32).toNatClampNeg x1) a3 (cI (wL M a2 (cI M x0 12 : Int32).toNatClampNeg x1) x0 12 : Int32).toNatClampNeg x3) x0 12 ((cI (wI (wL M a2 (cI M x0 12 : Int32).toNatClampNeg x1) a3 (cI (wL M a2 (cI M x0 12 : Int32).toNatClampNeg x1) x0 12 : Int32).toNatClampNeg x3) x0 12) + 1)))))))))
set_option maxRecDepth 100000 in
set_option maxHeartbeats 4000000 in
theorem wfC_X5_addDemand {p : Program} {l : Launch} {e : Env} {R : Room} {s : State} {m : MethodId} {args : Array Value} {below : List Frame} {meth : Method} {c : Code} {x : Xc} {o : Cm} {N : Nat} {K : Ka} (CX : CC p s m args meth c x K RX5 cX5_addDemand 4 none) (hRm : 0 ≤ R.frames ∧ 0 ≤ R.locals) (x0 : Nat) (x1 : Int64) (x3 : Int32) (M : Cm) (H : Heap) (locs : List Loc) (ls : Array Slot) (hf : fC_X5_addDemand N K x0 x1 x3 M = some o) (hR : RC x K M H) (hS : va_S (AC K) s.heap H locs) (hl : lv_has ls 4 [(0, .ref x0), (1, .long x1), (3, .int x3)]) : W p l e R s m args below meth c H locs 0 0 (MQ below (CQV x K o) args s 0 0 (AC K)) (F0 m 0 ls []) := by
  obtain ⟨hx, hb, hml, hown, hts, hE, hB, hr, hlk⟩ := id CX
  have hL : KLe K K := KLe.rf K
  have hcs : 0 ≤ R.cells ∧ 0 ≤ R.slots := ⟨Nat.zero_le _, Nat.zero_le _⟩
  unfold fC_X5_addDemand at hf
  refine lv_aload_n hx hb dX5_addDemand_0 rfl (lv_at hl 0 rfl) ?_
  obtain ⟨hk_x0_6, hf⟩ := gd_some hf
  refine cr_getI kc_5 CX hR fa_X5_18 rfl hk_x0_6 dX5_addDemand_1 ?_
  refine lv_aload_n hx hb dX5_addDemand_4 rfl (lv_at hl 0 rfl) ?_
  refine cr_getR kc_5 CX hR fa_X5_56 rfl hk_x0_6 dX5_addDemand_5 ?_
  obtain ⟨a1, ha1, hf⟩ := nn_some hf
  refine rf_0 ha1 ?_
  obtain ⟨hk_a1_23, hf⟩ := gd_some hf
  refine cr_llen CX hR hk_a1_23 dX5_addDemand_8 ?_
  refine lv_icmp_ge (tgt := 42) hx hb dX5_addDemand_9 (by decide) (fun hc => ?_) (fun hc => ?_)
  · rw [if_pos hc] at hf
    exact (wbC_X5_addDemand_42 CX hRm) _ _ _ _ _ hf hR hS (lv_sub hl [0] rfl)
  · rw [if_neg hc] at hf
    refine lv_aload_n hx hb dX5_addDemand_12 rfl (lv_at hl 0 rfl) ?_
    refine cr_getR kc_5 CX hR fa_X5_56 rfl hk_x0_6 dX5_addDemand_13 ?_
    refine lv_aload_n hx hb dX5_addDemand_16 rfl (lv_at hl 0 rfl) ?_
    refine cr_getI kc_5 CX hR fa_X5_18 rfl hk_x0_6 dX5_addDemand_17 ?_
    refine lv_lload_n hx hb dX5_addDemand_20 rfl (lv_at hl 1 rfl) ?_
    obtain ⟨a2, ha2, hf⟩ := nn_some hf
    refine rf_2 ha2 ?_
    obtain ⟨hk_a2_23, hf⟩ := gd_some hf
    obtain ⟨hi, hf⟩ := ck_some hf
    refine cr_last CX hR hL hS hk_a2_23 hi dX5_addDemand_21 (fun H locs hR hS => ?_)
    refine lv_aload_n hx hb dX5_addDemand_22 rfl (lv_at hl 0 rfl) ?_
    refine cr_getR kc_5 CX hR fa_X5_59 rfl hk_x0_6 dX5_addDemand_23 ?_
    refine lv_aload_n hx hb dX5_addDemand_26 rfl (lv_at hl 0 rfl) ?_
    refine cr_getI kc_5 CX hR fa_X5_18 rfl hk_x0_6 dX5_addDemand_27 ?_
    refine lv_iload_n hx hb dX5_addDemand_30 rfl (lv_at hl 2 rfl) ?_
    obtain ⟨a3, ha3, hf⟩ := nn_some hf
    refine rf_2 ha3 ?_
    obtain ⟨hk_a3_22, hf⟩ := gd_some hf
    obtain ⟨hi, hf⟩ := ck_some hf
    refine cr_iast CX hR hL hS hk_a3_22 hi dX5_addDemand_31 (fun H locs hR hS => ?_)
    refine lv_aload_n hx hb dX5_addDemand_32 rfl (lv_at hl 0 rfl) ?_
    refine lv_dup hx hb dX5_addDemand_33 rfl ?_
    refine cr_getI kc_5 CX hR fa_X5_18 rfl hk_x0_6 dX5_addDemand_34 ?_
    refine lv_iconst (v := 1) hx hb dX5_addDemand_37 (by decide) ?_
    refine lv_iadd hx hb dX5_addDemand_38 ?_
    refine cr_putI kc_5 CX hR hL hS fa_X5_18 ⟨rfl, rfl, rfl⟩ hk_x0_6 dX5_addDemand_39 (fun H locs hR hS => ?_)
    exact (wbC_X5_addDemand_42 CX hRm) _ _ _ _ _ hf hR hS (lv_sub hl [0] rfl)
theorem MC_X5_addDemand (l : Launch) (x : Xc) (N : Nat) (K : Ka) (x0 : Nat) (x1 : Int64) (x3 : Int32) (M : Cm) (o : Cm) (hf : fC_X5_addDemand N K x0 x1 x3 M = some o) : CtV l x yX5_addDemand cX5_addDemand 4 0 0 [.ref x0, .long x1, .int x3] K M o :=
  cr_metV RX5 (by decide) rfl (Nat.le_of_ble_eq_true rfl) (fun p e s m args below meth c ls CX hR hl => wfC_X5_addDemand CX ⟨Nat.le_refl _, Nat.le_refl _⟩ x0 x1 x3 M s.heap [] ls hf hR va_S.rf hl)
def bC_X5_isTold_50 (N : Nat) (K : Ka) (x0 : Nat) (s0 : Int32) (M : Cm) : Option (Int32 × Cm) := gd (is01 s0) (some (s0, M))
set_option maxRecDepth 100000 in
set_option maxHeartbeats 4000000 in
theorem wbC_X5_isTold_50 {p : Program} {l : Launch} {e : Env} {R : Room} {s : State} {m : MethodId} {args : Array Value} {below : List Frame} {meth : Method} {c : Code} {x : Xc} {o : Int32 × Cm} {N : Nat} {K : Ka} (CX : CC p s m args meth c x K RX5 cX5_isTold 3 (some .boolean)) (hRm : 1 ≤ R.frames ∧ 24 ≤ R.locals) (x0 : Nat) (s0 : Int32) (M : Cm) (H : Heap) (locs : List Loc) (ls : Array Slot) (hf : bC_X5_isTold_50 N K x0 s0 M = some o) (hR : RC x K M H) (hS : va_S (AC K) s.heap H locs) (hl : lv_has ls 3 [(0, .ref x0)]) : W p l e R s m args below meth c H locs 0 0 (MQ below (CQI x K o) args s 0 0 (AC K)) (F0 m 50 ls [.int s0]) := by
  obtain ⟨hx, hb, hml, hown, hts, hE, hB, hr, hlk⟩ := id CX
  have hL : KLe K K := KLe.rf K
  have hcs : 0 ≤ R.cells ∧ 0 ≤ R.slots := ⟨Nat.zero_le _, Nat.zero_le _⟩
  unfold bC_X5_isTold_50 at hf
  obtain ⟨hz, hf⟩ := gd_some hf
  exact cr_zret CX hR hS hz hf dX5_isTold_50
def bC_X5_isTold_45 (N : Nat) (K : Ka) (x0 : Nat) (M : Cm) : Option (Int32 × Cm) := (bC_X5_isTold_50 N K) x0 1 M
set_option maxRecDepth 100000 in
set_option maxHeartbeats 4000000 in
theorem wbC_X5_isTold_45 {p : Program} {l : Launch} {e : Env} {R : Room} {s : State} {m : MethodId} {args : Array Value} {below : List Frame} {meth : Method} {c : Code} {x : Xc} {o : Int32 × Cm} {N : Nat} {K : Ka} (CX : CC p s m args meth c x K RX5 cX5_isTold 3 (some .boolean)) (hRm : 1 ≤ R.frames ∧ 24 ≤ R.locals) (x0 : Nat) (M : Cm) (H : Heap) (locs : List Loc) (ls : Array Slot) (hf : bC_X5_isTold_45 N K x0 M = some o) (hR : RC x K M H) (hS : va_S (AC K) s.heap H locs) (hl : lv_has ls 3 [(0, .ref x0)]) : W p l e R s m args below meth c H locs 0 0 (MQ below (CQI x K o) args s 0 0 (AC K)) (F0 m 45 ls []) := by
  obtain ⟨hx, hb, hml, hown, hts, hE, hB, hr, hlk⟩ := id CX
  have hL : KLe K K := KLe.rf K
  have hcs : 0 ≤ R.cells ∧ 0 ≤ R.slots := ⟨Nat.zero_le _, Nat.zero_le _⟩
  unfold bC_X5_isTold_45 at hf
  refine lv_iconst (v := 1) hx hb dX5_isTold_45 (by decide) ?_
  refine lv_goto (tgt := 50) hx hb dX5_isTold_46 (by decide) ?_
  exact (wbC_X5_isTold_50 CX hRm) _ _ _ _ _ _ hf hR hS (lv_sub hl [0] rfl)
def fC_X5_isTold (N : Nat) (K : Ka) (x0 : Nat) (x1 : Int64) (M : Cm) : Option (Int32 × Cm) := gd (kd K x0 == 6) (nn (cR M x0 0) fun a1 => (fC_X8_rankOf N K x1 a1 (cI M x0 10) M).bind fun o9 => if 0 ≤ o9.1 then ((bC_X5_isTold_45 N K) x0 o9.2) else (nn (cR o9.2 x0 4) fun a2 => (fC_X8_rankOf N K x1 a2 (cI o9.2 x0 11) o9.2).bind fun o24 => if 0 ≤ o24.1 then ((bC_X5_isTold_45 N K) x0 o24.2) else (nn (cR o24.2 x0 7) fun a3 => (fC_X8_rankOf N K x1 a3 (cI o24.2 x0 12) o24.2).bind fun o39 => if o39.1 < 0 then ((bC_X5_isTold_50 N K) x0 0 o39.2) else ((bC_X5_isTold_45 N K) x0 o39.2))))
set_option maxRecDepth 100000 in
set_option maxHeartbeats 4000000 in
theorem wfC_X5_isTold {p : Program} {l : Launch} {e : Env} {R : Room} {s : State} {m : MethodId} {args : Array Value} {below : List Frame} {meth : Method} {c : Code} {x : Xc} {o : Int32 × Cm} {N : Nat} {K : Ka} (CX : CC p s m args meth c x K RX5 cX5_isTold 3 (some .boolean)) (hRm : 1 ≤ R.frames ∧ 24 ≤ R.locals) (x0 : Nat) (x1 : Int64) (M : Cm) (H : Heap) (locs : List Loc) (ls : Array Slot) (hf : fC_X5_isTold N K x0 x1 M = some o) (hR : RC x K M H) (hS : va_S (AC K) s.heap H locs) (hl : lv_has ls 3 [(0, .ref x0), (1, .long x1)]) : W p l e R s m args below meth c H locs 0 0 (MQ below (CQI x K o) args s 0 0 (AC K)) (F0 m 0 ls []) := by
  obtain ⟨hx, hb, hml, hown, hts, hE, hB, hr, hlk⟩ := id CX
  have hL : KLe K K := KLe.rf K
  have hcs : 0 ≤ R.cells ∧ 0 ≤ R.slots := ⟨Nat.zero_le _, Nat.zero_le _⟩
  unfold fC_X5_isTold at hf
  refine lv_lload_n hx hb dX5_isTold_0 rfl (lv_at hl 1 rfl) ?_
  refine lv_aload_n hx hb dX5_isTold_1 rfl (lv_at hl 0 rfl) ?_
  obtain ⟨hk_x0_6, hf⟩ := gd_some hf
  refine cr_getR kc_5 CX hR fa_X5_30 rfl hk_x0_6 dX5_isTold_2 ?_
  refine lv_aload_n hx hb dX5_isTold_5 rfl (lv_at hl 0 rfl) ?_
  refine cr_getI kc_5 CX hR fa_X5_9 rfl hk_x0_6 dX5_isTold_6 ?_
  obtain ⟨a1, ha1, hf⟩ := nn_some hf
  refine rf_1 ha1 ?_
  obtain ⟨o9, ho9, hf⟩ := bnd_some hf
  refine cr_callIs CX hR hL hS (As := [.long x1, .ref a1, .int (cI M x0 10)]) (rest := []) (MC_X8_rankOf l x N K x1 a1 (cI M x0 10) M o9 ho9) cs_X5_105 ⟨by omega, by omega⟩ rfl rfl (Nat.le_of_ble_eq_true rfl) hl.1 dX5_isTold_9 hcs (fun H locs hR hS => ?_)
  refine lv_if_ge (tgt := 45) hx hb dX5_isTold_12 (by decide) (fun hc => ?_) (fun hc => ?_)
  · rw [if_pos hc] at hf
    exact (wbC_X5_isTold_45 CX hRm) _ _ _ _ _ hf hR hS (lv_sub hl [0] rfl)
  · rw [if_neg hc] at hf
    refine lv_lload_n hx hb dX5_isTold_15 rfl (lv_at hl 1 rfl) ?_
    refine lv_aload_n hx hb dX5_isTold_16 rfl (lv_at hl 0 rfl) ?_
    refine cr_getR kc_5 CX hR fa_X5_44 rfl hk_x0_6 dX5_isTold_17 ?_
    refine lv_aload_n hx hb dX5_isTold_20 rfl (lv_at hl 0 rfl) ?_
    refine cr_getI kc_5 CX hR fa_X5_15 rfl hk_x0_6 dX5_isTold_21 ?_
    obtain ⟨a2, ha2, hf⟩ := nn_some hf
    refine rf_1 ha2 ?_
    obtain ⟨o24, ho24, hf⟩ := bnd_some hf
    refine cr_callIs CX hR hL hS (As := [.long x1, .ref a2, .int (cI o9.2 x0 11)]) (rest := []) (MC_X8_rankOf l x N K x1 a2 (cI o9.2 x0 11) o9.2 o24 ho24) cs_X5_105 ⟨by omega, by omega⟩ rfl rfl (Nat.le_of_ble_eq_true rfl) hl.1 dX5_isTold_24 hcs (fun H locs hR hS => ?_)
    refine lv_if_ge (tgt := 45) hx hb dX5_isTold_27 (by decide) (fun hc => ?_) (fun hc => ?_)
    · rw [if_pos hc] at hf
      exact (wbC_X5_isTold_45 CX hRm) _ _ _ _ _ hf hR hS (lv_sub hl [0] rfl)
    · rw [if_neg hc] at hf
      refine lv_lload_n hx hb dX5_isTold_30 rfl (lv_at hl 1 rfl) ?_
      refine lv_aload_n hx hb dX5_isTold_31 rfl (lv_at hl 0 rfl) ?_
      refine cr_getR kc_5 CX hR fa_X5_56 rfl hk_x0_6 dX5_isTold_32 ?_
      refine lv_aload_n hx hb dX5_isTold_35 rfl (lv_at hl 0 rfl) ?_
      refine cr_getI kc_5 CX hR fa_X5_18 rfl hk_x0_6 dX5_isTold_36 ?_
      obtain ⟨a3, ha3, hf⟩ := nn_some hf
      refine rf_1 ha3 ?_
      obtain ⟨o39, ho39, hf⟩ := bnd_some hf
      refine cr_callIs CX hR hL hS (As := [.long x1, .ref a3, .int (cI o24.2 x0 12)]) (rest := []) (MC_X8_rankOf l x N K x1 a3 (cI o24.2 x0 12) o24.2 o39 ho39) cs_X5_105 ⟨by omega, by omega⟩ rfl rfl (Nat.le_of_ble_eq_true rfl) hl.1 dX5_isTold_39 hcs (fun H locs hR hS => ?_)
      refine lv_if_lt (tgt := 49) hx hb dX5_isTold_42 (by decide) (fun hc => ?_) (fun hc => ?_)
      · rw [if_pos hc] at hf
        refine lv_iconst (v := 0) hx hb dX5_isTold_49 (by decide) ?_
        exact (wbC_X5_isTold_50 CX hRm) _ _ _ _ _ _ hf hR hS (lv_sub hl [0] rfl)
      · rw [if_neg hc] at hf
        exact (wbC_X5_isTold_45 CX hRm) _ _ _ _ _ hf hR hS (lv_sub hl [0] rfl)
theorem MC_X5_isTold (l : Launch) (x : Xc) (N : Nat) (K : Ka) (x0 : Nat) (x1 : Int64) (M : Cm) (o : Int32 × Cm) (hf : fC_X5_isTold N K x0 x1 M = some o) : CtI l x yX5_isTold cX5_isTold 3 (some .boolean) 1 24 [.ref x0, .long x1] K M o :=
  cr_metI RX5 (by decide) rfl (Nat.le_of_ble_eq_true rfl) (fun p e s m args below meth c ls CX hR hl => wfC_X5_isTold CX ⟨Nat.le_refl _, Nat.le_refl _⟩ x0 x1 M s.heap [] ls hf hR va_S.rf hl)
def bC_X5_aimHere_37 (N : Nat) (K : Ka) (x0 : Nat) (M : Cm) : Option (Cm) := some M
set_option maxRecDepth 100000 in
set_option maxHeartbeats 4000000 in
theorem wbC_X5_aimHere_37 {p : Program} {l : Launch} {e : Env} {R : Room} {s : State} {m : MethodId} {args : Array Value} {below : List Frame} {meth : Method} {c : Code} {x : Xc} {o : Cm} {N : Nat} {K : Ka} (CX : CC p s m args meth c x K RX5 cX5_aimHere 2 none) (hRm : 1 ≤ R.frames ∧ 22 ≤ R.locals) (x0 : Nat) (M : Cm) (H : Heap) (locs : List Loc) (ls : Array Slot) (hf : bC_X5_aimHere_37 N K x0 M = some o) (hR : RC x K M H) (hS : va_S (AC K) s.heap H locs) (hl : lv_has ls 2 [(0, .ref x0)]) : W p l e R s m args below meth c H locs 0 0 (MQ below (CQV x K o) args s 0 0 (AC K)) (F0 m 37 ls []) := by
  obtain ⟨hx, hb, hml, hown, hts, hE, hB, hr, hlk⟩ := id CX
  have hL : KLe K K := KLe.rf K
  have hcs : 0 ≤ R.cells ∧ 0 ≤ R.slots := ⟨Nat.zero_le _, Nat.zero_le _⟩
  unfold bC_X5_aimHere_37 at hf
  exact cr_vret CX hR hS hf dX5_aimHere_37
def fC_X5_aimHere (N : Nat) (K : Ka) (x0 : Nat) (x1 : Int32) (M : Cm) : Option (Cm) := if x1 < 0 then ((bC_X5_aimHere_37 N K) x0 M) else (gd (kd K x0 == 6) (if (cI M x0 13) ≤ x1 then ((bC_X5_aimHere_37 N K) x0 M) else (nn (cR M x0 9) fun a1 => gd (kd K a1 == 23) (ck x1 (le K a1) (nn (cR M x0 9) fun a2 => (fC_X5_word N K (((cL M a1 (x1 : Int32).toNatClampNeg : Int64).toInt32) &&& 255) (cI M x0 13) 0 M).bind fun o33 => gd (kd K a2 == 23) (ck x1 (le K a2) ((bC_X5_aimHere_37 N K) x0 (wL o33.2 a2 (x1 : Int32).toNatClampNeg o33.1))))))))
set_option maxRecDepth 100000 in
set_option maxHeartbeats 4000000 in
theorem wfC_X5_aimHere {p : Program} {l : Launch} {e : Env} {R : Room} {s : State} {m : MethodId} {args : Array Value} {below : List Frame} {meth : Method} {c : Code} {x : Xc} {o : Cm} {N : Nat} {K : Ka} (CX : CC p s m args meth c x K RX5 cX5_aimHere 2 none) (hRm : 1 ≤ R.frames ∧ 22 ≤ R.locals) (x0 : Nat) (x1 : Int32) (M : Cm) (H : Heap) (locs : List Loc) (ls : Array Slot) (hf : fC_X5_aimHere N K x0 x1 M = some o) (hR : RC x K M H) (hS : va_S (AC K) s.heap H locs) (hl : lv_has ls 2 [(0, .ref x0), (1, .int x1)]) : W p l e R s m args below meth c H locs 0 0 (MQ below (CQV x K o) args s 0 0 (AC K)) (F0 m 0 ls []) := by
  obtain ⟨hx, hb, hml, hown, hts, hE, hB, hr, hlk⟩ := id CX
  have hL : KLe K K := KLe.rf K
  have hcs : 0 ≤ R.cells ∧ 0 ≤ R.slots := ⟨Nat.zero_le _, Nat.zero_le _⟩
  unfold fC_X5_aimHere at hf
  refine lv_iload_n hx hb dX5_aimHere_0 rfl (lv_at hl 1 rfl) ?_
  refine lv_if_lt (tgt := 37) hx hb dX5_aimHere_1 (by decide) (fun hc => ?_) (fun hc => ?_)
  · rw [if_pos hc] at hf
    exact (wbC_X5_aimHere_37 CX hRm) _ _ _ _ _ hf hR hS (lv_sub hl [0] rfl)
  · rw [if_neg hc] at hf
    refine lv_iload_n hx hb dX5_aimHere_4 rfl (lv_at hl 1 rfl) ?_
    refine lv_aload_n hx hb dX5_aimHere_5 rfl (lv_at hl 0 rfl) ?_
    obtain ⟨hk_x0_6, hf⟩ := gd_some hf
    refine cr_getI kc_5 CX hR fa_X5_21 rfl hk_x0_6 dX5_aimHere_6 ?_
    refine lv_icmp_ge (tgt := 37) hx hb dX5_aimHere_9 (by decide) (fun hc => ?_) (fun hc => ?_)
    · rw [if_pos hc] at hf
      exact (wbC_X5_aimHere_37 CX hRm) _ _ _ _ _ hf hR hS (lv_sub hl [0] rfl)
    · rw [if_neg hc] at hf
      refine lv_aload_n hx hb dX5_aimHere_12 rfl (lv_at hl 0 rfl) ?_
      refine cr_getR kc_5 CX hR fa_X5_62 rfl hk_x0_6 dX5_aimHere_13 ?_
      refine lv_iload_n hx hb dX5_aimHere_16 rfl (lv_at hl 1 rfl) ?_
      refine lv_aload_n hx hb dX5_aimHere_17 rfl (lv_at hl 0 rfl) ?_
      refine cr_getR kc_5 CX hR fa_X5_62 rfl hk_x0_6 dX5_aimHere_18 ?_
      refine lv_iload_n hx hb dX5_aimHere_21 rfl (lv_at hl 1 rfl) ?_
      obtain ⟨a1, ha1, hf⟩ := nn_some hf
      refine rf_1 ha1 ?_
      obtain ⟨hk_a1_23, hf⟩ := gd_some hf
      obtain ⟨hi, hf⟩ := ck_some hf
      refine cr_lald CX hR hk_a1_23 hi dX5_aimHere_22 ?_
      refine lv_l2i (v := (cL M a1 (x1 : Int32).toNatClampNeg : Int64).toInt32) hx hb dX5_aimHere_23 rfl ?_
      refine lv_sipush (v := 255) hx hb dX5_aimHere_24 (by decide) ?_
      refine lv_iand hx hb dX5_aimHere_27 ?_
      refine lv_aload_n hx hb dX5_aimHere_28 rfl (lv_at hl 0 rfl) ?_
      refine cr_getI kc_5 CX hR fa_X5_21 rfl hk_x0_6 dX5_aimHere_29 ?_
      refine lv_iconst (v := 0) hx hb dX5_aimHere_32 (by decide) ?_
      obtain ⟨a2, ha2, hf⟩ := nn_some hf
      refine rf_4 ha2 ?_
      obtain ⟨o33, ho33, hf⟩ := bnd_some hf
      refine cr_callLs CX hR hL hS (As := [.int (((cL M a1 (x1 : Int32).toNatClampNeg : Int64).toInt32) &&& 255), .int (cI M x0 13), .int 0]) (rest := [.int x1, .ref a2]) (MC_X5_word l x N K (((cL M a1 (x1 : Int32).toNatClampNeg : Int64).toInt32) &&& 255) (cI M x0 13) 0 M o33 ho33) cs_X5_126 ⟨by omega, by omega⟩ rfl rfl (Nat.le_of_ble_eq_true rfl) hl.1 dX5_aimHere_33 hcs (fun H locs hR hS => ?_)
      obtain ⟨hk_a2_23, hf⟩ := gd_some hf
      obtain ⟨hi, hf⟩ := ck_some hf
      refine cr_last CX hR hL hS hk_a2_23 hi dX5_aimHere_36 (fun H locs hR hS => ?_)
      exact (wbC_X5_aimHere_37 CX hRm) _ _ _ _ _ hf hR hS (lv_sub hl [0] rfl)
theorem MC_X5_aimHere (l : Launch) (x : Xc) (N : Nat) (K : Ka) (x0 : Nat) (x1 : Int32) (M : Cm) (o : Cm) (hf : fC_X5_aimHere N K x0 x1 M = some o) : CtV l x yX5_aimHere cX5_aimHere 2 1 22 [.ref x0, .int x1] K M o :=
  cr_metV RX5 (by decide) rfl (Nat.le_of_ble_eq_true rfl) (fun p e s m args below meth c ls CX hR hl => wfC_X5_aimHere CX ⟨Nat.le_refl _, Nat.le_refl _⟩ x0 x1 M s.heap [] ls hf hR va_S.rf hl)
def bC_X5_leaning_19 (N : Nat) (K : Ka) (x0 : Nat) (s0 : Int32) (M : Cm) : Option (Int32 × Cm) := gd (is01 s0) (some (s0, M))
set_option maxRecDepth 100000 in
set_option maxHeartbeats 4000000 in
theorem wbC_X5_leaning_19 {p : Program} {l : Launch} {e : Env} {R : Room} {s : State} {m : MethodId} {args : Array Value} {below : List Frame} {meth : Method} {c : Code} {x : Xc} {o : Int32 × Cm} {N : Nat} {K : Ka} (CX : CC p s m args meth c x K RX5 cX5_leaning 3 (some .boolean)) (hRm : 0 ≤ R.frames ∧ 0 ≤ R.locals) (x0 : Nat) (s0 : Int32) (M : Cm) (H : Heap) (locs : List Loc) (ls : Array Slot) (hf : bC_X5_leaning_19 N K x0 s0 M = some o) (hR : RC x K M H) (hS : va_S (AC K) s.heap H locs) (hl : lv_has ls 3 [(0, .ref x0)]) : W p l e R s m args below meth c H locs 0 0 (MQ below (CQI x K o) args s 0 0 (AC K)) (F0 m 19 ls [.int s0]) := by
  obtain ⟨hx, hb, hml, hown, hts, hE, hB, hr, hlk⟩ := id CX
  have hL : KLe K K := KLe.rf K
  have hcs : 0 ≤ R.cells ∧ 0 ≤ R.slots := ⟨Nat.zero_le _, Nat.zero_le _⟩
  unfold bC_X5_leaning_19 at hf
  obtain ⟨hz, hf⟩ := gd_some hf
  exact cr_zret CX hR hS hz hf dX5_leaning_19
def fC_X5_leaning (N : Nat) (K : Ka) (x0 : Nat) (x1 : Int32) (x2 : Int32) (M : Cm) : Option (Int32 × Cm) := gd (kd K x0 == 6) (nn (cR M x0 6) fun a1 => gd (kd K a1 == 22) (ck x1 (le K a1) (if (((cI M a1 (x1 : Int32).toNatClampNeg) >>> (x2 &&& 31)) &&& 1) = 1 then ((bC_X5_leaning_19 N K) x0 1 M) else ((bC_X5_leaning_19 N K) x0 0 M))))
set_option maxRecDepth 100000 in
set_option maxHeartbeats 4000000 in
theorem wfC_X5_leaning {p : Program} {l : Launch} {e : Env} {R : Room} {s : State} {m : MethodId} {args : Array Value} {below : List Frame} {meth : Method} {c : Code} {x : Xc} {o : Int32 × Cm} {N : Nat} {K : Ka} (CX : CC p s m args meth c x K RX5 cX5_leaning 3 (some .boolean)) (hRm : 0 ≤ R.frames ∧ 0 ≤ R.locals) (x0 : Nat) (x1 : Int32) (x2 : Int32) (M : Cm) (H : Heap) (locs : List Loc) (ls : Array Slot) (hf : fC_X5_leaning N K x0 x1 x2 M = some o) (hR : RC x K M H) (hS : va_S (AC K) s.heap H locs) (hl : lv_has ls 3 [(0, .ref x0), (1, .int x1), (2, .int x2)]) : W p l e R s m args below meth c H locs 0 0 (MQ below (CQI x K o) args s 0 0 (AC K)) (F0 m 0 ls []) := by
  obtain ⟨hx, hb, hml, hown, hts, hE, hB, hr, hlk⟩ := id CX
  have hL : KLe K K := KLe.rf K
  have hcs : 0 ≤ R.cells ∧ 0 ≤ R.slots := ⟨Nat.zero_le _, Nat.zero_le _⟩
  unfold fC_X5_leaning at hf
  refine lv_aload_n hx hb dX5_leaning_0 rfl (lv_at hl 0 rfl) ?_
  obtain ⟨hk_x0_6, hf⟩ := gd_some hf
  refine cr_getR kc_5 CX hR fa_X5_53 rfl hk_x0_6 dX5_leaning_1 ?_
  refine lv_iload_n hx hb dX5_leaning_4 rfl (lv_at hl 1 rfl) ?_
  obtain ⟨a1, ha1, hf⟩ := nn_some hf
  refine rf_1 ha1 ?_
  obtain ⟨hk_a1_22, hf⟩ := gd_some hf
  obtain ⟨hi, hf⟩ := ck_some hf
  refine cr_iald CX hR hk_a1_22 hi dX5_leaning_5 ?_
  refine lv_iload_n hx hb dX5_leaning_6 rfl (lv_at hl 2 rfl) ?_
  refine lv_ishr hx hb dX5_leaning_7 ?_
  refine lv_iconst (v := 1) hx hb dX5_leaning_8 (by decide) ?_
  refine lv_iand hx hb dX5_leaning_9 ?_
  refine lv_iconst (v := 1) hx hb dX5_leaning_10 (by decide) ?_
  refine lv_icmp_ne (tgt := 18) hx hb dX5_leaning_11 (by decide) (fun hc => ?_) (fun hc => ?_)
  · rw [if_neg hc] at hf
    refine lv_iconst (v := 0) hx hb dX5_leaning_18 (by decide) ?_
    exact (wbC_X5_leaning_19 CX hRm) _ _ _ _ _ _ hf hR hS (lv_sub hl [0] rfl)
  · rw [if_pos hc] at hf
    refine lv_iconst (v := 1) hx hb dX5_leaning_14 (by decide) ?_
    refine lv_goto (tgt := 19) hx hb dX5_leaning_15 (by decide) ?_
    exact (wbC_X5_leaning_19 CX hRm) _ _ _ _ _ _ hf hR hS (lv_sub hl [0] rfl)
theorem MC_X5_leaning (l : Launch) (x : Xc) (N : Nat) (K : Ka) (x0 : Nat) (x1 : Int32) (x2 : Int32) (M : Cm) (o : Int32 × Cm) (hf : fC_X5_leaning N K x0 x1 x2 M = some o) : CtI l x yX5_leaning cX5_leaning 3 (some .boolean) 0 0 [.ref x0, .int x1, .int x2] K M o :=
  cr_metI RX5 (by decide) rfl (Nat.le_of_ble_eq_true rfl) (fun p e s m args below meth c ls CX hR hl => wfC_X5_leaning CX ⟨Nat.le_refl _, Nat.le_refl _⟩ x0 x1 x2 M s.heap [] ls hf hR va_S.rf hl)
def bC_X5_spreadLeans_44 (N : Nat) (K : Ka) (r12 : Nat → Int32 → Int32 → Cm → Option (Cm)) (k50 : Nat → Int32 → Cm → Option (Cm)) (x0 : Nat) (x1 : Int32) (x2 : Int32) (M : Cm) : Option (Cm) := r12 x0 x1 (x2 + 1) M
set_option maxRecDepth 100000 in
set_option maxHeartbeats 4000000 in
theorem wbC_X5_spreadLeans_44 {p : Program} {l : Launch} {e : Env} {R : Room} {s : State} {m : MethodId} {args : Array Value} {below : List Frame} {meth : Method} {c : Code} {x : Xc} {o : Cm} {N : Nat} {K : Ka} {r12 : Nat → Int32 → Int32 → Cm → Option (Cm)} {k50 : Nat → Int32 → Cm → Option (Cm)} (CX : CC p s m args meth c x K RX5 cX5_spreadLeans 3 none) (hRm : 1 ≤ R.frames ∧ 22 ≤ R.locals) (hr12 : ∀ (x0 : Nat) (x1 : Int32) (x2 : Int32) (M : Cm) (H : Heap) (locs : List Loc) (ls : Array Slot), r12 x0 x1 x2 M = some o → RC x K M H → va_S (AC K) s.heap H locs → lv_has ls 3 [(0, .ref x0), (1, .int x1), (2, .int x2)] → W p l e R s m args below meth c H locs 0 0 (MQ below (CQV x K o) args s 0 0 (AC K)) (F0 m 12 ls [])) (hk50 : ∀ (x0 : Nat) (x1 : Int32) (M : Cm) (H : Heap) (locs : List Loc) (ls : Array Slot), k50 x0 x1 M = some o → RC x K M H → va_S (AC K) s.heap H locs → lv_has ls 3 [(0, .ref x0), (1, .int x1)] → W p l e R s m args below meth c H locs 0 0 (MQ below (CQV x K o) args s 0 0 (AC K)) (F0 m 50 ls [])) (x0 : Nat) (x1 : Int32) (x2 : Int32) (M : Cm) (H : Heap) (locs : List Loc) (ls : Array Slot) (hf : bC_X5_spreadLeans_44 N K r12 k50 x0 x1 x2 M = some o) (hR : RC x K M H) (hS : va_S (AC K) s.heap H locs) (hl : lv_has ls 3 [(0, .ref x0), (1, .int x1), (2, .int x2)]) : W p l e R s m args below meth c H locs 0 0 (MQ below (CQV x K o) args s 0 0 (AC K)) (F0 m 44 ls []) := by
  obtain ⟨hx, hb, hml, hown, hts, hE, hB, hr, hlk⟩ := id CX
  have hL : KLe K K := KLe.rf K
  have hcs : 0 ≤ R.cells ∧ 0 ≤ R.slots := ⟨Nat.zero_le _, Nat.zero_le _⟩
  unfold bC_X5_spreadLeans_44 at hf
  refine lv_iinc (v := x2 + 1) (lv' := [(2, .int (x2 + 1)), (0, .ref x0), (1, .int x1)]) hx hb dX5_spreadLeans_44 hl (k := 2) rfl rfl (by decide) rfl (fun ls hl => ?_)
  refine lv_goto (tgt := 12) hx hb dX5_spreadLeans_47 (by decide) ?_
  exact hr12 _ _ _ _ _ _ _ hf hR hS (lv_sub hl [1, 2, 0] rfl)
def lC_X5_spreadLeans_12 (N : Nat) (K : Ka) (k50 : Nat → Int32 → Cm → Option (Cm)) : Nat → Nat → Int32 → Int32 → Cm → Option (Cm)
  | 0, _, _, _, _ => none
  | n + 1, x0, x1, x2, M => gd (kd K x0 == 6) (if (cI M x0 11) ≤ x2 then (k50 x0 x1 M) else ((fC_X5_leaning N K x0 x2 x1 M).bind fun o23 => if o23.1 = 0 then ((bC_X5_spreadLeans_44 N K (lC_X5_spreadLeans_12 N K k50 n) k50) x0 x1 x2 o23.2) else (nn (cR o23.2 x0 6) fun a1 => gd (kd K a1 == 22) (ck x2 (le K a1) (nn (cR o23.2 x0 6) fun a2 => gd (kd K a2 == 22) (ck x1 (le K a2) (ck x2 (le K a1) ((bC_X5_spreadLeans_44 N K (lC_X5_spreadLeans_12 N K k50 n) k50) x0 x1 x2 (wI o23.2 a1 (x2 : Int32).toNatClampNeg ((cI o23.2 a1 (x2 : Int32).toNatClampNeg) ||| (cI o23.2 a2 (x1 : Int32).toNatClampNeg)))))))))))
set_option maxRecDepth 100000 in
set_option maxHeartbeats 4000000 in
theorem wlC_X5_spreadLeans_12 {p : Program} {l : Launch} {e : Env} {R : Room} {s : State} {m : MethodId} {args : Array Value} {below : List Frame} {meth : Method} {c : Code} {x : Xc} {o : Cm} {N : Nat} {K : Ka} {k50 : Nat → Int32 → Cm → Option (Cm)} (CX : CC p s m args meth c x K RX5 cX5_spreadLeans 3 none) (hRm : 1 ≤ R.frames ∧ 22 ≤ R.locals) (hk50 : ∀ (x0 : Nat) (x1 : Int32) (M : Cm) (H : Heap) (locs : List Loc) (ls : Array Slot), k50 x0 x1 M = some o → RC x K M H → va_S (AC K) s.heap H locs → lv_has ls 3 [(0, .ref x0), (1, .int x1)] → W p l e R s m args below meth c H locs 0 0 (MQ below (CQV x K o) args s 0 0 (AC K)) (F0 m 50 ls [])) : ∀ (n : Nat) (x0 : Nat) (x1 : Int32) (x2 : Int32) (M : Cm) (H : Heap) (locs : List Loc) (ls : Array Slot), lC_X5_spreadLeans_12 N K k50 n x0 x1 x2 M = some o → RC x K M H → va_S (AC K) s.heap H locs → lv_has ls 3 [(0, .ref x0), (1, .int x1), (2, .int x2)] → W p l e R s m args below meth c H locs 0 0 (MQ below (CQV x K o) args s 0 0 (AC K)) (F0 m 12 ls []) := by
  obtain ⟨hx, hb, hml, hown, hts, hE, hB, hr, hlk⟩ := id CX
  have hL : KLe K K := KLe.rf K
  have hcs : 0 ≤ R.cells ∧ 0 ≤ R.slots := ⟨Nat.zero_le _, Nat.zero_le _⟩
  intro n
  induction n with
  | zero => intro x0 x1 x2 M H locs ls hf; cases hf
  | succ n ih =>
    intro x0 x1 x2 M H locs ls hf hR hS hl
    rw [lC_X5_spreadLeans_12] at hf
    refine lv_iload_n hx hb dX5_spreadLeans_12 rfl (lv_at hl 2 rfl) ?_
    refine lv_aload_n hx hb dX5_spreadLeans_13 rfl (lv_at hl 0 rfl) ?_
    obtain ⟨hk_x0_6, hf⟩ := gd_some hf
    refine cr_getI kc_5 CX hR fa_X5_15 rfl hk_x0_6 dX5_spreadLeans_14 ?_
    refine lv_icmp_ge (tgt := 50) hx hb dX5_spreadLeans_17 (by decide) (fun hc => ?_) (fun hc => ?_)
    · rw [if_pos hc] at hf
      exact hk50 _ _ _ _ _ _ hf hR hS (lv_sub hl [0, 1] rfl)
    · rw [if_neg hc] at hf
      refine lv_aload_n hx hb dX5_spreadLeans_20 rfl (lv_at hl 0 rfl) ?_
      refine lv_iload_n hx hb dX5_spreadLeans_21 rfl (lv_at hl 2 rfl) ?_
      refine lv_iload_n hx hb dX5_spreadLeans_22 rfl (lv_at hl 1 rfl) ?_
      obtain ⟨o23, ho23, hf⟩ := bnd_some hf
      refine cr_callIv kc_5 CX hR hL hS (As := [.int x2, .int x1]) (rest := []) hk_x0_6 (MC_X5_leaning l x N K x0 x2 x1 M o23 ho23) cv_X5_134 ⟨by omega, by omega⟩ rfl rfl (Nat.le_of_ble_eq_true rfl) hl.1 dX5_spreadLeans_23 hcs (fun H locs hR hS => ?_)
      refine lv_if_eq (tgt := 44) hx hb dX5_spreadLeans_26 (by decide) (fun hc => ?_) (fun hc => ?_)
      · rw [if_pos hc] at hf
        exact (wbC_X5_spreadLeans_44 CX hRm ih hk50) _ _ _ _ _ _ _ hf hR hS (lv_sub hl [0, 1, 2] rfl)
      · rw [if_neg hc] at hf
        refine lv_aload_n hx hb dX5_spreadLeans_29 rfl (lv_at hl 0 rfl) ?_
        refine cr_getR kc_5 CX hR fa_X5_53 rfl hk_x0_6 dX5_spreadLeans_30 ?_
        refine lv_iload_n hx hb dX5_spreadLeans_33 rfl (lv_at hl 2 rfl) ?_
        obtain ⟨a1, ha1, hf⟩ := nn_some hf
        refine rf_1 ha1 ?_
        refine lv_dup2_11 hx hb dX5_spreadLeans_34 rfl rfl ?_
        obtain ⟨hk_a1_22, hf⟩ := gd_some hf
        obtain ⟨hi, hf⟩ := ck_some hf
        refine cr_iald CX hR hk_a1_22 hi dX5_spreadLeans_35 ?_
        refine lv_aload_n hx hb dX5_spreadLeans_36 rfl (lv_at hl 0 rfl) ?_
        refine cr_getR kc_5 CX hR fa_X5_53 rfl hk_x0_6 dX5_spreadLeans_37 ?_
        refine lv_iload_n hx hb dX5_spreadLeans_40 rfl (lv_at hl 1 rfl) ?_
        obtain ⟨a2, ha2, hf⟩ := nn_some hf
        refine rf_1 ha2 ?_
        obtain ⟨hk_a2_22, hf⟩ := gd_some hf
        obtain ⟨hi, hf⟩ := ck_some hf
        refine cr_iald CX hR hk_a2_22 hi dX5_spreadLeans_41 ?_
        refine lv_ior hx hb dX5_spreadLeans_42 ?_
        obtain ⟨hi, hf⟩ := ck_some hf
        refine cr_iast CX hR hL hS hk_a1_22 hi dX5_spreadLeans_43 (fun H locs hR hS => ?_)
        exact (wbC_X5_spreadLeans_44 CX hRm ih hk50) _ _ _ _ _ _ _ hf hR hS (lv_sub hl [0, 1, 2] rfl)
def bC_X5_spreadLeans_50 (N : Nat) (K : Ka) (r2 : Nat → Int32 → Cm → Option (Cm)) (k56 : Nat → Cm → Option (Cm)) (x0 : Nat) (x1 : Int32) (M : Cm) : Option (Cm) := r2 x0 (x1 + 1) M
set_option maxRecDepth 100000 in
set_option maxHeartbeats 4000000 in
theorem wbC_X5_spreadLeans_50 {p : Program} {l : Launch} {e : Env} {R : Room} {s : State} {m : MethodId} {args : Array Value} {below : List Frame} {meth : Method} {c : Code} {x : Xc} {o : Cm} {N : Nat} {K : Ka} {r2 : Nat → Int32 → Cm → Option (Cm)} {k56 : Nat → Cm → Option (Cm)} (CX : CC p s m args meth c x K RX5 cX5_spreadLeans 3 none) (hRm : 1 ≤ R.frames ∧ 22 ≤ R.locals) (hr2 : ∀ (x0 : Nat) (x1 : Int32) (M : Cm) (H : Heap) (locs : List Loc) (ls : Array Slot), r2 x0 x1 M = some o → RC x K M H → va_S (AC K) s.heap H locs → lv_has ls 3 [(0, .ref x0), (1, .int x1)] → W p l e R s m args below meth c H locs 0 0 (MQ below (CQV x K o) args s 0 0 (AC K)) (F0 m 2 ls [])) (hk56 : ∀ (x0 : Nat) (M : Cm) (H : Heap) (locs : List Loc) (ls : Array Slot), k56 x0 M = some o → RC x K M H → va_S (AC K) s.heap H locs → lv_has ls 3 [(0, .ref x0)] → W p l e R s m args below meth c H locs 0 0 (MQ below (CQV x K o) args s 0 0 (AC K)) (F0 m 56 ls [])) (x0 : Nat) (x1 : Int32) (M : Cm) (H : Heap) (locs : List Loc) (ls : Array Slot) (hf : bC_X5_spreadLeans_50 N K r2 k56 x0 x1 M = some o) (hR : RC x K M H) (hS : va_S (AC K) s.heap H locs) (hl : lv_has ls 3 [(0, .ref x0), (1, .int x1)]) : W p l e R s m args below meth c H locs 0 0 (MQ below (CQV x K o) args s 0 0 (AC K)) (F0 m 50 ls []) := by
  obtain ⟨hx, hb, hml, hown, hts, hE, hB, hr, hlk⟩ := id CX
  have hL : KLe K K := KLe.rf K
  have hcs : 0 ≤ R.cells ∧ 0 ≤ R.slots := ⟨Nat.zero_le _, Nat.zero_le _⟩
  unfold bC_X5_spreadLeans_50 at hf
  refine lv_iinc (v := x1 + 1) (lv' := [(1, .int (x1 + 1)), (0, .ref x0)]) hx hb dX5_spreadLeans_50 hl (k := 1) rfl rfl (by decide) rfl (fun ls hl => ?_)
  refine lv_goto (tgt := 2) hx hb dX5_spreadLeans_53 (by decide) ?_
  exact hr2 _ _ _ _ _ _ hf hR hS (lv_sub hl [1, 0] rfl)
def lC_X5_spreadLeans_2 (N : Nat) (K : Ka) (k56 : Nat → Cm → Option (Cm)) : Nat → Nat → Int32 → Cm → Option (Cm)
  | 0, _, _, _ => none
  | n + 1, x0, x1, M => gd (kd K x0 == 6) (if (cI M x0 11) ≤ x1 then (k56 x0 M) else ((lC_X5_spreadLeans_12 N K (bC_X5_spreadLeans_50 N K (lC_X5_spreadLeans_2 N K k56 n) k56) N) x0 x1 0 M))
set_option maxRecDepth 100000 in
set_option maxHeartbeats 4000000 in
theorem wlC_X5_spreadLeans_2 {p : Program} {l : Launch} {e : Env} {R : Room} {s : State} {m : MethodId} {args : Array Value} {below : List Frame} {meth : Method} {c : Code} {x : Xc} {o : Cm} {N : Nat} {K : Ka} {k56 : Nat → Cm → Option (Cm)} (CX : CC p s m args meth c x K RX5 cX5_spreadLeans 3 none) (hRm : 1 ≤ R.frames ∧ 22 ≤ R.locals) (hk56 : ∀ (x0 : Nat) (M : Cm) (H : Heap) (locs : List Loc) (ls : Array Slot), k56 x0 M = some o → RC x K M H → va_S (AC K) s.heap H locs → lv_has ls 3 [(0, .ref x0)] → W p l e R s m args below meth c H locs 0 0 (MQ below (CQV x K o) args s 0 0 (AC K)) (F0 m 56 ls [])) : ∀ (n : Nat) (x0 : Nat) (x1 : Int32) (M : Cm) (H : Heap) (locs : List Loc) (ls : Array Slot), lC_X5_spreadLeans_2 N K k56 n x0 x1 M = some o → RC x K M H → va_S (AC K) s.heap H locs → lv_has ls 3 [(0, .ref x0), (1, .int x1)] → W p l e R s m args below meth c H locs 0 0 (MQ below (CQV x K o) args s 0 0 (AC K)) (F0 m 2 ls []) := by
  obtain ⟨hx, hb, hml, hown, hts, hE, hB, hr, hlk⟩ := id CX
  have hL : KLe K K := KLe.rf K
  have hcs : 0 ≤ R.cells ∧ 0 ≤ R.slots := ⟨Nat.zero_le _, Nat.zero_le _⟩
  intro n
  induction n with
  | zero => intro x0 x1 M H locs ls hf; cases hf
  | succ n ih =>
    intro x0 x1 M H locs ls hf hR hS hl
    rw [lC_X5_spreadLeans_2] at hf
    refine lv_iload_n hx hb dX5_spreadLeans_2 rfl (lv_at hl 1 rfl) ?_
    refine lv_aload_n hx hb dX5_spreadLeans_3 rfl (lv_at hl 0 rfl) ?_
    obtain ⟨hk_x0_6, hf⟩ := gd_some hf
    refine cr_getI kc_5 CX hR fa_X5_15 rfl hk_x0_6 dX5_spreadLeans_4 ?_
    refine lv_icmp_ge (tgt := 56) hx hb dX5_spreadLeans_7 (by decide) (fun hc => ?_) (fun hc => ?_)
    · rw [if_pos hc] at hf
      exact hk56 _ _ _ _ _ hf hR hS (lv_sub hl [0] rfl)
    · rw [if_neg hc] at hf
      refine lv_iconst (v := 0) hx hb dX5_spreadLeans_10 (by decide) ?_
      refine lv_istore_n (lv' := [(2, .int 0), (0, .ref x0), (1, .int x1)]) hx hb dX5_spreadLeans_11 rfl hl (by decide) rfl (fun ls hl => ?_)
      exact (wlC_X5_spreadLeans_12 CX hRm (wbC_X5_spreadLeans_50 CX hRm ih hk56) N) _ _ _ _ _ _ _ hf hR hS (lv_sub hl [1, 2, 0] rfl)
def bC_X5_spreadLeans_56 (N : Nat) (K : Ka) (x0 : Nat) (M : Cm) : Option (Cm) := some M
set_option maxRecDepth 100000 in
set_option maxHeartbeats 4000000 in
theorem wbC_X5_spreadLeans_56 {p : Program} {l : Launch} {e : Env} {R : Room} {s : State} {m : MethodId} {args : Array Value} {below : List Frame} {meth : Method} {c : Code} {x : Xc} {o : Cm} {N : Nat} {K : Ka} (CX : CC p s m args meth c x K RX5 cX5_spreadLeans 3 none) (hRm : 1 ≤ R.frames ∧ 22 ≤ R.locals) (x0 : Nat) (M : Cm) (H : Heap) (locs : List Loc) (ls : Array Slot) (hf : bC_X5_spreadLeans_56 N K x0 M = some o) (hR : RC x K M H) (hS : va_S (AC K) s.heap H locs) (hl : lv_has ls 3 [(0, .ref x0)]) : W p l e R s m args below meth c H locs 0 0 (MQ below (CQV x K o) args s 0 0 (AC K)) (F0 m 56 ls []) := by
  obtain ⟨hx, hb, hml, hown, hts, hE, hB, hr, hlk⟩ := id CX
  have hL : KLe K K := KLe.rf K
  have hcs : 0 ≤ R.cells ∧ 0 ≤ R.slots := ⟨Nat.zero_le _, Nat.zero_le _⟩
  unfold bC_X5_spreadLeans_56 at hf
  exact cr_vret CX hR hS hf dX5_spreadLeans_56
def fC_X5_spreadLeans (N : Nat) (K : Ka) (x0 : Nat) (M : Cm) : Option (Cm) := (lC_X5_spreadLeans_2 N K (bC_X5_spreadLeans_56 N K) N) x0 0 M
set_option maxRecDepth 100000 in
set_option maxHeartbeats 4000000 in
theorem wfC_X5_spreadLeans {p : Program} {l : Launch} {e : Env} {R : Room} {s : State} {m : MethodId} {args : Array Value} {below : List Frame} {meth : Method} {c : Code} {x : Xc} {o : Cm} {N : Nat} {K : Ka} (CX : CC p s m args meth c x K RX5 cX5_spreadLeans 3 none) (hRm : 1 ≤ R.frames ∧ 22 ≤ R.locals) (x0 : Nat) (M : Cm) (H : Heap) (locs : List Loc) (ls : Array Slot) (hf : fC_X5_spreadLeans N K x0 M = some o) (hR : RC x K M H) (hS : va_S (AC K) s.heap H locs) (hl : lv_has ls 3 [(0, .ref x0)]) : W p l e R s m args below meth c H locs 0 0 (MQ below (CQV x K o) args s 0 0 (AC K)) (F0 m 0 ls []) := by
  obtain ⟨hx, hb, hml, hown, hts, hE, hB, hr, hlk⟩ := id CX
  have hL : KLe K K := KLe.rf K
  have hcs : 0 ≤ R.cells ∧ 0 ≤ R.slots := ⟨Nat.zero_le _, Nat.zero_le _⟩
  unfold fC_X5_spreadLeans at hf
  refine lv_iconst (v := 0) hx hb dX5_spreadLeans_0 (by decide) ?_
  refine lv_istore_n (lv' := [(1, .int 0), (0, .ref x0)]) hx hb dX5_spreadLeans_1 rfl hl (by decide) rfl (fun ls hl => ?_)
  exact (wlC_X5_spreadLeans_2 CX hRm (wbC_X5_spreadLeans_56 CX hRm) N) _ _ _ _ _ _ hf hR hS (lv_sub hl [1, 0] rfl)
theorem MC_X5_spreadLeans (l : Launch) (x : Xc) (N : Nat) (K : Ka) (x0 : Nat) (M : Cm) (o : Cm) (hf : fC_X5_spreadLeans N K x0 M = some o) : CtV l x yX5_spreadLeans cX5_spreadLeans 3 1 22 [.ref x0] K M o :=
  cr_metV RX5 (by decide) rfl (Nat.le_of_ble_eq_true rfl) (fun p e s m args below meth c ls CX hR hl => wfC_X5_spreadLeans CX ⟨Nat.le_refl _, Nat.le_refl _⟩ x0 M s.heap [] ls hf hR va_S.rf hl)
def bC_X6_addBytes_82 (N : Nat) (K : Ka) (r3 : Nat → Int64 → Int32 → Cm → Option (Cm)) (k88 : Nat → Cm → Option (Cm)) (x0 : Nat) (x1 : Int64) (x3 : Int32) (M : Cm) : Option (Cm) := r3 x0 x1 (x3 + (-8)) M
set_option maxRecDepth 100000 in
set_option maxHeartbeats 4000000 in
theorem wbC_X6_addBytes_82 {p : Program} {l : Launch} {e : Env} {R : Room} {s : State} {m : MethodId} {args : Array Value} {below : List Frame} {meth : Method} {c : Code} {x : Xc} {o : Cm} {N : Nat} {K : Ka} {r3 : Nat → Int64 → Int32 → Cm → Option (Cm)} {k88 : Nat → Cm → Option (Cm)} (CX : CC p s m args meth c x K RX6 cX6_addBytes 6 none) (hRm : 0 ≤ R.frames ∧ 0 ≤ R.locals) (hr3 : ∀ (x0 : Nat) (x1 : Int64) (x3 : Int32) (M : Cm) (H : Heap) (locs : List Loc) (ls : Array Slot), r3 x0 x1 x3 M = some o → RC x K M H → va_S (AC K) s.heap H locs → lv_has ls 6 [(0, .ref x0), (1, .long x1), (3, .int x3)] → W p l e R s m args below meth c H locs 0 0 (MQ below (CQV x K o) args s 0 0 (AC K)) (F0 m 3 ls [])) (hk88 : ∀ (x0 : Nat) (M : Cm) (H : Heap) (locs : List Loc) (ls : Array Slot), k88 x0 M = some o → RC x K M H → va_S (AC K) s.heap H locs → lv_has ls 6 [(0, .ref x0)] → W p l e R s m args below meth c H locs 0 0 (MQ below (CQV x K o) args s 0 0 (AC K)) (F0 m 88 ls [])) (x0 : Nat) (x1 : Int64) (x3 : Int32) (M : Cm) (H : Heap) (locs : List Loc) (ls : Array Slot) (hf : bC_X6_addBytes_82 N K r3 k88 x0 x1 x3 M = some o) (hR : RC x K M H) (hS : va_S (AC K) s.heap H locs) (hl : lv_has ls 6 [(0, .ref x0), (1, .long x1), (3, .int x3)]) : W p l e R s m args below meth c H locs 0 0 (MQ below (CQV x K o) args s 0 0 (AC K)) (F0 m 82 ls []) := by
  obtain ⟨hx, hb, hml, hown, hts, hE, hB, hr, hlk⟩ := id CX
  have hL : KLe K K := KLe.rf K
  have hcs : 0 ≤ R.cells ∧ 0 ≤ R.slots := ⟨Nat.zero_le _, Nat.zero_le _⟩
  unfold bC_X6_addBytes_82 at hf
  refine lv_iinc (v := x3 + (-8)) (lv' := [(3, .int (x3 + (-8))), (0, .ref x0), (1, .long x1)]) hx hb dX6_addBytes_82 hl (k := 2) rfl rfl (by decide) rfl (fun ls hl => ?_)
  refine lv_goto (tgt := 3) hx hb dX6_addBytes_85 (by decide) ?_
  exact hr3 _ _ _ _ _ _ _ hf hR hS (lv_sub hl [1, 2, 0] rfl)
def bC_X6_addBytes_43 (N : Nat) (K : Ka) (r3 : Nat → Int64 → Int32 → Cm → Option (Cm)) (k88 : Nat → Cm → Option (Cm)) (x0 : Nat) (x1 : Int64) (x3 : Int32) (x4 : Int32) (s0 : Int32) (M : Cm) : Option (Cm) := if s0 = 0 then ((bC_X6_addBytes_82 N K r3 k88) x0 x1 x3 M) else (gd (kd K x0 == 7) (if 4000 ≤ (cI M x0 5) then ((bC_X6_addBytes_82 N K r3 k88) x0 x1 x3 M) else (nn (cR M x0 0) fun a1 => gd (kd K a1 == 21) (ck (cI M x0 5) (le K a1) ((bC_X6_addBytes_82 N K r3 k88) x0 x1 x3 (wI (wI M a1 (cI M x0 5 : Int32).toNatClampNeg (vp_nar .char (((x4 : Int32).toUInt32 % 65536).toInt32))) x0 5 ((cI (wI M a1 (cI M x0 5 : Int32).toNatClampNeg (vp_nar .char (((x4 : Int32).toUInt32 % 65536).toInt32))) x0 5) + 1)))))))
set_option maxRecDepth 100000 in
set_option maxHeartbeats 4000000 in
theorem wbC_X6_addBytes_43 {p : Program} {l : Launch} {e : Env} {R : Room} {s : State} {m : MethodId} {args : Array Value} {below : List Frame} {meth : Method} {c : Code} {x : Xc} {o : Cm} {N : Nat} {K : Ka} {r3 : Nat → Int64 → Int32 → Cm → Option (Cm)} {k88 : Nat → Cm → Option (Cm)} (CX : CC p s m args meth c x K RX6 cX6_addBytes 6 none) (hRm : 0 ≤ R.frames ∧ 0 ≤ R.locals) (hr3 : ∀ (x0 : Nat) (x1 : Int64) (x3 : Int32) (M : Cm) (H : Heap) (locs : List Loc) (ls : Array Slot), r3 x0 x1 x3 M = some o → RC x K M H → va_S (AC K) s.heap H locs → lv_has ls 6 [(0, .ref x0), (1, .long x1), (3, .int x3)] → W p l e R s m args below meth c H locs 0 0 (MQ below (CQV x K o) args s 0 0 (AC K)) (F0 m 3 ls [])) (hk88 : ∀ (x0 : Nat) (M : Cm) (H : Heap) (locs : List Loc) (ls : Array Slot), k88 x0 M = some o → RC x K M H → va_S (AC K) s.heap H locs → lv_has ls 6 [(0, .ref x0)] → W p l e R s m args below meth c H locs 0 0 (MQ below (CQV x K o) args s 0 0 (AC K)) (F0 m 88 ls [])) (x0 : Nat) (x1 : Int64) (x3 : Int32) (x4 : Int32) (s0 : Int32) (M : Cm) (H : Heap) (locs : List Loc) (ls : Array Slot) (hf : bC_X6_addBytes_43 N K r3 k88 x0 x1 x3 x4 s0 M = some o) (hR : RC x K M H) (hS : va_S (AC K) s.heap H locs) (hl : lv_has ls 6 [(0, .ref x0), (1, .long x1), (3, .int x3), (4, .int x4)]) : W p l e R s m args below meth c H locs 0 0 (MQ below (CQV x K o) args s 0 0 (AC K)) (F0 m 43 ls [.int s0]) := by
  obtain ⟨hx, hb, hml, hown, hts, hE, hB, hr, hlk⟩ := id CX
  have hL : KLe K K := KLe.rf K
  have hcs : 0 ≤ R.cells ∧ 0 ≤ R.slots := ⟨Nat.zero_le _, Nat.zero_le _⟩
  unfold bC_X6_addBytes_43 at hf
  refine lv_istore (lv' := [(5, .int s0), (0, .ref x0), (1, .long x1), (3, .int x3), (4, .int x4)]) hx hb dX6_addBytes_43 hl (by decide) rfl (fun ls hl => ?_)
  refine lv_iload hx hb dX6_addBytes_45 (lv_at hl 0 rfl) ?_
  refine lv_if_eq (tgt := 82) hx hb dX6_addBytes_47 (by decide) (fun hc => ?_) (fun hc => ?_)
  · rw [if_pos hc] at hf
    exact (wbC_X6_addBytes_82 CX hRm hr3 hk88) _ _ _ _ _ _ _ hf hR hS (lv_sub hl [1, 2, 3] rfl)
  · rw [if_neg hc] at hf
    refine lv_aload_n hx hb dX6_addBytes_50 rfl (lv_at hl 1 rfl) ?_
    obtain ⟨hk_x0_7, hf⟩ := gd_some hf
    refine cr_getI kc_6 CX hR fa_X6_29 rfl hk_x0_7 dX6_addBytes_51 ?_
    refine lv_sipush (v := 4000) hx hb dX6_addBytes_54 (by decide) ?_
    refine lv_icmp_ge (tgt := 82) hx hb dX6_addBytes_57 (by decide) (fun hc => ?_) (fun hc => ?_)
    · rw [if_pos hc] at hf
      exact (wbC_X6_addBytes_82 CX hRm hr3 hk88) _ _ _ _ _ _ _ hf hR hS (lv_sub hl [1, 2, 3] rfl)
    · rw [if_neg hc] at hf
      refine lv_aload_n hx hb dX6_addBytes_60 rfl (lv_at hl 1 rfl) ?_
      refine cr_getR kc_6 CX hR fa_X6_9 rfl hk_x0_7 dX6_addBytes_61 ?_
      refine lv_aload_n hx hb dX6_addBytes_64 rfl (lv_at hl 1 rfl) ?_
      refine cr_getI kc_6 CX hR fa_X6_29 rfl hk_x0_7 dX6_addBytes_65 ?_
      refine lv_iload hx hb dX6_addBytes_68 (lv_at hl 4 rfl) ?_
      refine lv_i2c (v := ((x4 : Int32).toUInt32 % 65536).toInt32) hx hb dX6_addBytes_70 rfl ?_
      obtain ⟨a1, ha1, hf⟩ := nn_some hf
      refine rf_2 ha1 ?_
      obtain ⟨hk_a1_21, hf⟩ := gd_some hf
      obtain ⟨hi, hf⟩ := ck_some hf
      refine cr_cast CX hR hL hS hk_a1_21 hi dX6_addBytes_71 (fun H locs hR hS => ?_)
      refine lv_aload_n hx hb dX6_addBytes_72 rfl (lv_at hl 1 rfl) ?_
      refine lv_dup hx hb dX6_addBytes_73 rfl ?_
      refine cr_getI kc_6 CX hR fa_X6_29 rfl hk_x0_7 dX6_addBytes_74 ?_
      refine lv_iconst (v := 1) hx hb dX6_addBytes_77 (by decide) ?_
      refine lv_iadd hx hb dX6_addBytes_78 ?_
      refine cr_putI kc_6 CX hR hL hS fa_X6_29 ⟨rfl, rfl, rfl⟩ hk_x0_7 dX6_addBytes_79 (fun H locs hR hS => ?_)
      exact (wbC_X6_addBytes_82 CX hRm hr3 hk88) _ _ _ _ _ _ _ hf hR hS (lv_sub hl [1, 2, 3] rfl)
def bC_X6_addBytes_38 (N : Nat) (K : Ka) (r3 : Nat → Int64 → Int32 → Cm → Option (Cm)) (k88 : Nat → Cm → Option (Cm)) (x0 : Nat) (x1 : Int64) (x3 : Int32) (x4 : Int32) (M : Cm) : Option (Cm) := (bC_X6_addBytes_43 N K r3 k88) x0 x1 x3 x4 1 M
set_option maxRecDepth 100000 in
set_option maxHeartbeats 4000000 in
theorem wbC_X6_addBytes_38 {p : Program} {l : Launch} {e : Env} {R : Room} {s : State} {m : MethodId} {args : Array Value} {below : List Frame} {meth : Method} {c : Code} {x : Xc} {o : Cm} {N : Nat} {K : Ka} {r3 : Nat → Int64 → Int32 → Cm → Option (Cm)} {k88 : Nat → Cm → Option (Cm)} (CX : CC p s m args meth c x K RX6 cX6_addBytes 6 none) (hRm : 0 ≤ R.frames ∧ 0 ≤ R.locals) (hr3 : ∀ (x0 : Nat) (x1 : Int64) (x3 : Int32) (M : Cm) (H : Heap) (locs : List Loc) (ls : Array Slot), r3 x0 x1 x3 M = some o → RC x K M H → va_S (AC K) s.heap H locs → lv_has ls 6 [(0, .ref x0), (1, .long x1), (3, .int x3)] → W p l e R s m args below meth c H locs 0 0 (MQ below (CQV x K o) args s 0 0 (AC K)) (F0 m 3 ls [])) (hk88 : ∀ (x0 : Nat) (M : Cm) (H : Heap) (locs : List Loc) (ls : Array Slot), k88 x0 M = some o → RC x K M H → va_S (AC K) s.heap H locs → lv_has ls 6 [(0, .ref x0)] → W p l e R s m args below meth c H locs 0 0 (MQ below (CQV x K o) args s 0 0 (AC K)) (F0 m 88 ls [])) (x0 : Nat) (x1 : Int64) (x3 : Int32) (x4 : Int32) (M : Cm) (H : Heap) (locs : List Loc) (ls : Array Slot) (hf : bC_X6_addBytes_38 N K r3 k88 x0 x1 x3 x4 M = some o) (hR : RC x K M H) (hS : va_S (AC K) s.heap H locs) (hl : lv_has ls 6 [(0, .ref x0), (1, .long x1), (3, .int x3), (4, .int x4)]) : W p l e R s m args below meth c H locs 0 0 (MQ below (CQV x K o) args s 0 0 (AC K)) (F0 m 38 ls []) := by
  obtain ⟨hx, hb, hml, hown, hts, hE, hB, hr, hlk⟩ := id CX
  have hL : KLe K K := KLe.rf K
  have hcs : 0 ≤ R.cells ∧ 0 ≤ R.slots := ⟨Nat.zero_le _, Nat.zero_le _⟩
  unfold bC_X6_addBytes_38 at hf
  refine lv_iconst (v := 1) hx hb dX6_addBytes_38 (by decide) ?_
  refine lv_goto (tgt := 43) hx hb dX6_addBytes_39 (by decide) ?_
  exact (wbC_X6_addBytes_43 CX hRm hr3 hk88) _ _ _ _ _ _ _ _ _ hf hR hS (lv_sub hl [0, 1, 2, 3] rfl)
def bC_X6_addBytes_42 (N : Nat) (K : Ka) (r3 : Nat → Int64 → Int32 → Cm → Option (Cm)) (k88 : Nat → Cm → Option (Cm)) (x0 : Nat) (x1 : Int64) (x3 : Int32) (x4 : Int32) (M : Cm) : Option (Cm) := (bC_X6_addBytes_43 N K r3 k88) x0 x1 x3 x4 0 M
set_option maxRecDepth 100000 in
set_option maxHeartbeats 4000000 in
theorem wbC_X6_addBytes_42 {p : Program} {l : Launch} {e : Env} {R : Room} {s : State} {m : MethodId} {args : Array Value} {below : List Frame} {meth : Method} {c : Code} {x : Xc} {o : Cm} {N : Nat} {K : Ka} {r3 : Nat → Int64 → Int32 → Cm → Option (Cm)} {k88 : Nat → Cm → Option (Cm)} (CX : CC p s m args meth c x K RX6 cX6_addBytes 6 none) (hRm : 0 ≤ R.frames ∧ 0 ≤ R.locals) (hr3 : ∀ (x0 : Nat) (x1 : Int64) (x3 : Int32) (M : Cm) (H : Heap) (locs : List Loc) (ls : Array Slot), r3 x0 x1 x3 M = some o → RC x K M H → va_S (AC K) s.heap H locs → lv_has ls 6 [(0, .ref x0), (1, .long x1), (3, .int x3)] → W p l e R s m args below meth c H locs 0 0 (MQ below (CQV x K o) args s 0 0 (AC K)) (F0 m 3 ls [])) (hk88 : ∀ (x0 : Nat) (M : Cm) (H : Heap) (locs : List Loc) (ls : Array Slot), k88 x0 M = some o → RC x K M H → va_S (AC K) s.heap H locs → lv_has ls 6 [(0, .ref x0)] → W p l e R s m args below meth c H locs 0 0 (MQ below (CQV x K o) args s 0 0 (AC K)) (F0 m 88 ls [])) (x0 : Nat) (x1 : Int64) (x3 : Int32) (x4 : Int32) (M : Cm) (H : Heap) (locs : List Loc) (ls : Array Slot) (hf : bC_X6_addBytes_42 N K r3 k88 x0 x1 x3 x4 M = some o) (hR : RC x K M H) (hS : va_S (AC K) s.heap H locs) (hl : lv_has ls 6 [(0, .ref x0), (1, .long x1), (3, .int x3), (4, .int x4)]) : W p l e R s m args below meth c H locs 0 0 (MQ below (CQV x K o) args s 0 0 (AC K)) (F0 m 42 ls []) := by
  obtain ⟨hx, hb, hml, hown, hts, hE, hB, hr, hlk⟩ := id CX
  have hL : KLe K K := KLe.rf K
  have hcs : 0 ≤ R.cells ∧ 0 ≤ R.slots := ⟨Nat.zero_le _, Nat.zero_le _⟩
  unfold bC_X6_addBytes_42 at hf
  refine lv_iconst (v := 0) hx hb dX6_addBytes_42 (by decide) ?_
  exact (wbC_X6_addBytes_43 CX hRm hr3 hk88) _ _ _ _ _ _ _ _ _ hf hR hS (lv_sub hl [0, 1, 2, 3] rfl)
def lC_X6_addBytes_3 (N : Nat) (K : Ka) (k88 : Nat → Cm → Option (Cm)) : Nat → Nat → Int64 → Int32 → Cm → Option (Cm)
  | 0, _, _, _, _ => none
  | n + 1, x0, x1, x3, M => if x3 < 0 then (k88 x0 M) else (if (((x1 >>> ((x3 : Int32).toInt64 &&& 63) : Int64).toInt32) &&& 255) = 10 then ((bC_X6_addBytes_38 N K (lC_X6_addBytes_3 N K k88 n) k88) x0 x1 x3 (((x1 >>> ((x3 : Int32).toInt64 &&& 63) : Int64).toInt32) &&& 255) M) else (if (((x1 >>> ((x3 : Int32).toInt64 &&& 63) : Int64).toInt32) &&& 255) < 32 then ((bC_X6_addBytes_42 N K (lC_X6_addBytes_3 N K k88 n) k88) x0 x1 x3 (((x1 >>> ((x3 : Int32).toInt64 &&& 63) : Int64).toInt32) &&& 255) M) else (if 126 < (((x1 >>> ((x3 : Int32).toInt64 &&& 63) : Int64).toInt32) &&& 255) then ((bC_X6_addBytes_42 N K (lC_X6_addBytes_3 N K k88 n) k88) x0 x1 x3 (((x1 >>> ((x3 : Int32).toInt64 &&& 63) : Int64).toInt32) &&& 255) M) else ((bC_X6_addBytes_38 N K (lC_X6_addBytes_3 N K k88 n) k88) x0 x1 x3 (((x1 >>> ((x3 : Int32).toInt64 &&& 63) : Int64).toInt32) &&& 255) M))))
set_option maxRecDepth 100000 in
set_option maxHeartbeats 4000000 in
theorem wlC_X6_addBytes_3 {p : Program} {l : Launch} {e : Env} {R : Room} {s : State} {m : MethodId} {args : Array Value} {below : List Frame} {meth : Method} {c : Code} {x : Xc} {o : Cm} {N : Nat} {K : Ka} {k88 : Nat → Cm → Option (Cm)} (CX : CC p s m args meth c x K RX6 cX6_addBytes 6 none) (hRm : 0 ≤ R.frames ∧ 0 ≤ R.locals) (hk88 : ∀ (x0 : Nat) (M : Cm) (H : Heap) (locs : List Loc) (ls : Array Slot), k88 x0 M = some o → RC x K M H → va_S (AC K) s.heap H locs → lv_has ls 6 [(0, .ref x0)] → W p l e R s m args below meth c H locs 0 0 (MQ below (CQV x K o) args s 0 0 (AC K)) (F0 m 88 ls [])) : ∀ (n : Nat) (x0 : Nat) (x1 : Int64) (x3 : Int32) (M : Cm) (H : Heap) (locs : List Loc) (ls : Array Slot), lC_X6_addBytes_3 N K k88 n x0 x1 x3 M = some o → RC x K M H → va_S (AC K) s.heap H locs → lv_has ls 6 [(0, .ref x0), (1, .long x1), (3, .int x3)] → W p l e R s m args below meth c H locs 0 0 (MQ below (CQV x K o) args s 0 0 (AC K)) (F0 m 3 ls []) := by
  obtain ⟨hx, hb, hml, hown, hts, hE, hB, hr, hlk⟩ := id CX
  have hL : KLe K K := KLe.rf K
  have hcs : 0 ≤ R.cells ∧ 0 ≤ R.slots := ⟨Nat.zero_le _, Nat.zero_le _⟩
  intro n
  induction n with
  | zero => intro x0 x1 x3 M H locs ls hf; cases hf
  | succ n ih =>
    intro x0 x1 x3 M H locs ls hf hR hS hl
    rw [lC_X6_addBytes_3] at hf
    refine lv_iload_n hx hb dX6_addBytes_3 rfl (lv_at hl 2 rfl) ?_
    refine lv_if_lt (tgt := 88) hx hb dX6_addBytes_4 (by decide) (fun hc => ?_) (fun hc => ?_)
    · rw [if_pos hc] at hf
      exact hk88 _ _ _ _ _ hf hR hS (lv_sub hl [0] rfl)
    · rw [if_neg hc] at hf
      refine lv_lload_n hx hb dX6_addBytes_7 rfl (lv_at hl 1 rfl) ?_
      refine lv_iload_n hx hb dX6_addBytes_8 rfl (lv_at hl 2 rfl) ?_
      refine lv_lshr (v := x1 >>> ((x3 : Int32).toInt64 &&& 63)) hx hb dX6_addBytes_9 rfl ?_
      refine lv_l2i (v := (x1 >>> ((x3 : Int32).toInt64 &&& 63) : Int64).toInt32) hx hb dX6_addBytes_10 rfl ?_
      refine lv_sipush (v := 255) hx hb dX6_addBytes_11 (by decide) ?_
      refine lv_iand hx hb dX6_addBytes_14 ?_
      refine lv_istore (lv' := [(4, .int (((x1 >>> ((x3 : Int32).toInt64 &&& 63) : Int64).toInt32) &&& 255)), (0, .ref x0), (1, .long x1), (3, .int x3)]) hx hb dX6_addBytes_15 hl (by decide) rfl (fun ls hl => ?_)
      refine lv_iload hx hb dX6_addBytes_17 (lv_at hl 0 rfl) ?_
      refine lv_bipush (v := 10) hx hb dX6_addBytes_19 (by decide) ?_
      refine lv_icmp_eq (tgt := 38) hx hb dX6_addBytes_21 (by decide) (fun hc => ?_) (fun hc => ?_)
      · rw [if_pos hc] at hf
        exact (wbC_X6_addBytes_38 CX hRm ih hk88) _ _ _ _ _ _ _ _ hf hR hS (lv_sub hl [1, 2, 3, 0] rfl)
      · rw [if_neg hc] at hf
        refine lv_iload hx hb dX6_addBytes_24 (lv_at hl 0 rfl) ?_
        refine lv_bipush (v := 32) hx hb dX6_addBytes_26 (by decide) ?_
        refine lv_icmp_lt (tgt := 42) hx hb dX6_addBytes_28 (by decide) (fun hc => ?_) (fun hc => ?_)
        · rw [if_pos hc] at hf
          exact (wbC_X6_addBytes_42 CX hRm ih hk88) _ _ _ _ _ _ _ _ hf hR hS (lv_sub hl [1, 2, 3, 0] rfl)
        · rw [if_neg hc] at hf
          refine lv_iload hx hb dX6_addBytes_31 (lv_at hl 0 rfl) ?_
          refine lv_bipush (v := 126) hx hb dX6_addBytes_33 (by decide) ?_
          refine lv_icmp_gt (tgt := 42) hx hb dX6_addBytes_35 (by decide) (fun hc => ?_) (fun hc => ?_)
          · rw [if_pos hc] at hf
            exact (wbC_X6_addBytes_42 CX hRm ih hk88) _ _ _ _ _ _ _ _ hf hR hS (lv_sub hl [1, 2, 3, 0] rfl)
          · rw [if_neg hc] at hf
            exact (wbC_X6_addBytes_38 CX hRm ih hk88) _ _ _ _ _ _ _ _ hf hR hS (lv_sub hl [1, 2, 3, 0] rfl)
def bC_X6_addBytes_88 (N : Nat) (K : Ka) (x0 : Nat) (M : Cm) : Option (Cm) := some M
set_option maxRecDepth 100000 in
set_option maxHeartbeats 4000000 in
theorem wbC_X6_addBytes_88 {p : Program} {l : Launch} {e : Env} {R : Room} {s : State} {m : MethodId} {args : Array Value} {below : List Frame} {meth : Method} {c : Code} {x : Xc} {o : Cm} {N : Nat} {K : Ka} (CX : CC p s m args meth c x K RX6 cX6_addBytes 6 none) (hRm : 0 ≤ R.frames ∧ 0 ≤ R.locals) (x0 : Nat) (M : Cm) (H : Heap) (locs : List Loc) (ls : Array Slot) (hf : bC_X6_addBytes_88 N K x0 M = some o) (hR : RC x K M H) (hS : va_S (AC K) s.heap H locs) (hl : lv_has ls 6 [(0, .ref x0)]) : W p l e R s m args below meth c H locs 0 0 (MQ below (CQV x K o) args s 0 0 (AC K)) (F0 m 88 ls []) := by
  obtain ⟨hx, hb, hml, hown, hts, hE, hB, hr, hlk⟩ := id CX
  have hL : KLe K K := KLe.rf K
  have hcs : 0 ≤ R.cells ∧ 0 ≤ R.slots := ⟨Nat.zero_le _, Nat.zero_le _⟩
  unfold bC_X6_addBytes_88 at hf
  exact cr_vret CX hR hS hf dX6_addBytes_88
def fC_X6_addBytes (N : Nat) (K : Ka) (x0 : Nat) (x1 : Int64) (M : Cm) : Option (Cm) := (lC_X6_addBytes_3 N K (bC_X6_addBytes_88 N K) N) x0 x1 56 M
set_option maxRecDepth 100000 in
set_option maxHeartbeats 4000000 in
theorem wfC_X6_addBytes {p : Program} {l : Launch} {e : Env} {R : Room} {s : State} {m : MethodId} {args : Array Value} {below : List Frame} {meth : Method} {c : Code} {x : Xc} {o : Cm} {N : Nat} {K : Ka} (CX : CC p s m args meth c x K RX6 cX6_addBytes 6 none) (hRm : 0 ≤ R.frames ∧ 0 ≤ R.locals) (x0 : Nat) (x1 : Int64) (M : Cm) (H : Heap) (locs : List Loc) (ls : Array Slot) (hf : fC_X6_addBytes N K x0 x1 M = some o) (hR : RC x K M H) (hS : va_S (AC K) s.heap H locs) (hl : lv_has ls 6 [(0, .ref x0), (1, .long x1)]) : W p l e R s m args below meth c H locs 0 0 (MQ below (CQV x K o) args s 0 0 (AC K)) (F0 m 0 ls []) := by
  obtain ⟨hx, hb, hml, hown, hts, hE, hB, hr, hlk⟩ := id CX
  have hL : KLe K K := KLe.rf K
  have hcs : 0 ≤ R.cells ∧ 0 ≤ R.slots := ⟨Nat.zero_le _, Nat.zero_le _⟩
  unfold fC_X6_addBytes at hf
  refine lv_bipush (v := 56) hx hb dX6_addBytes_0 (by decide) ?_
  refine lv_istore_n (lv' := [(3, .int 56), (0, .ref x0), (1, .long x1)]) hx hb dX6_addBytes_2 rfl hl (by decide) rfl (fun ls hl => ?_)
  exact (wlC_X6_addBytes_3 CX hRm (wbC_X6_addBytes_88 CX hRm) N) _ _ _ _ _ _ _ hf hR hS (lv_sub hl [1, 2, 0] rfl)
theorem MC_X6_addBytes (l : Launch) (x : Xc) (N : Nat) (K : Ka) (x0 : Nat) (x1 : Int64) (M : Cm) (o : Cm) (hf : fC_X6_addBytes N K x0 x1 M = some o) : CtV l x yX6_addBytes cX6_addBytes 6 0 0 [.ref x0, .long x1] K M o :=
  cr_metV RX6 (by decide) rfl (Nat.le_of_ble_eq_true rfl) (fun p e s m args below meth c ls CX hR hl => wfC_X6_addBytes CX ⟨Nat.le_refl _, Nat.le_refl _⟩ x0 x1 M s.heap [] ls hf hR va_S.rf hl)
def fC_X6_empty (N : Nat) (K : Ka) (x0 : Nat) (M : Cm) : Option (Cm) := gd (kd K x0 == 7) (some (wI M x0 5 0))
set_option maxRecDepth 100000 in
set_option maxHeartbeats 4000000 in
theorem wfC_X6_empty {p : Program} {l : Launch} {e : Env} {R : Room} {s : State} {m : MethodId} {args : Array Value} {below : List Frame} {meth : Method} {c : Code} {x : Xc} {o : Cm} {N : Nat} {K : Ka} (CX : CC p s m args meth c x K RX6 cX6_empty 1 none) (hRm : 0 ≤ R.frames ∧ 0 ≤ R.locals) (x0 : Nat) (M : Cm) (H : Heap) (locs : List Loc) (ls : Array Slot) (hf : fC_X6_empty N K x0 M = some o) (hR : RC x K M H) (hS : va_S (AC K) s.heap H locs) (hl : lv_has ls 1 [(0, .ref x0)]) : W p l e R s m args below meth c H locs 0 0 (MQ below (CQV x K o) args s 0 0 (AC K)) (F0 m 0 ls []) := by
  obtain ⟨hx, hb, hml, hown, hts, hE, hB, hr, hlk⟩ := id CX
  have hL : KLe K K := KLe.rf K
  have hcs : 0 ≤ R.cells ∧ 0 ≤ R.slots := ⟨Nat.zero_le _, Nat.zero_le _⟩
  unfold fC_X6_empty at hf
  refine lv_aload_n hx hb dX6_empty_0 rfl (lv_at hl 0 rfl) ?_
  refine lv_iconst (v := 0) hx hb dX6_empty_1 (by decide) ?_
  obtain ⟨hk_x0_7, hf⟩ := gd_some hf
  refine cr_putI kc_6 CX hR hL hS fa_X6_29 ⟨rfl, rfl, rfl⟩ hk_x0_7 dX6_empty_2 (fun H locs hR hS => ?_)
  exact cr_vret CX hR hS hf dX6_empty_5
theorem MC_X6_empty (l : Launch) (x : Xc) (N : Nat) (K : Ka) (x0 : Nat) (M : Cm) (o : Cm) (hf : fC_X6_empty N K x0 M = some o) : CtV l x yX6_empty cX6_empty 1 0 0 [.ref x0] K M o :=
  cr_metV RX6 (by decide) rfl (Nat.le_of_ble_eq_true rfl) (fun p e s m args below meth c ls CX hR hl => wfC_X6_empty CX ⟨Nat.le_refl _, Nat.le_refl _⟩ x0 M s.heap [] ls hf hR va_S.rf hl)
def bC_J0_isLatin1_aae02_18 (N : Nat) (K : Ka) (x0 : Nat) (s0 : Int32) (M : Cm) : Option (Int32 × Cm) := gd (is01 s0) (some (s0, M))
set_option maxRecDepth 100000 in
set_option maxHeartbeats 4000000 in
theorem wbC_J0_isLatin1_aae02_18 {p : Program} {l : Launch} {e : Env} {R : Room} {s : State} {m : MethodId} {args : Array Value} {below : List Frame} {meth : Method} {c : Code} {x : Xc} {o : Int32 × Cm} {N : Nat} {K : Ka} (CX : CC p s m args meth c x K RJ0 cJ0_isLatin1_aae02 1 (some .boolean)) (hRm : 0 ≤ R.frames ∧ 0 ≤ R.locals) (x0 : Nat) (s0 : Int32) (M : Cm) (H : Heap) (locs : List Loc) (ls : Array Slot) (hf : bC_J0_isLatin1_aae02_18 N K x0 s0 M = some o) (hR : RC x K M H) (hS : va_S (AC K) s.heap H locs) (hl : lv_has ls 1 [(0, .ref (x.2.2.1 x0))]) : W p l e R s m args below meth c H locs 0 0 (MQ below (CQI x K o) args s 0 0 (AC K)) (F0 m 18 ls [.int s0]) := by
  obtain ⟨hx, hb, hml, hown, hts, hE, hB, hr, hlk⟩ := id CX
  have hL : KLe K K := KLe.rf K
  have hcs : 0 ≤ R.cells ∧ 0 ≤ R.slots := ⟨Nat.zero_le _, Nat.zero_le _⟩
  unfold bC_J0_isLatin1_aae02_18 at hf
  obtain ⟨hz, hf⟩ := gd_some hf
  exact cr_zret CX hR hS hz hf dJ0_isLatin1_aae02_18
def bC_J0_isLatin1_aae02_17 (N : Nat) (K : Ka) (x0 : Nat) (M : Cm) : Option (Int32 × Cm) := (bC_J0_isLatin1_aae02_18 N K) x0 0 M
set_option maxRecDepth 100000 in
set_option maxHeartbeats 4000000 in
theorem wbC_J0_isLatin1_aae02_17 {p : Program} {l : Launch} {e : Env} {R : Room} {s : State} {m : MethodId} {args : Array Value} {below : List Frame} {meth : Method} {c : Code} {x : Xc} {o : Int32 × Cm} {N : Nat} {K : Ka} (CX : CC p s m args meth c x K RJ0 cJ0_isLatin1_aae02 1 (some .boolean)) (hRm : 0 ≤ R.frames ∧ 0 ≤ R.locals) (x0 : Nat) (M : Cm) (H : Heap) (locs : List Loc) (ls : Array Slot) (hf : bC_J0_isLatin1_aae02_17 N K x0 M = some o) (hR : RC x K M H) (hS : va_S (AC K) s.heap H locs) (hl : lv_has ls 1 [(0, .ref (x.2.2.1 x0))]) : W p l e R s m args below meth c H locs 0 0 (MQ below (CQI x K o) args s 0 0 (AC K)) (F0 m 17 ls []) := by
  obtain ⟨hx, hb, hml, hown, hts, hE, hB, hr, hlk⟩ := id CX
  have hL : KLe K K := KLe.rf K
  have hcs : 0 ≤ R.cells ∧ 0 ≤ R.slots := ⟨Nat.zero_le _, Nat.zero_le _⟩
  unfold bC_J0_isLatin1_aae02_17 at hf
  refine lv_iconst (v := 0) hx hb dJ0_isLatin1_aae02_17 (by decide) ?_
  exact (wbC_J0_isLatin1_aae02_18 CX hRm) _ _ _ _ _ _ hf hR hS (lv_sub hl [0] rfl)
def fC_J0_isLatin1_aae02 (N : Nat) (K : Ka) (x0 : Nat) (M : Cm) : Option (Int32 × Cm) := if (1 : Int32) = 0 then ((bC_J0_isLatin1_aae02_17 N K) x0 M) else (gd (decide (x0 < strN)) (if (0 : Int32) = 0 then ((bC_J0_isLatin1_aae02_18 N K) x0 1 M) else ((bC_J0_isLatin1_aae02_17 N K) x0 M)))
set_option maxRecDepth 100000 in
set_option maxHeartbeats 4000000 in
theorem wfC_J0_isLatin1_aae02 {p : Program} {l : Launch} {e : Env} {R : Room} {s : State} {m : MethodId} {args : Array Value} {below : List Frame} {meth : Method} {c : Code} {x : Xc} {o : Int32 × Cm} {N : Nat} {K : Ka} (CX : CC p s m args meth c x K RJ0 cJ0_isLatin1_aae02 1 (some .boolean)) (hRm : 0 ≤ R.frames ∧ 0 ≤ R.locals) (x0 : Nat) (M : Cm) (H : Heap) (locs : List Loc) (ls : Array Slot) (hf : fC_J0_isLatin1_aae02 N K x0 M = some o) (hR : RC x K M H) (hS : va_S (AC K) s.heap H locs) (hl : lv_has ls 1 [(0, .ref (x.2.2.1 x0))]) : W p l e R s m args below meth c H locs 0 0 (MQ below (CQI x K o) args s 0 0 (AC K)) (F0 m 0 ls []) := by
  obtain ⟨hx, hb, hml, hown, hts, hE, hB, hr, hlk⟩ := id CX
  have hL : KLe K K := KLe.rf K
  have hcs : 0 ≤ R.cells ∧ 0 ≤ R.slots := ⟨Nat.zero_le _, Nat.zero_le _⟩
  unfold fC_J0_isLatin1_aae02 at hf
  refine ss_compact CX hS wf_J0_38 dJ0_isLatin1_aae02_0 ?_
  refine lv_if_eq (tgt := 17) hx hb dJ0_isLatin1_aae02_3 (by decide) (fun hc => ?_) (fun hc => ?_)
  · rw [if_pos hc] at hf
    exact (wbC_J0_isLatin1_aae02_17 CX hRm) _ _ _ _ _ hf hR hS (lv_sub hl [0] rfl)
  · rw [if_neg hc] at hf
    refine lv_aload_n hx hb dJ0_isLatin1_aae02_6 rfl (lv_at hl 0 rfl) ?_
    obtain ⟨hs_x0, hf⟩ := gd_some hf
    refine ss_coder CX hS hs_x0 wf_J0_15 dJ0_isLatin1_aae02_7 ?_
    refine lv_if_ne (tgt := 17) hx hb dJ0_isLatin1_aae02_10 (by decide) (fun hc => ?_) (fun hc => ?_)
    · rw [if_neg hc] at hf
      exact (wbC_J0_isLatin1_aae02_17 CX hRm) _ _ _ _ _ hf hR hS (lv_sub hl [0] rfl)
    · rw [if_pos hc] at hf
      refine lv_iconst (v := 1) hx hb dJ0_isLatin1_aae02_13 (by decide) ?_
      refine lv_goto (tgt := 18) hx hb dJ0_isLatin1_aae02_14 (by decide) ?_
      exact (wbC_J0_isLatin1_aae02_18 CX hRm) _ _ _ _ _ _ hf hR hS (lv_sub hl [0] rfl)
theorem MC_J0_isLatin1_aae02 (l : Launch) (x : Xc) (N : Nat) (K : Ka) (x0 : Nat) (M : Cm) (o : Int32 × Cm) (hf : fC_J0_isLatin1_aae02 N K x0 M = some o) : CtI l x yJ0_isLatin1_aae02 cJ0_isLatin1_aae02 1 (some .boolean) 0 0 [.ref (x.2.2.1 x0)] K M o :=
  cr_metI RJ0 (by decide) rfl (Nat.le_of_ble_eq_true rfl) (fun p e s m args below meth c ls CX hR hl => wfC_J0_isLatin1_aae02 CX ⟨Nat.le_refl _, Nat.le_refl _⟩ x0 M s.heap [] ls hf hR va_S.rf hl)
def bC_J0_coder_7d493_14 (N : Nat) (K : Ka) (x0 : Nat) (s0 : Int32) (M : Cm) : Option (Int32 × Cm) := gd (isBy s0) (some (s0, M))
set_option maxRecDepth 100000 in
set_option maxHeartbeats 4000000 in
theorem wbC_J0_coder_7d493_14 {p : Program} {l : Launch} {e : Env} {R : Room} {s : State} {m : MethodId} {args : Array Value} {below : List Frame} {meth : Method} {c : Code} {x : Xc} {o : Int32 × Cm} {N : Nat} {K : Ka} (CX : CC p s m args meth c x K RJ0 cJ0_coder_7d493 1 (some .byte)) (hRm : 0 ≤ R.frames ∧ 0 ≤ R.locals) (x0 : Nat) (s0 : Int32) (M : Cm) (H : Heap) (locs : List Loc) (ls : Array Slot) (hf : bC_J0_coder_7d493_14 N K x0 s0 M = some o) (hR : RC x K M H) (hS : va_S (AC K) s.heap H locs) (hl : lv_has ls 1 [(0, .ref (x.2.2.1 x0))]) : W p l e R s m args below meth c H locs 0 0 (MQ below (CQI x K o) args s 0 0 (AC K)) (F0 m 14 ls [.int s0]) := by
  obtain ⟨hx, hb, hml, hown, hts, hE, hB, hr, hlk⟩ := id CX
  have hL : KLe K K := KLe.rf K
  have hcs : 0 ≤ R.cells ∧ 0 ≤ R.slots := ⟨Nat.zero_le _, Nat.zero_le _⟩
  unfold bC_J0_coder_7d493_14 at hf
  obtain ⟨hz, hf⟩ := gd_some hf
  exact cr_bret CX hR hS hz hf dJ0_coder_7d493_14
def fC_J0_coder_7d493 (N : Nat) (K : Ka) (x0 : Nat) (M : Cm) : Option (Int32 × Cm) := if (1 : Int32) = 0 then ((bC_J0_coder_7d493_14 N K) x0 1 M) else (gd (decide (x0 < strN)) ((bC_J0_coder_7d493_14 N K) x0 (0 : Int32) M))
set_option maxRecDepth 100000 in
set_option maxHeartbeats 4000000 in
theorem wfC_J0_coder_7d493 {p : Program} {l : Launch} {e : Env} {R : Room} {s : State} {m : MethodId} {args : Array Value} {below : List Frame} {meth : Method} {c : Code} {x : Xc} {o : Int32 × Cm} {N : Nat} {K : Ka} (CX : CC p s m args meth c x K RJ0 cJ0_coder_7d493 1 (some .byte)) (hRm : 0 ≤ R.frames ∧ 0 ≤ R.locals) (x0 : Nat) (M : Cm) (H : Heap) (locs : List Loc) (ls : Array Slot) (hf : fC_J0_coder_7d493 N K x0 M = some o) (hR : RC x K M H) (hS : va_S (AC K) s.heap H locs) (hl : lv_has ls 1 [(0, .ref (x.2.2.1 x0))]) : W p l e R s m args below meth c H locs 0 0 (MQ below (CQI x K o) args s 0 0 (AC K)) (F0 m 0 ls []) := by
  obtain ⟨hx, hb, hml, hown, hts, hE, hB, hr, hlk⟩ := id CX
  have hL : KLe K K := KLe.rf K
  have hcs : 0 ≤ R.cells ∧ 0 ≤ R.slots := ⟨Nat.zero_le _, Nat.zero_le _⟩
  unfold fC_J0_coder_7d493 at hf
  refine ss_compact CX hS wf_J0_38 dJ0_coder_7d493_0 ?_
  refine lv_if_eq (tgt := 13) hx hb dJ0_coder_7d493_3 (by decide) (fun hc => ?_) (fun hc => ?_)
  · rw [if_pos hc] at hf
    refine lv_iconst (v := 1) hx hb dJ0_coder_7d493_13 (by decide) ?_
    exact (wbC_J0_coder_7d493_14 CX hRm) _ _ _ _ _ _ hf hR hS (lv_sub hl [0] rfl)
  · rw [if_neg hc] at hf
    refine lv_aload_n hx hb dJ0_coder_7d493_6 rfl (lv_at hl 0 rfl) ?_
    obtain ⟨hs_x0, hf⟩ := gd_some hf
    refine ss_coder CX hS hs_x0 wf_J0_15 dJ0_coder_7d493_7 ?_
    refine lv_goto (tgt := 14) hx hb dJ0_coder_7d493_10 (by decide) ?_
    exact (wbC_J0_coder_7d493_14 CX hRm) _ _ _ _ _ _ hf hR hS (lv_sub hl [0] rfl)
theorem MC_J0_coder_7d493 (l : Launch) (x : Xc) (N : Nat) (K : Ka) (x0 : Nat) (M : Cm) (o : Int32 × Cm) (hf : fC_J0_coder_7d493 N K x0 M = some o) : CtI l x yJ0_coder_7d493 cJ0_coder_7d493 1 (some .byte) 0 0 [.ref (x.2.2.1 x0)] K M o :=
  cr_metI RJ0 (by decide) rfl (Nat.le_of_ble_eq_true rfl) (fun p e s m args below meth c ls CX hR hl => wfC_J0_coder_7d493 CX ⟨Nat.le_refl _, Nat.le_refl _⟩ x0 M s.heap [] ls hf hR va_S.rf hl)
def fC_J0_length_8abf5 (N : Nat) (K : Ka) (x0 : Nat) (M : Cm) : Option (Int32 × Cm) := gd (decide (x0 < strN)) ((fC_J0_coder_7d493 N K x0 M).bind fun o6 => some ((nI (sN x0)) >>> (o6.1 &&& 31), o6.2))
set_option maxRecDepth 100000 in
set_option maxHeartbeats 4000000 in
theorem wfC_J0_length_8abf5 {p : Program} {l : Launch} {e : Env} {R : Room} {s : State} {m : MethodId} {args : Array Value} {below : List Frame} {meth : Method} {c : Code} {x : Xc} {o : Int32 × Cm} {N : Nat} {K : Ka} (CX : CC p s m args meth c x K RJ0 cJ0_length_8abf5 1 (some .int)) (hRm : 1 ≤ R.frames ∧ 20 ≤ R.locals) (x0 : Nat) (M : Cm) (H : Heap) (locs : List Loc) (ls : Array Slot) (hf : fC_J0_length_8abf5 N K x0 M = some o) (hR : RC x K M H) (hS : va_S (AC K) s.heap H locs) (hl : lv_has ls 1 [(0, .ref (x.2.2.1 x0))]) : W p l e R s m args below meth c H locs 0 0 (MQ below (CQI x K o) args s 0 0 (AC K)) (F0 m 0 ls []) := by
  obtain ⟨hx, hb, hml, hown, hts, hE, hB, hr, hlk⟩ := id CX
  have hL : KLe K K := KLe.rf K
  have hcs : 0 ≤ R.cells ∧ 0 ≤ R.slots := ⟨Nat.zero_le _, Nat.zero_le _⟩
  unfold fC_J0_length_8abf5 at hf
  refine lv_aload_n hx hb dJ0_length_8abf5_0 rfl (lv_at hl 0 rfl) ?_
  obtain ⟨hs_x0, hf⟩ := gd_some hf
  refine ss_value CX hS hs_x0 wf_J0_9 dJ0_length_8abf5_1 ?_
  refine ss_blen CX hS hs_x0 dJ0_length_8abf5_4 ?_
  refine lv_aload_n hx hb dJ0_length_8abf5_5 rfl (lv_at hl 0 rfl) ?_
  obtain ⟨o6, ho6, hf⟩ := bnd_some hf
  refine cr_callIvS CX hR hL hS (As := []) (rest := [.int (nI (sN x0))]) hs_x0 (MC_J0_coder_7d493 l x N K x0 M o6 ho6) cv_J0_335 ⟨by omega, by omega⟩ rfl rfl (Nat.le_of_ble_eq_true rfl) hl.1 dJ0_length_8abf5_6 hcs (fun H locs hR hS => ?_)
  refine lv_ishr hx hb dJ0_length_8abf5_9 ?_
  exact cr_iret CX hR hS hf dJ0_length_8abf5_10
theorem MC_J0_length_8abf5 (l : Launch) (x : Xc) (N : Nat) (K : Ka) (x0 : Nat) (M : Cm) (o : Int32 × Cm) (hf : fC_J0_length_8abf5 N K x0 M = some o) : CtI l x yJ0_length_8abf5 cJ0_length_8abf5 1 (some .int) 1 20 [.ref (x.2.2.1 x0)] K M o :=
  cr_metI RJ0 (by decide) rfl (Nat.le_of_ble_eq_true rfl) (fun p e s m args below meth c ls CX hR hl => wfC_J0_length_8abf5 CX ⟨Nat.le_refl _, Nat.le_refl _⟩ x0 M s.heap [] ls hf hR va_S.rf hl)
def bC_J1_canEncode_9a6ad_16 (N : Nat) (K : Ka) (s0 : Int32) (M : Cm) : Option (Int32 × Cm) := gd (is01 s0) (some (s0, M))
set_option maxRecDepth 100000 in
set_option maxHeartbeats 4000000 in
theorem wbC_J1_canEncode_9a6ad_16 {p : Program} {l : Launch} {e : Env} {R : Room} {s : State} {m : MethodId} {args : Array Value} {below : List Frame} {meth : Method} {c : Code} {x : Xc} {o : Int32 × Cm} {N : Nat} {K : Ka} (CX : CC p s m args meth c x K RJ1 cJ1_canEncode_9a6ad 1 (some .boolean)) (hRm : 0 ≤ R.frames ∧ 0 ≤ R.locals) (s0 : Int32) (M : Cm) (H : Heap) (locs : List Loc) (ls : Array Slot) (hf : bC_J1_canEncode_9a6ad_16 N K s0 M = some o) (hR : RC x K M H) (hS : va_S (AC K) s.heap H locs) (hl : lv_has ls 1 []) : W p l e R s m args below meth c H locs 0 0 (MQ below (CQI x K o) args s 0 0 (AC K)) (F0 m 16 ls [.int s0]) := by
  obtain ⟨hx, hb, hml, hown, hts, hE, hB, hr, hlk⟩ := id CX
  have hL : KLe K K := KLe.rf K
  have hcs : 0 ≤ R.cells ∧ 0 ≤ R.slots := ⟨Nat.zero_le _, Nat.zero_le _⟩
  unfold bC_J1_canEncode_9a6ad_16 at hf
  obtain ⟨hz, hf⟩ := gd_some hf
  exact cr_zret CX hR hS hz hf dJ1_canEncode_9a6ad_16
def bC_J1_canEncode_9a6ad_15 (N : Nat) (K : Ka)  (M : Cm) : Option (Int32 × Cm) := (bC_J1_canEncode_9a6ad_16 N K) 0 M
set_option maxRecDepth 100000 in
set_option maxHeartbeats 4000000 in
theorem wbC_J1_canEncode_9a6ad_15 {p : Program} {l : Launch} {e : Env} {R : Room} {s : State} {m : MethodId} {args : Array Value} {below : List Frame} {meth : Method} {c : Code} {x : Xc} {o : Int32 × Cm} {N : Nat} {K : Ka} (CX : CC p s m args meth c x K RJ1 cJ1_canEncode_9a6ad 1 (some .boolean)) (hRm : 0 ≤ R.frames ∧ 0 ≤ R.locals)  (M : Cm) (H : Heap) (locs : List Loc) (ls : Array Slot) (hf : bC_J1_canEncode_9a6ad_15 N K  M = some o) (hR : RC x K M H) (hS : va_S (AC K) s.heap H locs) (hl : lv_has ls 1 []) : W p l e R s m args below meth c H locs 0 0 (MQ below (CQI x K o) args s 0 0 (AC K)) (F0 m 15 ls []) := by
  obtain ⟨hx, hb, hml, hown, hts, hE, hB, hr, hlk⟩ := id CX
  have hL : KLe K K := KLe.rf K
  have hcs : 0 ≤ R.cells ∧ 0 ≤ R.slots := ⟨Nat.zero_le _, Nat.zero_le _⟩
  unfold bC_J1_canEncode_9a6ad_15 at hf
  refine lv_iconst (v := 0) hx hb dJ1_canEncode_9a6ad_15 (by decide) ?_
  exact (wbC_J1_canEncode_9a6ad_16 CX hRm) _ _ _ _ _ hf hR hS (lv_sub hl [] rfl)
def fC_J1_canEncode_9a6ad (N : Nat) (K : Ka) (x0 : Int32) (M : Cm) : Option (Int32 × Cm) := if x0 < 0 then ((bC_J1_canEncode_9a6ad_15 N K) M) else (if 255 < x0 then ((bC_J1_canEncode_9a6ad_15 N K) M) else ((bC_J1_canEncode_9a6ad_16 N K) 1 M))
set_option maxRecDepth 100000 in
set_option maxHeartbeats 4000000 in
theorem wfC_J1_canEncode_9a6ad {p : Program} {l : Launch} {e : Env} {R : Room} {s : State} {m : MethodId} {args : Array Value} {below : List Frame} {meth : Method} {c : Code} {x : Xc} {o : Int32 × Cm} {N : Nat} {K : Ka} (CX : CC p s m args meth c x K RJ1 cJ1_canEncode_9a6ad 1 (some .boolean)) (hRm : 0 ≤ R.frames ∧ 0 ≤ R.locals) (x0 : Int32) (M : Cm) (H : Heap) (locs : List Loc) (ls : Array Slot) (hf : fC_J1_canEncode_9a6ad N K x0 M = some o) (hR : RC x K M H) (hS : va_S (AC K) s.heap H locs) (hl : lv_has ls 1 [(0, .int x0)]) : W p l e R s m args below meth c H locs 0 0 (MQ below (CQI x K o) args s 0 0 (AC K)) (F0 m 0 ls []) := by
  obtain ⟨hx, hb, hml, hown, hts, hE, hB, hr, hlk⟩ := id CX
  have hL : KLe K K := KLe.rf K
  have hcs : 0 ≤ R.cells ∧ 0 ≤ R.slots := ⟨Nat.zero_le _, Nat.zero_le _⟩
  unfold fC_J1_canEncode_9a6ad at hf
  refine lv_iload_n hx hb dJ1_canEncode_9a6ad_0 rfl (lv_at hl 0 rfl) ?_
  refine lv_if_lt (tgt := 15) hx hb dJ1_canEncode_9a6ad_1 (by decide) (fun hc => ?_) (fun hc => ?_)
  · rw [if_pos hc] at hf
    exact (wbC_J1_canEncode_9a6ad_15 CX hRm) _ _ _ _ hf hR hS (lv_sub hl [] rfl)
  · rw [if_neg hc] at hf
    refine lv_iload_n hx hb dJ1_canEncode_9a6ad_4 rfl (lv_at hl 0 rfl) ?_
    refine lv_sipush (v := 255) hx hb dJ1_canEncode_9a6ad_5 (by decide) ?_
    refine lv_icmp_gt (tgt := 15) hx hb dJ1_canEncode_9a6ad_8 (by decide) (fun hc => ?_) (fun hc => ?_)
    · rw [if_pos hc] at hf
      exact (wbC_J1_canEncode_9a6ad_15 CX hRm) _ _ _ _ hf hR hS (lv_sub hl [] rfl)
    · rw [if_neg hc] at hf
      refine lv_iconst (v := 1) hx hb dJ1_canEncode_9a6ad_11 (by decide) ?_
      refine lv_goto (tgt := 16) hx hb dJ1_canEncode_9a6ad_12 (by decide) ?_
      exact (wbC_J1_canEncode_9a6ad_16 CX hRm) _ _ _ _ _ hf hR hS (lv_sub hl [] rfl)
theorem MC_J1_canEncode_9a6ad (l : Launch) (x : Xc) (N : Nat) (K : Ka) (x0 : Int32) (M : Cm) (o : Int32 × Cm) (hf : fC_J1_canEncode_9a6ad N K x0 M = some o) : CtI l x yJ1_canEncode_9a6ad cJ1_canEncode_9a6ad 1 (some .boolean) 0 0 [.int x0] K M o :=
  cr_metI RJ1 (by decide) rfl (Nat.le_of_ble_eq_true rfl) (fun p e s m args below meth c ls CX hR hl => wfC_J1_canEncode_9a6ad CX ⟨Nat.le_refl _, Nat.le_refl _⟩ x0 M s.heap [] ls hf hR va_S.rf hl)
def lC_J1_indexOfChar_4cfef_7 (N : Nat) (K : Ka) (k22 : Int32 → Cm → Option (Int32 × Cm)) (k31 : Cm → Option (Int32 × Cm)) : Nat → Nat → Int32 → Int32 → Int32 → Cm → Option (Int32 × Cm)
  | 0, _, _, _, _, _ => none
  | n + 1, x0, x3, x4, x5, M => if x3 ≤ x5 then (k31 M) else (gd (decide (x0 < strN)) (ck x5 (sN x0) (if (sB x0 (x5 : Int32).toNatClampNeg) = x4 then (k22 x5 M) else (lC_J1_indexOfChar_4cfef_7 N K k22 k31 n x0 x3 x4 (x5 + 1) M))))
set_option maxRecDepth 100000 in
set_option maxHeartbeats 4000000 in
theorem wlC_J1_indexOfChar_4cfef_7 {p : Program} {l : Launch} {e : Env} {R : Room} {s : State} {m : MethodId} {args : Array Value} {below : List Frame} {meth : Method} {c : Code} {x : Xc} {o : Int32 × Cm} {N : Nat} {K : Ka} {k22 : Int32 → Cm → Option (Int32 × Cm)} {k31 : Cm → Option (Int32 × Cm)} (CX : CC p s m args meth c x K RJ1 cJ1_indexOfChar_4cfef 6 (some .int)) (hRm : 0 ≤ R.frames ∧ 0 ≤ R.locals) (hk22 : ∀ (x5 : Int32) (M : Cm) (H : Heap) (locs : List Loc) (ls : Array Slot), k22 x5 M = some o → RC x K M H → va_S (AC K) s.heap H locs → lv_has ls 6 [(5, .int x5)] → W p l e R s m args below meth c H locs 0 0 (MQ below (CQI x K o) args s 0 0 (AC K)) (F0 m 22 ls [])) (hk31 : ∀  (M : Cm) (H : Heap) (locs : List Loc) (ls : Array Slot), k31 M = some o → RC x K M H → va_S (AC K) s.heap H locs → lv_has ls 6 [] → W p l e R s m args below meth c H locs 0 0 (MQ below (CQI x K o) args s 0 0 (AC K)) (F0 m 31 ls [])) : ∀ (n : Nat) (x0 : Nat) (x3 : Int32) (x4 : Int32) (x5 : Int32) (M : Cm) (H : Heap) (locs : List Loc) (ls : Array Slot), lC_J1_indexOfChar_4cfef_7 N K k22 k31 n x0 x3 x4 x5 M = some o → RC x K M H → va_S (AC K) s.heap H locs → lv_has ls 6 [(0, .ref (x.2.2.2.1 x0)), (3, .int x3), (4, .int x4), (5, .int x5)] → W p l e R s m args below meth c H locs 0 0 (MQ below (CQI x K o) args s 0 0 (AC K)) (F0 m 7 ls []) := by
  obtain ⟨hx, hb, hml, hown, hts, hE, hB, hr, hlk⟩ := id CX
  have hL : KLe K K := KLe.rf K
  have hcs : 0 ≤ R.cells ∧ 0 ≤ R.slots := ⟨Nat.zero_le _, Nat.zero_le _⟩
  intro n
  induction n with
  | zero => intro x0 x3 x4 x5 M H locs ls hf; cases hf
  | succ n ih =>
    intro x0 x3 x4 x5 M H locs ls hf hR hS hl
    rw [lC_J1_indexOfChar_4cfef_7] at hf
    refine lv_iload hx hb dJ1_indexOfChar_4cfef_7 (lv_at hl 3 rfl) ?_
    refine lv_iload_n hx hb dJ1_indexOfChar_4cfef_9 rfl (lv_at hl 1 rfl) ?_
    refine lv_icmp_ge (tgt := 31) hx hb dJ1_indexOfChar_4cfef_10 (by decide) (fun hc => ?_) (fun hc => ?_)
    · rw [if_pos hc] at hf
      exact hk31 _ _ _ _ hf hR hS (lv_sub hl [] rfl)
    · rw [if_neg hc] at hf
      refine lv_aload_n hx hb dJ1_indexOfChar_4cfef_13 rfl (lv_at hl 0 rfl) ?_
      refine lv_iload hx hb dJ1_indexOfChar_4cfef_14 (lv_at hl 3 rfl) ?_
      obtain ⟨hs_x0, hf⟩ := gd_some hf
      obtain ⟨hi, hf⟩ := ck_some hf
      refine ss_bald CX hS hs_x0 hi dJ1_indexOfChar_4cfef_16 ?_
      refine lv_iload hx hb dJ1_indexOfChar_4cfef_17 (lv_at hl 2 rfl) ?_
      refine lv_icmp_ne (tgt := 25) hx hb dJ1_indexOfChar_4cfef_19 (by decide) (fun hc => ?_) (fun hc => ?_)
      · rw [if_neg hc] at hf
        refine lv_iinc (v := x5 + 1) (lv' := [(5, .int (x5 + 1)), (0, .ref (x.2.2.2.1 x0)), (3, .int x3), (4, .int x4)]) hx hb dJ1_indexOfChar_4cfef_25 hl (k := 3) rfl rfl (by decide) rfl (fun ls hl => ?_)
        refine lv_goto (tgt := 7) hx hb dJ1_indexOfChar_4cfef_28 (by decide) ?_
        exact ih _ _ _ _ _ _ _ _ hf hR hS (lv_sub hl [1, 2, 3, 0] rfl)
      · rw [if_pos hc] at hf
        exact hk22 _ _ _ _ _ hf hR hS (lv_sub hl [3] rfl)
def bC_J1_indexOfChar_4cfef_22 (N : Nat) (K : Ka) (x5 : Int32) (M : Cm) : Option (Int32 × Cm) := some (x5, M)
set_option maxRecDepth 100000 in
set_option maxHeartbeats 4000000 in
theorem wbC_J1_indexOfChar_4cfef_22 {p : Program} {l : Launch} {e : Env} {R : Room} {s : State} {m : MethodId} {args : Array Value} {below : List Frame} {meth : Method} {c : Code} {x : Xc} {o : Int32 × Cm} {N : Nat} {K : Ka} (CX : CC p s m args meth c x K RJ1 cJ1_indexOfChar_4cfef 6 (some .int)) (hRm : 0 ≤ R.frames ∧ 0 ≤ R.locals) (x5 : Int32) (M : Cm) (H : Heap) (locs : List Loc) (ls : Array Slot) (hf : bC_J1_indexOfChar_4cfef_22 N K x5 M = some o) (hR : RC x K M H) (hS : va_S (AC K) s.heap H locs) (hl : lv_has ls 6 [(5, .int x5)]) : W p l e R s m args below meth c H locs 0 0 (MQ below (CQI x K o) args s 0 0 (AC K)) (F0 m 22 ls []) := by
  obtain ⟨hx, hb, hml, hown, hts, hE, hB, hr, hlk⟩ := id CX
  have hL : KLe K K := KLe.rf K
  have hcs : 0 ≤ R.cells ∧ 0 ≤ R.slots := ⟨Nat.zero_le _, Nat.zero_le _⟩
  unfold bC_J1_indexOfChar_4cfef_22 at hf
  refine lv_iload hx hb dJ1_indexOfChar_4cfef_22 (lv_at hl 0 rfl) ?_
  exact cr_iret CX hR hS hf dJ1_indexOfChar_4cfef_24
def bC_J1_indexOfChar_4cfef_31 (N : Nat) (K : Ka)  (M : Cm) : Option (Int32 × Cm) := some ((-1), M)
set_option maxRecDepth 100000 in
set_option maxHeartbeats 4000000 in
theorem wbC_J1_indexOfChar_4cfef_31 {p : Program} {l : Launch} {e : Env} {R : Room} {s : State} {m : MethodId} {args : Array Value} {below : List Frame} {meth : Method} {c : Code} {x : Xc} {o : Int32 × Cm} {N : Nat} {K : Ka} (CX : CC p s m args meth c x K RJ1 cJ1_indexOfChar_4cfef 6 (some .int)) (hRm : 0 ≤ R.frames ∧ 0 ≤ R.locals)  (M : Cm) (H : Heap) (locs : List Loc) (ls : Array Slot) (hf : bC_J1_indexOfChar_4cfef_31 N K  M = some o) (hR : RC x K M H) (hS : va_S (AC K) s.heap H locs) (hl : lv_has ls 6 []) : W p l e R s m args below meth c H locs 0 0 (MQ below (CQI x K o) args s 0 0 (AC K)) (F0 m 31 ls []) := by
  obtain ⟨hx, hb, hml, hown, hts, hE, hB, hr, hlk⟩ := id CX
  have hL : KLe K K := KLe.rf K
  have hcs : 0 ≤ R.cells ∧ 0 ≤ R.slots := ⟨Nat.zero_le _, Nat.zero_le _⟩
  unfold bC_J1_indexOfChar_4cfef_31 at hf
  refine lv_iconst (v := (-1)) hx hb dJ1_indexOfChar_4cfef_31 (by decide) ?_
  exact cr_iret CX hR hS hf dJ1_indexOfChar_4cfef_32
def fC_J1_indexOfChar_4cfef (N : Nat) (K : Ka) (x0 : Nat) (x1 : Int32) (x2 : Int32) (x3 : Int32) (M : Cm) : Option (Int32 × Cm) := (lC_J1_indexOfChar_4cfef_7 N K (bC_J1_indexOfChar_4cfef_22 N K) (bC_J1_indexOfChar_4cfef_31 N K) N) x0 x3 ((x1 : Int32).toInt8.toInt32) x2 M
set_option maxRecDepth 100000 in
set_option maxHeartbeats 4000000 in
theorem wfC_J1_indexOfChar_4cfef {p : Program} {l : Launch} {e : Env} {R : Room} {s : State} {m : MethodId} {args : Array Value} {below : List Frame} {meth : Method} {c : Code} {x : Xc} {o : Int32 × Cm} {N : Nat} {K : Ka} (CX : CC p s m args meth c x K RJ1 cJ1_indexOfChar_4cfef 6 (some .int)) (hRm : 0 ≤ R.frames ∧ 0 ≤ R.locals) (x0 : Nat) (x1 : Int32) (x2 : Int32) (x3 : Int32) (M : Cm) (H : Heap) (locs : List Loc) (ls : Array Slot) (hf : fC_J1_indexOfChar_4cfef N K x0 x1 x2 x3 M = some o) (hR : RC x K M H) (hS : va_S (AC K) s.heap H locs) (hl : lv_has ls 6 [(0, .ref (x.2.2.2.1 x0)), (1, .int x1), (2, .int x2), (3, .int x3)]) : W p l e R s m args below meth c H locs 0 0 (MQ below (CQI x K o) args s 0 0 (AC K)) (F0 m 0 ls []) := by
  obtain ⟨hx, hb, hml, hown, hts, hE, hB, hr, hlk⟩ := id CX
  have hL : KLe K K := KLe.rf K
  have hcs : 0 ≤ R.cells ∧ 0 ≤ R.slots := ⟨Nat.zero_le _, Nat.zero_le _⟩
  unfold fC_J1_indexOfChar_4cfef at hf
  refine lv_iload_n hx hb dJ1_indexOfChar_4cfef_0 rfl (lv_at hl 1 rfl) ?_
  refine lv_i2b (v := (x1 : Int32).toInt8.toInt32) hx hb dJ1_indexOfChar_4cfef_1 rfl ?_
  refine lv_istore (lv' := [(4, .int ((x1 : Int32).toInt8.toInt32)), (0, .ref (x.2.2.2.1 x0)), (1, .int x1), (2, .int x2), (3, .int x3)]) hx hb dJ1_indexOfChar_4cfef_2 hl (by decide) rfl (fun ls hl => ?_)
  refine lv_iload_n hx hb dJ1_indexOfChar_4cfef_4 rfl (lv_at hl 3 rfl) ?_
  refine lv_istore (lv' := [(5, .int x2), (4, .int ((x1 : Int32).toInt8.toInt32)), (0, .ref (x.2.2.2.1 x0)), (1, .int x1), (2, .int x2), (3, .int x3)]) hx hb dJ1_indexOfChar_4cfef_5 hl (by decide) rfl (fun ls hl => ?_)
  exact (wlC_J1_indexOfChar_4cfef_7 CX hRm (wbC_J1_indexOfChar_4cfef_22 CX hRm) (wbC_J1_indexOfChar_4cfef_31 CX hRm) N) _ _ _ _ _ _ _ _ hf hR hS (lv_sub hl [2, 5, 1, 0] rfl)
theorem MC_J1_indexOfChar_4cfef (l : Launch) (x : Xc) (N : Nat) (K : Ka) (x0 : Nat) (x1 : Int32) (x2 : Int32) (x3 : Int32) (M : Cm) (o : Int32 × Cm) (hf : fC_J1_indexOfChar_4cfef N K x0 x1 x2 x3 M = some o) : CtI l x yJ1_indexOfChar_4cfef cJ1_indexOfChar_4cfef 6 (some .int) 0 0 [.ref (x.2.2.2.1 x0), .int x1, .int x2, .int x3] K M o :=
  cr_metI RJ1 (by decide) rfl (Nat.le_of_ble_eq_true rfl) (fun p e s m args below meth c ls CX hR hl => wfC_J1_indexOfChar_4cfef CX ⟨Nat.le_refl _, Nat.le_refl _⟩ x0 x1 x2 x3 M s.heap [] ls hf hR va_S.rf hl)
def fC_J1_indexOf_4cfef (N : Nat) (K : Ka) (x0 : Nat) (x1 : Int32) (x2 : Int32) (x3 : Int32) (M : Cm) : Option (Int32 × Cm) := (fC_J1_canEncode_9a6ad N K x1 M).bind fun o1 => if o1.1 = 0 then (some ((-1), o1.2)) else (gd (decide (x0 < strN)) (if (if x2 < 0 then 0 else x2) < (if (nI (sN x0)) < x3 then (nI (sN x0)) else x3) then ((fC_J1_indexOfChar_4cfef N K x0 x1 (if x2 < 0 then 0 else x2) (if (nI (sN x0)) < x3 then (nI (sN x0)) else x3) o1.2).bind fun o33 => some (o33.1, o33.2)) else (some ((-1), o1.2))))
set_option maxRecDepth 100000 in
set_option maxHeartbeats 4000000 in
theorem wfC_J1_indexOf_4cfef {p : Program} {l : Launch} {e : Env} {R : Room} {s : State} {m : MethodId} {args : Array Value} {below : List Frame} {meth : Method} {c : Code} {x : Xc} {o : Int32 × Cm} {N : Nat} {K : Ka} (CX : CC p s m args meth c x K RJ1 cJ1_indexOf_4cfef 4 (some .int)) (hRm : 1 ≤ R.frames ∧ 40 ≤ R.locals) (x0 : Nat) (x1 : Int32) (x2 : Int32) (x3 : Int32) (M : Cm) (H : Heap) (locs : List Loc) (ls : Array Slot) (hf : fC_J1_indexOf_4cfef N K x0 x1 x2 x3 M = some o) (hR : RC x K M H) (hS : va_S (AC K) s.heap H locs) (hl : lv_has ls 4 [(0, .ref (x.2.2.2.1 x0)), (1, .int x1), (2, .int x2), (3, .int x3)]) : W p l e R s m args below meth c H locs 0 0 (MQ below (CQI x K o) args s 0 0 (AC K)) (F0 m 0 ls []) := by
  obtain ⟨hx, hb, hml, hown, hts, hE, hB, hr, hlk⟩ := id CX
  have hL : KLe K K := KLe.rf K
  have hcs : 0 ≤ R.cells ∧ 0 ≤ R.slots := ⟨Nat.zero_le _, Nat.zero_le _⟩
  unfold fC_J1_indexOf_4cfef at hf
  refine lv_iload_n hx hb dJ1_indexOf_4cfef_0 rfl (lv_at hl 1 rfl) ?_
  obtain ⟨o1, ho1, hf⟩ := bnd_some hf
  refine cr_callIs CX hR hL hS (As := [.int x1]) (rest := []) (MC_J1_canEncode_9a6ad l x N K x1 M o1 ho1) cs_J1_88 ⟨by omega, by omega⟩ rfl rfl (Nat.le_of_ble_eq_true rfl) hl.1 dJ1_indexOf_4cfef_1 hcs (fun H locs hR hS => ?_)
  refine lv_if_ne (tgt := 9) hx hb dJ1_indexOf_4cfef_4 (by decide) (fun hc => ?_) (fun hc => ?_)
  · rw [if_neg hc] at hf
    refine lv_iload_n hx hb dJ1_indexOf_4cfef_9 rfl (lv_at hl 2 rfl) ?_
    refine lv_iconst (v := 0) hx hb dJ1_indexOf_4cfef_10 (by decide) ?_
    refine cr_maxI CX wl_J1_92 hl.1 (by omega) (by omega) (Nat.le_of_ble_eq_true rfl) hcs dJ1_indexOf_4cfef_11 ?_
    refine lv_istore_n (lv' := [(2, .int (if x2 < 0 then 0 else x2)), (0, .ref (x.2.2.2.1 x0)), (1, .int x1), (3, .int x3)]) hx hb dJ1_indexOf_4cfef_14 rfl hl (by decide) rfl (fun ls hl => ?_)
    refine lv_iload_n hx hb dJ1_indexOf_4cfef_15 rfl (lv_at hl 3 rfl) ?_
    refine lv_aload_n hx hb dJ1_indexOf_4cfef_16 rfl (lv_at hl 1 rfl) ?_
    obtain ⟨hs_x0, hf⟩ := gd_some hf
    refine ss_blen CX hS hs_x0 dJ1_indexOf_4cfef_17 ?_
    refine cr_minI CX wl_J1_38 hl.1 (by omega) (by omega) (Nat.le_of_ble_eq_true rfl) hcs dJ1_indexOf_4cfef_18 ?_
    refine lv_istore_n (lv' := [(3, .int (if (nI (sN x0)) < x3 then (nI (sN x0)) else x3)), (2, .int (if x2 < 0 then 0 else x2)), (0, .ref (x.2.2.2.1 x0)), (1, .int x1)]) hx hb dJ1_indexOf_4cfef_21 rfl hl (by decide) rfl (fun ls hl => ?_)
    refine lv_iload_n hx hb dJ1_indexOf_4cfef_22 rfl (lv_at hl 1 rfl) ?_
    refine lv_iload_n hx hb dJ1_indexOf_4cfef_23 rfl (lv_at hl 0 rfl) ?_
    refine lv_icmp_lt (tgt := 29) hx hb dJ1_indexOf_4cfef_24 (by decide) (fun hc => ?_) (fun hc => ?_)
    · rw [if_pos hc] at hf
      refine lv_aload_n hx hb dJ1_indexOf_4cfef_29 rfl (lv_at hl 2 rfl) ?_
      refine lv_iload_n hx hb dJ1_indexOf_4cfef_30 rfl (lv_at hl 3 rfl) ?_
      refine lv_iload_n hx hb dJ1_indexOf_4cfef_31 rfl (lv_at hl 1 rfl) ?_
      refine lv_iload_n hx hb dJ1_indexOf_4cfef_32 rfl (lv_at hl 0 rfl) ?_
      obtain ⟨o33, ho33, hf⟩ := bnd_some hf
      refine cr_callIs CX hR hL hS (As := [.ref (x.2.2.2.1 x0), .int x1, .int (if x2 < 0 then 0 else x2), .int (if (nI (sN x0)) < x3 then (nI (sN x0)) else x3)]) (rest := []) (MC_J1_indexOfChar_4cfef l x N K x0 x1 (if x2 < 0 then 0 else x2) (if (nI (sN x0)) < x3 then (nI (sN x0)) else x3) o1.2 o33 ho33) cs_J1_95 ⟨by omega, by omega⟩ rfl rfl (Nat.le_of_ble_eq_true rfl) hl.1 dJ1_indexOf_4cfef_33 hcs (fun H locs hR hS => ?_)
      exact cr_iret CX hR hS hf dJ1_indexOf_4cfef_36
    · rw [if_neg hc] at hf
      refine lv_iconst (v := (-1)) hx hb dJ1_indexOf_4cfef_27 (by decide) ?_
      exact cr_iret CX hR hS hf dJ1_indexOf_4cfef_28
  · rw [if_pos hc] at hf
    refine lv_iconst (v := (-1)) hx hb dJ1_indexOf_4cfef_7 (by decide) ?_
    exact cr_iret CX hR hS hf dJ1_indexOf_4cfef_8
theorem MC_J1_indexOf_4cfef (l : Launch) (x : Xc) (N : Nat) (K : Ka) (x0 : Nat) (x1 : Int32) (x2 : Int32) (x3 : Int32) (M : Cm) (o : Int32 × Cm) (hf : fC_J1_indexOf_4cfef N K x0 x1 x2 x3 M = some o) : CtI l x yJ1_indexOf_4cfef cJ1_indexOf_4cfef 4 (some .int) 1 40 [.ref (x.2.2.2.1 x0), .int x1, .int x2, .int x3] K M o :=
  cr_metI RJ1 (by decide) rfl (Nat.le_of_ble_eq_true rfl) (fun p e s m args below meth c ls CX hR hl => wfC_J1_indexOf_4cfef CX ⟨Nat.le_refl _, Nat.le_refl _⟩ x0 x1 x2 x3 M s.heap [] ls hf hR va_S.rf hl)
def fC_J0_indexOf_7cf53 (N : Nat) (K : Ka) (x0 : Nat) (x1 : Int32) (x2 : Int32) (M : Cm) : Option (Int32 × Cm) := gd (decide (x0 < strN)) ((fC_J0_isLatin1_aae02 N K x0 M).bind fun o1 => if o1.1 = 0 then ((fC_J0_length_8abf5 N K x0 o1.2).bind fun o30 => none) else ((fC_J0_length_8abf5 N K x0 o1.2).bind fun o14 => (fC_J1_indexOf_4cfef N K x0 x1 x2 o14.1 o14.2).bind fun o17 => some (o17.1, o17.2)))
set_option maxRecDepth 100000 in
set_option maxHeartbeats 4000000 in
theorem wfC_J0_indexOf_7cf53 {p : Program} {l : Launch} {e : Env} {R : Room} {s : State} {m : MethodId} {args : Array Value} {below : List Frame} {meth : Method} {c : Code} {x : Xc} {o : Int32 × Cm} {N : Nat} {K : Ka} (CX : CC p s m args meth c x K RJ0 cJ0_indexOf_7cf53 3 (some .int)) (hRm : 2 ≤ R.frames ∧ 63 ≤ R.locals) (x0 : Nat) (x1 : Int32) (x2 : Int32) (M : Cm) (H : Heap) (locs : List Loc) (ls : Array Slot) (hf : fC_J0_indexOf_7cf53 N K x0 x1 x2 M = some o) (hR : RC x K M H) (hS : va_S (AC K) s.heap H locs) (hl : lv_has ls 3 [(0, .ref (x.2.2.1 x0)), (1, .int x1), (2, .int x2)]) : W p l e R s m args below meth c H locs 0 0 (MQ below (CQI x K o) args s 0 0 (AC K)) (F0 m 0 ls []) := by
  obtain ⟨hx, hb, hml, hown, hts, hE, hB, hr, hlk⟩ := id CX
  have hL : KLe K K := KLe.rf K
  have hcs : 0 ≤ R.cells ∧ 0 ≤ R.slots := ⟨Nat.zero_le _, Nat.zero_le _⟩
  unfold fC_J0_indexOf_7cf53 at hf
  refine lv_aload_n hx hb dJ0_indexOf_7cf53_0 rfl (lv_at hl 0 rfl) ?_
  obtain ⟨hs_x0, hf⟩ := gd_some hf
  obtain ⟨o1, ho1, hf⟩ := bnd_some hf
  refine cr_callIvS CX hR hL hS (As := []) (rest := []) hs_x0 (MC_J0_isLatin1_aae02 l x N K x0 M o1 ho1) cv_J0_492 ⟨by omega, by omega⟩ rfl rfl (Nat.le_of_ble_eq_true rfl) hl.1 dJ0_indexOf_7cf53_1 hcs (fun H locs hR hS => ?_)
  refine lv_if_eq (tgt := 23) hx hb dJ0_indexOf_7cf53_4 (by decide) (fun hc => ?_) (fun hc => ?_)
  · rw [if_pos hc] at hf
    refine lv_aload_n hx hb dJ0_indexOf_7cf53_23 rfl (lv_at hl 0 rfl) ?_
    refine ss_value CX hS hs_x0 wf_J0_9 dJ0_indexOf_7cf53_24 ?_
    refine lv_iload_n hx hb dJ0_indexOf_7cf53_27 rfl (lv_at hl 1 rfl) ?_
    refine lv_iload_n hx hb dJ0_indexOf_7cf53_28 rfl (lv_at hl 2 rfl) ?_
    refine lv_aload_n hx hb dJ0_indexOf_7cf53_29 rfl (lv_at hl 0 rfl) ?_
    obtain ⟨o30, ho30, hf⟩ := bnd_some hf
    refine cr_callIvS CX hR hL hS (As := []) (rest := [.int x2, .int x1, .ref (x.2.2.2.1 x0)]) hs_x0 (MC_J0_length_8abf5 l x N K x0 o1.2 o30 ho30) cv_J0_505 ⟨by omega, by omega⟩ rfl rfl (Nat.le_of_ble_eq_true rfl) hl.1 dJ0_indexOf_7cf53_30 hcs (fun H locs hR hS => ?_)
    cases hf
  · rw [if_neg hc] at hf
    refine lv_aload_n hx hb dJ0_indexOf_7cf53_7 rfl (lv_at hl 0 rfl) ?_
    refine ss_value CX hS hs_x0 wf_J0_9 dJ0_indexOf_7cf53_8 ?_
    refine lv_iload_n hx hb dJ0_indexOf_7cf53_11 rfl (lv_at hl 1 rfl) ?_
    refine lv_iload_n hx hb dJ0_indexOf_7cf53_12 rfl (lv_at hl 2 rfl) ?_
    refine lv_aload_n hx hb dJ0_indexOf_7cf53_13 rfl (lv_at hl 0 rfl) ?_
    obtain ⟨o14, ho14, hf⟩ := bnd_some hf
    refine cr_callIvS CX hR hL hS (As := []) (rest := [.int x2, .int x1, .ref (x.2.2.2.1 x0)]) hs_x0 (MC_J0_length_8abf5 l x N K x0 o1.2 o14 ho14) cv_J0_505 ⟨by omega, by omega⟩ rfl rfl (Nat.le_of_ble_eq_true rfl) hl.1 dJ0_indexOf_7cf53_14 hcs (fun H locs hR hS => ?_)
    obtain ⟨o17, ho17, hf⟩ := bnd_some hf
    refine cr_callIs CX hR hL hS (As := [.ref (x.2.2.2.1 x0), .int x1, .int x2, .int o14.1]) (rest := []) (MC_J1_indexOf_4cfef l x N K x0 x1 x2 o14.1 o14.2 o17 ho17) cs_J0_637 ⟨by omega, by omega⟩ rfl rfl (Nat.le_of_ble_eq_true rfl) hl.1 dJ0_indexOf_7cf53_17 hcs (fun H locs hR hS => ?_)
    refine lv_goto (tgt := 36) hx hb dJ0_indexOf_7cf53_20 (by decide) ?_
    exact cr_iret CX hR hS hf dJ0_indexOf_7cf53_36
theorem MC_J0_indexOf_7cf53 (l : Launch) (x : Xc) (N : Nat) (K : Ka) (x0 : Nat) (x1 : Int32) (x2 : Int32) (M : Cm) (o : Int32 × Cm) (hf : fC_J0_indexOf_7cf53 N K x0 x1 x2 M = some o) : CtI l x yJ0_indexOf_7cf53 cJ0_indexOf_7cf53 3 (some .int) 2 63 [.ref (x.2.2.1 x0), .int x1, .int x2] K M o :=
  cr_metI RJ0 (by decide) rfl (Nat.le_of_ble_eq_true rfl) (fun p e s m args below meth c ls CX hR hl => wfC_J0_indexOf_7cf53 CX ⟨Nat.le_refl _, Nat.le_refl _⟩ x0 x1 x2 M s.heap [] ls hf hR va_S.rf hl)
def fC_J0_indexOf_0f7a4 (N : Nat) (K : Ka) (x0 : Nat) (x1 : Int32) (M : Cm) : Option (Int32 × Cm) := gd (decide (x0 < strN)) ((fC_J0_indexOf_7cf53 N K x0 x1 0 M).bind fun o3 => some (o3.1, o3.2))
set_option maxRecDepth 100000 in
set_option maxHeartbeats 4000000 in
theorem wfC_J0_indexOf_0f7a4 {p : Program} {l : Launch} {e : Env} {R : Room} {s : State} {m : MethodId} {args : Array Value} {below : List Frame} {meth : Method} {c : Code} {x : Xc} {o : Int32 × Cm} {N : Nat} {K : Ka} (CX : CC p s m args meth c x K RJ0 cJ0_indexOf_0f7a4 2 (some .int)) (hRm : 3 ≤ R.frames ∧ 85 ≤ R.locals) (x0 : Nat) (x1 : Int32) (M : Cm) (H : Heap) (locs : List Loc) (ls : Array Slot) (hf : fC_J0_indexOf_0f7a4 N K x0 x1 M = some o) (hR : RC x K M H) (hS : va_S (AC K) s.heap H locs) (hl : lv_has ls 2 [(0, .ref (x.2.2.1 x0)), (1, .int x1)]) : W p l e R s m args below meth c H locs 0 0 (MQ below (CQI x K o) args s 0 0 (AC K)) (F0 m 0 ls []) := by
  obtain ⟨hx, hb, hml, hown, hts, hE, hB, hr, hlk⟩ := id CX
  have hL : KLe K K := KLe.rf K
  have hcs : 0 ≤ R.cells ∧ 0 ≤ R.slots := ⟨Nat.zero_le _, Nat.zero_le _⟩
  unfold fC_J0_indexOf_0f7a4 at hf
  refine lv_aload_n hx hb dJ0_indexOf_0f7a4_0 rfl (lv_at hl 0 rfl) ?_
  refine lv_iload_n hx hb dJ0_indexOf_0f7a4_1 rfl (lv_at hl 1 rfl) ?_
  refine lv_iconst (v := 0) hx hb dJ0_indexOf_0f7a4_2 (by decide) ?_
  obtain ⟨hs_x0, hf⟩ := gd_some hf
  obtain ⟨o3, ho3, hf⟩ := bnd_some hf
  refine cr_callIvS CX hR hL hS (As := [.int x1, .int 0]) (rest := []) hs_x0 (MC_J0_indexOf_7cf53 l x N K x0 x1 0 M o3 ho3) cv_J0_633 ⟨by omega, by omega⟩ rfl rfl (Nat.le_of_ble_eq_true rfl) hl.1 dJ0_indexOf_0f7a4_3 hcs (fun H locs hR hS => ?_)
  exact cr_iret CX hR hS hf dJ0_indexOf_0f7a4_6
theorem MC_J0_indexOf_0f7a4 (l : Launch) (x : Xc) (N : Nat) (K : Ka) (x0 : Nat) (x1 : Int32) (M : Cm) (o : Int32 × Cm) (hf : fC_J0_indexOf_0f7a4 N K x0 x1 M = some o) : CtI l x yJ0_indexOf_0f7a4 cJ0_indexOf_0f7a4 2 (some .int) 3 85 [.ref (x.2.2.1 x0), .int x1] K M o :=
  cr_metI RJ0 (by decide) rfl (Nat.le_of_ble_eq_true rfl) (fun p e s m args below meth c ls CX hR hl => wfC_J0_indexOf_0f7a4 CX ⟨Nat.le_refl _, Nat.le_refl _⟩ x0 x1 M s.heap [] ls hf hR va_S.rf hl)
def bC_X6_addToken_52 (N : Nat) (K : Ka) (x0 : Nat) (M : Cm) : Option (Cm) := some M
set_option maxRecDepth 100000 in
set_option maxHeartbeats 4000000 in
theorem wbC_X6_addToken_52 {p : Program} {l : Launch} {e : Env} {R : Room} {s : State} {m : MethodId} {args : Array Value} {below : List Frame} {meth : Method} {c : Code} {x : Xc} {o : Cm} {N : Nat} {K : Ka} (CX : CC p s m args meth c x K RX6 cX6_addToken 5 none) (hRm : 0 ≤ R.frames ∧ 0 ≤ R.locals) (x0 : Nat) (M : Cm) (H : Heap) (locs : List Loc) (ls : Array Slot) (hf : bC_X6_addToken_52 N K x0 M = some o) (hR : RC x K M H) (hS : va_S (AC K) s.heap H locs) (hl : lv_has ls 5 [(0, .ref x0)]) : W p l e R s m args below meth c H locs 0 0 (MQ below (CQV x K o) args s 0 0 (AC K)) (F0 m 52 ls []) := by
  obtain ⟨hx, hb, hml, hown, hts, hE, hB, hr, hlk⟩ := id CX
  have hL : KLe K K := KLe.rf K
  have hcs : 0 ≤ R.cells ∧ 0 ≤ R.slots := ⟨Nat.zero_le _, Nat.zero_le _⟩
  unfold bC_X6_addToken_52 at hf
  exact cr_vret CX hR hS hf dX6_addToken_52
def fC_X6_addToken (N : Nat) (K : Ka) (x0 : Nat) (x1 : Int32) (x2 : Int32) (x3 : Int64) (M : Cm) : Option (Cm) := gd (kd K x0 == 7) (nn (cR M x0 1) fun a1 => gd (kd K a1 == 22) (if (nI (le K a1)) ≤ (cI M x0 6) then ((bC_X6_addToken_52 N K) x0 M) else (nn (cR M x0 1) fun a2 => gd (kd K a2 == 22) (ck (cI M x0 6) (le K a2) (nn (cR (wI M a2 (cI M x0 6 : Int32).toNatClampNeg x1) x0 2) fun a3 => gd (kd K a3 == 22) (ck (cI (wI M a2 (cI M x0 6 : Int32).toNatClampNeg x1) x0 6) (le K a3) (nn (cR (wI (wI M a2 (cI M x0 6 : Int32).toNatClampNeg x1) a3 (cI (wI M a2 (cI M x0 6 : Int32).toNatClampNeg x1) x0 6 : Int32).toNatClampNeg x2) x0 3) fun a4 => gd (kd K a4 == 23) (ck (cI (wI (wI M a2 (cI M x0 6 : Int32).toNatClampNeg x1) a3 (cI (wI M a2 (cI M x0 6 : Int32).toNatClampNeg x1) x0 6 : Int32).toNatClampNeg x2) x0 6) (le K a4) ((bC_X6_addToken_52 N K) x0 (wI (wL (wI (wI M a2 (cI M x0 6 : Int32).toNatClampNeg x1) a3 (cI (wI M a2 (cI M x0 6 : Int32).toNatClampNeg x1) x0 6 : Int32).toNatClampNeg x2) a4 (cI (wI (wI M a2 (cI M x0 6 : Int32).toNatClampNeg x1) a3 (cI (wI M a2 (cI M x0 6 : Int32).toNatClampNeg x1) x0 6 : Int32).toNatClampNeg x2) x0 6 : Int32).toNatClampNeg x3) x0 6 ((cI (wL (wI (wI M a2 (cI M x0 6 : Int32).toNatClampNeg x1) a3 (cI (wI M a2 (cI M x0 6 : Int32).toNatClampNeg x1) x0 6 : Int32).toNatClampNeg x2) a4 (cI (wI (wI M a2 (cI M x0 6 : Int32).toNatClampNeg x1) a3 (cI (wI M a2 (cI M x0 6 : Int32).toNatClampNeg x1) x0 6 : Int32).toNatClampNeg x2) x0 6 : Int32).toNatClampNeg x3) x0 6) + 1)))))))))))
set_option maxRecDepth 100000 in
set_option maxHeartbeats 4000000 in
theorem wfC_X6_addToken {p : Program} {l : Launch} {e : Env} {R : Room} {s : State} {m : MethodId} {args : Array Value} {below : List Frame} {meth : Method} {c : Code} {x : Xc} {o : Cm} {N : Nat} {K : Ka} (CX : CC p s m args meth c x K RX6 cX6_addToken 5 none) (hRm : 0 ≤ R.frames ∧ 0 ≤ R.locals) (x0 : Nat) (x1 : Int32) (x2 : Int32) (x3 : Int64) (M : Cm) (H : Heap) (locs : List Loc) (ls : Array Slot) (hf : fC_X6_addToken N K x0 x1 x2 x3 M = some o) (hR : RC x K M H) (hS : va_S (AC K) s.heap H locs) (hl : lv_has ls 5 [(0, .ref x0), (1, .int x1), (2, .int x2), (3, .long x3)]) : W p l e R s m args below meth c H locs 0 0 (MQ below (CQV x K o) args s 0 0 (AC K)) (F0 m 0 ls []) := by
  obtain ⟨hx, hb, hml, hown, hts, hE, hB, hr, hlk⟩ := id CX
  have hL : KLe K K := KLe.rf K
  have hcs : 0 ≤ R.cells ∧ 0 ≤ R.slots := ⟨Nat.zero_le _, Nat.zero_le _⟩
  unfold fC_X6_addToken at hf
  refine lv_aload_n hx hb dX6_addToken_0 rfl (lv_at hl 0 rfl) ?_
  obtain ⟨hk_x0_7, hf⟩ := gd_some hf
  refine cr_getI kc_6 CX hR fa_X6_33 rfl hk_x0_7 dX6_addToken_1 ?_
  refine lv_aload_n hx hb dX6_addToken_4 rfl (lv_at hl 0 rfl) ?_
  refine cr_getR kc_6 CX hR fa_X6_15 rfl hk_x0_7 dX6_addToken_5 ?_
  obtain ⟨a1, ha1, hf⟩ := nn_some hf
  refine rf_0 ha1 ?_
  obtain ⟨hk_a1_22, hf⟩ := gd_some hf
  refine cr_ilen CX hR hk_a1_22 dX6_addToken_8 ?_
  refine lv_icmp_ge (tgt := 52) hx hb dX6_addToken_9 (by decide) (fun hc => ?_) (fun hc => ?_)
  · rw [if_pos hc] at hf
    exact (wbC_X6_addToken_52 CX hRm) _ _ _ _ _ hf hR hS (lv_sub hl [0] rfl)
  · rw [if_neg hc] at hf
    refine lv_aload_n hx hb dX6_addToken_12 rfl (lv_at hl 0 rfl) ?_
    refine cr_getR kc_6 CX hR fa_X6_15 rfl hk_x0_7 dX6_addToken_13 ?_
    refine lv_aload_n hx hb dX6_addToken_16 rfl (lv_at hl 0 rfl) ?_
    refine cr_getI kc_6 CX hR fa_X6_33 rfl hk_x0_7 dX6_addToken_17 ?_
    refine lv_iload_n hx hb dX6_addToken_20 rfl (lv_at hl 1 rfl) ?_
    obtain ⟨a2, ha2, hf⟩ := nn_some hf
    refine rf_2 ha2 ?_
    obtain ⟨hk_a2_22, hf⟩ := gd_some hf
    obtain ⟨hi, hf⟩ := ck_some hf
    refine cr_iast CX hR hL hS hk_a2_22 hi dX6_addToken_21 (fun H locs hR hS => ?_)
    refine lv_aload_n hx hb dX6_addToken_22 rfl (lv_at hl 0 rfl) ?_
    refine cr_getR kc_6 CX hR fa_X6_19 rfl hk_x0_7 dX6_addToken_23 ?_
    refine lv_aload_n hx hb dX6_addToken_26 rfl (lv_at hl 0 rfl) ?_
    refine cr_getI kc_6 CX hR fa_X6_33 rfl hk_x0_7 dX6_addToken_27 ?_
    refine lv_iload_n hx hb dX6_addToken_30 rfl (lv_at hl 2 rfl) ?_
    obtain ⟨a3, ha3, hf⟩ := nn_some hf
    refine rf_2 ha3 ?_
    obtain ⟨hk_a3_22, hf⟩ := gd_some hf
    obtain ⟨hi, hf⟩ := ck_some hf
    refine cr_iast CX hR hL hS hk_a3_22 hi dX6_addToken_31 (fun H locs hR hS => ?_)
    refine lv_aload_n hx hb dX6_addToken_32 rfl (lv_at hl 0 rfl) ?_
    refine cr_getR kc_6 CX hR fa_X6_22 rfl hk_x0_7 dX6_addToken_33 ?_
    refine lv_aload_n hx hb dX6_addToken_36 rfl (lv_at hl 0 rfl) ?_
    refine cr_getI kc_6 CX hR fa_X6_33 rfl hk_x0_7 dX6_addToken_37 ?_
    refine lv_lload_n hx hb dX6_addToken_40 rfl (lv_at hl 3 rfl) ?_
    obtain ⟨a4, ha4, hf⟩ := nn_some hf
    refine rf_2 ha4 ?_
    obtain ⟨hk_a4_23, hf⟩ := gd_some hf
    obtain ⟨hi, hf⟩ := ck_some hf
    refine cr_last CX hR hL hS hk_a4_23 hi dX6_addToken_41 (fun H locs hR hS => ?_)
    refine lv_aload_n hx hb dX6_addToken_42 rfl (lv_at hl 0 rfl) ?_
    refine lv_dup hx hb dX6_addToken_43 rfl ?_
    refine cr_getI kc_6 CX hR fa_X6_33 rfl hk_x0_7 dX6_addToken_44 ?_
    refine lv_iconst (v := 1) hx hb dX6_addToken_47 (by decide) ?_
    refine lv_iadd hx hb dX6_addToken_48 ?_
    refine cr_putI kc_6 CX hR hL hS fa_X6_33 ⟨rfl, rfl, rfl⟩ hk_x0_7 dX6_addToken_49 (fun H locs hR hS => ?_)
    exact (wbC_X6_addToken_52 CX hRm) _ _ _ _ _ hf hR hS (lv_sub hl [0] rfl)
theorem MC_X6_addToken (l : Launch) (x : Xc) (N : Nat) (K : Ka) (x0 : Nat) (x1 : Int32) (x2 : Int32) (x3 : Int64) (M : Cm) (o : Cm) (hf : fC_X6_addToken N K x0 x1 x2 x3 M = some o) : CtV l x yX6_addToken cX6_addToken 5 0 0 [.ref x0, .int x1, .int x2, .long x3] K M o :=
  cr_metV RX6 (by decide) rfl (Nat.le_of_ble_eq_true rfl) (fun p e s m args below meth c ls CX hR hl => wfC_X6_addToken CX ⟨Nat.le_refl _, Nat.le_refl _⟩ x0 x1 x2 x3 M s.heap [] ls hf hR va_S.rf hl)
def bC_X6_isDigit_17 (N : Nat) (K : Ka) (s0 : Int32) (M : Cm) : Option (Int32 × Cm) := gd (is01 s0) (some (s0, M))
set_option maxRecDepth 100000 in
set_option maxHeartbeats 4000000 in
theorem wbC_X6_isDigit_17 {p : Program} {l : Launch} {e : Env} {R : Room} {s : State} {m : MethodId} {args : Array Value} {below : List Frame} {meth : Method} {c : Code} {x : Xc} {o : Int32 × Cm} {N : Nat} {K : Ka} (CX : CC p s m args meth c x K RX6 cX6_isDigit 1 (some .boolean)) (hRm : 0 ≤ R.frames ∧ 0 ≤ R.locals) (s0 : Int32) (M : Cm) (H : Heap) (locs : List Loc) (ls : Array Slot) (hf : bC_X6_isDigit_17 N K s0 M = some o) (hR : RC x K M H) (hS : va_S (AC K) s.heap H locs) (hl : lv_has ls 1 []) : W p l e R s m args below meth c H locs 0 0 (MQ below (CQI x K o) args s 0 0 (AC K)) (F0 m 17 ls [.int s0]) := by
  obtain ⟨hx, hb, hml, hown, hts, hE, hB, hr, hlk⟩ := id CX
  have hL : KLe K K := KLe.rf K
  have hcs : 0 ≤ R.cells ∧ 0 ≤ R.slots := ⟨Nat.zero_le _, Nat.zero_le _⟩
  unfold bC_X6_isDigit_17 at hf
  obtain ⟨hz, hf⟩ := gd_some hf
  exact cr_zret CX hR hS hz hf dX6_isDigit_17
def bC_X6_isDigit_16 (N : Nat) (K : Ka)  (M : Cm) : Option (Int32 × Cm) := (bC_X6_isDigit_17 N K) 0 M
set_option maxRecDepth 100000 in
set_option maxHeartbeats 4000000 in
theorem wbC_X6_isDigit_16 {p : Program} {l : Launch} {e : Env} {R : Room} {s : State} {m : MethodId} {args : Array Value} {below : List Frame} {meth : Method} {c : Code} {x : Xc} {o : Int32 × Cm} {N : Nat} {K : Ka} (CX : CC p s m args meth c x K RX6 cX6_isDigit 1 (some .boolean)) (hRm : 0 ≤ R.frames ∧ 0 ≤ R.locals)  (M : Cm) (H : Heap) (locs : List Loc) (ls : Array Slot) (hf : bC_X6_isDigit_16 N K  M = some o) (hR : RC x K M H) (hS : va_S (AC K) s.heap H locs) (hl : lv_has ls 1 []) : W p l e R s m args below meth c H locs 0 0 (MQ below (CQI x K o) args s 0 0 (AC K)) (F0 m 16 ls []) := by
  obtain ⟨hx, hb, hml, hown, hts, hE, hB, hr, hlk⟩ := id CX
  have hL : KLe K K := KLe.rf K
  have hcs : 0 ≤ R.cells ∧ 0 ≤ R.slots := ⟨Nat.zero_le _, Nat.zero_le _⟩
  unfold bC_X6_isDigit_16 at hf
  refine lv_iconst (v := 0) hx hb dX6_isDigit_16 (by decide) ?_
  exact (wbC_X6_isDigit_17 CX hRm) _ _ _ _ _ hf hR hS (lv_sub hl [] rfl)
def fC_X6_isDigit (N : Nat) (K : Ka) (x0 : Int32) (M : Cm) : Option (Int32 × Cm) := if x0 < 48 then ((bC_X6_isDigit_16 N K) M) else (if 57 < x0 then ((bC_X6_isDigit_16 N K) M) else ((bC_X6_isDigit_17 N K) 1 M))
set_option maxRecDepth 100000 in
set_option maxHeartbeats 4000000 in
theorem wfC_X6_isDigit {p : Program} {l : Launch} {e : Env} {R : Room} {s : State} {m : MethodId} {args : Array Value} {below : List Frame} {meth : Method} {c : Code} {x : Xc} {o : Int32 × Cm} {N : Nat} {K : Ka} (CX : CC p s m args meth c x K RX6 cX6_isDigit 1 (some .boolean)) (hRm : 0 ≤ R.frames ∧ 0 ≤ R.locals) (x0 : Int32) (M : Cm) (H : Heap) (locs : List Loc) (ls : Array Slot) (hf : fC_X6_isDigit N K x0 M = some o) (hR : RC x K M H) (hS : va_S (AC K) s.heap H locs) (hl : lv_has ls 1 [(0, .int x0)]) : W p l e R s m args below meth c H locs 0 0 (MQ below (CQI x K o) args s 0 0 (AC K)) (F0 m 0 ls []) := by
  obtain ⟨hx, hb, hml, hown, hts, hE, hB, hr, hlk⟩ := id CX
  have hL : KLe K K := KLe.rf K
  have hcs : 0 ≤ R.cells ∧ 0 ≤ R.slots := ⟨Nat.zero_le _, Nat.zero_le _⟩
  unfold fC_X6_isDigit at hf
  refine lv_iload_n hx hb dX6_isDigit_0 rfl (lv_at hl 0 rfl) ?_
  refine lv_bipush (v := 48) hx hb dX6_isDigit_1 (by decide) ?_
  refine lv_icmp_lt (tgt := 16) hx hb dX6_isDigit_3 (by decide) (fun hc => ?_) (fun hc => ?_)
  · rw [if_pos hc] at hf
    exact (wbC_X6_isDigit_16 CX hRm) _ _ _ _ hf hR hS (lv_sub hl [] rfl)
  · rw [if_neg hc] at hf
    refine lv_iload_n hx hb dX6_isDigit_6 rfl (lv_at hl 0 rfl) ?_
    refine lv_bipush (v := 57) hx hb dX6_isDigit_7 (by decide) ?_
    refine lv_icmp_gt (tgt := 16) hx hb dX6_isDigit_9 (by decide) (fun hc => ?_) (fun hc => ?_)
    · rw [if_pos hc] at hf
      exact (wbC_X6_isDigit_16 CX hRm) _ _ _ _ hf hR hS (lv_sub hl [] rfl)
    · rw [if_neg hc] at hf
      refine lv_iconst (v := 1) hx hb dX6_isDigit_12 (by decide) ?_
      refine lv_goto (tgt := 17) hx hb dX6_isDigit_13 (by decide) ?_
      exact (wbC_X6_isDigit_17 CX hRm) _ _ _ _ _ hf hR hS (lv_sub hl [] rfl)
theorem MC_X6_isDigit (l : Launch) (x : Xc) (N : Nat) (K : Ka) (x0 : Int32) (M : Cm) (o : Int32 × Cm) (hf : fC_X6_isDigit N K x0 M = some o) : CtI l x yX6_isDigit cX6_isDigit 1 (some .boolean) 0 0 [.int x0] K M o :=
  cr_metI RX6 (by decide) rfl (Nat.le_of_ble_eq_true rfl) (fun p e s m args below meth c ls CX hR hl => wfC_X6_isDigit CX ⟨Nat.le_refl _, Nat.le_refl _⟩ x0 M s.heap [] ls hf hR va_S.rf hl)
def bC_X6_isLetter_17 (N : Nat) (K : Ka) (s0 : Int32) (M : Cm) : Option (Int32 × Cm) := gd (is01 s0) (some (s0, M))
set_option maxRecDepth 100000 in
set_option maxHeartbeats 4000000 in
theorem wbC_X6_isLetter_17 {p : Program} {l : Launch} {e : Env} {R : Room} {s : State} {m : MethodId} {args : Array Value} {below : List Frame} {meth : Method} {c : Code} {x : Xc} {o : Int32 × Cm} {N : Nat} {K : Ka} (CX : CC p s m args meth c x K RX6 cX6_isLetter 1 (some .boolean)) (hRm : 0 ≤ R.frames ∧ 0 ≤ R.locals) (s0 : Int32) (M : Cm) (H : Heap) (locs : List Loc) (ls : Array Slot) (hf : bC_X6_isLetter_17 N K s0 M = some o) (hR : RC x K M H) (hS : va_S (AC K) s.heap H locs) (hl : lv_has ls 1 []) : W p l e R s m args below meth c H locs 0 0 (MQ below (CQI x K o) args s 0 0 (AC K)) (F0 m 17 ls [.int s0]) := by
  obtain ⟨hx, hb, hml, hown, hts, hE, hB, hr, hlk⟩ := id CX
  have hL : KLe K K := KLe.rf K
  have hcs : 0 ≤ R.cells ∧ 0 ≤ R.slots := ⟨Nat.zero_le _, Nat.zero_le _⟩
  unfold bC_X6_isLetter_17 at hf
  obtain ⟨hz, hf⟩ := gd_some hf
  exact cr_zret CX hR hS hz hf dX6_isLetter_17
def bC_X6_isLetter_16 (N : Nat) (K : Ka)  (M : Cm) : Option (Int32 × Cm) := (bC_X6_isLetter_17 N K) 0 M
set_option maxRecDepth 100000 in
set_option maxHeartbeats 4000000 in
theorem wbC_X6_isLetter_16 {p : Program} {l : Launch} {e : Env} {R : Room} {s : State} {m : MethodId} {args : Array Value} {below : List Frame} {meth : Method} {c : Code} {x : Xc} {o : Int32 × Cm} {N : Nat} {K : Ka} (CX : CC p s m args meth c x K RX6 cX6_isLetter 1 (some .boolean)) (hRm : 0 ≤ R.frames ∧ 0 ≤ R.locals)  (M : Cm) (H : Heap) (locs : List Loc) (ls : Array Slot) (hf : bC_X6_isLetter_16 N K  M = some o) (hR : RC x K M H) (hS : va_S (AC K) s.heap H locs) (hl : lv_has ls 1 []) : W p l e R s m args below meth c H locs 0 0 (MQ below (CQI x K o) args s 0 0 (AC K)) (F0 m 16 ls []) := by
  obtain ⟨hx, hb, hml, hown, hts, hE, hB, hr, hlk⟩ := id CX
  have hL : KLe K K := KLe.rf K
  have hcs : 0 ≤ R.cells ∧ 0 ≤ R.slots := ⟨Nat.zero_le _, Nat.zero_le _⟩
  unfold bC_X6_isLetter_16 at hf
  refine lv_iconst (v := 0) hx hb dX6_isLetter_16 (by decide) ?_
  exact (wbC_X6_isLetter_17 CX hRm) _ _ _ _ _ hf hR hS (lv_sub hl [] rfl)
def fC_X6_isLetter (N : Nat) (K : Ka) (x0 : Int32) (M : Cm) : Option (Int32 × Cm) := if x0 < 97 then ((bC_X6_isLetter_16 N K) M) else (if 122 < x0 then ((bC_X6_isLetter_16 N K) M) else ((bC_X6_isLetter_17 N K) 1 M))
set_option maxRecDepth 100000 in
set_option maxHeartbeats 4000000 in
theorem wfC_X6_isLetter {p : Program} {l : Launch} {e : Env} {R : Room} {s : State} {m : MethodId} {args : Array Value} {below : List Frame} {meth : Method} {c : Code} {x : Xc} {o : Int32 × Cm} {N : Nat} {K : Ka} (CX : CC p s m args meth c x K RX6 cX6_isLetter 1 (some .boolean)) (hRm : 0 ≤ R.frames ∧ 0 ≤ R.locals) (x0 : Int32) (M : Cm) (H : Heap) (locs : List Loc) (ls : Array Slot) (hf : fC_X6_isLetter N K x0 M = some o) (hR : RC x K M H) (hS : va_S (AC K) s.heap H locs) (hl : lv_has ls 1 [(0, .int x0)]) : W p l e R s m args below meth c H locs 0 0 (MQ below (CQI x K o) args s 0 0 (AC K)) (F0 m 0 ls []) := by
  obtain ⟨hx, hb, hml, hown, hts, hE, hB, hr, hlk⟩ := id CX
  have hL : KLe K K := KLe.rf K
  have hcs : 0 ≤ R.cells ∧ 0 ≤ R.slots := ⟨Nat.zero_le _, Nat.zero_le _⟩
  unfold fC_X6_isLetter at hf
  refine lv_iload_n hx hb dX6_isLetter_0 rfl (lv_at hl 0 rfl) ?_
  refine lv_bipush (v := 97) hx hb dX6_isLetter_1 (by decide) ?_
  refine lv_icmp_lt (tgt := 16) hx hb dX6_isLetter_3 (by decide) (fun hc => ?_) (fun hc => ?_)
  · rw [if_pos hc] at hf
    exact (wbC_X6_isLetter_16 CX hRm) _ _ _ _ hf hR hS (lv_sub hl [] rfl)
  · rw [if_neg hc] at hf
    refine lv_iload_n hx hb dX6_isLetter_6 rfl (lv_at hl 0 rfl) ?_
    refine lv_bipush (v := 122) hx hb dX6_isLetter_7 (by decide) ?_
    refine lv_icmp_gt (tgt := 16) hx hb dX6_isLetter_9 (by decide) (fun hc => ?_) (fun hc => ?_)
    · rw [if_pos hc] at hf
      exact (wbC_X6_isLetter_16 CX hRm) _ _ _ _ hf hR hS (lv_sub hl [] rfl)
    · rw [if_neg hc] at hf
      refine lv_iconst (v := 1) hx hb dX6_isLetter_12 (by decide) ?_
      refine lv_goto (tgt := 17) hx hb dX6_isLetter_13 (by decide) ?_
      exact (wbC_X6_isLetter_17 CX hRm) _ _ _ _ _ hf hR hS (lv_sub hl [] rfl)
theorem MC_X6_isLetter (l : Launch) (x : Xc) (N : Nat) (K : Ka) (x0 : Int32) (M : Cm) (o : Int32 × Cm) (hf : fC_X6_isLetter N K x0 M = some o) : CtI l x yX6_isLetter cX6_isLetter 1 (some .boolean) 0 0 [.int x0] K M o :=
  cr_metI RX6 (by decide) rfl (Nat.le_of_ble_eq_true rfl) (fun p e s m args below meth c ls CX hR hl => wfC_X6_isLetter CX ⟨Nat.le_refl _, Nat.le_refl _⟩ x0 M s.heap [] ls hf hR va_S.rf hl)
def lC_X6_scanNumber_5 (N : Nat) (K : Ka) (k51 : Nat → Int32 → Int64 → Int32 → Cm → Option (Int32 × Cm)) : Nat → Nat → Int32 → Int64 → Int32 → Cm → Option (Int32 × Cm)
  | 0, _, _, _, _, _ => none
  | n + 1, x0, x1, x2, x4, M => gd (kd K x0 == 7) (if (cI M x0 5) ≤ x4 then (k51 x0 x1 x2 x4 M) else (nn (cR M x0 0) fun a1 => gd (kd K a1 == 21) (ck x4 (le K a1) ((fC_X6_isDigit N K (cI M a1 (x4 : Int32).toNatClampNeg) M).bind fun o21 => if o21.1 = 0 then (k51 x0 x1 x2 x4 o21.2) else (nn (cR o21.2 x0 0) fun a2 => gd (kd K a2 == 21) (ck x4 (le K a2) (lC_X6_scanNumber_5 N K k51 n x0 x1 ((x2 * 10) + (((cI o21.2 a2 (x4 : Int32).toNatClampNeg) - 48 : Int32).toInt64)) (x4 + 1) o21.2)))))))
set_option maxRecDepth 100000 in
set_option maxHeartbeats 4000000 in
theorem wlC_X6_scanNumber_5 {p : Program} {l : Launch} {e : Env} {R : Room} {s : State} {m : MethodId} {args : Array Value} {below : List Frame} {meth : Method} {c : Code} {x : Xc} {o : Int32 × Cm} {N : Nat} {K : Ka} {k51 : Nat → Int32 → Int64 → Int32 → Cm → Option (Int32 × Cm)} (CX : CC p s m args meth c x K RX6 cX6_scanNumber 5 (some .int)) (hRm : 1 ≤ R.frames ∧ 24 ≤ R.locals) (hk51 : ∀ (x0 : Nat) (x1 : Int32) (x2 : Int64) (x4 : Int32) (M : Cm) (H : Heap) (locs : List Loc) (ls : Array Slot), k51 x0 x1 x2 x4 M = some o → RC x K M H → va_S (AC K) s.heap H locs → lv_has ls 5 [(0, .ref x0), (1, .int x1), (2, .long x2), (4, .int x4)] → W p l e R s m args below meth c H locs 0 0 (MQ below (CQI x K o) args s 0 0 (AC K)) (F0 m 51 ls [])) : ∀ (n : Nat) (x0 : Nat) (x1 : Int32) (x2 : Int64) (x4 : Int32) (M : Cm) (H : Heap) (locs : List Loc) (ls : Array Slot), lC_X6_scanNumber_5 N K k51 n x0 x1 x2 x4 M = some o → RC x K M H → va_S (AC K) s.heap H locs → lv_has ls 5 [(0, .ref x0), (1, .int x1), (2, .long x2), (4, .int x4)] → W p l e R s m args below meth c H locs 0 0 (MQ below (CQI x K o) args s 0 0 (AC K)) (F0 m 5 ls []) := by
  obtain ⟨hx, hb, hml, hown, hts, hE, hB, hr, hlk⟩ := id CX
  have hL : KLe K K := KLe.rf K
  have hcs : 0 ≤ R.cells ∧ 0 ≤ R.slots := ⟨Nat.zero_le _, Nat.zero_le _⟩
  intro n
  induction n with
  | zero => intro x0 x1 x2 x4 M H locs ls hf; cases hf
  | succ n ih =>
    intro x0 x1 x2 x4 M H locs ls hf hR hS hl
    rw [lC_X6_scanNumber_5] at hf
    refine lv_iload hx hb dX6_scanNumber_5 (lv_at hl 3 rfl) ?_
    refine lv_aload_n hx hb dX6_scanNumber_7 rfl (lv_at hl 0 rfl) ?_
    obtain ⟨hk_x0_7, hf⟩ := gd_some hf
    refine cr_getI kc_6 CX hR fa_X6_29 rfl hk_x0_7 dX6_scanNumber_8 ?_
    refine lv_icmp_ge (tgt := 51) hx hb dX6_scanNumber_11 (by decide) (fun hc => ?_) (fun hc => ?_)
    · rw [if_pos hc] at hf
      exact hk51 _ _ _ _ _ _ _ _ hf hR hS (lv_sub hl [0, 1, 2, 3] rfl)
    · rw [if_neg hc] at hf
      refine lv_aload_n hx hb dX6_scanNumber_14 rfl (lv_at hl 0 rfl) ?_
      refine cr_getR kc_6 CX hR fa_X6_9 rfl hk_x0_7 dX6_scanNumber_15 ?_
      refine lv_iload hx hb dX6_scanNumber_18 (lv_at hl 3 rfl) ?_
      obtain ⟨a1, ha1, hf⟩ := nn_some hf
      refine rf_1 ha1 ?_
      obtain ⟨hk_a1_21, hf⟩ := gd_some hf
      obtain ⟨hi, hf⟩ := ck_some hf
      refine cr_cald CX hR hk_a1_21 hi dX6_scanNumber_20 ?_
      obtain ⟨o21, ho21, hf⟩ := bnd_some hf
      refine cr_callIs CX hR hL hS (As := [.int (cI M a1 (x4 : Int32).toNatClampNeg)]) (rest := []) (MC_X6_isDigit l x N K (cI M a1 (x4 : Int32).toNatClampNeg) M o21 ho21) cs_X6_62 ⟨by omega, by omega⟩ rfl rfl (Nat.le_of_ble_eq_true rfl) hl.1 dX6_scanNumber_21 hcs (fun H locs hR hS => ?_)
      refine lv_if_eq (tgt := 51) hx hb dX6_scanNumber_24 (by decide) (fun hc => ?_) (fun hc => ?_)
      · rw [if_pos hc] at hf
        exact hk51 _ _ _ _ _ _ _ _ hf hR hS (lv_sub hl [0, 1, 2, 3] rfl)
      · rw [if_neg hc] at hf
        refine lv_lload_n hx hb dX6_scanNumber_27 rfl (lv_at hl 2 rfl) ?_
        refine lv_ldc2 hx hb hown (hts _ wc_614) dX6_scanNumber_28 ?_
        refine lv_lmul hx hb dX6_scanNumber_31 ?_
        refine lv_aload_n hx hb dX6_scanNumber_32 rfl (lv_at hl 0 rfl) ?_
        refine cr_getR kc_6 CX hR fa_X6_9 rfl hk_x0_7 dX6_scanNumber_33 ?_
        refine lv_iload hx hb dX6_scanNumber_36 (lv_at hl 3 rfl) ?_
        obtain ⟨a2, ha2, hf⟩ := nn_some hf
        refine rf_1 ha2 ?_
        obtain ⟨hk_a2_21, hf⟩ := gd_some hf
        obtain ⟨hi, hf⟩ := ck_some hf
        refine cr_cald CX hR hk_a2_21 hi dX6_scanNumber_38 ?_
        refine lv_bipush (v := 48) hx hb dX6_scanNumber_39 (by decide) ?_
        refine lv_isub hx hb dX6_scanNumber_41 ?_
        refine lv_i2l (v := ((cI o21.2 a2 (x4 : Int32).toNatClampNeg) - 48 : Int32).toInt64) hx hb dX6_scanNumber_42 rfl ?_
        refine lv_ladd hx hb dX6_scanNumber_43 ?_
        refine lv_lstore_n (lv' := [(2, .long ((x2 * 10) + (((cI o21.2 a2 (x4 : Int32).toNatClampNeg) - 48 : Int32).toInt64))), (0, .ref x0), (1, .int x1), (4, .int x4)]) hx hb dX6_scanNumber_44 rfl hl (by decide) rfl (fun ls hl => ?_)
        refine lv_iinc (v := x4 + 1) (lv' := [(4, .int (x4 + 1)), (2, .long ((x2 * 10) + (((cI o21.2 a2 (x4 : Int32).toNatClampNeg) - 48 : Int32).toInt64))), (0, .ref x0), (1, .int x1)]) hx hb dX6_scanNumber_45 hl (k := 3) rfl rfl (by decide) rfl (fun ls hl => ?_)
        refine lv_goto (tgt := 5) hx hb dX6_scanNumber_48 (by decide) ?_
        exact ih _ _ _ _ _ _ _ _ hf hR hS (lv_sub hl [2, 3, 1, 0] rfl)
def bC_X6_scanNumber_66 (N : Nat) (K : Ka) (x0 : Nat) (x1 : Int32) (x2 : Int64) (x4 : Int32) (s0 : Nat) (s1 : Int32) (M : Cm) : Option (Int32 × Cm) := gd (kd K s0 == 7) ((fC_X6_addToken N K s0 s1 x1 x2 M).bind fun o68 => some (x4, o68))
set_option maxRecDepth 100000 in
set_option maxHeartbeats 4000000 in
theorem wbC_X6_scanNumber_66 {p : Program} {l : Launch} {e : Env} {R : Room} {s : State} {m : MethodId} {args : Array Value} {below : List Frame} {meth : Method} {c : Code} {x : Xc} {o : Int32 × Cm} {N : Nat} {K : Ka} (CX : CC p s m args meth c x K RX6 cX6_scanNumber 5 (some .int)) (hRm : 1 ≤ R.frames ∧ 24 ≤ R.locals) (x0 : Nat) (x1 : Int32) (x2 : Int64) (x4 : Int32) (s0 : Nat) (s1 : Int32) (M : Cm) (H : Heap) (locs : List Loc) (ls : Array Slot) (hf : bC_X6_scanNumber_66 N K x0 x1 x2 x4 s0 s1 M = some o) (hR : RC x K M H) (hS : va_S (AC K) s.heap H locs) (hl : lv_has ls 5 [(0, .ref x0), (1, .int x1), (2, .long x2), (4, .int x4)]) : W p l e R s m args below meth c H locs 0 0 (MQ below (CQI x K o) args s 0 0 (AC K)) (F0 m 66 ls [.int s1, .ref s0]) := by
  obtain ⟨hx, hb, hml, hown, hts, hE, hB, hr, hlk⟩ := id CX
  have hL : KLe K K := KLe.rf K
  have hcs : 0 ≤ R.cells ∧ 0 ≤ R.slots := ⟨Nat.zero_le _, Nat.zero_le _⟩
  unfold bC_X6_scanNumber_66 at hf
  refine lv_iload_n hx hb dX6_scanNumber_66 rfl (lv_at hl 1 rfl) ?_
  refine lv_lload_n hx hb dX6_scanNumber_67 rfl (lv_at hl 2 rfl) ?_
  obtain ⟨hk_s0_7, hf⟩ := gd_some hf
  obtain ⟨o68, ho68, hf⟩ := bnd_some hf
  refine cr_callVv kc_6 CX hR hL hS (As := [.int s1, .int x1, .long x2]) (rest := []) hk_s0_7 (MC_X6_addToken l x N K s0 s1 x1 x2 M o68 ho68) cv_X6_73 ⟨by omega, by omega⟩ rfl rfl (Nat.le_of_ble_eq_true rfl) hl.1 dX6_scanNumber_68 hcs (fun H locs hR hS => ?_)
  refine lv_iload hx hb dX6_scanNumber_71 (lv_at hl 3 rfl) ?_
  exact cr_iret CX hR hS hf dX6_scanNumber_73
def bC_X6_scanNumber_51 (N : Nat) (K : Ka) (x0 : Nat) (x1 : Int32) (x2 : Int64) (x4 : Int32) (M : Cm) : Option (Int32 × Cm) := if (x4 - x1) ≤ 9 then ((bC_X6_scanNumber_66 N K) x0 x1 x2 x4 x0 3 M) else ((bC_X6_scanNumber_66 N K) x0 x1 x2 x4 x0 1 M)
set_option maxRecDepth 100000 in
set_option maxHeartbeats 4000000 in
theorem wbC_X6_scanNumber_51 {p : Program} {l : Launch} {e : Env} {R : Room} {s : State} {m : MethodId} {args : Array Value} {below : List Frame} {meth : Method} {c : Code} {x : Xc} {o : Int32 × Cm} {N : Nat} {K : Ka} (CX : CC p s m args meth c x K RX6 cX6_scanNumber 5 (some .int)) (hRm : 1 ≤ R.frames ∧ 24 ≤ R.locals) (x0 : Nat) (x1 : Int32) (x2 : Int64) (x4 : Int32) (M : Cm) (H : Heap) (locs : List Loc) (ls : Array Slot) (hf : bC_X6_scanNumber_51 N K x0 x1 x2 x4 M = some o) (hR : RC x K M H) (hS : va_S (AC K) s.heap H locs) (hl : lv_has ls 5 [(0, .ref x0), (1, .int x1), (2, .long x2), (4, .int x4)]) : W p l e R s m args below meth c H locs 0 0 (MQ below (CQI x K o) args s 0 0 (AC K)) (F0 m 51 ls []) := by
  obtain ⟨hx, hb, hml, hown, hts, hE, hB, hr, hlk⟩ := id CX
  have hL : KLe K K := KLe.rf K
  have hcs : 0 ≤ R.cells ∧ 0 ≤ R.slots := ⟨Nat.zero_le _, Nat.zero_le _⟩
  unfold bC_X6_scanNumber_51 at hf
  refine lv_aload_n hx hb dX6_scanNumber_51 rfl (lv_at hl 0 rfl) ?_
  refine lv_iload hx hb dX6_scanNumber_52 (lv_at hl 3 rfl) ?_
  refine lv_iload_n hx hb dX6_scanNumber_54 rfl (lv_at hl 1 rfl) ?_
  refine lv_isub hx hb dX6_scanNumber_55 ?_
  refine lv_bipush (v := 9) hx hb dX6_scanNumber_56 (by decide) ?_
  refine lv_icmp_le (tgt := 65) hx hb dX6_scanNumber_58 (by decide) (fun hc => ?_) (fun hc => ?_)
  · rw [if_pos hc] at hf
    refine lv_iconst (v := 3) hx hb dX6_scanNumber_65 (by decide) ?_
    exact (wbC_X6_scanNumber_66 CX hRm) _ _ _ _ _ _ _ _ _ _ hf hR hS (lv_sub hl [0, 1, 2, 3] rfl)
  · rw [if_neg hc] at hf
    refine lv_iconst (v := 1) hx hb dX6_scanNumber_61 (by decide) ?_
    refine lv_goto (tgt := 66) hx hb dX6_scanNumber_62 (by decide) ?_
    exact (wbC_X6_scanNumber_66 CX hRm) _ _ _ _ _ _ _ _ _ _ hf hR hS (lv_sub hl [0, 1, 2, 3] rfl)
def fC_X6_scanNumber (N : Nat) (K : Ka) (x0 : Nat) (x1 : Int32) (M : Cm) : Option (Int32 × Cm) := (lC_X6_scanNumber_5 N K (bC_X6_scanNumber_51 N K) N) x0 x1 0 x1 M
set_option maxRecDepth 100000 in
set_option maxHeartbeats 4000000 in
theorem wfC_X6_scanNumber {p : Program} {l : Launch} {e : Env} {R : Room} {s : State} {m : MethodId} {args : Array Value} {below : List Frame} {meth : Method} {c : Code} {x : Xc} {o : Int32 × Cm} {N : Nat} {K : Ka} (CX : CC p s m args meth c x K RX6 cX6_scanNumber 5 (some .int)) (hRm : 1 ≤ R.frames ∧ 24 ≤ R.locals) (x0 : Nat) (x1 : Int32) (M : Cm) (H : Heap) (locs : List Loc) (ls : Array Slot) (hf : fC_X6_scanNumber N K x0 x1 M = some o) (hR : RC x K M H) (hS : va_S (AC K) s.heap H locs) (hl : lv_has ls 5 [(0, .ref x0), (1, .int x1)]) : W p l e R s m args below meth c H locs 0 0 (MQ below (CQI x K o) args s 0 0 (AC K)) (F0 m 0 ls []) := by
  obtain ⟨hx, hb, hml, hown, hts, hE, hB, hr, hlk⟩ := id CX
  have hL : KLe K K := KLe.rf K
  have hcs : 0 ≤ R.cells ∧ 0 ≤ R.slots := ⟨Nat.zero_le _, Nat.zero_le _⟩
  unfold fC_X6_scanNumber at hf
  refine lv_lconst (v := 0) hx hb dX6_scanNumber_0 (by decide) ?_
  refine lv_lstore_n (lv' := [(2, .long 0), (0, .ref x0), (1, .int x1)]) hx hb dX6_scanNumber_1 rfl hl (by decide) rfl (fun ls hl => ?_)
  refine lv_iload_n hx hb dX6_scanNumber_2 rfl (lv_at hl 2 rfl) ?_
  refine lv_istore (lv' := [(4, .int x1), (2, .long 0), (0, .ref x0), (1, .int x1)]) hx hb dX6_scanNumber_3 hl (by decide) rfl (fun ls hl => ?_)
  exact (wlC_X6_scanNumber_5 CX hRm (wbC_X6_scanNumber_51 CX hRm) N) _ _ _ _ _ _ _ _ hf hR hS (lv_sub hl [2, 3, 1, 0] rfl)
theorem MC_X6_scanNumber (l : Launch) (x : Xc) (N : Nat) (K : Ka) (x0 : Nat) (x1 : Int32) (M : Cm) (o : Int32 × Cm) (hf : fC_X6_scanNumber N K x0 x1 M = some o) : CtI l x yX6_scanNumber cX6_scanNumber 5 (some .int) 1 24 [.ref x0, .int x1] K M o :=
  cr_metI RX6 (by decide) rfl (Nat.le_of_ble_eq_true rfl) (fun p e s m args below meth c ls CX hR hl => wfC_X6_scanNumber CX ⟨Nat.le_refl _, Nat.le_refl _⟩ x0 x1 M s.heap [] ls hf hR va_S.rf hl)
def bC_X6_wordSign_23 (N : Nat) (K : Ka) (s0 : Int32) (M : Cm) : Option (Int32 × Cm) := some (s0, M)
set_option maxRecDepth 100000 in
set_option maxHeartbeats 4000000 in
theorem wbC_X6_wordSign_23 {p : Program} {l : Launch} {e : Env} {R : Room} {s : State} {m : MethodId} {args : Array Value} {below : List Frame} {meth : Method} {c : Code} {x : Xc} {o : Int32 × Cm} {N : Nat} {K : Ka} (CX : CC p s m args meth c x K RX6 cX6_wordSign 1 (some .int)) (hRm : 1 ≤ R.frames ∧ 20 ≤ R.locals) (s0 : Int32) (M : Cm) (H : Heap) (locs : List Loc) (ls : Array Slot) (hf : bC_X6_wordSign_23 N K s0 M = some o) (hR : RC x K M H) (hS : va_S (AC K) s.heap H locs) (hl : lv_has ls 1 []) : W p l e R s m args below meth c H locs 0 0 (MQ below (CQI x K o) args s 0 0 (AC K)) (F0 m 23 ls [.int s0]) := by
  obtain ⟨hx, hb, hml, hown, hts, hE, hB, hr, hlk⟩ := id CX
  have hL : KLe K K := KLe.rf K
  have hcs : 0 ≤ R.cells ∧ 0 ≤ R.slots := ⟨Nat.zero_le _, Nat.zero_le _⟩
  unfold bC_X6_wordSign_23 at hf
  exact cr_iret CX hR hS hf dX6_wordSign_23
def fC_X6_wordSign (N : Nat) (K : Ka) (x0 : Int32) (M : Cm) : Option (Int32 × Cm) := (fC_X6_isLetter N K x0 M).bind fun o1 => if o1.1 = 0 then ((bC_X6_wordSign_23 N K) ((x0 - 48) + 27) o1.2) else ((bC_X6_wordSign_23 N K) ((x0 - 97) + 1) o1.2)
set_option maxRecDepth 100000 in
set_option maxHeartbeats 4000000 in
theorem wfC_X6_wordSign {p : Program} {l : Launch} {e : Env} {R : Room} {s : State} {m : MethodId} {args : Array Value} {below : List Frame} {meth : Method} {c : Code} {x : Xc} {o : Int32 × Cm} {N : Nat} {K : Ka} (CX : CC p s m args meth c x K RX6 cX6_wordSign 1 (some .int)) (hRm : 1 ≤ R.frames ∧ 20 ≤ R.locals) (x0 : Int32) (M : Cm) (H : Heap) (locs : List Loc) (ls : Array Slot) (hf : fC_X6_wordSign N K x0 M = some o) (hR : RC x K M H) (hS : va_S (AC K) s.heap H locs) (hl : lv_has ls 1 [(0, .int x0)]) : W p l e R s m args below meth c H locs 0 0 (MQ below (CQI x K o) args s 0 0 (AC K)) (F0 m 0 ls []) := by
  obtain ⟨hx, hb, hml, hown, hts, hE, hB, hr, hlk⟩ := id CX
  have hL : KLe K K := KLe.rf K
  have hcs : 0 ≤ R.cells ∧ 0 ≤ R.slots := ⟨Nat.zero_le _, Nat.zero_le _⟩
  unfold fC_X6_wordSign at hf
  refine lv_iload_n hx hb dX6_wordSign_0 rfl (lv_at hl 0 rfl) ?_
  obtain ⟨o1, ho1, hf⟩ := bnd_some hf
  refine cr_callIs CX hR hL hS (As := [.int x0]) (rest := []) (MC_X6_isLetter l x N K x0 M o1 ho1) cs_X6_54 ⟨by omega, by omega⟩ rfl rfl (Nat.le_of_ble_eq_true rfl) hl.1 dX6_wordSign_1 hcs (fun H locs hR hS => ?_)
  refine lv_if_eq (tgt := 16) hx hb dX6_wordSign_4 (by decide) (fun hc => ?_) (fun hc => ?_)
  · rw [if_pos hc] at hf
    refine lv_iload_n hx hb dX6_wordSign_16 rfl (lv_at hl 0 rfl) ?_
    refine lv_bipush (v := 48) hx hb dX6_wordSign_17 (by decide) ?_
    refine lv_isub hx hb dX6_wordSign_19 ?_
    refine lv_bipush (v := 27) hx hb dX6_wordSign_20 (by decide) ?_
    refine lv_iadd hx hb dX6_wordSign_22 ?_
    exact (wbC_X6_wordSign_23 CX hRm) _ _ _ _ _ hf hR hS (lv_sub hl [] rfl)
  · rw [if_neg hc] at hf
    refine lv_iload_n hx hb dX6_wordSign_7 rfl (lv_at hl 0 rfl) ?_
    refine lv_bipush (v := 97) hx hb dX6_wordSign_8 (by decide) ?_
    refine lv_isub hx hb dX6_wordSign_10 ?_
    refine lv_iconst (v := 1) hx hb dX6_wordSign_11 (by decide) ?_
    refine lv_iadd hx hb dX6_wordSign_12 ?_
    refine lv_goto (tgt := 23) hx hb dX6_wordSign_13 (by decide) ?_
    exact (wbC_X6_wordSign_23 CX hRm) _ _ _ _ _ hf hR hS (lv_sub hl [] rfl)
theorem MC_X6_wordSign (l : Launch) (x : Xc) (N : Nat) (K : Ka) (x0 : Int32) (M : Cm) (o : Int32 × Cm) (hf : fC_X6_wordSign N K x0 M = some o) : CtI l x yX6_wordSign cX6_wordSign 1 (some .int) 1 20 [.int x0] K M o :=
  cr_metI RX6 (by decide) rfl (Nat.le_of_ble_eq_true rfl) (fun p e s m args below meth c ls CX hR hl => wfC_X6_wordSign CX ⟨Nat.le_refl _, Nat.le_refl _⟩ x0 M s.heap [] ls hf hR va_S.rf hl)
