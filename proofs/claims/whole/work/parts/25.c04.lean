def bC_X7_addRole_29 (N : Nat) (K : Ka) (x0 : Nat) (M : Cm) : Option (Cm) := some M
set_option maxRecDepth 100000 in
set_option maxHeartbeats 4000000 in
theorem wbC_X7_addRole_29 {p : Program} {l : Launch} {e : Env} {R : Room} {s : State} {m : MethodId} {args : Array Value} {below : List Frame} {meth : Method} {c : Code} {x : Xc} {o : Cm} {N : Nat} {K : Ka} (CX : CC p s m args meth c x K RX7 cX7_addRole 2 none) (hRm : 0 ≤ R.frames ∧ 0 ≤ R.locals) (x0 : Nat) (M : Cm) (H : Heap) (locs : List Loc) (ls : Array Slot) (hf : bC_X7_addRole_29 N K x0 M = some o) (hR : RC x K M H) (hS : va_S (AC K) s.heap H locs) (hl : lv_has ls 2 [(0, .ref x0)]) : W p l e R s m args below meth c H locs 0 0 (MQ below (CQV x K o) args s 0 0 (AC K)) (F0 m 29 ls []) := by
  obtain ⟨hx, hb, hml, hown, hts, hE, hB, hr, hlk⟩ := id CX
  have hL : KLe K K := KLe.rf K
  have hcs : 0 ≤ R.cells ∧ 0 ≤ R.slots := ⟨Nat.zero_le _, Nat.zero_le _⟩
  unfold bC_X7_addRole_29 at hf
  exact cr_vret CX hR hS hf dX7_addRole_29
def fC_X7_addRole (N : Nat) (K : Ka) (x0 : Nat) (x1 : Int32) (M : Cm) : Option (Cm) := gd (kd K x0 == 8) (if 6 ≤ (cI M x0 7) then ((bC_X7_addRole_29 N K) x0 M) else (nn (cR M x0 2) fun a1 => gd (kd K a1 == 22) (ck (cI M x0 7) (le K a1) ((bC_X7_addRole_29 N K) x0 (wI (wI M a1 (cI M x0 7 : Int32).toNatClampNeg x1) x0 7 ((cI (wI M a1 (cI M x0 7 : Int32).toNatClampNeg x1) x0 7) + 1))))))
set_option maxRecDepth 100000 in
set_option maxHeartbeats 4000000 in
theorem wfC_X7_addRole {p : Program} {l : Launch} {e : Env} {R : Room} {s : State} {m : MethodId} {args : Array Value} {below : List Frame} {meth : Method} {c : Code} {x : Xc} {o : Cm} {N : Nat} {K : Ka} (CX : CC p s m args meth c x K RX7 cX7_addRole 2 none) (hRm : 0 ≤ R.frames ∧ 0 ≤ R.locals) (x0 : Nat) (x1 : Int32) (M : Cm) (H : Heap) (locs : List Loc) (ls : Array Slot) (hf : fC_X7_addRole N K x0 x1 M = some o) (hR : RC x K M H) (hS : va_S (AC K) s.heap H locs) (hl : lv_has ls 2 [(0, .ref x0), (1, .int x1)]) : W p l e R s m args below meth c H locs 0 0 (MQ below (CQV x K o) args s 0 0 (AC K)) (F0 m 0 ls []) := by
  obtain ⟨hx, hb, hml, hown, hts, hE, hB, hr, hlk⟩ := id CX
  have hL : KLe K K := KLe.rf K
  have hcs : 0 ≤ R.cells ∧ 0 ≤ R.slots := ⟨Nat.zero_le _, Nat.zero_le _⟩
  unfold fC_X7_addRole at hf
  refine lv_aload_n hx hb dX7_addRole_0 rfl (lv_at hl 0 rfl) ?_
  obtain ⟨hk_x0_8, hf⟩ := gd_some hf
  refine cr_getI kc_7 CX hR fa_X7_30 rfl hk_x0_8 dX7_addRole_1 ?_
  refine lv_bipush (v := 6) hx hb dX7_addRole_4 (by decide) ?_
  refine lv_icmp_ge (tgt := 29) hx hb dX7_addRole_6 (by decide) (fun hc => ?_) (fun hc => ?_)
  · rw [if_pos hc] at hf
    exact (wbC_X7_addRole_29 CX hRm) _ _ _ _ _ hf hR hS (lv_sub hl [0] rfl)
  · rw [if_neg hc] at hf
    refine lv_aload_n hx hb dX7_addRole_9 rfl (lv_at hl 0 rfl) ?_
    refine cr_getR kc_7 CX hR fa_X7_9 rfl hk_x0_8 dX7_addRole_10 ?_
    refine lv_aload_n hx hb dX7_addRole_13 rfl (lv_at hl 0 rfl) ?_
    refine cr_getI kc_7 CX hR fa_X7_30 rfl hk_x0_8 dX7_addRole_14 ?_
    refine lv_iload_n hx hb dX7_addRole_17 rfl (lv_at hl 1 rfl) ?_
    obtain ⟨a1, ha1, hf⟩ := nn_some hf
    refine rf_2 ha1 ?_
    obtain ⟨hk_a1_22, hf⟩ := gd_some hf
    obtain ⟨hi, hf⟩ := ck_some hf
    refine cr_iast CX hR hL hS hk_a1_22 hi dX7_addRole_18 (fun H locs hR hS => ?_)
    refine lv_aload_n hx hb dX7_addRole_19 rfl (lv_at hl 0 rfl) ?_
    refine lv_dup hx hb dX7_addRole_20 rfl ?_
    refine cr_getI kc_7 CX hR fa_X7_30 rfl hk_x0_8 dX7_addRole_21 ?_
    refine lv_iconst (v := 1) hx hb dX7_addRole_24 (by decide) ?_
    refine lv_iadd hx hb dX7_addRole_25 ?_
    refine cr_putI kc_7 CX hR hL hS fa_X7_30 ⟨rfl, rfl, rfl⟩ hk_x0_8 dX7_addRole_26 (fun H locs hR hS => ?_)
    exact (wbC_X7_addRole_29 CX hRm) _ _ _ _ _ hf hR hS (lv_sub hl [0] rfl)
theorem MC_X7_addRole (l : Launch) (x : Xc) (N : Nat) (K : Ka) (x0 : Nat) (x1 : Int32) (M : Cm) (o : Cm) (hf : fC_X7_addRole N K x0 x1 M = some o) : CtV l x yX7_addRole cX7_addRole 2 0 0 [.ref x0, .int x1] K M o :=
  cr_metV RX7 (by decide) rfl (Nat.le_of_ble_eq_true rfl) (fun p e s m args below meth c ls CX hR hl => wfC_X7_addRole CX ⟨Nat.le_refl _, Nat.le_refl _⟩ x0 x1 M s.heap [] ls hf hR va_S.rf hl)
def bC_X7_addSetting_39 (N : Nat) (K : Ka) (x0 : Nat) (M : Cm) : Option (Cm) := some M
set_option maxRecDepth 100000 in
set_option maxHeartbeats 4000000 in
theorem wbC_X7_addSetting_39 {p : Program} {l : Launch} {e : Env} {R : Room} {s : State} {m : MethodId} {args : Array Value} {below : List Frame} {meth : Method} {c : Code} {x : Xc} {o : Cm} {N : Nat} {K : Ka} (CX : CC p s m args meth c x K RX7 cX7_addSetting 4 none) (hRm : 0 ≤ R.frames ∧ 0 ≤ R.locals) (x0 : Nat) (M : Cm) (H : Heap) (locs : List Loc) (ls : Array Slot) (hf : bC_X7_addSetting_39 N K x0 M = some o) (hR : RC x K M H) (hS : va_S (AC K) s.heap H locs) (hl : lv_has ls 4 [(0, .ref x0)]) : W p l e R s m args below meth c H locs 0 0 (MQ below (CQV x K o) args s 0 0 (AC K)) (F0 m 39 ls []) := by
  obtain ⟨hx, hb, hml, hown, hts, hE, hB, hr, hlk⟩ := id CX
  have hL : KLe K K := KLe.rf K
  have hcs : 0 ≤ R.cells ∧ 0 ≤ R.slots := ⟨Nat.zero_le _, Nat.zero_le _⟩
  unfold bC_X7_addSetting_39 at hf
  exact cr_vret CX hR hS hf dX7_addSetting_39
def fC_X7_addSetting (N : Nat) (K : Ka) (x0 : Nat) (x1 : Int64) (x3 : Int32) (M : Cm) : Option (Cm) := gd (kd K x0 == 8) (if 8 ≤ (cI M x0 8) then ((bC_X7_addSetting_39 N K) x0 M) else (nn (cR M x0 3) fun a1 => gd (kd K a1 == 23) (ck (cI M x0 8) (le K a1) (nn (cR (wL M a1 (cI M x0 8 : Int32).toNatClampNeg x1) x0 4) fun a2 => gd (kd K a2 == 22) (ck (cI (wL M a1 (cI M x0 8 : Int32).toNatClampNeg x1) x0 8) (le K a2) ((bC_X7_addSetting_39 N K) x0 (wI (wI (wL M a1 (cI M x0 8 : Int32).toNatClampNeg x1) a2 (cI (wL M a1 (cI M x0 8 : Int32).toNatClampNeg x1) x0 8 : Int32).toNatClampNeg x3) x0 8 ((cI (wI (wL M a1 (cI M x0 8 : Int32).toNatClampNeg x1) a2 (cI (wL M a1 (cI M x0 8 : Int32).toNatClampNeg x1) x0 8 : Int32).toNatClampNeg x3) x0 8) + 1))))))))
set_option maxRecDepth 100000 in
set_option maxHeartbeats 4000000 in
theorem wfC_X7_addSetting {p : Program} {l : Launch} {e : Env} {R : Room} {s : State} {m : MethodId} {args : Array Value} {below : List Frame} {meth : Method} {c : Code} {x : Xc} {o : Cm} {N : Nat} {K : Ka} (CX : CC p s m args meth c x K RX7 cX7_addSetting 4 none) (hRm : 0 ≤ R.frames ∧ 0 ≤ R.locals) (x0 : Nat) (x1 : Int64) (x3 : Int32) (M : Cm) (H : Heap) (locs : List Loc) (ls : Array Slot) (hf : fC_X7_addSetting N K x0 x1 x3 M = some o) (hR : RC x K M H) (hS : va_S (AC K) s.heap H locs) (hl : lv_has ls 4 [(0, .ref x0), (1, .long x1), (3, .int x3)]) : W p l e R s m args below meth c H locs 0 0 (MQ below (CQV x K o) args s 0 0 (AC K)) (F0 m 0 ls []) := by
  obtain ⟨hx, hb, hml, hown, hts, hE, hB, hr, hlk⟩ := id CX
  have hL : KLe K K := KLe.rf K
  have hcs : 0 ≤ R.cells ∧ 0 ≤ R.slots := ⟨Nat.zero_le _, Nat.zero_le _⟩
  unfold fC_X7_addSetting at hf
  refine lv_aload_n hx hb dX7_addSetting_0 rfl (lv_at hl 0 rfl) ?_
  obtain ⟨hk_x0_8, hf⟩ := gd_some hf
  refine cr_getI kc_7 CX hR fa_X7_33 rfl hk_x0_8 dX7_addSetting_1 ?_
  refine lv_bipush (v := 8) hx hb dX7_addSetting_4 (by decide) ?_
  refine lv_icmp_ge (tgt := 39) hx hb dX7_addSetting_6 (by decide) (fun hc => ?_) (fun hc => ?_)
  · rw [if_pos hc] at hf
    exact (wbC_X7_addSetting_39 CX hRm) _ _ _ _ _ hf hR hS (lv_sub hl [0] rfl)
  · rw [if_neg hc] at hf
    refine lv_aload_n hx hb dX7_addSetting_9 rfl (lv_at hl 0 rfl) ?_
    refine cr_getR kc_7 CX hR fa_X7_15 rfl hk_x0_8 dX7_addSetting_10 ?_
    refine lv_aload_n hx hb dX7_addSetting_13 rfl (lv_at hl 0 rfl) ?_
    refine cr_getI kc_7 CX hR fa_X7_33 rfl hk_x0_8 dX7_addSetting_14 ?_
    refine lv_lload_n hx hb dX7_addSetting_17 rfl (lv_at hl 1 rfl) ?_
    obtain ⟨a1, ha1, hf⟩ := nn_some hf
    refine rf_2 ha1 ?_
    obtain ⟨hk_a1_23, hf⟩ := gd_some hf
    obtain ⟨hi, hf⟩ := ck_some hf
    refine cr_last CX hR hL hS hk_a1_23 hi dX7_addSetting_18 (fun H locs hR hS => ?_)
    refine lv_aload_n hx hb dX7_addSetting_19 rfl (lv_at hl 0 rfl) ?_
    refine cr_getR kc_7 CX hR fa_X7_19 rfl hk_x0_8 dX7_addSetting_20 ?_
    refine lv_aload_n hx hb dX7_addSetting_23 rfl (lv_at hl 0 rfl) ?_
    refine cr_getI kc_7 CX hR fa_X7_33 rfl hk_x0_8 dX7_addSetting_24 ?_
    refine lv_iload_n hx hb dX7_addSetting_27 rfl (lv_at hl 2 rfl) ?_
    obtain ⟨a2, ha2, hf⟩ := nn_some hf
    refine rf_2 ha2 ?_
    obtain ⟨hk_a2_22, hf⟩ := gd_some hf
    obtain ⟨hi, hf⟩ := ck_some hf
    refine cr_iast CX hR hL hS hk_a2_22 hi dX7_addSetting_28 (fun H locs hR hS => ?_)
    refine lv_aload_n hx hb dX7_addSetting_29 rfl (lv_at hl 0 rfl) ?_
    refine lv_dup hx hb dX7_addSetting_30 rfl ?_
    refine cr_getI kc_7 CX hR fa_X7_33 rfl hk_x0_8 dX7_addSetting_31 ?_
    refine lv_iconst (v := 1) hx hb dX7_addSetting_34 (by decide) ?_
    refine lv_iadd hx hb dX7_addSetting_35 ?_
    refine cr_putI kc_7 CX hR hL hS fa_X7_33 ⟨rfl, rfl, rfl⟩ hk_x0_8 dX7_addSetting_36 (fun H locs hR hS => ?_)
    exact (wbC_X7_addSetting_39 CX hRm) _ _ _ _ _ hf hR hS (lv_sub hl [0] rfl)
theorem MC_X7_addSetting (l : Launch) (x : Xc) (N : Nat) (K : Ka) (x0 : Nat) (x1 : Int64) (x3 : Int32) (M : Cm) (o : Cm) (hf : fC_X7_addSetting N K x0 x1 x3 M = some o) : CtV l x yX7_addSetting cX7_addSetting 4 0 0 [.ref x0, .long x1, .int x3] K M o :=
  cr_metV RX7 (by decide) rfl (Nat.le_of_ble_eq_true rfl) (fun p e s m args below meth c ls CX hR hl => wfC_X7_addSetting CX ⟨Nat.le_refl _, Nat.le_refl _⟩ x0 x1 x3 M s.heap [] ls hf hR va_S.rf hl)
def bC_X7_addStatic_64 (N : Nat) (K : Ka) (x0 : Nat) (x3 : Int32) (M : Cm) : Option (Int32 × Cm) := some (x3, M)
set_option maxRecDepth 100000 in
set_option maxHeartbeats 4000000 in
theorem wbC_X7_addStatic_64 {p : Program} {l : Launch} {e : Env} {R : Room} {s : State} {m : MethodId} {args : Array Value} {below : List Frame} {meth : Method} {c : Code} {x : Xc} {o : Int32 × Cm} {N : Nat} {K : Ka} (CX : CC p s m args meth c x K RX7 cX7_addStatic 4 (some .int)) (hRm : 0 ≤ R.frames ∧ 0 ≤ R.locals) (x0 : Nat) (x3 : Int32) (M : Cm) (H : Heap) (locs : List Loc) (ls : Array Slot) (hf : bC_X7_addStatic_64 N K x0 x3 M = some o) (hR : RC x K M H) (hS : va_S (AC K) s.heap H locs) (hl : lv_has ls 4 [(0, .ref x0), (3, .int x3)]) : W p l e R s m args below meth c H locs 0 0 (MQ below (CQI x K o) args s 0 0 (AC K)) (F0 m 64 ls []) := by
  obtain ⟨hx, hb, hml, hown, hts, hE, hB, hr, hlk⟩ := id CX
  have hL : KLe K K := KLe.rf K
  have hcs : 0 ≤ R.cells ∧ 0 ≤ R.slots := ⟨Nat.zero_le _, Nat.zero_le _⟩
  unfold bC_X7_addStatic_64 at hf
  refine lv_iload_n hx hb dX7_addStatic_64 rfl (lv_at hl 1 rfl) ?_
  exact cr_iret CX hR hS hf dX7_addStatic_65
def fC_X7_addStatic (N : Nat) (K : Ka) (x0 : Nat) (x1 : Int64) (M : Cm) : Option (Int32 × Cm) := gd (kd K x0 == 8) (if 8 ≤ (cI M x0 8) then ((bC_X7_addStatic_64 N K) x0 (cI M x0 9) M) else (nn (cR M x0 3) fun a1 => gd (kd K a1 == 23) (ck (cI M x0 8) (le K a1) (nn (cR (wL M a1 (cI M x0 8 : Int32).toNatClampNeg x1) x0 4) fun a2 => gd (kd K a2 == 22) (ck (cI (wL M a1 (cI M x0 8 : Int32).toNatClampNeg x1) x0 8) (le K a2) (nn (cR (wI (wL M a1 (cI M x0 8 : Int32).toNatClampNeg x1) a2 (cI (wL M a1 (cI M x0 8 : Int32).toNatClampNeg x1) x0 8 : Int32).toNatClampNeg (cI M x0 9)) x0 5) fun a3 => gd (kd K a3 == 24) (ck (cI (wI (wL M a1 (cI M x0 8 : Int32).toNatClampNeg x1) a2 (cI (wL M a1 (cI M x0 8 : Int32).toNatClampNeg x1) x0 8 : Int32).toNatClampNeg (cI M x0 9)) x0 8) (le K a3) ((bC_X7_addStatic_64 N K) x0 (cI M x0 9) (wI (wI (wI (wI (wL M a1 (cI M x0 8 : Int32).toNatClampNeg x1) a2 (cI (wL M a1 (cI M x0 8 : Int32).toNatClampNeg x1) x0 8 : Int32).toNatClampNeg (cI M x0 9)) a3 (cI (wI (wL M a1 (cI M x0 8 : Int32).toNatClampNeg x1) a2 (cI (wL M a1 (cI M x0 8 : Int32).toNatClampNeg x1) x0 8 : Int32).toNatClampNeg (cI M x0 9)) x0 8 : Int32).toNatClampNeg (vp_nar .boolean 1)) x0 8 ((cI (wI (wI (wL M a1 (cI M x0 8 : Int32).toNatClampNeg x1) a2 (cI (wL M a1 (cI M x0 8 : Int32).toNatClampNeg x1) x0 8 : Int32).toNatClampNeg (cI M x0 9)) a3 (cI (wI (wL M a1 (cI M x0 8 : Int32).toNatClampNeg x1) a2 (cI (wL M a1 (cI M x0 8 : Int32).toNatClampNeg x1) x0 8 : Int32).toNatClampNeg (cI M x0 9)) x0 8 : Int32).toNatClampNeg (vp_nar .boolean 1)) x0 8) + 1)) x0 9 ((cI (wI (wI (wI (wL M a1 (cI M x0 8 : Int32).toNatClampNeg x1) a2 (cI (wL M a1 (cI M x0 8 : Int32).toNatClampNeg x1) x0 8 : Int32).toNatClampNeg (cI M x0 9)) a3 (cI (wI (wL M a1 (cI M x0 8 : Int32).toNatClampNeg x1) a2 (cI (wL M a1 (cI M x0 8 : Int32).toNatClampNeg x1) x0 8 : Int32).toNatClampNeg (cI M x0 9)) x0 8 : Int32).toNatClampNeg (vp_nar .boolean 1)) x0 8 ((cI (wI (wI (wL M a1 (cI M x0 8 : Int32).toNatClampNeg x1) a2 (cI (wL M a1 (cI M x0 8 : Int32).toNatClampNeg x1) x0 8 : Int32).toNatClampNeg (cI M x0 9)) a3 (cI (wI (wL M a1 (cI M x0 8 : Int32).toNatClampNeg x1) a2 (cI (wL M a1 (cI M x0 8 : Int32).toNatClampNeg x1) x0 8 : Int32).toNatClampNeg (cI M x0 9)) x0 8 : Int32).toNatClampNeg (vp_nar .boolean 1)) x0 8) + 1)) x0 9) + 1))))))))))
set_option maxRecDepth 100000 in
set_option maxHeartbeats 4000000 in
theorem wfC_X7_addStatic {p : Program} {l : Launch} {e : Env} {R : Room} {s : State} {m : MethodId} {args : Array Value} {below : List Frame} {meth : Method} {c : Code} {x : Xc} {o : Int32 × Cm} {N : Nat} {K : Ka} (CX : CC p s m args meth c x K RX7 cX7_addStatic 4 (some .int)) (hRm : 0 ≤ R.frames ∧ 0 ≤ R.locals) (x0 : Nat) (x1 : Int64) (M : Cm) (H : Heap) (locs : List Loc) (ls : Array Slot) (hf : fC_X7_addStatic N K x0 x1 M = some o) (hR : RC x K M H) (hS : va_S (AC K) s.heap H locs) (hl : lv_has ls 4 [(0, .ref x0), (1, .long x1)]) : W p l e R s m args below meth c H locs 0 0 (MQ below (CQI x K o) args s 0 0 (AC K)) (F0 m 0 ls []) := by
  obtain ⟨hx, hb, hml, hown, hts, hE, hB, hr, hlk⟩ := id CX
  have hL : KLe K K := KLe.rf K
  have hcs : 0 ≤ R.cells ∧ 0 ≤ R.slots := ⟨Nat.zero_le _, Nat.zero_le _⟩
  unfold fC_X7_addStatic at hf
  refine lv_aload_n hx hb dX7_addStatic_0 rfl (lv_at hl 0 rfl) ?_
  obtain ⟨hk_x0_8, hf⟩ := gd_some hf
  refine cr_getI kc_7 CX hR fa_X7_36 rfl hk_x0_8 dX7_addStatic_1 ?_
  refine lv_istore_n (lv' := [(3, .int (cI M x0 9)), (0, .ref x0), (1, .long x1)]) hx hb dX7_addStatic_4 rfl hl (by decide) rfl (fun ls hl => ?_)
  refine lv_aload_n hx hb dX7_addStatic_5 rfl (lv_at hl 1 rfl) ?_
  refine cr_getI kc_7 CX hR fa_X7_33 rfl hk_x0_8 dX7_addStatic_6 ?_
  refine lv_bipush (v := 8) hx hb dX7_addStatic_9 (by decide) ?_
  refine lv_icmp_ge (tgt := 64) hx hb dX7_addStatic_11 (by decide) (fun hc => ?_) (fun hc => ?_)
  · rw [if_pos hc] at hf
    exact (wbC_X7_addStatic_64 CX hRm) _ _ _ _ _ _ hf hR hS (lv_sub hl [1, 0] rfl)
  · rw [if_neg hc] at hf
    refine lv_aload_n hx hb dX7_addStatic_14 rfl (lv_at hl 1 rfl) ?_
    refine cr_getR kc_7 CX hR fa_X7_15 rfl hk_x0_8 dX7_addStatic_15 ?_
    refine lv_aload_n hx hb dX7_addStatic_18 rfl (lv_at hl 1 rfl) ?_
    refine cr_getI kc_7 CX hR fa_X7_33 rfl hk_x0_8 dX7_addStatic_19 ?_
    refine lv_lload_n hx hb dX7_addStatic_22 rfl (lv_at hl 2 rfl) ?_
    obtain ⟨a1, ha1, hf⟩ := nn_some hf
    refine rf_2 ha1 ?_
    obtain ⟨hk_a1_23, hf⟩ := gd_some hf
    obtain ⟨hi, hf⟩ := ck_some hf
    refine cr_last CX hR hL hS hk_a1_23 hi dX7_addStatic_23 (fun H locs hR hS => ?_)
    refine lv_aload_n hx hb dX7_addStatic_24 rfl (lv_at hl 1 rfl) ?_
    refine cr_getR kc_7 CX hR fa_X7_19 rfl hk_x0_8 dX7_addStatic_25 ?_
    refine lv_aload_n hx hb dX7_addStatic_28 rfl (lv_at hl 1 rfl) ?_
    refine cr_getI kc_7 CX hR fa_X7_33 rfl hk_x0_8 dX7_addStatic_29 ?_
    refine lv_iload_n hx hb dX7_addStatic_32 rfl (lv_at hl 0 rfl) ?_
    obtain ⟨a2, ha2, hf⟩ := nn_some hf
    refine rf_2 ha2 ?_
    obtain ⟨hk_a2_22, hf⟩ := gd_some hf
    obtain ⟨hi, hf⟩ := ck_some hf
    refine cr_iast CX hR hL hS hk_a2_22 hi dX7_addStatic_33 (fun H locs hR hS => ?_)
    refine lv_aload_n hx hb dX7_addStatic_34 rfl (lv_at hl 1 rfl) ?_
    refine cr_getR kc_7 CX hR fa_X7_22 rfl hk_x0_8 dX7_addStatic_35 ?_
    refine lv_aload_n hx hb dX7_addStatic_38 rfl (lv_at hl 1 rfl) ?_
    refine cr_getI kc_7 CX hR fa_X7_33 rfl hk_x0_8 dX7_addStatic_39 ?_
    refine lv_iconst (v := 1) hx hb dX7_addStatic_42 (by decide) ?_
    obtain ⟨a3, ha3, hf⟩ := nn_some hf
    refine rf_2 ha3 ?_
    obtain ⟨hk_a3_24, hf⟩ := gd_some hf
    obtain ⟨hi, hf⟩ := ck_some hf
    refine cr_zast CX hR hL hS hk_a3_24 hi dX7_addStatic_43 (fun H locs hR hS => ?_)
    refine lv_aload_n hx hb dX7_addStatic_44 rfl (lv_at hl 1 rfl) ?_
    refine lv_dup hx hb dX7_addStatic_45 rfl ?_
    refine cr_getI kc_7 CX hR fa_X7_33 rfl hk_x0_8 dX7_addStatic_46 ?_
    refine lv_iconst (v := 1) hx hb dX7_addStatic_49 (by decide) ?_
    refine lv_iadd hx hb dX7_addStatic_50 ?_
    refine cr_putI kc_7 CX hR hL hS fa_X7_33 ⟨rfl, rfl, rfl⟩ hk_x0_8 dX7_addStatic_51 (fun H locs hR hS => ?_)
    refine lv_aload_n hx hb dX7_addStatic_54 rfl (lv_at hl 1 rfl) ?_
    refine lv_dup hx hb dX7_addStatic_55 rfl ?_
    refine cr_getI kc_7 CX hR fa_X7_36 rfl hk_x0_8 dX7_addStatic_56 ?_
    refine lv_iconst (v := 1) hx hb dX7_addStatic_59 (by decide) ?_
    refine lv_iadd hx hb dX7_addStatic_60 ?_
    refine cr_putI kc_7 CX hR hL hS fa_X7_36 ⟨rfl, rfl, rfl⟩ hk_x0_8 dX7_addStatic_61 (fun H locs hR hS => ?_)
    exact (wbC_X7_addStatic_64 CX hRm) _ _ _ _ _ _ hf hR hS (lv_sub hl [1, 0] rfl)
theorem MC_X7_addStatic (l : Launch) (x : Xc) (N : Nat) (K : Ka) (x0 : Nat) (x1 : Int64) (M : Cm) (o : Int32 × Cm) (hf : fC_X7_addStatic N K x0 x1 M = some o) : CtI l x yX7_addStatic cX7_addStatic 4 (some .int) 0 0 [.ref x0, .long x1] K M o :=
  cr_metI RX7 (by decide) rfl (Nat.le_of_ble_eq_true rfl) (fun p e s m args below meth c ls CX hR hl => wfC_X7_addStatic CX ⟨Nat.le_refl _, Nat.le_refl _⟩ x0 x1 M s.heap [] ls hf hR va_S.rf hl)
def fC_X8_feed (N : Nat) (K : Ka) (x0 : Nat) (x1 : Int64) (x3 : Int64) (x5 : Int64) (M : Cm) : Option (Int32 × Cm) := gd (kd K x0 == 9) (nn (cR M x0 0) fun a1 => gd (kd K a1 == 7) ((fC_X6_addBytes N K a1 x1 M).bind fun o5 => nn (cR o5 x0 0) fun a2 => gd (kd K a2 == 7) ((fC_X6_addBytes N K a2 x3 o5).bind fun o13 => nn (cR o13 x0 0) fun a3 => gd (kd K a3 == 7) ((fC_X6_addBytes N K a3 x5 o13).bind fun o22 => nn (cR o22 x0 0) fun a4 => gd (kd K a4 == 7) (some (cI o22 a4 5, o22))))))
set_option maxRecDepth 100000 in
set_option maxHeartbeats 4000000 in
theorem wfC_X8_feed {p : Program} {l : Launch} {e : Env} {R : Room} {s : State} {m : MethodId} {args : Array Value} {below : List Frame} {meth : Method} {c : Code} {x : Xc} {o : Int32 × Cm} {N : Nat} {K : Ka} (CX : CC p s m args meth c x K RX8 cX8_feed 7 (some .int)) (hRm : 1 ≤ R.frames ∧ 25 ≤ R.locals) (x0 : Nat) (x1 : Int64) (x3 : Int64) (x5 : Int64) (M : Cm) (H : Heap) (locs : List Loc) (ls : Array Slot) (hf : fC_X8_feed N K x0 x1 x3 x5 M = some o) (hR : RC x K M H) (hS : va_S (AC K) s.heap H locs) (hl : lv_has ls 7 [(0, .ref x0), (1, .long x1), (3, .long x3), (5, .long x5)]) : W p l e R s m args below meth c H locs 0 0 (MQ below (CQI x K o) args s 0 0 (AC K)) (F0 m 0 ls []) := by
  obtain ⟨hx, hb, hml, hown, hts, hE, hB, hr, hlk⟩ := id CX
  have hL : KLe K K := KLe.rf K
  have hcs : 0 ≤ R.cells ∧ 0 ≤ R.slots := ⟨Nat.zero_le _, Nat.zero_le _⟩
  unfold fC_X8_feed at hf
  refine lv_aload_n hx hb dX8_feed_0 rfl (lv_at hl 0 rfl) ?_
  obtain ⟨hk_x0_9, hf⟩ := gd_some hf
  refine cr_getR kc_8 CX hR fa_X8_12 rfl hk_x0_9 dX8_feed_1 ?_
  refine lv_lload_n hx hb dX8_feed_4 rfl (lv_at hl 1 rfl) ?_
  obtain ⟨a1, ha1, hf⟩ := nn_some hf
  refine rf_1 ha1 ?_
  obtain ⟨hk_a1_7, hf⟩ := gd_some hf
  obtain ⟨o5, ho5, hf⟩ := bnd_some hf
  refine cr_callVv kc_6 CX hR hL hS (As := [.long x1]) (rest := []) hk_a1_7 (MC_X6_addBytes l x N K a1 x1 M o5 ho5) cv_X8_81 ⟨by omega, by omega⟩ rfl rfl (Nat.le_of_ble_eq_true rfl) hl.1 dX8_feed_5 hcs (fun H locs hR hS => ?_)
  refine lv_aload_n hx hb dX8_feed_8 rfl (lv_at hl 0 rfl) ?_
  refine cr_getR kc_8 CX hR fa_X8_12 rfl hk_x0_9 dX8_feed_9 ?_
  refine lv_lload_n hx hb dX8_feed_12 rfl (lv_at hl 2 rfl) ?_
  obtain ⟨a2, ha2, hf⟩ := nn_some hf
  refine rf_1 ha2 ?_
  obtain ⟨hk_a2_7, hf⟩ := gd_some hf
  obtain ⟨o13, ho13, hf⟩ := bnd_some hf
  refine cr_callVv kc_6 CX hR hL hS (As := [.long x3]) (rest := []) hk_a2_7 (MC_X6_addBytes l x N K a2 x3 o5 o13 ho13) cv_X8_81 ⟨by omega, by omega⟩ rfl rfl (Nat.le_of_ble_eq_true rfl) hl.1 dX8_feed_13 hcs (fun H locs hR hS => ?_)
  refine lv_aload_n hx hb dX8_feed_16 rfl (lv_at hl 0 rfl) ?_
  refine cr_getR kc_8 CX hR fa_X8_12 rfl hk_x0_9 dX8_feed_17 ?_
  refine lv_lload hx hb dX8_feed_20 (lv_at hl 3 rfl) ?_
  obtain ⟨a3, ha3, hf⟩ := nn_some hf
  refine rf_1 ha3 ?_
  obtain ⟨hk_a3_7, hf⟩ := gd_some hf
  obtain ⟨o22, ho22, hf⟩ := bnd_some hf
  refine cr_callVv kc_6 CX hR hL hS (As := [.long x5]) (rest := []) hk_a3_7 (MC_X6_addBytes l x N K a3 x5 o13 o22 ho22) cv_X8_81 ⟨by omega, by omega⟩ rfl rfl (Nat.le_of_ble_eq_true rfl) hl.1 dX8_feed_22 hcs (fun H locs hR hS => ?_)
  refine lv_aload_n hx hb dX8_feed_25 rfl (lv_at hl 0 rfl) ?_
  refine cr_getR kc_8 CX hR fa_X8_12 rfl hk_x0_9 dX8_feed_26 ?_
  obtain ⟨a4, ha4, hf⟩ := nn_some hf
  refine rf_0 ha4 ?_
  obtain ⟨hk_a4_7, hf⟩ := gd_some hf
  refine cr_getI kc_6 CX hR fa_X8_85 rfl hk_a4_7 dX8_feed_29 ?_
  exact cr_iret CX hR hS hf dX8_feed_32
theorem MC_X8_feed (l : Launch) (x : Xc) (N : Nat) (K : Ka) (x0 : Nat) (x1 : Int64) (x3 : Int64) (x5 : Int64) (M : Cm) (o : Int32 × Cm) (hf : fC_X8_feed N K x0 x1 x3 x5 M = some o) : CtI l x yX8_feed cX8_feed 7 (some .int) 1 25 [.ref x0, .long x1, .long x3, .long x5] K M o :=
  cr_metI RX8 (by decide) rfl (Nat.le_of_ble_eq_true rfl) (fun p e s m args below meth c ls CX hR hl => wfC_X8_feed CX ⟨Nat.le_refl _, Nat.le_refl _⟩ x0 x1 x3 x5 M s.heap [] ls hf hR va_S.rf hl)
def bC_X8_canDemand_32 (N : Nat) (K : Ka) (x0 : Nat) (s0 : Int32) (M : Cm) : Option (Int32 × Cm) := gd (is01 s0) (some (s0, M))
set_option maxRecDepth 100000 in
set_option maxHeartbeats 4000000 in
theorem wbC_X8_canDemand_32 {p : Program} {l : Launch} {e : Env} {R : Room} {s : State} {m : MethodId} {args : Array Value} {below : List Frame} {meth : Method} {c : Code} {x : Xc} {o : Int32 × Cm} {N : Nat} {K : Ka} (CX : CC p s m args meth c x K RX8 cX8_canDemand 3 (some .boolean)) (hRm : 0 ≤ R.frames ∧ 0 ≤ R.locals) (x0 : Nat) (s0 : Int32) (M : Cm) (H : Heap) (locs : List Loc) (ls : Array Slot) (hf : bC_X8_canDemand_32 N K x0 s0 M = some o) (hR : RC x K M H) (hS : va_S (AC K) s.heap H locs) (hl : lv_has ls 3 [(0, .ref x0)]) : W p l e R s m args below meth c H locs 0 0 (MQ below (CQI x K o) args s 0 0 (AC K)) (F0 m 32 ls [.int s0]) := by
  obtain ⟨hx, hb, hml, hown, hts, hE, hB, hr, hlk⟩ := id CX
  have hL : KLe K K := KLe.rf K
  have hcs : 0 ≤ R.cells ∧ 0 ≤ R.slots := ⟨Nat.zero_le _, Nat.zero_le _⟩
  unfold bC_X8_canDemand_32 at hf
  obtain ⟨hz, hf⟩ := gd_some hf
  exact cr_zret CX hR hS hz hf dX8_canDemand_32
def bC_X8_canDemand_31 (N : Nat) (K : Ka) (x0 : Nat) (M : Cm) : Option (Int32 × Cm) := (bC_X8_canDemand_32 N K) x0 0 M
set_option maxRecDepth 100000 in
set_option maxHeartbeats 4000000 in
theorem wbC_X8_canDemand_31 {p : Program} {l : Launch} {e : Env} {R : Room} {s : State} {m : MethodId} {args : Array Value} {below : List Frame} {meth : Method} {c : Code} {x : Xc} {o : Int32 × Cm} {N : Nat} {K : Ka} (CX : CC p s m args meth c x K RX8 cX8_canDemand 3 (some .boolean)) (hRm : 0 ≤ R.frames ∧ 0 ≤ R.locals) (x0 : Nat) (M : Cm) (H : Heap) (locs : List Loc) (ls : Array Slot) (hf : bC_X8_canDemand_31 N K x0 M = some o) (hR : RC x K M H) (hS : va_S (AC K) s.heap H locs) (hl : lv_has ls 3 [(0, .ref x0)]) : W p l e R s m args below meth c H locs 0 0 (MQ below (CQI x K o) args s 0 0 (AC K)) (F0 m 31 ls []) := by
  obtain ⟨hx, hb, hml, hown, hts, hE, hB, hr, hlk⟩ := id CX
  have hL : KLe K K := KLe.rf K
  have hcs : 0 ≤ R.cells ∧ 0 ≤ R.slots := ⟨Nat.zero_le _, Nat.zero_le _⟩
  unfold bC_X8_canDemand_31 at hf
  refine lv_iconst (v := 0) hx hb dX8_canDemand_31 (by decide) ?_
  exact (wbC_X8_canDemand_32 CX hRm) _ _ _ _ _ _ hf hR hS (lv_sub hl [0] rfl)
def fC_X8_canDemand (N : Nat) (K : Ka) (x0 : Nat) (x1 : Int32) (x2 : Int32) (M : Cm) : Option (Int32 × Cm) := if x1 < 0 then ((bC_X8_canDemand_31 N K) x0 M) else (gd (kd K x0 == 9) (nn (cR M x0 7) fun a1 => gd (kd K a1 == 6) (if (cI M a1 12) ≤ x1 then ((bC_X8_canDemand_31 N K) x0 M) else (if x2 < 1 then ((bC_X8_canDemand_31 N K) x0 M) else (if 5000 < x2 then ((bC_X8_canDemand_31 N K) x0 M) else ((bC_X8_canDemand_32 N K) x0 1 M))))))
set_option maxRecDepth 100000 in
set_option maxHeartbeats 4000000 in
theorem wfC_X8_canDemand {p : Program} {l : Launch} {e : Env} {R : Room} {s : State} {m : MethodId} {args : Array Value} {below : List Frame} {meth : Method} {c : Code} {x : Xc} {o : Int32 × Cm} {N : Nat} {K : Ka} (CX : CC p s m args meth c x K RX8 cX8_canDemand 3 (some .boolean)) (hRm : 0 ≤ R.frames ∧ 0 ≤ R.locals) (x0 : Nat) (x1 : Int32) (x2 : Int32) (M : Cm) (H : Heap) (locs : List Loc) (ls : Array Slot) (hf : fC_X8_canDemand N K x0 x1 x2 M = some o) (hR : RC x K M H) (hS : va_S (AC K) s.heap H locs) (hl : lv_has ls 3 [(0, .ref x0), (1, .int x1), (2, .int x2)]) : W p l e R s m args below meth c H locs 0 0 (MQ below (CQI x K o) args s 0 0 (AC K)) (F0 m 0 ls []) := by
  obtain ⟨hx, hb, hml, hown, hts, hE, hB, hr, hlk⟩ := id CX
  have hL : KLe K K := KLe.rf K
  have hcs : 0 ≤ R.cells ∧ 0 ≤ R.slots := ⟨Nat.zero_le _, Nat.zero_le _⟩
  unfold fC_X8_canDemand at hf
  refine lv_iload_n hx hb dX8_canDemand_0 rfl (lv_at hl 1 rfl) ?_
  refine lv_if_lt (tgt := 31) hx hb dX8_canDemand_1 (by decide) (fun hc => ?_) (fun hc => ?_)
  · rw [if_pos hc] at hf
    exact (wbC_X8_canDemand_31 CX hRm) _ _ _ _ _ hf hR hS (lv_sub hl [0] rfl)
  · rw [if_neg hc] at hf
    refine lv_iload_n hx hb dX8_canDemand_4 rfl (lv_at hl 1 rfl) ?_
    refine lv_aload_n hx hb dX8_canDemand_5 rfl (lv_at hl 0 rfl) ?_
    obtain ⟨hk_x0_9, hf⟩ := gd_some hf
    refine cr_getR kc_8 CX hR fa_X8_60 rfl hk_x0_9 dX8_canDemand_6 ?_
    obtain ⟨a1, ha1, hf⟩ := nn_some hf
    refine rf_0 ha1 ?_
    obtain ⟨hk_a1_6, hf⟩ := gd_some hf
    refine cr_getI kc_5 CX hR fa_X8_139 rfl hk_a1_6 dX8_canDemand_9 ?_
    refine lv_icmp_ge (tgt := 31) hx hb dX8_canDemand_12 (by decide) (fun hc => ?_) (fun hc => ?_)
    · rw [if_pos hc] at hf
      exact (wbC_X8_canDemand_31 CX hRm) _ _ _ _ _ hf hR hS (lv_sub hl [0] rfl)
    · rw [if_neg hc] at hf
      refine lv_iload_n hx hb dX8_canDemand_15 rfl (lv_at hl 2 rfl) ?_
      refine lv_iconst (v := 1) hx hb dX8_canDemand_16 (by decide) ?_
      refine lv_icmp_lt (tgt := 31) hx hb dX8_canDemand_17 (by decide) (fun hc => ?_) (fun hc => ?_)
      · rw [if_pos hc] at hf
        exact (wbC_X8_canDemand_31 CX hRm) _ _ _ _ _ hf hR hS (lv_sub hl [0] rfl)
      · rw [if_neg hc] at hf
        refine lv_iload_n hx hb dX8_canDemand_20 rfl (lv_at hl 2 rfl) ?_
        refine lv_sipush (v := 5000) hx hb dX8_canDemand_21 (by decide) ?_
        refine lv_icmp_gt (tgt := 31) hx hb dX8_canDemand_24 (by decide) (fun hc => ?_) (fun hc => ?_)
        · rw [if_pos hc] at hf
          exact (wbC_X8_canDemand_31 CX hRm) _ _ _ _ _ hf hR hS (lv_sub hl [0] rfl)
        · rw [if_neg hc] at hf
          refine lv_iconst (v := 1) hx hb dX8_canDemand_27 (by decide) ?_
          refine lv_goto (tgt := 32) hx hb dX8_canDemand_28 (by decide) ?_
          exact (wbC_X8_canDemand_32 CX hRm) _ _ _ _ _ _ hf hR hS (lv_sub hl [0] rfl)
theorem MC_X8_canDemand (l : Launch) (x : Xc) (N : Nat) (K : Ka) (x0 : Nat) (x1 : Int32) (x2 : Int32) (M : Cm) (o : Int32 × Cm) (hf : fC_X8_canDemand N K x0 x1 x2 M = some o) : CtI l x yX8_canDemand cX8_canDemand 3 (some .boolean) 0 0 [.ref x0, .int x1, .int x2] K M o :=
  cr_metI RX8 (by decide) rfl (Nat.le_of_ble_eq_true rfl) (fun p e s m args below meth c ls CX hR hl => wfC_X8_canDemand CX ⟨Nat.le_refl _, Nat.le_refl _⟩ x0 x1 x2 M s.heap [] ls hf hR va_S.rf hl)
def fC_X8_demand (N : Nat) (K : Ka) (x0 : Nat) (x1 : Int32) (x2 : Int32) (M : Cm) : Option (Int32 × Cm) := gd (kd K x0 == 9) ((fC_X8_canDemand N K x0 x1 x2 M).bind fun o3 => if o3.1 = 0 then (some (4, o3.2)) else (if (cI o3.2 x0 12) = 0 then (nn (cR o3.2 x0 7) fun a1 => nn (cR o3.2 x0 5) fun a2 => gd (kd K a2 == 3) ((fC_X2_runDemand N K a2 a1 x1 x2 o3.2).bind fun o30 => nn (cR o30 x0 5) fun a3 => gd (kd K a3 == 3) (nn (cR (wI o30 x0 9 (cI o30 a3 15)) x0 5) fun a4 => gd (kd K a4 == 3) (nn (cR (wI (wI o30 x0 9 (cI o30 a3 15)) x0 10 (cI (wI o30 x0 9 (cI o30 a3 15)) a4 16)) x0 5) fun a5 => gd (kd K a5 == 3) (nn (cR (wI (wI (wI o30 x0 9 (cI o30 a3 15)) x0 10 (cI (wI o30 x0 9 (cI o30 a3 15)) a4 16)) x0 11 (cI (wI (wI o30 x0 9 (cI o30 a3 15)) x0 10 (cI (wI o30 x0 9 (cI o30 a3 15)) a4 16)) a5 12)) x0 5) fun a6 => gd (kd K a6 == 3) (if (cI (wI (wI (wI o30 x0 9 (cI o30 a3 15)) x0 10 (cI (wI o30 x0 9 (cI o30 a3 15)) a4 16)) x0 11 (cI (wI (wI o30 x0 9 (cI o30 a3 15)) x0 10 (cI (wI o30 x0 9 (cI o30 a3 15)) a4 16)) a5 12)) a6 14) = 0 then (if (cI (wI (wI (wI o30 x0 9 (cI o30 a3 15)) x0 10 (cI (wI o30 x0 9 (cI o30 a3 15)) a4 16)) x0 11 (cI (wI (wI o30 x0 9 (cI o30 a3 15)) x0 10 (cI (wI o30 x0 9 (cI o30 a3 15)) a4 16)) a5 12)) x0 9) = 0 then (some (0, wI (wI (wI o30 x0 9 (cI o30 a3 15)) x0 10 (cI (wI o30 x0 9 (cI o30 a3 15)) a4 16)) x0 11 (cI (wI (wI o30 x0 9 (cI o30 a3 15)) x0 10 (cI (wI o30 x0 9 (cI o30 a3 15)) a4 16)) a5 12))) else if (cI (wI (wI (wI o30 x0 9 (cI o30 a3 15)) x0 10 (cI (wI o30 x0 9 (cI o30 a3 15)) a4 16)) x0 11 (cI (wI (wI o30 x0 9 (cI o30 a3 15)) x0 10 (cI (wI o30 x0 9 (cI o30 a3 15)) a4 16)) a5 12)) x0 9) = 20 then (some (1, wI (wI (wI o30 x0 9 (cI o30 a3 15)) x0 10 (cI (wI o30 x0 9 (cI o30 a3 15)) a4 16)) x0 11 (cI (wI (wI o30 x0 9 (cI o30 a3 15)) x0 10 (cI (wI o30 x0 9 (cI o30 a3 15)) a4 16)) a5 12))) else if (cI (wI (wI (wI o30 x0 9 (cI o30 a3 15)) x0 10 (cI (wI o30 x0 9 (cI o30 a3 15)) a4 16)) x0 11 (cI (wI (wI o30 x0 9 (cI o30 a3 15)) x0 10 (cI (wI o30 x0 9 (cI o30 a3 15)) a4 16)) a5 12)) x0 9) = 21 then (some (2, wI (wI (wI o30 x0 9 (cI o30 a3 15)) x0 10 (cI (wI o30 x0 9 (cI o30 a3 15)) a4 16)) x0 11 (cI (wI (wI o30 x0 9 (cI o30 a3 15)) x0 10 (cI (wI o30 x0 9 (cI o30 a3 15)) a4 16)) a5 12))) else (some (3, wI (wI (wI o30 x0 9 (cI o30 a3 15)) x0 10 (cI (wI o30 x0 9 (cI o30 a3 15)) a4 16)) x0 11 (cI (wI (wI o30 x0 9 (cI o30 a3 15)) x0 10 (cI (wI o30 x0 9 (cI o30 a3 15)) a4 16)) a5 12)))) else (some (6, wI (wI (wI o30 x0 9 (cI o30 a3 15)) x0 10 (cI (wI o30 x0 9 (cI o30 a3 15)) a4 16)) x0 11 (cI (wI (wI o30 x0 9 (cI o30 a3 15)) x0 10 (cI (wI o30 x0 9 (cI o30 a3 15)) a4 16)) a5 12))))))))) else (some (5, o3.2))))
set_option maxRecDepth 100000 in
set_option maxHeartbeats 4000000 in
theorem wfC_X8_demand {p : Program} {l : Launch} {e : Env} {R : Room} {s : State} {m : MethodId} {args : Array Value} {below : List Frame} {meth : Method} {c : Code} {x : Xc} {o : Int32 × Cm} {N : Nat} {K : Ka} (CX : CC p s m args meth c x K RX8 cX8_demand 3 (some .int)) (hRm : 7 ≤ R.frames ∧ 167 ≤ R.locals) (x0 : Nat) (x1 : Int32) (x2 : Int32) (M : Cm) (H : Heap) (locs : List Loc) (ls : Array Slot) (hf : fC_X8_demand N K x0 x1 x2 M = some o) (hR : RC x K M H) (hS : va_S (AC K) s.heap H locs) (hl : lv_has ls 3 [(0, .ref x0), (1, .int x1), (2, .int x2)]) : W p l e R s m args below meth c H locs 0 0 (MQ below (CQI x K o) args s 0 0 (AC K)) (F0 m 0 ls []) := by
  obtain ⟨hx, hb, hml, hown, hts, hE, hB, hr, hlk⟩ := id CX
  have hL : KLe K K := KLe.rf K
  have hcs : 0 ≤ R.cells ∧ 0 ≤ R.slots := ⟨Nat.zero_le _, Nat.zero_le _⟩
  unfold fC_X8_demand at hf
  refine lv_aload_n hx hb dX8_demand_0 rfl (lv_at hl 0 rfl) ?_
  refine lv_iload_n hx hb dX8_demand_1 rfl (lv_at hl 1 rfl) ?_
  refine lv_iload_n hx hb dX8_demand_2 rfl (lv_at hl 2 rfl) ?_
  obtain ⟨hk_x0_9, hf⟩ := gd_some hf
  obtain ⟨o3, ho3, hf⟩ := bnd_some hf
  refine cr_callIv kc_8 CX hR hL hS (As := [.int x1, .int x2]) (rest := []) hk_x0_9 (MC_X8_canDemand l x N K x0 x1 x2 M o3 ho3) cv_X8_142 ⟨by omega, by omega⟩ rfl rfl (Nat.le_of_ble_eq_true rfl) hl.1 dX8_demand_3 hcs (fun H locs hR hS => ?_)
  refine lv_if_ne (tgt := 11) hx hb dX8_demand_6 (by decide) (fun hc => ?_) (fun hc => ?_)
  · rw [if_neg hc] at hf
    refine lv_aload_n hx hb dX8_demand_11 rfl (lv_at hl 0 rfl) ?_
    refine cr_getI kc_8 CX hR fa_X8_77 rfl hk_x0_9 dX8_demand_12 ?_
    refine lv_if_eq (tgt := 20) hx hb dX8_demand_15 (by decide) (fun hc => ?_) (fun hc => ?_)
    · rw [if_pos hc] at hf
      refine lv_aload_n hx hb dX8_demand_20 rfl (lv_at hl 0 rfl) ?_
      refine cr_getR kc_8 CX hR fa_X8_47 rfl hk_x0_9 dX8_demand_21 ?_
      refine lv_aload_n hx hb dX8_demand_24 rfl (lv_at hl 0 rfl) ?_
      refine cr_getR kc_8 CX hR fa_X8_60 rfl hk_x0_9 dX8_demand_25 ?_
      refine lv_iload_n hx hb dX8_demand_28 rfl (lv_at hl 1 rfl) ?_
      refine lv_iload_n hx hb dX8_demand_29 rfl (lv_at hl 2 rfl) ?_
      obtain ⟨a1, ha1, hf⟩ := nn_some hf
      refine rf_2 ha1 ?_
      obtain ⟨a2, ha2, hf⟩ := nn_some hf
      refine rf_3 ha2 ?_
      obtain ⟨hk_a2_3, hf⟩ := gd_some hf
      obtain ⟨o30, ho30, hf⟩ := bnd_some hf
      refine cr_callVv kc_2 CX hR hL hS (As := [.ref a1, .int x1, .int x2]) (rest := []) hk_a2_3 (MC_X2_runDemand l x N K a2 a1 x1 x2 o3.2 o30 ho30) cv_X8_146 ⟨by omega, by omega⟩ rfl rfl (Nat.le_of_ble_eq_true rfl) hl.1 dX8_demand_30 hcs (fun H locs hR hS => ?_)
      refine lv_aload_n hx hb dX8_demand_33 rfl (lv_at hl 0 rfl) ?_
      refine lv_aload_n hx hb dX8_demand_34 rfl (lv_at hl 0 rfl) ?_
      refine cr_getR kc_8 CX hR fa_X8_47 rfl hk_x0_9 dX8_demand_35 ?_
      obtain ⟨a3, ha3, hf⟩ := nn_some hf
      refine rf_0 ha3 ?_
      obtain ⟨hk_a3_3, hf⟩ := gd_some hf
      refine cr_getI kc_2 CX hR fa_X8_150 rfl hk_a3_3 dX8_demand_38 ?_
      refine cr_putI kc_8 CX hR hL hS fa_X8_68 ⟨rfl, rfl, rfl⟩ hk_x0_9 dX8_demand_41 (fun H locs hR hS => ?_)
      refine lv_aload_n hx hb dX8_demand_44 rfl (lv_at hl 0 rfl) ?_
      refine lv_aload_n hx hb dX8_demand_45 rfl (lv_at hl 0 rfl) ?_
      refine cr_getR kc_8 CX hR fa_X8_47 rfl hk_x0_9 dX8_demand_46 ?_
      obtain ⟨a4, ha4, hf⟩ := nn_some hf
      refine rf_0 ha4 ?_
      obtain ⟨hk_a4_3, hf⟩ := gd_some hf
      refine cr_getI kc_2 CX hR fa_X8_153 rfl hk_a4_3 dX8_demand_49 ?_
      refine cr_putI kc_8 CX hR hL hS fa_X8_71 ⟨rfl, rfl, rfl⟩ hk_x0_9 dX8_demand_52 (fun H locs hR hS => ?_)
      refine lv_aload_n hx hb dX8_demand_55 rfl (lv_at hl 0 rfl) ?_
      refine lv_aload_n hx hb dX8_demand_56 rfl (lv_at hl 0 rfl) ?_
      refine cr_getR kc_8 CX hR fa_X8_47 rfl hk_x0_9 dX8_demand_57 ?_
      obtain ⟨a5, ha5, hf⟩ := nn_some hf
      refine rf_0 ha5 ?_
      obtain ⟨hk_a5_3, hf⟩ := gd_some hf
      refine cr_getI kc_2 CX hR fa_X8_156 rfl hk_a5_3 dX8_demand_60 ?_
      refine cr_putI kc_8 CX hR hL hS fa_X8_74 ⟨rfl, rfl, rfl⟩ hk_x0_9 dX8_demand_63 (fun H locs hR hS => ?_)
      refine lv_aload_n hx hb dX8_demand_66 rfl (lv_at hl 0 rfl) ?_
      refine cr_getR kc_8 CX hR fa_X8_47 rfl hk_x0_9 dX8_demand_67 ?_
      obtain ⟨a6, ha6, hf⟩ := nn_some hf
      refine rf_0 ha6 ?_
      obtain ⟨hk_a6_3, hf⟩ := gd_some hf
      refine cr_getI kc_2 CX hR fa_X8_159 rfl hk_a6_3 dX8_demand_70 ?_
      refine lv_if_eq (tgt := 79) hx hb dX8_demand_73 (by decide) (fun hc => ?_) (fun hc => ?_)
      · rw [if_pos hc] at hf
        refine lv_aload_n hx hb dX8_demand_79 rfl (lv_at hl 0 rfl) ?_
        refine cr_getI kc_8 CX hR fa_X8_68 rfl hk_x0_9 dX8_demand_80 ?_
        by_cases hc0 : (cI (wI (wI (wI o30 x0 9 (cI o30 a3 15)) x0 10 (cI (wI o30 x0 9 (cI o30 a3 15)) a4 16)) x0 11 (cI (wI (wI o30 x0 9 (cI o30 a3 15)) x0 10 (cI (wI o30 x0 9 (cI o30 a3 15)) a4 16)) a5 12)) x0 9) = 0
        · rw [if_pos hc0] at hf
          refine lv_lookup (off := 33) (tgt := 116) hx hb dX8_demand_83 (by decide) (by rw [hc0]; decide) (by decide) ?_
          refine lv_iconst (v := 0) hx hb dX8_demand_116 (by decide) ?_
          exact cr_iret CX hR hS hf dX8_demand_117
        · rw [if_neg hc0] at hf
          by_cases hc1 : (cI (wI (wI (wI o30 x0 9 (cI o30 a3 15)) x0 10 (cI (wI o30 x0 9 (cI o30 a3 15)) a4 16)) x0 11 (cI (wI (wI o30 x0 9 (cI o30 a3 15)) x0 10 (cI (wI o30 x0 9 (cI o30 a3 15)) a4 16)) a5 12)) x0 9) = 20
          · rw [if_pos hc1] at hf
            refine lv_lookup (off := 35) (tgt := 118) hx hb dX8_demand_83 (by decide) (by rw [hc1]; decide) (by decide) ?_
            refine lv_iconst (v := 1) hx hb dX8_demand_118 (by decide) ?_
            exact cr_iret CX hR hS hf dX8_demand_119
          · rw [if_neg hc1] at hf
            by_cases hc2 : (cI (wI (wI (wI o30 x0 9 (cI o30 a3 15)) x0 10 (cI (wI o30 x0 9 (cI o30 a3 15)) a4 16)) x0 11 (cI (wI (wI o30 x0 9 (cI o30 a3 15)) x0 10 (cI (wI o30 x0 9 (cI o30 a3 15)) a4 16)) a5 12)) x0 9) = 21
            · rw [if_pos hc2] at hf
              refine lv_lookup (off := 37) (tgt := 120) hx hb dX8_demand_83 (by decide) (by rw [hc2]; decide) (by decide) ?_
              refine lv_iconst (v := 2) hx hb dX8_demand_120 (by decide) ?_
              exact cr_iret CX hR hS hf dX8_demand_121
            · rw [if_neg hc2] at hf
              have hn0 := tsw_ne (k := 0) rfl hc0
              have hn1 := tsw_ne (k := 20) rfl hc1
              have hn2 := tsw_ne (k := 21) rfl hc2
              refine lv_lookup (off := 39) (tgt := 122) hx hb dX8_demand_83 (by decide) (by simp only [Op.lookupswitch.offset, List.toList_toArray, Ne.symm hn0, Ne.symm hn1, Ne.symm hn2, if_false]) (by decide) ?_
              refine lv_iconst (v := 3) hx hb dX8_demand_122 (by decide) ?_
              exact cr_iret CX hR hS hf dX8_demand_123
      · rw [if_neg hc] at hf
        refine lv_bipush (v := 6) hx hb dX8_demand_76 (by decide) ?_
        exact cr_iret CX hR hS hf dX8_demand_78
    · rw [if_neg hc] at hf
      refine lv_iconst (v := 5) hx hb dX8_demand_18 (by decide) ?_
      exact cr_iret CX hR hS hf dX8_demand_19
  · rw [if_pos hc] at hf
    refine lv_iconst (v := 4) hx hb dX8_demand_9 (by decide) ?_
    exact cr_iret CX hR hS hf dX8_demand_10
theorem MC_X8_demand (l : Launch) (x : Xc) (N : Nat) (K : Ka) (x0 : Nat) (x1 : Int32) (x2 : Int32) (M : Cm) (o : Int32 × Cm) (hf : fC_X8_demand N K x0 x1 x2 M = some o) : CtI l x yX8_demand cX8_demand 3 (some .int) 7 167 [.ref x0, .int x1, .int x2] K M o :=
  cr_metI RX8 (by decide) rfl (Nat.le_of_ble_eq_true rfl) (fun p e s m args below meth c ls CX hR hl => wfC_X8_demand CX ⟨Nat.le_refl _, Nat.le_refl _⟩ x0 x1 x2 M s.heap [] ls hf hR va_S.rf hl)
def bC_X8_ended_22 (N : Nat) (K : Ka) (x0 : Nat) (s0 : Int32) (M : Cm) : Option (Int32 × Cm) := some (s0, M)
set_option maxRecDepth 100000 in
set_option maxHeartbeats 4000000 in
theorem wbC_X8_ended_22 {p : Program} {l : Launch} {e : Env} {R : Room} {s : State} {m : MethodId} {args : Array Value} {below : List Frame} {meth : Method} {c : Code} {x : Xc} {o : Int32 × Cm} {N : Nat} {K : Ka} (CX : CC p s m args meth c x K RX8 cX8_ended 2 (some .int)) (hRm : 0 ≤ R.frames ∧ 0 ≤ R.locals) (x0 : Nat) (s0 : Int32) (M : Cm) (H : Heap) (locs : List Loc) (ls : Array Slot) (hf : bC_X8_ended_22 N K x0 s0 M = some o) (hR : RC x K M H) (hS : va_S (AC K) s.heap H locs) (hl : lv_has ls 2 [(0, .ref x0)]) : W p l e R s m args below meth c H locs 0 0 (MQ below (CQI x K o) args s 0 0 (AC K)) (F0 m 22 ls [.int s0]) := by
  obtain ⟨hx, hb, hml, hown, hts, hE, hB, hr, hlk⟩ := id CX
  have hL : KLe K K := KLe.rf K
  have hcs : 0 ≤ R.cells ∧ 0 ≤ R.slots := ⟨Nat.zero_le _, Nat.zero_le _⟩
  unfold bC_X8_ended_22 at hf
  exact cr_iret CX hR hS hf dX8_ended_22
def fC_X8_ended (N : Nat) (K : Ka) (x0 : Nat) (x1 : Int32) (M : Cm) : Option (Int32 × Cm) := if x1 = 0 then (gd (kd K x0 == 9) (some (cI M x0 9, M))) else (if x1 = 1 then (gd (kd K x0 == 9) ((bC_X8_ended_22 N K) x0 (cI M x0 10) M)) else ((bC_X8_ended_22 N K) x0 0 M))
set_option maxRecDepth 100000 in
set_option maxHeartbeats 4000000 in
theorem wfC_X8_ended {p : Program} {l : Launch} {e : Env} {R : Room} {s : State} {m : MethodId} {args : Array Value} {below : List Frame} {meth : Method} {c : Code} {x : Xc} {o : Int32 × Cm} {N : Nat} {K : Ka} (CX : CC p s m args meth c x K RX8 cX8_ended 2 (some .int)) (hRm : 0 ≤ R.frames ∧ 0 ≤ R.locals) (x0 : Nat) (x1 : Int32) (M : Cm) (H : Heap) (locs : List Loc) (ls : Array Slot) (hf : fC_X8_ended N K x0 x1 M = some o) (hR : RC x K M H) (hS : va_S (AC K) s.heap H locs) (hl : lv_has ls 2 [(0, .ref x0), (1, .int x1)]) : W p l e R s m args below meth c H locs 0 0 (MQ below (CQI x K o) args s 0 0 (AC K)) (F0 m 0 ls []) := by
  obtain ⟨hx, hb, hml, hown, hts, hE, hB, hr, hlk⟩ := id CX
  have hL : KLe K K := KLe.rf K
  have hcs : 0 ≤ R.cells ∧ 0 ≤ R.slots := ⟨Nat.zero_le _, Nat.zero_le _⟩
  unfold fC_X8_ended at hf
  refine lv_iload_n hx hb dX8_ended_0 rfl (lv_at hl 1 rfl) ?_
  refine lv_if_ne (tgt := 9) hx hb dX8_ended_1 (by decide) (fun hc => ?_) (fun hc => ?_)
  · rw [if_neg hc] at hf
    refine lv_iload_n hx hb dX8_ended_9 rfl (lv_at hl 1 rfl) ?_
    refine lv_iconst (v := 1) hx hb dX8_ended_10 (by decide) ?_
    refine lv_icmp_ne (tgt := 21) hx hb dX8_ended_11 (by decide) (fun hc => ?_) (fun hc => ?_)
    · rw [if_neg hc] at hf
      refine lv_iconst (v := 0) hx hb dX8_ended_21 (by decide) ?_
      exact (wbC_X8_ended_22 CX hRm) _ _ _ _ _ _ hf hR hS (lv_sub hl [0] rfl)
    · rw [if_pos hc] at hf
      refine lv_aload_n hx hb dX8_ended_14 rfl (lv_at hl 0 rfl) ?_
      obtain ⟨hk_x0_9, hf⟩ := gd_some hf
      refine cr_getI kc_8 CX hR fa_X8_71 rfl hk_x0_9 dX8_ended_15 ?_
      refine lv_goto (tgt := 22) hx hb dX8_ended_18 (by decide) ?_
      exact (wbC_X8_ended_22 CX hRm) _ _ _ _ _ _ hf hR hS (lv_sub hl [0] rfl)
  · rw [if_pos hc] at hf
    refine lv_aload_n hx hb dX8_ended_4 rfl (lv_at hl 0 rfl) ?_
    obtain ⟨hk_x0_9, hf⟩ := gd_some hf
    refine cr_getI kc_8 CX hR fa_X8_68 rfl hk_x0_9 dX8_ended_5 ?_
    exact cr_iret CX hR hS hf dX8_ended_8
theorem MC_X8_ended (l : Launch) (x : Xc) (N : Nat) (K : Ka) (x0 : Nat) (x1 : Int32) (M : Cm) (o : Int32 × Cm) (hf : fC_X8_ended N K x0 x1 M = some o) : CtI l x yX8_ended cX8_ended 2 (some .int) 0 0 [.ref x0, .int x1] K M o :=
  cr_metI RX8 (by decide) rfl (Nat.le_of_ble_eq_true rfl) (fun p e s m args below meth c ls CX hR hl => wfC_X8_ended CX ⟨Nat.le_refl _, Nat.le_refl _⟩ x0 x1 M s.heap [] ls hf hR va_S.rf hl)
def bC_X8_isUnit_20 (N : Nat) (K : Ka) (x0 : Nat) (s0 : Int32) (M : Cm) : Option (Int32 × Cm) := gd (is01 s0) (some (s0, M))
set_option maxRecDepth 100000 in
set_option maxHeartbeats 4000000 in
theorem wbC_X8_isUnit_20 {p : Program} {l : Launch} {e : Env} {R : Room} {s : State} {m : MethodId} {args : Array Value} {below : List Frame} {meth : Method} {c : Code} {x : Xc} {o : Int32 × Cm} {N : Nat} {K : Ka} (CX : CC p s m args meth c x K RX8 cX8_isUnit 2 (some .boolean)) (hRm : 0 ≤ R.frames ∧ 0 ≤ R.locals) (x0 : Nat) (s0 : Int32) (M : Cm) (H : Heap) (locs : List Loc) (ls : Array Slot) (hf : bC_X8_isUnit_20 N K x0 s0 M = some o) (hR : RC x K M H) (hS : va_S (AC K) s.heap H locs) (hl : lv_has ls 2 [(0, .ref x0)]) : W p l e R s m args below meth c H locs 0 0 (MQ below (CQI x K o) args s 0 0 (AC K)) (F0 m 20 ls [.int s0]) := by
  obtain ⟨hx, hb, hml, hown, hts, hE, hB, hr, hlk⟩ := id CX
  have hL : KLe K K := KLe.rf K
  have hcs : 0 ≤ R.cells ∧ 0 ≤ R.slots := ⟨Nat.zero_le _, Nat.zero_le _⟩
  unfold bC_X8_isUnit_20 at hf
  obtain ⟨hz, hf⟩ := gd_some hf
  exact cr_zret CX hR hS hz hf dX8_isUnit_20
def bC_X8_isUnit_19 (N : Nat) (K : Ka) (x0 : Nat) (M : Cm) : Option (Int32 × Cm) := (bC_X8_isUnit_20 N K) x0 0 M
set_option maxRecDepth 100000 in
set_option maxHeartbeats 4000000 in
theorem wbC_X8_isUnit_19 {p : Program} {l : Launch} {e : Env} {R : Room} {s : State} {m : MethodId} {args : Array Value} {below : List Frame} {meth : Method} {c : Code} {x : Xc} {o : Int32 × Cm} {N : Nat} {K : Ka} (CX : CC p s m args meth c x K RX8 cX8_isUnit 2 (some .boolean)) (hRm : 0 ≤ R.frames ∧ 0 ≤ R.locals) (x0 : Nat) (M : Cm) (H : Heap) (locs : List Loc) (ls : Array Slot) (hf : bC_X8_isUnit_19 N K x0 M = some o) (hR : RC x K M H) (hS : va_S (AC K) s.heap H locs) (hl : lv_has ls 2 [(0, .ref x0)]) : W p l e R s m args below meth c H locs 0 0 (MQ below (CQI x K o) args s 0 0 (AC K)) (F0 m 19 ls []) := by
  obtain ⟨hx, hb, hml, hown, hts, hE, hB, hr, hlk⟩ := id CX
  have hL : KLe K K := KLe.rf K
  have hcs : 0 ≤ R.cells ∧ 0 ≤ R.slots := ⟨Nat.zero_le _, Nat.zero_le _⟩
  unfold bC_X8_isUnit_19 at hf
  refine lv_iconst (v := 0) hx hb dX8_isUnit_19 (by decide) ?_
  exact (wbC_X8_isUnit_20 CX hRm) _ _ _ _ _ _ hf hR hS (lv_sub hl [0] rfl)
def fC_X8_isUnit (N : Nat) (K : Ka) (x0 : Nat) (x1 : Int32) (M : Cm) : Option (Int32 × Cm) := if x1 < 0 then ((bC_X8_isUnit_19 N K) x0 M) else (gd (kd K x0 == 9) (nn (cR M x0 7) fun a1 => gd (kd K a1 == 6) (if (cI M a1 11) ≤ x1 then ((bC_X8_isUnit_19 N K) x0 M) else ((bC_X8_isUnit_20 N K) x0 1 M))))
set_option maxRecDepth 100000 in
set_option maxHeartbeats 4000000 in
theorem wfC_X8_isUnit {p : Program} {l : Launch} {e : Env} {R : Room} {s : State} {m : MethodId} {args : Array Value} {below : List Frame} {meth : Method} {c : Code} {x : Xc} {o : Int32 × Cm} {N : Nat} {K : Ka} (CX : CC p s m args meth c x K RX8 cX8_isUnit 2 (some .boolean)) (hRm : 0 ≤ R.frames ∧ 0 ≤ R.locals) (x0 : Nat) (x1 : Int32) (M : Cm) (H : Heap) (locs : List Loc) (ls : Array Slot) (hf : fC_X8_isUnit N K x0 x1 M = some o) (hR : RC x K M H) (hS : va_S (AC K) s.heap H locs) (hl : lv_has ls 2 [(0, .ref x0), (1, .int x1)]) : W p l e R s m args below meth c H locs 0 0 (MQ below (CQI x K o) args s 0 0 (AC K)) (F0 m 0 ls []) := by
  obtain ⟨hx, hb, hml, hown, hts, hE, hB, hr, hlk⟩ := id CX
  have hL : KLe K K := KLe.rf K
  have hcs : 0 ≤ R.cells ∧ 0 ≤ R.slots := ⟨Nat.zero_le _, Nat.zero_le _⟩
  unfold fC_X8_isUnit at hf
  refine lv_iload_n hx hb dX8_isUnit_0 rfl (lv_at hl 1 rfl) ?_
  refine lv_if_lt (tgt := 19) hx hb dX8_isUnit_1 (by decide) (fun hc => ?_) (fun hc => ?_)
  · rw [if_pos hc] at hf
    exact (wbC_X8_isUnit_19 CX hRm) _ _ _ _ _ hf hR hS (lv_sub hl [0] rfl)
  · rw [if_neg hc] at hf
    refine lv_iload_n hx hb dX8_isUnit_4 rfl (lv_at hl 1 rfl) ?_
    refine lv_aload_n hx hb dX8_isUnit_5 rfl (lv_at hl 0 rfl) ?_
    obtain ⟨hk_x0_9, hf⟩ := gd_some hf
    refine cr_getR kc_8 CX hR fa_X8_60 rfl hk_x0_9 dX8_isUnit_6 ?_
    obtain ⟨a1, ha1, hf⟩ := nn_some hf
    refine rf_0 ha1 ?_
    obtain ⟨hk_a1_6, hf⟩ := gd_some hf
    refine cr_getI kc_5 CX hR fa_X8_133 rfl hk_a1_6 dX8_isUnit_9 ?_
    refine lv_icmp_ge (tgt := 19) hx hb dX8_isUnit_12 (by decide) (fun hc => ?_) (fun hc => ?_)
    · rw [if_pos hc] at hf
      exact (wbC_X8_isUnit_19 CX hRm) _ _ _ _ _ hf hR hS (lv_sub hl [0] rfl)
    · rw [if_neg hc] at hf
      refine lv_iconst (v := 1) hx hb dX8_isUnit_15 (by decide) ?_
      refine lv_goto (tgt := 20) hx hb dX8_isUnit_16 (by decide) ?_
      exact (wbC_X8_isUnit_20 CX hRm) _ _ _ _ _ _ hf hR hS (lv_sub hl [0] rfl)
theorem MC_X8_isUnit (l : Launch) (x : Xc) (N : Nat) (K : Ka) (x0 : Nat) (x1 : Int32) (M : Cm) (o : Int32 × Cm) (hf : fC_X8_isUnit N K x0 x1 M = some o) : CtI l x yX8_isUnit cX8_isUnit 2 (some .boolean) 0 0 [.ref x0, .int x1] K M o :=
  cr_metI RX8 (by decide) rfl (Nat.le_of_ble_eq_true rfl) (fun p e s m args below meth c ls CX hR hl => wfC_X8_isUnit CX ⟨Nat.le_refl _, Nat.le_refl _⟩ x0 x1 M s.heap [] ls hf hR va_S.rf hl)
def bC_X8_plan_18 (N : Nat) (K : Ka) (x0 : Nat) (M : Cm) : Option (Int32 × Cm) := gd (is01 0) (some (0, M))
set_option maxRecDepth 100000 in
set_option maxHeartbeats 4000000 in
theorem wbC_X8_plan_18 {p : Program} {l : Launch} {e : Env} {R : Room} {s : State} {m : MethodId} {args : Array Value} {below : List Frame} {meth : Method} {c : Code} {x : Xc} {o : Int32 × Cm} {N : Nat} {K : Ka} (CX : CC p s m args meth c x K RX8 cX8_plan 3 (some .boolean)) (hRm : 1 ≤ R.frames ∧ 22 ≤ R.locals) (x0 : Nat) (M : Cm) (H : Heap) (locs : List Loc) (ls : Array Slot) (hf : bC_X8_plan_18 N K x0 M = some o) (hR : RC x K M H) (hS : va_S (AC K) s.heap H locs) (hl : lv_has ls 3 [(0, .ref x0)]) : W p l e R s m args below meth c H locs 0 0 (MQ below (CQI x K o) args s 0 0 (AC K)) (F0 m 18 ls []) := by
  obtain ⟨hx, hb, hml, hown, hts, hE, hB, hr, hlk⟩ := id CX
  have hL : KLe K K := KLe.rf K
  have hcs : 0 ≤ R.cells ∧ 0 ≤ R.slots := ⟨Nat.zero_le _, Nat.zero_le _⟩
  unfold bC_X8_plan_18 at hf
  refine lv_iconst (v := 0) hx hb dX8_plan_18 (by decide) ?_
  obtain ⟨hz, hf⟩ := gd_some hf
  exact cr_zret CX hR hS hz hf dX8_plan_19
def fC_X8_plan (N : Nat) (K : Ka) (x0 : Nat) (x1 : Int32) (x2 : Int32) (M : Cm) : Option (Int32 × Cm) := gd (kd K x0 == 9) ((fC_X8_isUnit N K x0 x1 M).bind fun o2 => if o2.1 = 0 then ((bC_X8_plan_18 N K) x0 o2.2) else (if x2 < 0 then ((bC_X8_plan_18 N K) x0 o2.2) else (if x2 ≤ 30 then (nn (cR o2.2 x0 2) fun a1 => gd (kd K a1 == 5) ((fC_X4_isPlanned N K a1 x1 x2 o2.2).bind fun o26 => if o26.1 = 0 then (nn (cR o26.2 x0 2) fun a2 => gd (kd K a2 == 5) (if (cI o26.2 a2 10) < 40 then (nn (cR o26.2 x0 2) fun a3 => gd (kd K a3 == 5) ((fC_X4_addPlan N K a3 x1 x2 o26.2).bind fun o54 => gd (is01 1) (some (1, o54)))) else (gd (is01 0) (some (0, o26.2))))) else (gd (is01 1) (some (1, o26.2))))) else ((bC_X8_plan_18 N K) x0 o2.2))))
set_option maxRecDepth 100000 in
set_option maxHeartbeats 4000000 in
theorem wfC_X8_plan {p : Program} {l : Launch} {e : Env} {R : Room} {s : State} {m : MethodId} {args : Array Value} {below : List Frame} {meth : Method} {c : Code} {x : Xc} {o : Int32 × Cm} {N : Nat} {K : Ka} (CX : CC p s m args meth c x K RX8 cX8_plan 3 (some .boolean)) (hRm : 1 ≤ R.frames ∧ 22 ≤ R.locals) (x0 : Nat) (x1 : Int32) (x2 : Int32) (M : Cm) (H : Heap) (locs : List Loc) (ls : Array Slot) (hf : fC_X8_plan N K x0 x1 x2 M = some o) (hR : RC x K M H) (hS : va_S (AC K) s.heap H locs) (hl : lv_has ls 3 [(0, .ref x0), (1, .int x1), (2, .int x2)]) : W p l e R s m args below meth c H locs 0 0 (MQ below (CQI x K o) args s 0 0 (AC K)) (F0 m 0 ls []) := by
  obtain ⟨hx, hb, hml, hown, hts, hE, hB, hr, hlk⟩ := id CX
  have hL : KLe K K := KLe.rf K
  have hcs : 0 ≤ R.cells ∧ 0 ≤ R.slots := ⟨Nat.zero_le _, Nat.zero_le _⟩
  unfold fC_X8_plan at hf
  refine lv_aload_n hx hb dX8_plan_0 rfl (lv_at hl 0 rfl) ?_
  refine lv_iload_n hx hb dX8_plan_1 rfl (lv_at hl 1 rfl) ?_
  obtain ⟨hk_x0_9, hf⟩ := gd_some hf
  obtain ⟨o2, ho2, hf⟩ := bnd_some hf
  refine cr_callIv kc_8 CX hR hL hS (As := [.int x1]) (rest := []) hk_x0_9 (MC_X8_isUnit l x N K x0 x1 M o2 ho2) cv_X8_162 ⟨by omega, by omega⟩ rfl rfl (Nat.le_of_ble_eq_true rfl) hl.1 dX8_plan_2 hcs (fun H locs hR hS => ?_)
  refine lv_if_eq (tgt := 18) hx hb dX8_plan_5 (by decide) (fun hc => ?_) (fun hc => ?_)
  · rw [if_pos hc] at hf
    exact (wbC_X8_plan_18 CX hRm) _ _ _ _ _ hf hR hS (lv_sub hl [0] rfl)
  · rw [if_neg hc] at hf
    refine lv_iload_n hx hb dX8_plan_8 rfl (lv_at hl 2 rfl) ?_
    refine lv_if_lt (tgt := 18) hx hb dX8_plan_9 (by decide) (fun hc => ?_) (fun hc => ?_)
    · rw [if_pos hc] at hf
      exact (wbC_X8_plan_18 CX hRm) _ _ _ _ _ hf hR hS (lv_sub hl [0] rfl)
    · rw [if_neg hc] at hf
      refine lv_iload_n hx hb dX8_plan_12 rfl (lv_at hl 2 rfl) ?_
      refine lv_bipush (v := 30) hx hb dX8_plan_13 (by decide) ?_
      refine lv_icmp_le (tgt := 20) hx hb dX8_plan_15 (by decide) (fun hc => ?_) (fun hc => ?_)
      · rw [if_pos hc] at hf
        refine lv_aload_n hx hb dX8_plan_20 rfl (lv_at hl 0 rfl) ?_
        refine cr_getR kc_8 CX hR fa_X8_28 rfl hk_x0_9 dX8_plan_21 ?_
        refine lv_iload_n hx hb dX8_plan_24 rfl (lv_at hl 1 rfl) ?_
        refine lv_iload_n hx hb dX8_plan_25 rfl (lv_at hl 2 rfl) ?_
        obtain ⟨a1, ha1, hf⟩ := nn_some hf
        refine rf_2 ha1 ?_
        obtain ⟨hk_a1_5, hf⟩ := gd_some hf
        obtain ⟨o26, ho26, hf⟩ := bnd_some hf
        refine cr_callIv kc_4 CX hR hL hS (As := [.int x1, .int x2]) (rest := []) hk_a1_5 (MC_X4_isPlanned l x N K a1 x1 x2 o2.2 o26 ho26) cv_X8_166 ⟨by omega, by omega⟩ rfl rfl (Nat.le_of_ble_eq_true rfl) hl.1 dX8_plan_26 hcs (fun H locs hR hS => ?_)
        refine lv_if_eq (tgt := 34) hx hb dX8_plan_29 (by decide) (fun hc => ?_) (fun hc => ?_)
        · rw [if_pos hc] at hf
          refine lv_aload_n hx hb dX8_plan_34 rfl (lv_at hl 0 rfl) ?_
          refine cr_getR kc_8 CX hR fa_X8_28 rfl hk_x0_9 dX8_plan_35 ?_
          obtain ⟨a2, ha2, hf⟩ := nn_some hf
          refine rf_0 ha2 ?_
          obtain ⟨hk_a2_5, hf⟩ := gd_some hf
          refine cr_getI kc_4 CX hR fa_X8_169 rfl hk_a2_5 dX8_plan_38 ?_
          refine lv_bipush (v := 40) hx hb dX8_plan_41 (by decide) ?_
          refine lv_icmp_lt (tgt := 48) hx hb dX8_plan_43 (by decide) (fun hc => ?_) (fun hc => ?_)
          · rw [if_pos hc] at hf
            refine lv_aload_n hx hb dX8_plan_48 rfl (lv_at hl 0 rfl) ?_
            refine cr_getR kc_8 CX hR fa_X8_28 rfl hk_x0_9 dX8_plan_49 ?_
            refine lv_iload_n hx hb dX8_plan_52 rfl (lv_at hl 1 rfl) ?_
            refine lv_iload_n hx hb dX8_plan_53 rfl (lv_at hl 2 rfl) ?_
            obtain ⟨a3, ha3, hf⟩ := nn_some hf
            refine rf_2 ha3 ?_
            obtain ⟨hk_a3_5, hf⟩ := gd_some hf
            obtain ⟨o54, ho54, hf⟩ := bnd_some hf
            refine cr_callVv kc_4 CX hR hL hS (As := [.int x1, .int x2]) (rest := []) hk_a3_5 (MC_X4_addPlan l x N K a3 x1 x2 o26.2 o54 ho54) cv_X8_172 ⟨by omega, by omega⟩ rfl rfl (Nat.le_of_ble_eq_true rfl) hl.1 dX8_plan_54 hcs (fun H locs hR hS => ?_)
            refine lv_iconst (v := 1) hx hb dX8_plan_57 (by decide) ?_
            obtain ⟨hz, hf⟩ := gd_some hf
            exact cr_zret CX hR hS hz hf dX8_plan_58
          · rw [if_neg hc] at hf
            refine lv_iconst (v := 0) hx hb dX8_plan_46 (by decide) ?_
            obtain ⟨hz, hf⟩ := gd_some hf
            exact cr_zret CX hR hS hz hf dX8_plan_47
        · rw [if_neg hc] at hf
          refine lv_iconst (v := 1) hx hb dX8_plan_32 (by decide) ?_
          obtain ⟨hz, hf⟩ := gd_some hf
          exact cr_zret CX hR hS hz hf dX8_plan_33
      · rw [if_neg hc] at hf
        exact (wbC_X8_plan_18 CX hRm) _ _ _ _ _ hf hR hS (lv_sub hl [0] rfl)
theorem MC_X8_plan (l : Launch) (x : Xc) (N : Nat) (K : Ka) (x0 : Nat) (x1 : Int32) (x2 : Int32) (M : Cm) (o : Int32 × Cm) (hf : fC_X8_plan N K x0 x1 x2 M = some o) : CtI l x yX8_plan cX8_plan 3 (some .boolean) 1 22 [.ref x0, .int x1, .int x2] K M o :=
  cr_metI RX8 (by decide) rfl (Nat.le_of_ble_eq_true rfl) (fun p e s m args below meth c ls CX hR hl => wfC_X8_plan CX ⟨Nat.le_refl _, Nat.le_refl _⟩ x0 x1 x2 M s.heap [] ls hf hR va_S.rf hl)
def fC_X8_clear (N : Nat) (K : Ka) (x0 : Nat) (M : Cm) : Option (Cm) := gd (kd K x0 == 9) (nn (cR M x0 2) fun a1 => gd (kd K a1 == 5) ((fC_X4_dropPlans N K a1 M).bind fun o4 => some o4))
set_option maxRecDepth 100000 in
set_option maxHeartbeats 4000000 in
theorem wfC_X8_clear {p : Program} {l : Launch} {e : Env} {R : Room} {s : State} {m : MethodId} {args : Array Value} {below : List Frame} {meth : Method} {c : Code} {x : Xc} {o : Cm} {N : Nat} {K : Ka} (CX : CC p s m args meth c x K RX8 cX8_clear 1 none) (hRm : 2 ≤ R.frames ∧ 43 ≤ R.locals) (x0 : Nat) (M : Cm) (H : Heap) (locs : List Loc) (ls : Array Slot) (hf : fC_X8_clear N K x0 M = some o) (hR : RC x K M H) (hS : va_S (AC K) s.heap H locs) (hl : lv_has ls 1 [(0, .ref x0)]) : W p l e R s m args below meth c H locs 0 0 (MQ below (CQV x K o) args s 0 0 (AC K)) (F0 m 0 ls []) := by
  obtain ⟨hx, hb, hml, hown, hts, hE, hB, hr, hlk⟩ := id CX
  have hL : KLe K K := KLe.rf K
  have hcs : 0 ≤ R.cells ∧ 0 ≤ R.slots := ⟨Nat.zero_le _, Nat.zero_le _⟩
  unfold fC_X8_clear at hf
  refine lv_aload_n hx hb dX8_clear_0 rfl (lv_at hl 0 rfl) ?_
  obtain ⟨hk_x0_9, hf⟩ := gd_some hf
  refine cr_getR kc_8 CX hR fa_X8_28 rfl hk_x0_9 dX8_clear_1 ?_
  obtain ⟨a1, ha1, hf⟩ := nn_some hf
  refine rf_0 ha1 ?_
  obtain ⟨hk_a1_5, hf⟩ := gd_some hf
  obtain ⟨o4, ho4, hf⟩ := bnd_some hf
  refine cr_callVv kc_4 CX hR hL hS (As := []) (rest := []) hk_a1_5 (MC_X4_dropPlans l x N K a1 M o4 ho4) cv_X8_176 ⟨by omega, by omega⟩ rfl rfl (Nat.le_of_ble_eq_true rfl) hl.1 dX8_clear_4 hcs (fun H locs hR hS => ?_)
  exact cr_vret CX hR hS hf dX8_clear_7
theorem MC_X8_clear (l : Launch) (x : Xc) (N : Nat) (K : Ka) (x0 : Nat) (M : Cm) (o : Cm) (hf : fC_X8_clear N K x0 M = some o) : CtV l x yX8_clear cX8_clear 1 2 43 [.ref x0] K M o :=
  cr_metV RX8 (by decide) rfl (Nat.le_of_ble_eq_true rfl) (fun p e s m args below meth c ls CX hR hl => wfC_X8_clear CX ⟨Nat.le_refl _, Nat.le_refl _⟩ x0 M s.heap [] ls hf hR va_S.rf hl)
def bC_X8_isHealedWith_22 (N : Nat) (K : Ka) (x0 : Nat) (s0 : Int32) (M : Cm) : Option (Int32 × Cm) := gd (is01 s0) (some (s0, M))
set_option maxRecDepth 100000 in
set_option maxHeartbeats 4000000 in
theorem wbC_X8_isHealedWith_22 {p : Program} {l : Launch} {e : Env} {R : Room} {s : State} {m : MethodId} {args : Array Value} {below : List Frame} {meth : Method} {c : Code} {x : Xc} {o : Int32 × Cm} {N : Nat} {K : Ka} (CX : CC p s m args meth c x K RX8 cX8_isHealedWith 3 (some .boolean)) (hRm : 1 ≤ R.frames ∧ 22 ≤ R.locals) (x0 : Nat) (s0 : Int32) (M : Cm) (H : Heap) (locs : List Loc) (ls : Array Slot) (hf : bC_X8_isHealedWith_22 N K x0 s0 M = some o) (hR : RC x K M H) (hS : va_S (AC K) s.heap H locs) (hl : lv_has ls 3 [(0, .ref x0)]) : W p l e R s m args below meth c H locs 0 0 (MQ below (CQI x K o) args s 0 0 (AC K)) (F0 m 22 ls [.int s0]) := by
  obtain ⟨hx, hb, hml, hown, hts, hE, hB, hr, hlk⟩ := id CX
  have hL : KLe K K := KLe.rf K
  have hcs : 0 ≤ R.cells ∧ 0 ≤ R.slots := ⟨Nat.zero_le _, Nat.zero_le _⟩
  unfold bC_X8_isHealedWith_22 at hf
  obtain ⟨hz, hf⟩ := gd_some hf
  exact cr_zret CX hR hS hz hf dX8_isHealedWith_22
def bC_X8_isHealedWith_17 (N : Nat) (K : Ka) (x0 : Nat) (M : Cm) : Option (Int32 × Cm) := (bC_X8_isHealedWith_22 N K) x0 1 M
set_option maxRecDepth 100000 in
set_option maxHeartbeats 4000000 in
theorem wbC_X8_isHealedWith_17 {p : Program} {l : Launch} {e : Env} {R : Room} {s : State} {m : MethodId} {args : Array Value} {below : List Frame} {meth : Method} {c : Code} {x : Xc} {o : Int32 × Cm} {N : Nat} {K : Ka} (CX : CC p s m args meth c x K RX8 cX8_isHealedWith 3 (some .boolean)) (hRm : 1 ≤ R.frames ∧ 22 ≤ R.locals) (x0 : Nat) (M : Cm) (H : Heap) (locs : List Loc) (ls : Array Slot) (hf : bC_X8_isHealedWith_17 N K x0 M = some o) (hR : RC x K M H) (hS : va_S (AC K) s.heap H locs) (hl : lv_has ls 3 [(0, .ref x0)]) : W p l e R s m args below meth c H locs 0 0 (MQ below (CQI x K o) args s 0 0 (AC K)) (F0 m 17 ls []) := by
  obtain ⟨hx, hb, hml, hown, hts, hE, hB, hr, hlk⟩ := id CX
  have hL : KLe K K := KLe.rf K
  have hcs : 0 ≤ R.cells ∧ 0 ≤ R.slots := ⟨Nat.zero_le _, Nat.zero_le _⟩
  unfold bC_X8_isHealedWith_17 at hf
  refine lv_iconst (v := 1) hx hb dX8_isHealedWith_17 (by decide) ?_
  refine lv_goto (tgt := 22) hx hb dX8_isHealedWith_18 (by decide) ?_
  exact (wbC_X8_isHealedWith_22 CX hRm) _ _ _ _ _ _ hf hR hS (lv_sub hl [0] rfl)
def fC_X8_isHealedWith (N : Nat) (K : Ka) (x0 : Nat) (x1 : Int32) (x2 : Int32) (M : Cm) : Option (Int32 × Cm) := if x1 = x2 then ((bC_X8_isHealedWith_17 N K) x0 M) else (gd (kd K x0 == 9) (nn (cR M x0 7) fun a1 => gd (kd K a1 == 6) ((fC_X5_leaning N K a1 x1 x2 M).bind fun o11 => if o11.1 = 0 then ((bC_X8_isHealedWith_22 N K) x0 0 o11.2) else ((bC_X8_isHealedWith_17 N K) x0 o11.2))))
set_option maxRecDepth 100000 in
set_option maxHeartbeats 4000000 in
theorem wfC_X8_isHealedWith {p : Program} {l : Launch} {e : Env} {R : Room} {s : State} {m : MethodId} {args : Array Value} {below : List Frame} {meth : Method} {c : Code} {x : Xc} {o : Int32 × Cm} {N : Nat} {K : Ka} (CX : CC p s m args meth c x K RX8 cX8_isHealedWith 3 (some .boolean)) (hRm : 1 ≤ R.frames ∧ 22 ≤ R.locals) (x0 : Nat) (x1 : Int32) (x2 : Int32) (M : Cm) (H : Heap) (locs : List Loc) (ls : Array Slot) (hf : fC_X8_isHealedWith N K x0 x1 x2 M = some o) (hR : RC x K M H) (hS : va_S (AC K) s.heap H locs) (hl : lv_has ls 3 [(0, .ref x0), (1, .int x1), (2, .int x2)]) : W p l e R s m args below meth c H locs 0 0 (MQ below (CQI x K o) args s 0 0 (AC K)) (F0 m 0 ls []) := by
  obtain ⟨hx, hb, hml, hown, hts, hE, hB, hr, hlk⟩ := id CX
  have hL : KLe K K := KLe.rf K
  have hcs : 0 ≤ R.cells ∧ 0 ≤ R.slots := ⟨Nat.zero_le _, Nat.zero_le _⟩
  unfold fC_X8_isHealedWith at hf
  refine lv_iload_n hx hb dX8_isHealedWith_0 rfl (lv_at hl 1 rfl) ?_
  refine lv_iload_n hx hb dX8_isHealedWith_1 rfl (lv_at hl 2 rfl) ?_
  refine lv_icmp_eq (tgt := 17) hx hb dX8_isHealedWith_2 (by decide) (fun hc => ?_) (fun hc => ?_)
  · rw [if_pos hc] at hf
    exact (wbC_X8_isHealedWith_17 CX hRm) _ _ _ _ _ hf hR hS (lv_sub hl [0] rfl)
  · rw [if_neg hc] at hf
    refine lv_aload_n hx hb dX8_isHealedWith_5 rfl (lv_at hl 0 rfl) ?_
    obtain ⟨hk_x0_9, hf⟩ := gd_some hf
    refine cr_getR kc_8 CX hR fa_X8_60 rfl hk_x0_9 dX8_isHealedWith_6 ?_
    refine lv_iload_n hx hb dX8_isHealedWith_9 rfl (lv_at hl 1 rfl) ?_
    refine lv_iload_n hx hb dX8_isHealedWith_10 rfl (lv_at hl 2 rfl) ?_
    obtain ⟨a1, ha1, hf⟩ := nn_some hf
    refine rf_2 ha1 ?_
    obtain ⟨hk_a1_6, hf⟩ := gd_some hf
    obtain ⟨o11, ho11, hf⟩ := bnd_some hf
    refine cr_callIv kc_5 CX hR hL hS (As := [.int x1, .int x2]) (rest := []) hk_a1_6 (MC_X5_leaning l x N K a1 x1 x2 M o11 ho11) cv_X8_289 ⟨by omega, by omega⟩ rfl rfl (Nat.le_of_ble_eq_true rfl) hl.1 dX8_isHealedWith_11 hcs (fun H locs hR hS => ?_)
    refine lv_if_eq (tgt := 21) hx hb dX8_isHealedWith_14 (by decide) (fun hc => ?_) (fun hc => ?_)
    · rw [if_pos hc] at hf
      refine lv_iconst (v := 0) hx hb dX8_isHealedWith_21 (by decide) ?_
      exact (wbC_X8_isHealedWith_22 CX hRm) _ _ _ _ _ _ hf hR hS (lv_sub hl [0] rfl)
    · rw [if_neg hc] at hf
      exact (wbC_X8_isHealedWith_17 CX hRm) _ _ _ _ _ hf hR hS (lv_sub hl [0] rfl)
theorem MC_X8_isHealedWith (l : Launch) (x : Xc) (N : Nat) (K : Ka) (x0 : Nat) (x1 : Int32) (x2 : Int32) (M : Cm) (o : Int32 × Cm) (hf : fC_X8_isHealedWith N K x0 x1 x2 M = some o) : CtI l x yX8_isHealedWith cX8_isHealedWith 3 (some .boolean) 1 22 [.ref x0, .int x1, .int x2] K M o :=
  cr_metI RX8 (by decide) rfl (Nat.le_of_ble_eq_true rfl) (fun p e s m args below meth c ls CX hR hl => wfC_X8_isHealedWith CX ⟨Nat.le_refl _, Nat.le_refl _⟩ x0 x1 x2 M s.heap [] ls hf hR va_S.rf hl)
def bC_X8_heal_15 (N : Nat) (K : Ka) (x0 : Nat) (M : Cm) : Option (Int32 × Cm) := some ((-1), M)
set_option maxRecDepth 100000 in
set_option maxHeartbeats 4000000 in
theorem wbC_X8_heal_15 {p : Program} {l : Launch} {e : Env} {R : Room} {s : State} {m : MethodId} {args : Array Value} {below : List Frame} {meth : Method} {c : Code} {x : Xc} {o : Int32 × Cm} {N : Nat} {K : Ka} (CX : CC p s m args meth c x K RX8 cX8_heal 4 (some .int)) (hRm : 3 ≤ R.frames ∧ 67 ≤ R.locals) (x0 : Nat) (M : Cm) (H : Heap) (locs : List Loc) (ls : Array Slot) (hf : bC_X8_heal_15 N K x0 M = some o) (hR : RC x K M H) (hS : va_S (AC K) s.heap H locs) (hl : lv_has ls 4 [(0, .ref x0)]) : W p l e R s m args below meth c H locs 0 0 (MQ below (CQI x K o) args s 0 0 (AC K)) (F0 m 15 ls []) := by
  obtain ⟨hx, hb, hml, hown, hts, hE, hB, hr, hlk⟩ := id CX
  have hL : KLe K K := KLe.rf K
  have hcs : 0 ≤ R.cells ∧ 0 ≤ R.slots := ⟨Nat.zero_le _, Nat.zero_le _⟩
  unfold bC_X8_heal_15 at hf
  refine lv_iconst (v := (-1)) hx hb dX8_heal_15 (by decide) ?_
  exact cr_iret CX hR hS hf dX8_heal_16
def bC_X8_heal_55 (N : Nat) (K : Ka) (r19 : Nat → Int32 → Int32 → Cm → Option (Int32 × Cm)) (k53 : Nat → Cm → Option (Int32 × Cm)) (k61 : Nat → Int32 → Cm → Option (Int32 × Cm)) (x0 : Nat) (x1 : Int32) (x2 : Int32) (M : Cm) : Option (Int32 × Cm) := r19 x0 x1 (x2 + 1) M
set_option maxRecDepth 100000 in
set_option maxHeartbeats 4000000 in
theorem wbC_X8_heal_55 {p : Program} {l : Launch} {e : Env} {R : Room} {s : State} {m : MethodId} {args : Array Value} {below : List Frame} {meth : Method} {c : Code} {x : Xc} {o : Int32 × Cm} {N : Nat} {K : Ka} {r19 : Nat → Int32 → Int32 → Cm → Option (Int32 × Cm)} {k53 : Nat → Cm → Option (Int32 × Cm)} {k61 : Nat → Int32 → Cm → Option (Int32 × Cm)} (CX : CC p s m args meth c x K RX8 cX8_heal 4 (some .int)) (hRm : 3 ≤ R.frames ∧ 67 ≤ R.locals) (hr19 : ∀ (x0 : Nat) (x1 : Int32) (x2 : Int32) (M : Cm) (H : Heap) (locs : List Loc) (ls : Array Slot), r19 x0 x1 x2 M = some o → RC x K M H → va_S (AC K) s.heap H locs → lv_has ls 4 [(0, .ref x0), (1, .int x1), (2, .int x2)] → W p l e R s m args below meth c H locs 0 0 (MQ below (CQI x K o) args s 0 0 (AC K)) (F0 m 19 ls [])) (hk53 : ∀ (x0 : Nat) (M : Cm) (H : Heap) (locs : List Loc) (ls : Array Slot), k53 x0 M = some o → RC x K M H → va_S (AC K) s.heap H locs → lv_has ls 4 [(0, .ref x0)] → W p l e R s m args below meth c H locs 0 0 (MQ below (CQI x K o) args s 0 0 (AC K)) (F0 m 53 ls [])) (hk61 : ∀ (x0 : Nat) (x1 : Int32) (M : Cm) (H : Heap) (locs : List Loc) (ls : Array Slot), k61 x0 x1 M = some o → RC x K M H → va_S (AC K) s.heap H locs → lv_has ls 4 [(0, .ref x0), (1, .int x1)] → W p l e R s m args below meth c H locs 0 0 (MQ below (CQI x K o) args s 0 0 (AC K)) (F0 m 61 ls [])) (x0 : Nat) (x1 : Int32) (x2 : Int32) (M : Cm) (H : Heap) (locs : List Loc) (ls : Array Slot) (hf : bC_X8_heal_55 N K r19 k53 k61 x0 x1 x2 M = some o) (hR : RC x K M H) (hS : va_S (AC K) s.heap H locs) (hl : lv_has ls 4 [(0, .ref x0), (1, .int x1), (2, .int x2)]) : W p l e R s m args below meth c H locs 0 0 (MQ below (CQI x K o) args s 0 0 (AC K)) (F0 m 55 ls []) := by
  obtain ⟨hx, hb, hml, hown, hts, hE, hB, hr, hlk⟩ := id CX
  have hL : KLe K K := KLe.rf K
  have hcs : 0 ≤ R.cells ∧ 0 ≤ R.slots := ⟨Nat.zero_le _, Nat.zero_le _⟩
  unfold bC_X8_heal_55 at hf
  refine lv_iinc (v := x2 + 1) (lv' := [(2, .int (x2 + 1)), (0, .ref x0), (1, .int x1)]) hx hb dX8_heal_55 hl (k := 2) rfl rfl (by decide) rfl (fun ls hl => ?_)
  refine lv_goto (tgt := 19) hx hb dX8_heal_58 (by decide) ?_
  exact hr19 _ _ _ _ _ _ _ hf hR hS (lv_sub hl [1, 2, 0] rfl)
def lC_X8_heal_19 (N : Nat) (K : Ka) (k53 : Nat → Cm → Option (Int32 × Cm)) (k61 : Nat → Int32 → Cm → Option (Int32 × Cm)) : Nat → Nat → Int32 → Int32 → Cm → Option (Int32 × Cm)
  | 0, _, _, _, _ => none
  | n + 1, x0, x1, x2, M => gd (kd K x0 == 9) (nn (cR M x0 7) fun a1 => gd (kd K a1 == 6) (if (cI M a1 11) ≤ x2 then (k61 x0 x1 M) else ((fC_X8_isHealedWith N K x0 x2 x1 M).bind fun o33 => if o33.1 = 0 then ((bC_X8_heal_55 N K (lC_X8_heal_19 N K k53 k61 n) k53 k61) x0 x1 x2 o33.2) else (nn (cR o33.2 x0 2) fun a2 => gd (kd K a2 == 5) (nn (cR o33.2 a2 1) fun a3 => gd (kd K a3 == 22) (ck x2 (le K a3) (if (cI o33.2 a3 (x2 : Int32).toNatClampNeg) < 30 then ((bC_X8_heal_55 N K (lC_X8_heal_19 N K k53 k61 n) k53 k61) x0 x1 x2 o33.2) else (k53 x0 o33.2))))))))
set_option maxRecDepth 100000 in
set_option maxHeartbeats 4000000 in
theorem wlC_X8_heal_19 {p : Program} {l : Launch} {e : Env} {R : Room} {s : State} {m : MethodId} {args : Array Value} {below : List Frame} {meth : Method} {c : Code} {x : Xc} {o : Int32 × Cm} {N : Nat} {K : Ka} {k53 : Nat → Cm → Option (Int32 × Cm)} {k61 : Nat → Int32 → Cm → Option (Int32 × Cm)} (CX : CC p s m args meth c x K RX8 cX8_heal 4 (some .int)) (hRm : 3 ≤ R.frames ∧ 67 ≤ R.locals) (hk53 : ∀ (x0 : Nat) (M : Cm) (H : Heap) (locs : List Loc) (ls : Array Slot), k53 x0 M = some o → RC x K M H → va_S (AC K) s.heap H locs → lv_has ls 4 [(0, .ref x0)] → W p l e R s m args below meth c H locs 0 0 (MQ below (CQI x K o) args s 0 0 (AC K)) (F0 m 53 ls [])) (hk61 : ∀ (x0 : Nat) (x1 : Int32) (M : Cm) (H : Heap) (locs : List Loc) (ls : Array Slot), k61 x0 x1 M = some o → RC x K M H → va_S (AC K) s.heap H locs → lv_has ls 4 [(0, .ref x0), (1, .int x1)] → W p l e R s m args below meth c H locs 0 0 (MQ below (CQI x K o) args s 0 0 (AC K)) (F0 m 61 ls [])) : ∀ (n : Nat) (x0 : Nat) (x1 : Int32) (x2 : Int32) (M : Cm) (H : Heap) (locs : List Loc) (ls : Array Slot), lC_X8_heal_19 N K k53 k61 n x0 x1 x2 M = some o → RC x K M H → va_S (AC K) s.heap H locs → lv_has ls 4 [(0, .ref x0), (1, .int x1), (2, .int x2)] → W p l e R s m args below meth c H locs 0 0 (MQ below (CQI x K o) args s 0 0 (AC K)) (F0 m 19 ls []) := by
  obtain ⟨hx, hb, hml, hown, hts, hE, hB, hr, hlk⟩ := id CX
  have hL : KLe K K := KLe.rf K
  have hcs : 0 ≤ R.cells ∧ 0 ≤ R.slots := ⟨Nat.zero_le _, Nat.zero_le _⟩
  intro n
  induction n with
  | zero => intro x0 x1 x2 M H locs ls hf; cases hf
  | succ n ih =>
    intro x0 x1 x2 M H locs ls hf hR hS hl
    rw [lC_X8_heal_19] at hf
    refine lv_iload_n hx hb dX8_heal_19 rfl (lv_at hl 2 rfl) ?_
    refine lv_aload_n hx hb dX8_heal_20 rfl (lv_at hl 0 rfl) ?_
    obtain ⟨hk_x0_9, hf⟩ := gd_some hf
    refine cr_getR kc_8 CX hR fa_X8_60 rfl hk_x0_9 dX8_heal_21 ?_
    obtain ⟨a1, ha1, hf⟩ := nn_some hf
    refine rf_0 ha1 ?_
    obtain ⟨hk_a1_6, hf⟩ := gd_some hf
    refine cr_getI kc_5 CX hR fa_X8_133 rfl hk_a1_6 dX8_heal_24 ?_
    refine lv_icmp_ge (tgt := 61) hx hb dX8_heal_27 (by decide) (fun hc => ?_) (fun hc => ?_)
    · rw [if_pos hc] at hf
      exact hk61 _ _ _ _ _ _ hf hR hS (lv_sub hl [0, 1] rfl)
    · rw [if_neg hc] at hf
      refine lv_aload_n hx hb dX8_heal_30 rfl (lv_at hl 0 rfl) ?_
      refine lv_iload_n hx hb dX8_heal_31 rfl (lv_at hl 2 rfl) ?_
      refine lv_iload_n hx hb dX8_heal_32 rfl (lv_at hl 1 rfl) ?_
      obtain ⟨o33, ho33, hf⟩ := bnd_some hf
      refine cr_callIv kc_8 CX hR hL hS (As := [.int x2, .int x1]) (rest := []) hk_x0_9 (MC_X8_isHealedWith l x N K x0 x2 x1 M o33 ho33) cv_X8_179 ⟨by omega, by omega⟩ rfl rfl (Nat.le_of_ble_eq_true rfl) hl.1 dX8_heal_33 hcs (fun H locs hR hS => ?_)
      refine lv_if_eq (tgt := 55) hx hb dX8_heal_36 (by decide) (fun hc => ?_) (fun hc => ?_)
      · rw [if_pos hc] at hf
        exact (wbC_X8_heal_55 CX hRm ih hk53 hk61) _ _ _ _ _ _ _ hf hR hS (lv_sub hl [0, 1, 2] rfl)
      · rw [if_neg hc] at hf
        refine lv_aload_n hx hb dX8_heal_39 rfl (lv_at hl 0 rfl) ?_
        refine cr_getR kc_8 CX hR fa_X8_28 rfl hk_x0_9 dX8_heal_40 ?_
        obtain ⟨a2, ha2, hf⟩ := nn_some hf
        refine rf_0 ha2 ?_
        obtain ⟨hk_a2_5, hf⟩ := gd_some hf
        refine cr_getR kc_4 CX hR fa_X8_182 rfl hk_a2_5 dX8_heal_43 ?_
        refine lv_iload_n hx hb dX8_heal_46 rfl (lv_at hl 2 rfl) ?_
        obtain ⟨a3, ha3, hf⟩ := nn_some hf
        refine rf_1 ha3 ?_
        obtain ⟨hk_a3_22, hf⟩ := gd_some hf
        obtain ⟨hi, hf⟩ := ck_some hf
        refine cr_iald CX hR hk_a3_22 hi dX8_heal_47 ?_
        refine lv_bipush (v := 30) hx hb dX8_heal_48 (by decide) ?_
        refine lv_icmp_lt (tgt := 55) hx hb dX8_heal_50 (by decide) (fun hc => ?_) (fun hc => ?_)
        · rw [if_pos hc] at hf
          exact (wbC_X8_heal_55 CX hRm ih hk53 hk61) _ _ _ _ _ _ _ hf hR hS (lv_sub hl [0, 1, 2] rfl)
        · rw [if_neg hc] at hf
          exact hk53 _ _ _ _ _ hf hR hS (lv_sub hl [0] rfl)
def bC_X8_heal_53 (N : Nat) (K : Ka) (x0 : Nat) (M : Cm) : Option (Int32 × Cm) := some ((-1), M)
set_option maxRecDepth 100000 in
set_option maxHeartbeats 4000000 in
theorem wbC_X8_heal_53 {p : Program} {l : Launch} {e : Env} {R : Room} {s : State} {m : MethodId} {args : Array Value} {below : List Frame} {meth : Method} {c : Code} {x : Xc} {o : Int32 × Cm} {N : Nat} {K : Ka} (CX : CC p s m args meth c x K RX8 cX8_heal 4 (some .int)) (hRm : 3 ≤ R.frames ∧ 67 ≤ R.locals) (x0 : Nat) (M : Cm) (H : Heap) (locs : List Loc) (ls : Array Slot) (hf : bC_X8_heal_53 N K x0 M = some o) (hR : RC x K M H) (hS : va_S (AC K) s.heap H locs) (hl : lv_has ls 4 [(0, .ref x0)]) : W p l e R s m args below meth c H locs 0 0 (MQ below (CQI x K o) args s 0 0 (AC K)) (F0 m 53 ls []) := by
  obtain ⟨hx, hb, hml, hown, hts, hE, hB, hr, hlk⟩ := id CX
  have hL : KLe K K := KLe.rf K
  have hcs : 0 ≤ R.cells ∧ 0 ≤ R.slots := ⟨Nat.zero_le _, Nat.zero_le _⟩
  unfold bC_X8_heal_53 at hf
  refine lv_iconst (v := (-1)) hx hb dX8_heal_53 (by decide) ?_
  exact cr_iret CX hR hS hf dX8_heal_54
def bC_X8_heal_96 (N : Nat) (K : Ka) (r65 : Nat → Int32 → Int32 → Int32 → Cm → Option (Int32 × Cm)) (k102 : Nat → Int32 → Cm → Option (Int32 × Cm)) (x0 : Nat) (x1 : Int32) (x2 : Int32) (x3 : Int32) (M : Cm) : Option (Int32 × Cm) := r65 x0 x1 x2 (x3 + 1) M
set_option maxRecDepth 100000 in
set_option maxHeartbeats 4000000 in
theorem wbC_X8_heal_96 {p : Program} {l : Launch} {e : Env} {R : Room} {s : State} {m : MethodId} {args : Array Value} {below : List Frame} {meth : Method} {c : Code} {x : Xc} {o : Int32 × Cm} {N : Nat} {K : Ka} {r65 : Nat → Int32 → Int32 → Int32 → Cm → Option (Int32 × Cm)} {k102 : Nat → Int32 → Cm → Option (Int32 × Cm)} (CX : CC p s m args meth c x K RX8 cX8_heal 4 (some .int)) (hRm : 3 ≤ R.frames ∧ 67 ≤ R.locals) (hr65 : ∀ (x0 : Nat) (x1 : Int32) (x2 : Int32) (x3 : Int32) (M : Cm) (H : Heap) (locs : List Loc) (ls : Array Slot), r65 x0 x1 x2 x3 M = some o → RC x K M H → va_S (AC K) s.heap H locs → lv_has ls 4 [(0, .ref x0), (1, .int x1), (2, .int x2), (3, .int x3)] → W p l e R s m args below meth c H locs 0 0 (MQ below (CQI x K o) args s 0 0 (AC K)) (F0 m 65 ls [])) (hk102 : ∀ (x0 : Nat) (x2 : Int32) (M : Cm) (H : Heap) (locs : List Loc) (ls : Array Slot), k102 x0 x2 M = some o → RC x K M H → va_S (AC K) s.heap H locs → lv_has ls 4 [(0, .ref x0), (2, .int x2)] → W p l e R s m args below meth c H locs 0 0 (MQ below (CQI x K o) args s 0 0 (AC K)) (F0 m 102 ls [])) (x0 : Nat) (x1 : Int32) (x2 : Int32) (x3 : Int32) (M : Cm) (H : Heap) (locs : List Loc) (ls : Array Slot) (hf : bC_X8_heal_96 N K r65 k102 x0 x1 x2 x3 M = some o) (hR : RC x K M H) (hS : va_S (AC K) s.heap H locs) (hl : lv_has ls 4 [(0, .ref x0), (1, .int x1), (2, .int x2), (3, .int x3)]) : W p l e R s m args below meth c H locs 0 0 (MQ below (CQI x K o) args s 0 0 (AC K)) (F0 m 96 ls []) := by
  obtain ⟨hx, hb, hml, hown, hts, hE, hB, hr, hlk⟩ := id CX
  have hL : KLe K K := KLe.rf K
  have hcs : 0 ≤ R.cells ∧ 0 ≤ R.slots := ⟨Nat.zero_le _, Nat.zero_le _⟩
  unfold bC_X8_heal_96 at hf
  refine lv_iinc (v := x3 + 1) (lv' := [(3, .int (x3 + 1)), (0, .ref x0), (1, .int x1), (2, .int x2)]) hx hb dX8_heal_96 hl (k := 3) rfl rfl (by decide) rfl (fun ls hl => ?_)
  refine lv_goto (tgt := 65) hx hb dX8_heal_99 (by decide) ?_
  exact hr65 _ _ _ _ _ _ _ _ hf hR hS (lv_sub hl [1, 2, 3, 0] rfl)
def lC_X8_heal_65 (N : Nat) (K : Ka) (k102 : Nat → Int32 → Cm → Option (Int32 × Cm)) : Nat → Nat → Int32 → Int32 → Int32 → Cm → Option (Int32 × Cm)
  | 0, _, _, _, _, _ => none
  | n + 1, x0, x1, x2, x3, M => gd (kd K x0 == 9) (nn (cR M x0 7) fun a1 => gd (kd K a1 == 6) (if (cI M a1 11) ≤ x3 then (k102 x0 x2 M) else ((fC_X8_isHealedWith N K x0 x3 x1 M).bind fun o79 => if o79.1 = 0 then ((bC_X8_heal_96 N K (lC_X8_heal_65 N K k102 n) k102) x0 x1 x2 x3 o79.2) else (nn (cR o79.2 x0 2) fun a2 => gd (kd K a2 == 5) ((fC_X4_renew N K a2 x3 o79.2).bind fun o90 => (bC_X8_heal_96 N K (lC_X8_heal_65 N K k102 n) k102) x0 x1 (x2 + 1) x3 o90)))))
set_option maxRecDepth 100000 in
set_option maxHeartbeats 4000000 in
theorem wlC_X8_heal_65 {p : Program} {l : Launch} {e : Env} {R : Room} {s : State} {m : MethodId} {args : Array Value} {below : List Frame} {meth : Method} {c : Code} {x : Xc} {o : Int32 × Cm} {N : Nat} {K : Ka} {k102 : Nat → Int32 → Cm → Option (Int32 × Cm)} (CX : CC p s m args meth c x K RX8 cX8_heal 4 (some .int)) (hRm : 3 ≤ R.frames ∧ 67 ≤ R.locals) (hk102 : ∀ (x0 : Nat) (x2 : Int32) (M : Cm) (H : Heap) (locs : List Loc) (ls : Array Slot), k102 x0 x2 M = some o → RC x K M H → va_S (AC K) s.heap H locs → lv_has ls 4 [(0, .ref x0), (2, .int x2)] → W p l e R s m args below meth c H locs 0 0 (MQ below (CQI x K o) args s 0 0 (AC K)) (F0 m 102 ls [])) : ∀ (n : Nat) (x0 : Nat) (x1 : Int32) (x2 : Int32) (x3 : Int32) (M : Cm) (H : Heap) (locs : List Loc) (ls : Array Slot), lC_X8_heal_65 N K k102 n x0 x1 x2 x3 M = some o → RC x K M H → va_S (AC K) s.heap H locs → lv_has ls 4 [(0, .ref x0), (1, .int x1), (2, .int x2), (3, .int x3)] → W p l e R s m args below meth c H locs 0 0 (MQ below (CQI x K o) args s 0 0 (AC K)) (F0 m 65 ls []) := by
  obtain ⟨hx, hb, hml, hown, hts, hE, hB, hr, hlk⟩ := id CX
  have hL : KLe K K := KLe.rf K
  have hcs : 0 ≤ R.cells ∧ 0 ≤ R.slots := ⟨Nat.zero_le _, Nat.zero_le _⟩
  intro n
  induction n with
  | zero => intro x0 x1 x2 x3 M H locs ls hf; cases hf
  | succ n ih =>
    intro x0 x1 x2 x3 M H locs ls hf hR hS hl
    rw [lC_X8_heal_65] at hf
    refine lv_iload_n hx hb dX8_heal_65 rfl (lv_at hl 3 rfl) ?_
    refine lv_aload_n hx hb dX8_heal_66 rfl (lv_at hl 0 rfl) ?_
    obtain ⟨hk_x0_9, hf⟩ := gd_some hf
    refine cr_getR kc_8 CX hR fa_X8_60 rfl hk_x0_9 dX8_heal_67 ?_
    obtain ⟨a1, ha1, hf⟩ := nn_some hf
    refine rf_0 ha1 ?_
    obtain ⟨hk_a1_6, hf⟩ := gd_some hf
    refine cr_getI kc_5 CX hR fa_X8_133 rfl hk_a1_6 dX8_heal_70 ?_
    refine lv_icmp_ge (tgt := 102) hx hb dX8_heal_73 (by decide) (fun hc => ?_) (fun hc => ?_)
    · rw [if_pos hc] at hf
      exact hk102 _ _ _ _ _ _ hf hR hS (lv_sub hl [0, 2] rfl)
    · rw [if_neg hc] at hf
      refine lv_aload_n hx hb dX8_heal_76 rfl (lv_at hl 0 rfl) ?_
      refine lv_iload_n hx hb dX8_heal_77 rfl (lv_at hl 3 rfl) ?_
      refine lv_iload_n hx hb dX8_heal_78 rfl (lv_at hl 1 rfl) ?_
      obtain ⟨o79, ho79, hf⟩ := bnd_some hf
      refine cr_callIv kc_8 CX hR hL hS (As := [.int x3, .int x1]) (rest := []) hk_x0_9 (MC_X8_isHealedWith l x N K x0 x3 x1 M o79 ho79) cv_X8_179 ⟨by omega, by omega⟩ rfl rfl (Nat.le_of_ble_eq_true rfl) hl.1 dX8_heal_79 hcs (fun H locs hR hS => ?_)
      refine lv_if_eq (tgt := 96) hx hb dX8_heal_82 (by decide) (fun hc => ?_) (fun hc => ?_)
      · rw [if_pos hc] at hf
        exact (wbC_X8_heal_96 CX hRm ih hk102) _ _ _ _ _ _ _ _ hf hR hS (lv_sub hl [0, 1, 2, 3] rfl)
      · rw [if_neg hc] at hf
        refine lv_aload_n hx hb dX8_heal_85 rfl (lv_at hl 0 rfl) ?_
        refine cr_getR kc_8 CX hR fa_X8_28 rfl hk_x0_9 dX8_heal_86 ?_
        refine lv_iload_n hx hb dX8_heal_89 rfl (lv_at hl 3 rfl) ?_
        obtain ⟨a2, ha2, hf⟩ := nn_some hf
        refine rf_1 ha2 ?_
        obtain ⟨hk_a2_5, hf⟩ := gd_some hf
        obtain ⟨o90, ho90, hf⟩ := bnd_some hf
        refine cr_callVv kc_4 CX hR hL hS (As := [.int x3]) (rest := []) hk_a2_5 (MC_X4_renew l x N K a2 x3 o79.2 o90 ho90) cv_X8_185 ⟨by omega, by omega⟩ rfl rfl (Nat.le_of_ble_eq_true rfl) hl.1 dX8_heal_90 hcs (fun H locs hR hS => ?_)
        refine lv_iinc (v := x2 + 1) (lv' := [(2, .int (x2 + 1)), (0, .ref x0), (1, .int x1), (3, .int x3)]) hx hb dX8_heal_93 hl (k := 2) rfl rfl (by decide) rfl (fun ls hl => ?_)
        exact (wbC_X8_heal_96 CX hRm ih hk102) _ _ _ _ _ _ _ _ hf hR hS (lv_sub hl [1, 2, 0, 3] rfl)
def bC_X8_heal_102 (N : Nat) (K : Ka) (x0 : Nat) (x2 : Int32) (M : Cm) : Option (Int32 × Cm) := some (x2, M)
set_option maxRecDepth 100000 in
set_option maxHeartbeats 4000000 in
theorem wbC_X8_heal_102 {p : Program} {l : Launch} {e : Env} {R : Room} {s : State} {m : MethodId} {args : Array Value} {below : List Frame} {meth : Method} {c : Code} {x : Xc} {o : Int32 × Cm} {N : Nat} {K : Ka} (CX : CC p s m args meth c x K RX8 cX8_heal 4 (some .int)) (hRm : 3 ≤ R.frames ∧ 67 ≤ R.locals) (x0 : Nat) (x2 : Int32) (M : Cm) (H : Heap) (locs : List Loc) (ls : Array Slot) (hf : bC_X8_heal_102 N K x0 x2 M = some o) (hR : RC x K M H) (hS : va_S (AC K) s.heap H locs) (hl : lv_has ls 4 [(0, .ref x0), (2, .int x2)]) : W p l e R s m args below meth c H locs 0 0 (MQ below (CQI x K o) args s 0 0 (AC K)) (F0 m 102 ls []) := by
  obtain ⟨hx, hb, hml, hown, hts, hE, hB, hr, hlk⟩ := id CX
  have hL : KLe K K := KLe.rf K
  have hcs : 0 ≤ R.cells ∧ 0 ≤ R.slots := ⟨Nat.zero_le _, Nat.zero_le _⟩
  unfold bC_X8_heal_102 at hf
  refine lv_iload_n hx hb dX8_heal_102 rfl (lv_at hl 1 rfl) ?_
  exact cr_iret CX hR hS hf dX8_heal_103
def bC_X8_heal_61 (N : Nat) (K : Ka) (x0 : Nat) (x1 : Int32) (M : Cm) : Option (Int32 × Cm) := (lC_X8_heal_65 N K (bC_X8_heal_102 N K) N) x0 x1 0 0 M
set_option maxRecDepth 100000 in
set_option maxHeartbeats 4000000 in
theorem wbC_X8_heal_61 {p : Program} {l : Launch} {e : Env} {R : Room} {s : State} {m : MethodId} {args : Array Value} {below : List Frame} {meth : Method} {c : Code} {x : Xc} {o : Int32 × Cm} {N : Nat} {K : Ka} (CX : CC p s m args meth c x K RX8 cX8_heal 4 (some .int)) (hRm : 3 ≤ R.frames ∧ 67 ≤ R.locals) (x0 : Nat) (x1 : Int32) (M : Cm) (H : Heap) (locs : List Loc) (ls : Array Slot) (hf : bC_X8_heal_61 N K x0 x1 M = some o) (hR : RC x K M H) (hS : va_S (AC K) s.heap H locs) (hl : lv_has ls 4 [(0, .ref x0), (1, .int x1)]) : W p l e R s m args below meth c H locs 0 0 (MQ below (CQI x K o) args s 0 0 (AC K)) (F0 m 61 ls []) := by
  obtain ⟨hx, hb, hml, hown, hts, hE, hB, hr, hlk⟩ := id CX
  have hL : KLe K K := KLe.rf K
  have hcs : 0 ≤ R.cells ∧ 0 ≤ R.slots := ⟨Nat.zero_le _, Nat.zero_le _⟩
  unfold bC_X8_heal_61 at hf
  refine lv_iconst (v := 0) hx hb dX8_heal_61 (by decide) ?_
  refine lv_istore_n (lv' := [(2, .int 0), (0, .ref x0), (1, .int x1)]) hx hb dX8_heal_62 rfl hl (by decide) rfl (fun ls hl => ?_)
  refine lv_iconst (v := 0) hx hb dX8_heal_63 (by decide) ?_
  refine lv_istore_n (lv' := [(3, .int 0), (2, .int 0), (0, .ref x0), (1, .int x1)]) hx hb dX8_heal_64 rfl hl (by decide) rfl (fun ls hl => ?_)
  exact (wlC_X8_heal_65 CX hRm (wbC_X8_heal_102 CX hRm) N) _ _ _ _ _ _ _ _ hf hR hS (lv_sub hl [2, 3, 1, 0] rfl)
def fC_X8_heal (N : Nat) (K : Ka) (x0 : Nat) (x1 : Int32) (M : Cm) : Option (Int32 × Cm) := gd (kd K x0 == 9) ((fC_X8_isUnit N K x0 x1 M).bind fun o2 => if o2.1 = 0 then ((bC_X8_heal_15 N K) x0 o2.2) else (if (cI o2.2 x0 12) = 0 then ((lC_X8_heal_19 N K (bC_X8_heal_53 N K) (bC_X8_heal_61 N K) N) x0 x1 0 o2.2) else ((bC_X8_heal_15 N K) x0 o2.2)))
set_option maxRecDepth 100000 in
set_option maxHeartbeats 4000000 in
theorem wfC_X8_heal {p : Program} {l : Launch} {e : Env} {R : Room} {s : State} {m : MethodId} {args : Array Value} {below : List Frame} {meth : Method} {c : Code} {x : Xc} {o : Int32 × Cm} {N : Nat} {K : Ka} (CX : CC p s m args meth c x K RX8 cX8_heal 4 (some .int)) (hRm : 3 ≤ R.frames ∧ 67 ≤ R.locals) (x0 : Nat) (x1 : Int32) (M : Cm) (H : Heap) (locs : List Loc) (ls : Array Slot) (hf : fC_X8_heal N K x0 x1 M = some o) (hR : RC x K M H) (hS : va_S (AC K) s.heap H locs) (hl : lv_has ls 4 [(0, .ref x0), (1, .int x1)]) : W p l e R s m args below meth c H locs 0 0 (MQ below (CQI x K o) args s 0 0 (AC K)) (F0 m 0 ls []) := by
  obtain ⟨hx, hb, hml, hown, hts, hE, hB, hr, hlk⟩ := id CX
  have hL : KLe K K := KLe.rf K
  have hcs : 0 ≤ R.cells ∧ 0 ≤ R.slots := ⟨Nat.zero_le _, Nat.zero_le _⟩
  unfold fC_X8_heal at hf
  refine lv_aload_n hx hb dX8_heal_0 rfl (lv_at hl 0 rfl) ?_
  refine lv_iload_n hx hb dX8_heal_1 rfl (lv_at hl 1 rfl) ?_
  obtain ⟨hk_x0_9, hf⟩ := gd_some hf
  obtain ⟨o2, ho2, hf⟩ := bnd_some hf
  refine cr_callIv kc_8 CX hR hL hS (As := [.int x1]) (rest := []) hk_x0_9 (MC_X8_isUnit l x N K x0 x1 M o2 ho2) cv_X8_162 ⟨by omega, by omega⟩ rfl rfl (Nat.le_of_ble_eq_true rfl) hl.1 dX8_heal_2 hcs (fun H locs hR hS => ?_)
  refine lv_if_eq (tgt := 15) hx hb dX8_heal_5 (by decide) (fun hc => ?_) (fun hc => ?_)
  · rw [if_pos hc] at hf
    exact (wbC_X8_heal_15 CX hRm) _ _ _ _ _ hf hR hS (lv_sub hl [0] rfl)
  · rw [if_neg hc] at hf
    refine lv_aload_n hx hb dX8_heal_8 rfl (lv_at hl 0 rfl) ?_
    refine cr_getI kc_8 CX hR fa_X8_77 rfl hk_x0_9 dX8_heal_9 ?_
    refine lv_if_eq (tgt := 17) hx hb dX8_heal_12 (by decide) (fun hc => ?_) (fun hc => ?_)
    · rw [if_pos hc] at hf
      refine lv_iconst (v := 0) hx hb dX8_heal_17 (by decide) ?_
      refine lv_istore_n (lv' := [(2, .int 0), (0, .ref x0), (1, .int x1)]) hx hb dX8_heal_18 rfl hl (by decide) rfl (fun ls hl => ?_)
      exact (wlC_X8_heal_19 CX hRm (wbC_X8_heal_53 CX hRm) (wbC_X8_heal_61 CX hRm) N) _ _ _ _ _ _ _ hf hR hS (lv_sub hl [1, 2, 0] rfl)
    · rw [if_neg hc] at hf
      exact (wbC_X8_heal_15 CX hRm) _ _ _ _ _ hf hR hS (lv_sub hl [0] rfl)
theorem MC_X8_heal (l : Launch) (x : Xc) (N : Nat) (K : Ka) (x0 : Nat) (x1 : Int32) (M : Cm) (o : Int32 × Cm) (hf : fC_X8_heal N K x0 x1 M = some o) : CtI l x yX8_heal cX8_heal 4 (some .int) 3 67 [.ref x0, .int x1] K M o :=
  cr_metI RX8 (by decide) rfl (Nat.le_of_ble_eq_true rfl) (fun p e s m args below meth c ls CX hR hl => wfC_X8_heal CX ⟨Nat.le_refl _, Nat.le_refl _⟩ x0 x1 M s.heap [] ls hf hR va_S.rf hl)
def bC_X8_close_93 (N : Nat) (K : Ka) (r21 : Nat → Int32 → Int32 → Cm → Option (Int32 × Cm)) (k99 : Nat → Int32 → Cm → Option (Int32 × Cm)) (x0 : Nat) (x1 : Int32) (x2 : Int32) (M : Cm) : Option (Int32 × Cm) := r21 x0 x1 (x2 + (-1)) M
set_option maxRecDepth 100000 in
set_option maxHeartbeats 4000000 in
theorem wbC_X8_close_93 {p : Program} {l : Launch} {e : Env} {R : Room} {s : State} {m : MethodId} {args : Array Value} {below : List Frame} {meth : Method} {c : Code} {x : Xc} {o : Int32 × Cm} {N : Nat} {K : Ka} {r21 : Nat → Int32 → Int32 → Cm → Option (Int32 × Cm)} {k99 : Nat → Int32 → Cm → Option (Int32 × Cm)} (CX : CC p s m args meth c x K RX8 cX8_close 5 (some .int)) (hRm : 7 ≤ R.frames ∧ 167 ≤ R.locals) (hr21 : ∀ (x0 : Nat) (x1 : Int32) (x2 : Int32) (M : Cm) (H : Heap) (locs : List Loc) (ls : Array Slot), r21 x0 x1 x2 M = some o → RC x K M H → va_S (AC K) s.heap H locs → lv_has ls 5 [(0, .ref x0), (1, .int x1), (2, .int x2)] → W p l e R s m args below meth c H locs 0 0 (MQ below (CQI x K o) args s 0 0 (AC K)) (F0 m 21 ls [])) (hk99 : ∀ (x0 : Nat) (x1 : Int32) (M : Cm) (H : Heap) (locs : List Loc) (ls : Array Slot), k99 x0 x1 M = some o → RC x K M H → va_S (AC K) s.heap H locs → lv_has ls 5 [(0, .ref x0), (1, .int x1)] → W p l e R s m args below meth c H locs 0 0 (MQ below (CQI x K o) args s 0 0 (AC K)) (F0 m 99 ls [])) (x0 : Nat) (x1 : Int32) (x2 : Int32) (M : Cm) (H : Heap) (locs : List Loc) (ls : Array Slot) (hf : bC_X8_close_93 N K r21 k99 x0 x1 x2 M = some o) (hR : RC x K M H) (hS : va_S (AC K) s.heap H locs) (hl : lv_has ls 5 [(0, .ref x0), (1, .int x1), (2, .int x2)]) : W p l e R s m args below meth c H locs 0 0 (MQ below (CQI x K o) args s 0 0 (AC K)) (F0 m 93 ls []) := by
  obtain ⟨hx, hb, hml, hown, hts, hE, hB, hr, hlk⟩ := id CX
  have hL : KLe K K := KLe.rf K
  have hcs : 0 ≤ R.cells ∧ 0 ≤ R.slots := ⟨Nat.zero_le _, Nat.zero_le _⟩
  unfold bC_X8_close_93 at hf
  refine lv_iinc (v := x2 + (-1)) (lv' := [(2, .int (x2 + (-1))), (0, .ref x0), (1, .int x1)]) hx hb dX8_close_93 hl (k := 2) rfl rfl (by decide) rfl (fun ls hl => ?_)
  refine lv_goto (tgt := 21) hx hb dX8_close_96 (by decide) ?_
  exact hr21 _ _ _ _ _ _ _ hf hR hS (lv_sub hl [1, 2, 0] rfl)
def lC_X8_close_21 (N : Nat) (K : Ka) (k99 : Nat → Int32 → Cm → Option (Int32 × Cm)) : Nat → Nat → Int32 → Int32 → Cm → Option (Int32 × Cm)
  | 0, _, _, _, _ => none
  | n + 1, x0, x1, x2, M => if x2 < 0 then (k99 x0 x1 M) else (gd (kd K x0 == 9) (nn (cR M x0 4) fun a1 => gd (kd K a1 == 1) ((fC_X0_upAt N K a1 x2 0 M).bind fun o31 => (fC_X8_isUnit N K x0 o31.1 o31.2).bind fun o37 => if o37.1 = 0 then ((bC_X8_close_93 N K (lC_X8_close_21 N K k99 n) k99) x0 x1 x2 o37.2) else (nn (cR o37.2 x0 2) fun a2 => gd (kd K a2 == 5) (nn (cR o37.2 a2 0) fun a3 => gd (kd K a3 == 22) (ck o31.1 (le K a3) (if (cI o37.2 a3 (o31.1 : Int32).toNatClampNeg) = 2 then (nn (cR o37.2 x0 7) fun a4 => nn (cR o37.2 x0 5) fun a5 => gd (kd K a5 == 3) ((fC_X2_runClosing N K a5 a4 o31.1 o37.2).bind fun o65 => nn (cR o65.2 x0 2) fun a6 => gd (kd K a6 == 5) (nn (cR o65.2 a6 0) fun a7 => gd (kd K a7 == 22) (ck o31.1 (le K a7) (nn (cR (wI o65.2 a7 (o31.1 : Int32).toNatClampNeg 4) x0 4) fun a8 => gd (kd K a8 == 1) ((fC_X0_addClosed N K a8 o31.1 o65.1 (wI o65.2 a7 (o31.1 : Int32).toNatClampNeg 4)).bind fun o87 => (bC_X8_close_93 N K (lC_X8_close_21 N K k99 n) k99) x0 (x1 + 1) x2 o87)))))) else ((bC_X8_close_93 N K (lC_X8_close_21 N K k99 n) k99) x0 x1 x2 o37.2))))))))
set_option maxRecDepth 100000 in
set_option maxHeartbeats 4000000 in
theorem wlC_X8_close_21 {p : Program} {l : Launch} {e : Env} {R : Room} {s : State} {m : MethodId} {args : Array Value} {below : List Frame} {meth : Method} {c : Code} {x : Xc} {o : Int32 × Cm} {N : Nat} {K : Ka} {k99 : Nat → Int32 → Cm → Option (Int32 × Cm)} (CX : CC p s m args meth c x K RX8 cX8_close 5 (some .int)) (hRm : 7 ≤ R.frames ∧ 167 ≤ R.locals) (hk99 : ∀ (x0 : Nat) (x1 : Int32) (M : Cm) (H : Heap) (locs : List Loc) (ls : Array Slot), k99 x0 x1 M = some o → RC x K M H → va_S (AC K) s.heap H locs → lv_has ls 5 [(0, .ref x0), (1, .int x1)] → W p l e R s m args below meth c H locs 0 0 (MQ below (CQI x K o) args s 0 0 (AC K)) (F0 m 99 ls [])) : ∀ (n : Nat) (x0 : Nat) (x1 : Int32) (x2 : Int32) (M : Cm) (H : Heap) (locs : List Loc) (ls : Array Slot), lC_X8_close_21 N K k99 n x0 x1 x2 M = some o → RC x K M H → va_S (AC K) s.heap H locs → lv_has ls 5 [(0, .ref x0), (1, .int x1), (2, .int x2)] → W p l e R s m args below meth c H locs 0 0 (MQ below (CQI x K o) args s 0 0 (AC K)) (F0 m 21 ls []) := by
  obtain ⟨hx, hb, hml, hown, hts, hE, hB, hr, hlk⟩ := id CX
  have hL : KLe K K := KLe.rf K
  have hcs : 0 ≤ R.cells ∧ 0 ≤ R.slots := ⟨Nat.zero_le _, Nat.zero_le _⟩
  intro n
  induction n with
  | zero => intro x0 x1 x2 M H locs ls hf; cases hf
  | succ n ih =>
    intro x0 x1 x2 M H locs ls hf hR hS hl
    rw [lC_X8_close_21] at hf
    refine lv_iload_n hx hb dX8_close_21 rfl (lv_at hl 2 rfl) ?_
    refine lv_if_lt (tgt := 99) hx hb dX8_close_22 (by decide) (fun hc => ?_) (fun hc => ?_)
    · rw [if_pos hc] at hf
      exact hk99 _ _ _ _ _ _ hf hR hS (lv_sub hl [0, 1] rfl)
    · rw [if_neg hc] at hf
      refine lv_aload_n hx hb dX8_close_25 rfl (lv_at hl 0 rfl) ?_
      obtain ⟨hk_x0_9, hf⟩ := gd_some hf
      refine cr_getR kc_8 CX hR fa_X8_38 rfl hk_x0_9 dX8_close_26 ?_
      refine lv_iload_n hx hb dX8_close_29 rfl (lv_at hl 2 rfl) ?_
      refine lv_iconst (v := 0) hx hb dX8_close_30 (by decide) ?_
      obtain ⟨a1, ha1, hf⟩ := nn_some hf
      refine rf_2 ha1 ?_
      obtain ⟨hk_a1_1, hf⟩ := gd_some hf
      obtain ⟨o31, ho31, hf⟩ := bnd_some hf
      refine cr_callIv kc_0 CX hR hL hS (As := [.int x2, .int 0]) (rest := []) hk_a1_1 (MC_X0_upAt l x N K a1 x2 0 M o31 ho31) cv_X8_191 ⟨by omega, by omega⟩ rfl rfl (Nat.le_of_ble_eq_true rfl) hl.1 dX8_close_31 hcs (fun H locs hR hS => ?_)
      refine lv_istore_n (lv' := [(3, .int o31.1), (0, .ref x0), (1, .int x1), (2, .int x2)]) hx hb dX8_close_34 rfl hl (by decide) rfl (fun ls hl => ?_)
      refine lv_aload_n hx hb dX8_close_35 rfl (lv_at hl 1 rfl) ?_
      refine lv_iload_n hx hb dX8_close_36 rfl (lv_at hl 0 rfl) ?_
      obtain ⟨o37, ho37, hf⟩ := bnd_some hf
      refine cr_callIv kc_8 CX hR hL hS (As := [.int o31.1]) (rest := []) hk_x0_9 (MC_X8_isUnit l x N K x0 o31.1 o31.2 o37 ho37) cv_X8_162 ⟨by omega, by omega⟩ rfl rfl (Nat.le_of_ble_eq_true rfl) hl.1 dX8_close_37 hcs (fun H locs hR hS => ?_)
      refine lv_if_eq (tgt := 93) hx hb dX8_close_40 (by decide) (fun hc => ?_) (fun hc => ?_)
      · rw [if_pos hc] at hf
        exact (wbC_X8_close_93 CX hRm ih hk99) _ _ _ _ _ _ _ hf hR hS (lv_sub hl [1, 2, 3] rfl)
      · rw [if_neg hc] at hf
        refine lv_aload_n hx hb dX8_close_43 rfl (lv_at hl 1 rfl) ?_
        refine cr_getR kc_8 CX hR fa_X8_28 rfl hk_x0_9 dX8_close_44 ?_
        obtain ⟨a2, ha2, hf⟩ := nn_some hf
        refine rf_0 ha2 ?_
        obtain ⟨hk_a2_5, hf⟩ := gd_some hf
        refine cr_getR kc_4 CX hR fa_X8_195 rfl hk_a2_5 dX8_close_47 ?_
        refine lv_iload_n hx hb dX8_close_50 rfl (lv_at hl 0 rfl) ?_
        obtain ⟨a3, ha3, hf⟩ := nn_some hf
        refine rf_1 ha3 ?_
        obtain ⟨hk_a3_22, hf⟩ := gd_some hf
        obtain ⟨hi, hf⟩ := ck_some hf
        refine cr_iald CX hR hk_a3_22 hi dX8_close_51 ?_
        refine lv_iconst (v := 2) hx hb dX8_close_52 (by decide) ?_
        refine lv_icmp_ne (tgt := 93) hx hb dX8_close_53 (by decide) (fun hc => ?_) (fun hc => ?_)
        · rw [if_neg hc] at hf
          exact (wbC_X8_close_93 CX hRm ih hk99) _ _ _ _ _ _ _ hf hR hS (lv_sub hl [1, 2, 3] rfl)
        · rw [if_pos hc] at hf
          refine lv_aload_n hx hb dX8_close_56 rfl (lv_at hl 1 rfl) ?_
          refine cr_getR kc_8 CX hR fa_X8_47 rfl hk_x0_9 dX8_close_57 ?_
          refine lv_aload_n hx hb dX8_close_60 rfl (lv_at hl 1 rfl) ?_
          refine cr_getR kc_8 CX hR fa_X8_60 rfl hk_x0_9 dX8_close_61 ?_
          refine lv_iload_n hx hb dX8_close_64 rfl (lv_at hl 0 rfl) ?_
          obtain ⟨a4, ha4, hf⟩ := nn_some hf
          refine rf_1 ha4 ?_
          obtain ⟨a5, ha5, hf⟩ := nn_some hf
          refine rf_2 ha5 ?_
          obtain ⟨hk_a5_3, hf⟩ := gd_some hf
          obtain ⟨o65, ho65, hf⟩ := bnd_some hf
          refine cr_callIv kc_2 CX hR hL hS (As := [.ref a4, .int o31.1]) (rest := []) hk_a5_3 (MC_X2_runClosing l x N K a5 a4 o31.1 o37.2 o65 ho65) cv_X8_198 ⟨by omega, by omega⟩ rfl rfl (Nat.le_of_ble_eq_true rfl) hl.1 dX8_close_65 hcs (fun H locs hR hS => ?_)
          refine lv_istore (lv' := [(4, .int o65.1), (3, .int o31.1), (0, .ref x0), (1, .int x1), (2, .int x2)]) hx hb dX8_close_68 hl (by decide) rfl (fun ls hl => ?_)
          refine lv_aload_n hx hb dX8_close_70 rfl (lv_at hl 2 rfl) ?_
          refine cr_getR kc_8 CX hR fa_X8_28 rfl hk_x0_9 dX8_close_71 ?_
          obtain ⟨a6, ha6, hf⟩ := nn_some hf
          refine rf_0 ha6 ?_
          obtain ⟨hk_a6_5, hf⟩ := gd_some hf
          refine cr_getR kc_4 CX hR fa_X8_195 rfl hk_a6_5 dX8_close_74 ?_
          refine lv_iload_n hx hb dX8_close_77 rfl (lv_at hl 1 rfl) ?_
          refine lv_iconst (v := 4) hx hb dX8_close_78 (by decide) ?_
          obtain ⟨a7, ha7, hf⟩ := nn_some hf
          refine rf_2 ha7 ?_
          obtain ⟨hk_a7_22, hf⟩ := gd_some hf
          obtain ⟨hi, hf⟩ := ck_some hf
          refine cr_iast CX hR hL hS hk_a7_22 hi dX8_close_79 (fun H locs hR hS => ?_)
          refine lv_aload_n hx hb dX8_close_80 rfl (lv_at hl 2 rfl) ?_
          refine cr_getR kc_8 CX hR fa_X8_38 rfl hk_x0_9 dX8_close_81 ?_
          refine lv_iload_n hx hb dX8_close_84 rfl (lv_at hl 1 rfl) ?_
          refine lv_iload hx hb dX8_close_85 (lv_at hl 0 rfl) ?_
          obtain ⟨a8, ha8, hf⟩ := nn_some hf
          refine rf_2 ha8 ?_
          obtain ⟨hk_a8_1, hf⟩ := gd_some hf
          obtain ⟨o87, ho87, hf⟩ := bnd_some hf
          refine cr_callVv kc_0 CX hR hL hS (As := [.int o31.1, .int o65.1]) (rest := []) hk_a8_1 (MC_X0_addClosed l x N K a8 o31.1 o65.1 (wI o65.2 a7 (o31.1 : Int32).toNatClampNeg 4) o87 ho87) cv_X8_202 ⟨by omega, by omega⟩ rfl rfl (Nat.le_of_ble_eq_true rfl) hl.1 dX8_close_87 hcs (fun H locs hR hS => ?_)
          refine lv_iinc (v := x1 + 1) (lv' := [(1, .int (x1 + 1)), (4, .int o65.1), (3, .int o31.1), (0, .ref x0), (2, .int x2)]) hx hb dX8_close_90 hl (k := 3) rfl rfl (by decide) rfl (fun ls hl => ?_)
          exact (wbC_X8_close_93 CX hRm ih hk99) _ _ _ _ _ _ _ hf hR hS (lv_sub hl [3, 0, 4] rfl)
def bC_X8_close_99 (N : Nat) (K : Ka) (x0 : Nat) (x1 : Int32) (M : Cm) : Option (Int32 × Cm) := gd (kd K x0 == 9) (gd (is01 1) (some (x1, wI M x0 12 1)))
set_option maxRecDepth 100000 in
set_option maxHeartbeats 4000000 in
theorem wbC_X8_close_99 {p : Program} {l : Launch} {e : Env} {R : Room} {s : State} {m : MethodId} {args : Array Value} {below : List Frame} {meth : Method} {c : Code} {x : Xc} {o : Int32 × Cm} {N : Nat} {K : Ka} (CX : CC p s m args meth c x K RX8 cX8_close 5 (some .int)) (hRm : 7 ≤ R.frames ∧ 167 ≤ R.locals) (x0 : Nat) (x1 : Int32) (M : Cm) (H : Heap) (locs : List Loc) (ls : Array Slot) (hf : bC_X8_close_99 N K x0 x1 M = some o) (hR : RC x K M H) (hS : va_S (AC K) s.heap H locs) (hl : lv_has ls 5 [(0, .ref x0), (1, .int x1)]) : W p l e R s m args below meth c H locs 0 0 (MQ below (CQI x K o) args s 0 0 (AC K)) (F0 m 99 ls []) := by
  obtain ⟨hx, hb, hml, hown, hts, hE, hB, hr, hlk⟩ := id CX
  have hL : KLe K K := KLe.rf K
  have hcs : 0 ≤ R.cells ∧ 0 ≤ R.slots := ⟨Nat.zero_le _, Nat.zero_le _⟩
  unfold bC_X8_close_99 at hf
  refine lv_aload_n hx hb dX8_close_99 rfl (lv_at hl 0 rfl) ?_
  refine lv_iconst (v := 1) hx hb dX8_close_100 (by decide) ?_
  obtain ⟨hk_x0_9, hf⟩ := gd_some hf
  obtain ⟨hq, hf⟩ := gd_some hf
  refine cr_putZ kc_8 CX hR hL hS fa_X8_77 ⟨rfl, rfl, rfl⟩ hk_x0_9 hq dX8_close_101 (fun H locs hR hS => ?_)
  refine lv_iload_n hx hb dX8_close_104 rfl (lv_at hl 1 rfl) ?_
  exact cr_iret CX hR hS hf dX8_close_105
def fC_X8_close (N : Nat) (K : Ka) (x0 : Nat) (M : Cm) : Option (Int32 × Cm) := gd (kd K x0 == 9) (if (cI M x0 12) = 0 then (nn (cR M x0 4) fun a1 => gd (kd K a1 == 1) ((lC_X8_close_21 N K (bC_X8_close_99 N K) N) x0 0 ((cI M a1 4) - 1) M)) else (some ((-1), M)))
set_option maxRecDepth 100000 in
set_option maxHeartbeats 4000000 in
theorem wfC_X8_close {p : Program} {l : Launch} {e : Env} {R : Room} {s : State} {m : MethodId} {args : Array Value} {below : List Frame} {meth : Method} {c : Code} {x : Xc} {o : Int32 × Cm} {N : Nat} {K : Ka} (CX : CC p s m args meth c x K RX8 cX8_close 5 (some .int)) (hRm : 7 ≤ R.frames ∧ 167 ≤ R.locals) (x0 : Nat) (M : Cm) (H : Heap) (locs : List Loc) (ls : Array Slot) (hf : fC_X8_close N K x0 M = some o) (hR : RC x K M H) (hS : va_S (AC K) s.heap H locs) (hl : lv_has ls 5 [(0, .ref x0)]) : W p l e R s m args below meth c H locs 0 0 (MQ below (CQI x K o) args s 0 0 (AC K)) (F0 m 0 ls []) := by
  obtain ⟨hx, hb, hml, hown, hts, hE, hB, hr, hlk⟩ := id CX
  have hL : KLe K K := KLe.rf K
  have hcs : 0 ≤ R.cells ∧ 0 ≤ R.slots := ⟨Nat.zero_le _, Nat.zero_le _⟩
  unfold fC_X8_close at hf
  refine lv_aload_n hx hb dX8_close_0 rfl (lv_at hl 0 rfl) ?_
  obtain ⟨hk_x0_9, hf⟩ := gd_some hf
  refine cr_getI kc_8 CX hR fa_X8_77 rfl hk_x0_9 dX8_close_1 ?_
  refine lv_if_eq (tgt := 9) hx hb dX8_close_4 (by decide) (fun hc => ?_) (fun hc => ?_)
  · rw [if_pos hc] at hf
    refine lv_iconst (v := 0) hx hb dX8_close_9 (by decide) ?_
    refine lv_istore_n (lv' := [(1, .int 0), (0, .ref x0)]) hx hb dX8_close_10 rfl hl (by decide) rfl (fun ls hl => ?_)
    refine lv_aload_n hx hb dX8_close_11 rfl (lv_at hl 1 rfl) ?_
    refine cr_getR kc_8 CX hR fa_X8_38 rfl hk_x0_9 dX8_close_12 ?_
    obtain ⟨a1, ha1, hf⟩ := nn_some hf
    refine rf_0 ha1 ?_
    obtain ⟨hk_a1_1, hf⟩ := gd_some hf
    refine cr_getI kc_0 CX hR fa_X8_188 rfl hk_a1_1 dX8_close_15 ?_
    refine lv_iconst (v := 1) hx hb dX8_close_18 (by decide) ?_
    refine lv_isub hx hb dX8_close_19 ?_
    refine lv_istore_n (lv' := [(2, .int ((cI M a1 4) - 1)), (1, .int 0), (0, .ref x0)]) hx hb dX8_close_20 rfl hl (by decide) rfl (fun ls hl => ?_)
    exact (wlC_X8_close_21 CX hRm (wbC_X8_close_99 CX hRm) N) _ _ _ _ _ _ _ hf hR hS (lv_sub hl [2, 1, 0] rfl)
  · rw [if_neg hc] at hf
    refine lv_iconst (v := (-1)) hx hb dX8_close_7 (by decide) ?_
    exact cr_iret CX hR hS hf dX8_close_8
theorem MC_X8_close (l : Launch) (x : Xc) (N : Nat) (K : Ka) (x0 : Nat) (M : Cm) (o : Int32 × Cm) (hf : fC_X8_close N K x0 M = some o) : CtI l x yX8_close cX8_close 5 (some .int) 7 167 [.ref x0] K M o :=
  cr_metI RX8 (by decide) rfl (Nat.le_of_ble_eq_true rfl) (fun p e s m args below meth c ls CX hR hl => wfC_X8_close CX ⟨Nat.le_refl _, Nat.le_refl _⟩ x0 M s.heap [] ls hf hR va_S.rf hl)
def bC_X8_beat_11 (N : Nat) (K : Ka) (x0 : Nat) (M : Cm) : Option (Int32 × Cm) := some ((-1), M)
set_option maxRecDepth 100000 in
set_option maxHeartbeats 4000000 in
theorem wbC_X8_beat_11 {p : Program} {l : Launch} {e : Env} {R : Room} {s : State} {m : MethodId} {args : Array Value} {below : List Frame} {meth : Method} {c : Code} {x : Xc} {o : Int32 × Cm} {N : Nat} {K : Ka} (CX : CC p s m args meth c x K RX8 cX8_beat 9 (some .int)) (hRm : 1 ≤ R.frames ∧ 40 ≤ R.locals) (x0 : Nat) (M : Cm) (H : Heap) (locs : List Loc) (ls : Array Slot) (hf : bC_X8_beat_11 N K x0 M = some o) (hR : RC x K M H) (hS : va_S (AC K) s.heap H locs) (hl : lv_has ls 9 [(0, .ref x0)]) : W p l e R s m args below meth c H locs 0 0 (MQ below (CQI x K o) args s 0 0 (AC K)) (F0 m 11 ls []) := by
  obtain ⟨hx, hb, hml, hown, hts, hE, hB, hr, hlk⟩ := id CX
  have hL : KLe K K := KLe.rf K
  have hcs : 0 ≤ R.cells ∧ 0 ≤ R.slots := ⟨Nat.zero_le _, Nat.zero_le _⟩
  unfold bC_X8_beat_11 at hf
  refine lv_iconst (v := (-1)) hx hb dX8_beat_11 (by decide) ?_
  exact cr_iret CX hR hS hf dX8_beat_12
def lC_X8_beat_15 (N : Nat) (K : Ka) (k106 : Nat → Int32 → Cm → Option (Int32 × Cm)) : Nat → Nat → Int32 → Int32 → Cm → Option (Int32 × Cm)
  | 0, _, _, _, _ => none
  | n + 1, x0, x1, x2, M => gd (kd K x0 == 9) (nn (cR M x0 7) fun a1 => gd (kd K a1 == 6) (if (cI M a1 10) ≤ x2 then (k106 x0 x1 M) else (nn (cR M x0 2) fun a2 => gd (kd K a2 == 5) (nn (cR M a2 9) fun a3 => gd (kd K a3 == 22) (ck x2 (le K a3) (nn (cR M x0 2) fun a4 => gd (kd K a4 == 5) (nn (cR M a4 8) fun a5 => gd (kd K a5 == 22) (ck x2 (le K a5) (nn (cR M x0 7) fun a6 => gd (kd K a6 == 6) (nn (cR M a6 3) fun a7 => gd (kd K a7 == 22) (ck x2 (le K a7) (nn (cR M x0 2) fun a8 => gd (kd K a8 == 5) (nn (cR M x0 2) fun a9 => gd (kd K a9 == 5) (nn (cR M a9 8) fun a10 => gd (kd K a10 == 22) (ck x2 (le K a10) (nn (cR M a8 8) fun a11 => gd (kd K a11 == 22) (ck x2 (le K a11) (lC_X8_beat_15 N K k106 n x0 x1 (x2 + 1) (wI M a11 (x2 : Int32).toNatClampNeg ((((cI M a10 (x2 : Int32).toNatClampNeg : Int32).toInt64) + (if (if (((cI M a3 (x2 : Int32).toNatClampNeg : Int32).toInt64) - ((cI M a5 (x2 : Int32).toNatClampNeg : Int32).toInt64)) < (((cI M a7 (x2 : Int32).toNatClampNeg : Int32).toInt64) * ((x1 : Int32).toInt64)) then (((cI M a3 (x2 : Int32).toNatClampNeg : Int32).toInt64) - ((cI M a5 (x2 : Int32).toNatClampNeg : Int32).toInt64)) else (((cI M a7 (x2 : Int32).toNatClampNeg : Int32).toInt64) * ((x1 : Int32).toInt64))) < (-(((cI M a7 (x2 : Int32).toNatClampNeg : Int32).toInt64) * ((x1 : Int32).toInt64))) then (-(((cI M a7 (x2 : Int32).toNatClampNeg : Int32).toInt64) * ((x1 : Int32).toInt64))) else (if (((cI M a3 (x2 : Int32).toNatClampNeg : Int32).toInt64) - ((cI M a5 (x2 : Int32).toNatClampNeg : Int32).toInt64)) < (((cI M a7 (x2 : Int32).toNatClampNeg : Int32).toInt64) * ((x1 : Int32).toInt64)) then (((cI M a3 (x2 : Int32).toNatClampNeg : Int32).toInt64) - ((cI M a5 (x2 : Int32).toNatClampNeg : Int32).toInt64)) else (((cI M a7 (x2 : Int32).toNatClampNeg : Int32).toInt64) * ((x1 : Int32).toInt64)))) : Int64).toInt32))))))))))))))))))))
set_option maxRecDepth 100000 in
set_option maxHeartbeats 4000000 in
theorem wlC_X8_beat_15 {p : Program} {l : Launch} {e : Env} {R : Room} {s : State} {m : MethodId} {args : Array Value} {below : List Frame} {meth : Method} {c : Code} {x : Xc} {o : Int32 × Cm} {N : Nat} {K : Ka} {k106 : Nat → Int32 → Cm → Option (Int32 × Cm)} (CX : CC p s m args meth c x K RX8 cX8_beat 9 (some .int)) (hRm : 1 ≤ R.frames ∧ 40 ≤ R.locals) (hk106 : ∀ (x0 : Nat) (x1 : Int32) (M : Cm) (H : Heap) (locs : List Loc) (ls : Array Slot), k106 x0 x1 M = some o → RC x K M H → va_S (AC K) s.heap H locs → lv_has ls 9 [(0, .ref x0), (1, .int x1)] → W p l e R s m args below meth c H locs 0 0 (MQ below (CQI x K o) args s 0 0 (AC K)) (F0 m 106 ls [])) : ∀ (n : Nat) (x0 : Nat) (x1 : Int32) (x2 : Int32) (M : Cm) (H : Heap) (locs : List Loc) (ls : Array Slot), lC_X8_beat_15 N K k106 n x0 x1 x2 M = some o → RC x K M H → va_S (AC K) s.heap H locs → lv_has ls 9 [(0, .ref x0), (1, .int x1), (2, .int x2)] → W p l e R s m args below meth c H locs 0 0 (MQ below (CQI x K o) args s 0 0 (AC K)) (F0 m 15 ls []) := by
  obtain ⟨hx, hb, hml, hown, hts, hE, hB, hr, hlk⟩ := id CX
  have hL : KLe K K := KLe.rf K
  have hcs : 0 ≤ R.cells ∧ 0 ≤ R.slots := ⟨Nat.zero_le _, Nat.zero_le _⟩
  intro n
  induction n with
  | zero => intro x0 x1 x2 M H locs ls hf; cases hf
  | succ n ih =>
    intro x0 x1 x2 M H locs ls hf hR hS hl
    rw [lC_X8_beat_15] at hf
    refine lv_iload_n hx hb dX8_beat_15 rfl (lv_at hl 2 rfl) ?_
    refine lv_aload_n hx hb dX8_beat_16 rfl (lv_at hl 0 rfl) ?_
    obtain ⟨hk_x0_9, hf⟩ := gd_some hf
    refine cr_getR kc_8 CX hR fa_X8_60 rfl hk_x0_9 dX8_beat_17 ?_
    obtain ⟨a1, ha1, hf⟩ := nn_some hf
    refine rf_0 ha1 ?_
    obtain ⟨hk_a1_6, hf⟩ := gd_some hf
    refine cr_getI kc_5 CX hR fa_X8_123 rfl hk_a1_6 dX8_beat_20 ?_
    refine lv_icmp_ge (tgt := 106) hx hb dX8_beat_23 (by decide) (fun hc => ?_) (fun hc => ?_)
    · rw [if_pos hc] at hf
      exact hk106 _ _ _ _ _ _ hf hR hS (lv_sub hl [0, 1] rfl)
    · rw [if_neg hc] at hf
      refine lv_aload_n hx hb dX8_beat_26 rfl (lv_at hl 0 rfl) ?_
      refine cr_getR kc_8 CX hR fa_X8_28 rfl hk_x0_9 dX8_beat_27 ?_
      obtain ⟨a2, ha2, hf⟩ := nn_some hf
      refine rf_0 ha2 ?_
      obtain ⟨hk_a2_5, hf⟩ := gd_some hf
      refine cr_getR kc_4 CX hR fa_X8_205 rfl hk_a2_5 dX8_beat_30 ?_
      refine lv_iload_n hx hb dX8_beat_33 rfl (lv_at hl 2 rfl) ?_
      obtain ⟨a3, ha3, hf⟩ := nn_some hf
      refine rf_1 ha3 ?_
      obtain ⟨hk_a3_22, hf⟩ := gd_some hf
      obtain ⟨hi, hf⟩ := ck_some hf
      refine cr_iald CX hR hk_a3_22 hi dX8_beat_34 ?_
      refine lv_i2l (v := (cI M a3 (x2 : Int32).toNatClampNeg : Int32).toInt64) hx hb dX8_beat_35 rfl ?_
      refine lv_aload_n hx hb dX8_beat_36 rfl (lv_at hl 0 rfl) ?_
      refine cr_getR kc_8 CX hR fa_X8_28 rfl hk_x0_9 dX8_beat_37 ?_
      obtain ⟨a4, ha4, hf⟩ := nn_some hf
      refine rf_0 ha4 ?_
      obtain ⟨hk_a4_5, hf⟩ := gd_some hf
      refine cr_getR kc_4 CX hR fa_X8_208 rfl hk_a4_5 dX8_beat_40 ?_
      refine lv_iload_n hx hb dX8_beat_43 rfl (lv_at hl 2 rfl) ?_
      obtain ⟨a5, ha5, hf⟩ := nn_some hf
      refine rf_1 ha5 ?_
      obtain ⟨hk_a5_22, hf⟩ := gd_some hf
      obtain ⟨hi, hf⟩ := ck_some hf
      refine cr_iald CX hR hk_a5_22 hi dX8_beat_44 ?_
      refine lv_i2l (v := (cI M a5 (x2 : Int32).toNatClampNeg : Int32).toInt64) hx hb dX8_beat_45 rfl ?_
      refine lv_lsub hx hb dX8_beat_46 ?_
      refine lv_lstore_n (lv' := [(3, .long (((cI M a3 (x2 : Int32).toNatClampNeg : Int32).toInt64) - ((cI M a5 (x2 : Int32).toNatClampNeg : Int32).toInt64))), (0, .ref x0), (1, .int x1), (2, .int x2)]) hx hb dX8_beat_47 rfl hl (by decide) rfl (fun ls hl => ?_)
      refine lv_aload_n hx hb dX8_beat_48 rfl (lv_at hl 1 rfl) ?_
      refine cr_getR kc_8 CX hR fa_X8_60 rfl hk_x0_9 dX8_beat_49 ?_
      obtain ⟨a6, ha6, hf⟩ := nn_some hf
      refine rf_0 ha6 ?_
      obtain ⟨hk_a6_6, hf⟩ := gd_some hf
      refine cr_getR kc_5 CX hR fa_X8_211 rfl hk_a6_6 dX8_beat_52 ?_
      refine lv_iload_n hx hb dX8_beat_55 rfl (lv_at hl 3 rfl) ?_
      obtain ⟨a7, ha7, hf⟩ := nn_some hf
      refine rf_1 ha7 ?_
      obtain ⟨hk_a7_22, hf⟩ := gd_some hf
      obtain ⟨hi, hf⟩ := ck_some hf
      refine cr_iald CX hR hk_a7_22 hi dX8_beat_56 ?_
      refine lv_i2l (v := (cI M a7 (x2 : Int32).toNatClampNeg : Int32).toInt64) hx hb dX8_beat_57 rfl ?_
      refine lv_iload_n hx hb dX8_beat_58 rfl (lv_at hl 2 rfl) ?_
      refine lv_i2l (v := (x1 : Int32).toInt64) hx hb dX8_beat_59 rfl ?_
      refine lv_lmul hx hb dX8_beat_60 ?_
      refine lv_lstore (lv' := [(5, .long (((cI M a7 (x2 : Int32).toNatClampNeg : Int32).toInt64) * ((x1 : Int32).toInt64))), (3, .long (((cI M a3 (x2 : Int32).toNatClampNeg : Int32).toInt64) - ((cI M a5 (x2 : Int32).toNatClampNeg : Int32).toInt64))), (0, .ref x0), (1, .int x1), (2, .int x2)]) hx hb dX8_beat_61 hl (by decide) rfl (fun ls hl => ?_)
      refine lv_lload hx hb dX8_beat_63 (lv_at hl 0 rfl) ?_
      refine lv_lneg hx hb dX8_beat_65 ?_
      refine lv_lload hx hb dX8_beat_66 (lv_at hl 0 rfl) ?_
      refine lv_lload_n hx hb dX8_beat_68 rfl (lv_at hl 1 rfl) ?_
      refine cr_minL CX wl_X8_214 hl.1 (by omega) (by omega) (Nat.le_of_ble_eq_true rfl) hcs dX8_beat_69 ?_
      refine cr_maxL CX wl_X8_220 hl.1 (by omega) (by omega) (Nat.le_of_ble_eq_true rfl) hcs dX8_beat_72 ?_
      refine lv_lstore (lv' := [(7, .long (if (if (((cI M a3 (x2 : Int32).toNatClampNeg : Int32).toInt64) - ((cI M a5 (x2 : Int32).toNatClampNeg : Int32).toInt64)) < (((cI M a7 (x2 : Int32).toNatClampNeg : Int32).toInt64) * ((x1 : Int32).toInt64)) then (((cI M a3 (x2 : Int32).toNatClampNeg : Int32).toInt64) - ((cI M a5 (x2 : Int32).toNatClampNeg : Int32).toInt64)) else (((cI M a7 (x2 : Int32).toNatClampNeg : Int32).toInt64) * ((x1 : Int32).toInt64))) < (-(((cI M a7 (x2 : Int32).toNatClampNeg : Int32).toInt64) * ((x1 : Int32).toInt64))) then (-(((cI M a7 (x2 : Int32).toNatClampNeg : Int32).toInt64) * ((x1 : Int32).toInt64))) else (if (((cI M a3 (x2 : Int32).toNatClampNeg : Int32).toInt64) - ((cI M a5 (x2 : Int32).toNatClampNeg : Int32).toInt64)) < (((cI M a7 (x2 : Int32).toNatClampNeg : Int32).toInt64) * ((x1 : Int32).toInt64)) then (((cI M a3 (x2 : Int32).toNatClampNeg : Int32).toInt64) - ((cI M a5 (x2 : Int32).toNatClampNeg : Int32).toInt64)) else (((cI M a7 (x2 : Int32).toNatClampNeg : Int32).toInt64) * ((x1 : Int32).toInt64))))), (5, .long (((cI M a7 (x2 : Int32).toNatClampNeg : Int32).toInt64) * ((x1 : Int32).toInt64))), (3, .long (((cI M a3 (x2 : Int32).toNatClampNeg : Int32).toInt64) - ((cI M a5 (x2 : Int32).toNatClampNeg : Int32).toInt64))), (0, .ref x0), (1, .int x1), (2, .int x2)]) hx hb dX8_beat_75 hl (by decide) rfl (fun ls hl => ?_)
      refine lv_aload_n hx hb dX8_beat_77 rfl (lv_at hl 3 rfl) ?_
      refine cr_getR kc_8 CX hR fa_X8_28 rfl hk_x0_9 dX8_beat_78 ?_
      obtain ⟨a8, ha8, hf⟩ := nn_some hf
      refine rf_0 ha8 ?_
      obtain ⟨hk_a8_5, hf⟩ := gd_some hf
      refine cr_getR kc_4 CX hR fa_X8_208 rfl hk_a8_5 dX8_beat_81 ?_
      refine lv_iload_n hx hb dX8_beat_84 rfl (lv_at hl 5 rfl) ?_
      refine lv_aload_n hx hb dX8_beat_85 rfl (lv_at hl 3 rfl) ?_
      refine cr_getR kc_8 CX hR fa_X8_28 rfl hk_x0_9 dX8_beat_86 ?_
      obtain ⟨a9, ha9, hf⟩ := nn_some hf
      refine rf_0 ha9 ?_
      obtain ⟨hk_a9_5, hf⟩ := gd_some hf
      refine cr_getR kc_4 CX hR fa_X8_208 rfl hk_a9_5 dX8_beat_89 ?_
      refine lv_iload_n hx hb dX8_beat_92 rfl (lv_at hl 5 rfl) ?_
      obtain ⟨a10, ha10, hf⟩ := nn_some hf
      refine rf_1 ha10 ?_
      obtain ⟨hk_a10_22, hf⟩ := gd_some hf
      obtain ⟨hi, hf⟩ := ck_some hf
      refine cr_iald CX hR hk_a10_22 hi dX8_beat_93 ?_
      refine lv_i2l (v := (cI M a10 (x2 : Int32).toNatClampNeg : Int32).toInt64) hx hb dX8_beat_94 rfl ?_
      refine lv_lload hx hb dX8_beat_95 (lv_at hl 0 rfl) ?_
      refine lv_ladd hx hb dX8_beat_97 ?_
      refine lv_l2i (v := (((cI M a10 (x2 : Int32).toNatClampNeg : Int32).toInt64) + (if (if (((cI M a3 (x2 : Int32).toNatClampNeg : Int32).toInt64) - ((cI M a5 (x2 : Int32).toNatClampNeg : Int32).toInt64)) < (((cI M a7 (x2 : Int32).toNatClampNeg : Int32).toInt64) * ((x1 : Int32).toInt64)) then (((cI M a3 (x2 : Int32).toNatClampNeg : Int32).toInt64) - ((cI M a5 (x2 : Int32).toNatClampNeg : Int32).toInt64)) else (((cI M a7 (x2 : Int32).toNatClampNeg : Int32).toInt64) * ((x1 : Int32).toInt64))) < (-(((cI M a7 (x2 : Int32).toNatClampNeg : Int32).toInt64) * ((x1 : Int32).toInt64))) then (-(((cI M a7 (x2 : Int32).toNatClampNeg : Int32).toInt64) * ((x1 : Int32).toInt64))) else (if (((cI M a3 (x2 : Int32).toNatClampNeg : Int32).toInt64) - ((cI M a5 (x2 : Int32).toNatClampNeg : Int32).toInt64)) < (((cI M a7 (x2 : Int32).toNatClampNeg : Int32).toInt64) * ((x1 : Int32).toInt64)) then (((cI M a3 (x2 : Int32).toNatClampNeg : Int32).toInt64) - ((cI M a5 (x2 : Int32).toNatClampNeg : Int32).toInt64)) else (((cI M a7 (x2 : Int32).toNatClampNeg : Int32).toInt64) * ((x1 : Int32).toInt64)))) : Int64).toInt32) hx hb dX8_beat_98 rfl ?_
      obtain ⟨a11, ha11, hf⟩ := nn_some hf
      refine rf_2 ha11 ?_
      obtain ⟨hk_a11_22, hf⟩ := gd_some hf
      obtain ⟨hi, hf⟩ := ck_some hf
      refine cr_iast CX hR hL hS hk_a11_22 hi dX8_beat_99 (fun H locs hR hS => ?_)
      refine lv_iinc (v := x2 + 1) (lv' := [(2, .int (x2 + 1)), (7, .long (if (if (((cI M a3 (x2 : Int32).toNatClampNeg : Int32).toInt64) - ((cI M a5 (x2 : Int32).toNatClampNeg : Int32).toInt64)) < (((cI M a7 (x2 : Int32).toNatClampNeg : Int32).toInt64) * ((x1 : Int32).toInt64)) then (((cI M a3 (x2 : Int32).toNatClampNeg : Int32).toInt64) - ((cI M a5 (x2 : Int32).toNatClampNeg : Int32).toInt64)) else (((cI M a7 (x2 : Int32).toNatClampNeg : Int32).toInt64) * ((x1 : Int32).toInt64))) < (-(((cI M a7 (x2 : Int32).toNatClampNeg : Int32).toInt64) * ((x1 : Int32).toInt64))) then (-(((cI M a7 (x2 : Int32).toNatClampNeg : Int32).toInt64) * ((x1 : Int32).toInt64))) else (if (((cI M a3 (x2 : Int32).toNatClampNeg : Int32).toInt64) - ((cI M a5 (x2 : Int32).toNatClampNeg : Int32).toInt64)) < (((cI M a7 (x2 : Int32).toNatClampNeg : Int32).toInt64) * ((x1 : Int32).toInt64)) then (((cI M a3 (x2 : Int32).toNatClampNeg : Int32).toInt64) - ((cI M a5 (x2 : Int32).toNatClampNeg : Int32).toInt64)) else (((cI M a7 (x2 : Int32).toNatClampNeg : Int32).toInt64) * ((x1 : Int32).toInt64))))), (5, .long (((cI M a7 (x2 : Int32).toNatClampNeg : Int32).toInt64) * ((x1 : Int32).toInt64))), (3, .long (((cI M a3 (x2 : Int32).toNatClampNeg : Int32).toInt64) - ((cI M a5 (x2 : Int32).toNatClampNeg : Int32).toInt64))), (0, .ref x0), (1, .int x1)]) hx hb dX8_beat_100 hl (k := 5) rfl rfl (by decide) rfl (fun ls hl => ?_)
      refine lv_goto (tgt := 15) hx hb dX8_beat_103 (by decide) ?_
      exact ih _ _ _ _ _ _ _ hf hR hS (lv_sub hl [4, 5, 0] rfl)
def bC_X8_beat_106 (N : Nat) (K : Ka) (x0 : Nat) (x1 : Int32) (M : Cm) : Option (Int32 × Cm) := gd (kd K x0 == 9) (nn (cR M x0 2) fun a1 => gd (kd K a1 == 5) (nn (cR (wI M a1 11 ((cI M a1 11) + x1)) x0 2) fun a2 => gd (kd K a2 == 5) (some (cI (wI M a1 11 ((cI M a1 11) + x1)) a2 11, wI M a1 11 ((cI M a1 11) + x1)))))
set_option maxRecDepth 100000 in
set_option maxHeartbeats 4000000 in
theorem wbC_X8_beat_106 {p : Program} {l : Launch} {e : Env} {R : Room} {s : State} {m : MethodId} {args : Array Value} {below : List Frame} {meth : Method} {c : Code} {x : Xc} {o : Int32 × Cm} {N : Nat} {K : Ka} (CX : CC p s m args meth c x K RX8 cX8_beat 9 (some .int)) (hRm : 1 ≤ R.frames ∧ 40 ≤ R.locals) (x0 : Nat) (x1 : Int32) (M : Cm) (H : Heap) (locs : List Loc) (ls : Array Slot) (hf : bC_X8_beat_106 N K x0 x1 M = some o) (hR : RC x K M H) (hS : va_S (AC K) s.heap H locs) (hl : lv_has ls 9 [(0, .ref x0), (1, .int x1)]) : W p l e R s m args below meth c H locs 0 0 (MQ below (CQI x K o) args s 0 0 (AC K)) (F0 m 106 ls []) := by
  obtain ⟨hx, hb, hml, hown, hts, hE, hB, hr, hlk⟩ := id CX
  have hL : KLe K K := KLe.rf K
  have hcs : 0 ≤ R.cells ∧ 0 ≤ R.slots := ⟨Nat.zero_le _, Nat.zero_le _⟩
  unfold bC_X8_beat_106 at hf
  refine lv_aload_n hx hb dX8_beat_106 rfl (lv_at hl 0 rfl) ?_
  obtain ⟨hk_x0_9, hf⟩ := gd_some hf
  refine cr_getR kc_8 CX hR fa_X8_28 rfl hk_x0_9 dX8_beat_107 ?_
  obtain ⟨a1, ha1, hf⟩ := nn_some hf
  refine rf_0 ha1 ?_
  refine lv_dup hx hb dX8_beat_110 rfl ?_
  obtain ⟨hk_a1_5, hf⟩ := gd_some hf
  refine cr_getI kc_4 CX hR fa_X8_223 rfl hk_a1_5 dX8_beat_111 ?_
  refine lv_iload_n hx hb dX8_beat_114 rfl (lv_at hl 1 rfl) ?_
  refine lv_iadd hx hb dX8_beat_115 ?_
  refine cr_putI kc_4 CX hR hL hS fa_X8_223 ⟨rfl, rfl, rfl⟩ hk_a1_5 dX8_beat_116 (fun H locs hR hS => ?_)
  refine lv_aload_n hx hb dX8_beat_119 rfl (lv_at hl 0 rfl) ?_
  refine cr_getR kc_8 CX hR fa_X8_28 rfl hk_x0_9 dX8_beat_120 ?_
  obtain ⟨a2, ha2, hf⟩ := nn_some hf
  refine rf_0 ha2 ?_
  obtain ⟨hk_a2_5, hf⟩ := gd_some hf
  refine cr_getI kc_4 CX hR fa_X8_223 rfl hk_a2_5 dX8_beat_123 ?_
  exact cr_iret CX hR hS hf dX8_beat_126
def fC_X8_beat (N : Nat) (K : Ka) (x0 : Nat) (x1 : Int32) (M : Cm) : Option (Int32 × Cm) := if x1 < 0 then ((bC_X8_beat_11 N K) x0 M) else (if x1 ≤ 1000 then ((lC_X8_beat_15 N K (bC_X8_beat_106 N K) N) x0 x1 0 M) else ((bC_X8_beat_11 N K) x0 M))
set_option maxRecDepth 100000 in
set_option maxHeartbeats 4000000 in
theorem wfC_X8_beat {p : Program} {l : Launch} {e : Env} {R : Room} {s : State} {m : MethodId} {args : Array Value} {below : List Frame} {meth : Method} {c : Code} {x : Xc} {o : Int32 × Cm} {N : Nat} {K : Ka} (CX : CC p s m args meth c x K RX8 cX8_beat 9 (some .int)) (hRm : 1 ≤ R.frames ∧ 40 ≤ R.locals) (x0 : Nat) (x1 : Int32) (M : Cm) (H : Heap) (locs : List Loc) (ls : Array Slot) (hf : fC_X8_beat N K x0 x1 M = some o) (hR : RC x K M H) (hS : va_S (AC K) s.heap H locs) (hl : lv_has ls 9 [(0, .ref x0), (1, .int x1)]) : W p l e R s m args below meth c H locs 0 0 (MQ below (CQI x K o) args s 0 0 (AC K)) (F0 m 0 ls []) := by
  obtain ⟨hx, hb, hml, hown, hts, hE, hB, hr, hlk⟩ := id CX
  have hL : KLe K K := KLe.rf K
  have hcs : 0 ≤ R.cells ∧ 0 ≤ R.slots := ⟨Nat.zero_le _, Nat.zero_le _⟩
  unfold fC_X8_beat at hf
  refine lv_iload_n hx hb dX8_beat_0 rfl (lv_at hl 1 rfl) ?_
  refine lv_if_lt (tgt := 11) hx hb dX8_beat_1 (by decide) (fun hc => ?_) (fun hc => ?_)
  · rw [if_pos hc] at hf
    exact (wbC_X8_beat_11 CX hRm) _ _ _ _ _ hf hR hS (lv_sub hl [0] rfl)
  · rw [if_neg hc] at hf
    refine lv_iload_n hx hb dX8_beat_4 rfl (lv_at hl 1 rfl) ?_
    refine lv_sipush (v := 1000) hx hb dX8_beat_5 (by decide) ?_
    refine lv_icmp_le (tgt := 13) hx hb dX8_beat_8 (by decide) (fun hc => ?_) (fun hc => ?_)
    · rw [if_pos hc] at hf
      refine lv_iconst (v := 0) hx hb dX8_beat_13 (by decide) ?_
      refine lv_istore_n (lv' := [(2, .int 0), (0, .ref x0), (1, .int x1)]) hx hb dX8_beat_14 rfl hl (by decide) rfl (fun ls hl => ?_)
      exact (wlC_X8_beat_15 CX hRm (wbC_X8_beat_106 CX hRm) N) _ _ _ _ _ _ _ hf hR hS (lv_sub hl [1, 2, 0] rfl)
    · rw [if_neg hc] at hf
      exact (wbC_X8_beat_11 CX hRm) _ _ _ _ _ hf hR hS (lv_sub hl [0] rfl)
theorem MC_X8_beat (l : Launch) (x : Xc) (N : Nat) (K : Ka) (x0 : Nat) (x1 : Int32) (M : Cm) (o : Int32 × Cm) (hf : fC_X8_beat N K x0 x1 M = some o) : CtI l x yX8_beat cX8_beat 9 (some .int) 1 40 [.ref x0, .int x1] K M o :=
  cr_metI RX8 (by decide) rfl (Nat.le_of_ble_eq_true rfl) (fun p e s m args below meth c ls CX hR hl => wfC_X8_beat CX ⟨Nat.le_refl _, Nat.le_refl _⟩ x0 x1 M s.heap [] ls hf hR va_S.rf hl)
def bC_X8_foresee_16 (N : Nat) (K : Ka) (x0 : Nat) (M : Cm) : Option (Int32 × Cm) := some ((-1), M)
set_option maxRecDepth 100000 in
set_option maxHeartbeats 4000000 in
theorem wbC_X8_foresee_16 {p : Program} {l : Launch} {e : Env} {R : Room} {s : State} {m : MethodId} {args : Array Value} {below : List Frame} {meth : Method} {c : Code} {x : Xc} {o : Int32 × Cm} {N : Nat} {K : Ka} (CX : CC p s m args meth c x K RX8 cX8_foresee 7 (some .int)) (hRm : 7 ≤ R.frames ∧ 167 ≤ R.locals) (x0 : Nat) (M : Cm) (H : Heap) (locs : List Loc) (ls : Array Slot) (hf : bC_X8_foresee_16 N K x0 M = some o) (hR : RC x K M H) (hS : va_S (AC K) s.heap H locs) (hl : lv_has ls 7 [(0, .ref x0)]) : W p l e R s m args below meth c H locs 0 0 (MQ below (CQI x K o) args s 0 0 (AC K)) (F0 m 16 ls []) := by
  obtain ⟨hx, hb, hml, hown, hts, hE, hB, hr, hlk⟩ := id CX
  have hL : KLe K K := KLe.rf K
  have hcs : 0 ≤ R.cells ∧ 0 ≤ R.slots := ⟨Nat.zero_le _, Nat.zero_le _⟩
  unfold bC_X8_foresee_16 at hf
  refine lv_iconst (v := (-1)) hx hb dX8_foresee_16 (by decide) ?_
  exact cr_iret CX hR hS hf dX8_foresee_17
def lC_X8_foresee_76 (N : Nat) (K : Ka) (k132 : Nat → Int32 → Int32 → Int32 → Cm → Option (Int32 × Cm)) : Nat → Nat → Int32 → Int32 → Int32 → Int32 → Cm → Option (Int32 × Cm)
  | 0, _, _, _, _, _, _ => none
  | n + 1, x0, x3, x4, x5, x6, M => gd (kd K x0 == 9) (nn (cR M x0 4) fun a1 => gd (kd K a1 == 1) (if (cI M a1 4) ≤ x6 then (k132 x0 x3 x4 x5 M) else (if 24 ≤ (cI M x0 8) then (k132 x0 x3 x4 x5 M) else (nn (cR M x0 4) fun a2 => nn (cR M x0 6) fun a3 => gd (kd K a2 == 1) ((fC_X0_upAt N K a2 x6 0 M).bind fun o112 => gd (kd K a3 == 22) (ck (cI M x0 8) (le K a3) (lC_X8_foresee_76 N K k132 n x0 x3 x4 x5 (x6 + 1) (wI (wI o112.2 a3 (cI M x0 8 : Int32).toNatClampNeg o112.1) x0 8 ((cI (wI o112.2 a3 (cI M x0 8 : Int32).toNatClampNeg o112.1) x0 8) + 1)))))))))
set_option maxRecDepth 100000 in
set_option maxHeartbeats 4000000 in
theorem wlC_X8_foresee_76 {p : Program} {l : Launch} {e : Env} {R : Room} {s : State} {m : MethodId} {args : Array Value} {below : List Frame} {meth : Method} {c : Code} {x : Xc} {o : Int32 × Cm} {N : Nat} {K : Ka} {k132 : Nat → Int32 → Int32 → Int32 → Cm → Option (Int32 × Cm)} (CX : CC p s m args meth c x K RX8 cX8_foresee 7 (some .int)) (hRm : 7 ≤ R.frames ∧ 167 ≤ R.locals) (hk132 : ∀ (x0 : Nat) (x3 : Int32) (x4 : Int32) (x5 : Int32) (M : Cm) (H : Heap) (locs : List Loc) (ls : Array Slot), k132 x0 x3 x4 x5 M = some o → RC x K M H → va_S (AC K) s.heap H locs → lv_has ls 7 [(0, .ref x0), (3, .int x3), (4, .int x4), (5, .int x5)] → W p l e R s m args below meth c H locs 0 0 (MQ below (CQI x K o) args s 0 0 (AC K)) (F0 m 132 ls [])) : ∀ (n : Nat) (x0 : Nat) (x3 : Int32) (x4 : Int32) (x5 : Int32) (x6 : Int32) (M : Cm) (H : Heap) (locs : List Loc) (ls : Array Slot), lC_X8_foresee_76 N K k132 n x0 x3 x4 x5 x6 M = some o → RC x K M H → va_S (AC K) s.heap H locs → lv_has ls 7 [(0, .ref x0), (3, .int x3), (4, .int x4), (5, .int x5), (6, .int x6)] → W p l e R s m args below meth c H locs 0 0 (MQ below (CQI x K o) args s 0 0 (AC K)) (F0 m 76 ls []) := by
  obtain ⟨hx, hb, hml, hown, hts, hE, hB, hr, hlk⟩ := id CX
  have hL : KLe K K := KLe.rf K
  have hcs : 0 ≤ R.cells ∧ 0 ≤ R.slots := ⟨Nat.zero_le _, Nat.zero_le _⟩
  intro n
  induction n with
  | zero => intro x0 x3 x4 x5 x6 M H locs ls hf; cases hf
  | succ n ih =>
    intro x0 x3 x4 x5 x6 M H locs ls hf hR hS hl
    rw [lC_X8_foresee_76] at hf
    refine lv_iload hx hb dX8_foresee_76 (lv_at hl 4 rfl) ?_
    refine lv_aload_n hx hb dX8_foresee_78 rfl (lv_at hl 0 rfl) ?_
    obtain ⟨hk_x0_9, hf⟩ := gd_some hf
    refine cr_getR kc_8 CX hR fa_X8_38 rfl hk_x0_9 dX8_foresee_79 ?_
    obtain ⟨a1, ha1, hf⟩ := nn_some hf
    refine rf_0 ha1 ?_
    obtain ⟨hk_a1_1, hf⟩ := gd_some hf
    refine cr_getI kc_0 CX hR fa_X8_188 rfl hk_a1_1 dX8_foresee_82 ?_
    refine lv_icmp_ge (tgt := 132) hx hb dX8_foresee_85 (by decide) (fun hc => ?_) (fun hc => ?_)
    · rw [if_pos hc] at hf
      exact hk132 _ _ _ _ _ _ _ _ hf hR hS (lv_sub hl [0, 1, 2, 3] rfl)
    · rw [if_neg hc] at hf
      refine lv_aload_n hx hb dX8_foresee_88 rfl (lv_at hl 0 rfl) ?_
      refine cr_getI kc_8 CX hR fa_X8_64 rfl hk_x0_9 dX8_foresee_89 ?_
      refine lv_bipush (v := 24) hx hb dX8_foresee_92 (by decide) ?_
      refine lv_icmp_ge (tgt := 132) hx hb dX8_foresee_94 (by decide) (fun hc => ?_) (fun hc => ?_)
      · rw [if_pos hc] at hf
        exact hk132 _ _ _ _ _ _ _ _ hf hR hS (lv_sub hl [0, 1, 2, 3] rfl)
      · rw [if_neg hc] at hf
        refine lv_aload_n hx hb dX8_foresee_97 rfl (lv_at hl 0 rfl) ?_
        refine cr_getR kc_8 CX hR fa_X8_51 rfl hk_x0_9 dX8_foresee_98 ?_
        refine lv_aload_n hx hb dX8_foresee_101 rfl (lv_at hl 0 rfl) ?_
        refine cr_getI kc_8 CX hR fa_X8_64 rfl hk_x0_9 dX8_foresee_102 ?_
        refine lv_aload_n hx hb dX8_foresee_105 rfl (lv_at hl 0 rfl) ?_
        refine cr_getR kc_8 CX hR fa_X8_38 rfl hk_x0_9 dX8_foresee_106 ?_
        refine lv_iload hx hb dX8_foresee_109 (lv_at hl 4 rfl) ?_
        refine lv_iconst (v := 0) hx hb dX8_foresee_111 (by decide) ?_
        obtain ⟨a2, ha2, hf⟩ := nn_some hf
        refine rf_2 ha2 ?_
        obtain ⟨a3, ha3, hf⟩ := nn_some hf
        refine rf_4 ha3 ?_
        obtain ⟨hk_a2_1, hf⟩ := gd_some hf
        obtain ⟨o112, ho112, hf⟩ := bnd_some hf
        refine cr_callIv kc_0 CX hR hL hS (As := [.int x6, .int 0]) (rest := [.int (cI M x0 8), .ref a3]) hk_a2_1 (MC_X0_upAt l x N K a2 x6 0 M o112 ho112) cv_X8_191 ⟨by omega, by omega⟩ rfl rfl (Nat.le_of_ble_eq_true rfl) hl.1 dX8_foresee_112 hcs (fun H locs hR hS => ?_)
        obtain ⟨hk_a3_22, hf⟩ := gd_some hf
        obtain ⟨hi, hf⟩ := ck_some hf
        refine cr_iast CX hR hL hS hk_a3_22 hi dX8_foresee_115 (fun H locs hR hS => ?_)
        refine lv_aload_n hx hb dX8_foresee_116 rfl (lv_at hl 0 rfl) ?_
        refine lv_dup hx hb dX8_foresee_117 rfl ?_
        refine cr_getI kc_8 CX hR fa_X8_64 rfl hk_x0_9 dX8_foresee_118 ?_
        refine lv_iconst (v := 1) hx hb dX8_foresee_121 (by decide) ?_
        refine lv_iadd hx hb dX8_foresee_122 ?_
        refine cr_putI kc_8 CX hR hL hS fa_X8_64 ⟨rfl, rfl, rfl⟩ hk_x0_9 dX8_foresee_123 (fun H locs hR hS => ?_)
        refine lv_iinc (v := x6 + 1) (lv' := [(6, .int (x6 + 1)), (0, .ref x0), (3, .int x3), (4, .int x4), (5, .int x5)]) hx hb dX8_foresee_126 hl (k := 4) rfl rfl (by decide) rfl (fun ls hl => ?_)
        refine lv_goto (tgt := 76) hx hb dX8_foresee_129 (by decide) ?_
        exact ih _ _ _ _ _ _ _ _ _ hf hR hS (lv_sub hl [1, 2, 3, 4, 0] rfl)
def bC_X8_foresee_132 (N : Nat) (K : Ka) (x0 : Nat) (x3 : Int32) (x4 : Int32) (x5 : Int32) (M : Cm) : Option (Int32 × Cm) := gd (kd K x0 == 9) (nn (cR M x0 3) fun a1 => nn (cR M x0 2) fun a2 => gd (kd K a2 == 5) ((fC_X4_copy N K a2 a1 M).bind fun o140 => nn (cR o140 x0 4) fun a3 => gd (kd K a3 == 1) ((fC_X0_cut N K a3 x3 x4 x5 o140).bind fun o152 => some (cI o152 x0 8, o152))))
set_option maxRecDepth 100000 in
set_option maxHeartbeats 4000000 in
theorem wbC_X8_foresee_132 {p : Program} {l : Launch} {e : Env} {R : Room} {s : State} {m : MethodId} {args : Array Value} {below : List Frame} {meth : Method} {c : Code} {x : Xc} {o : Int32 × Cm} {N : Nat} {K : Ka} (CX : CC p s m args meth c x K RX8 cX8_foresee 7 (some .int)) (hRm : 7 ≤ R.frames ∧ 167 ≤ R.locals) (x0 : Nat) (x3 : Int32) (x4 : Int32) (x5 : Int32) (M : Cm) (H : Heap) (locs : List Loc) (ls : Array Slot) (hf : bC_X8_foresee_132 N K x0 x3 x4 x5 M = some o) (hR : RC x K M H) (hS : va_S (AC K) s.heap H locs) (hl : lv_has ls 7 [(0, .ref x0), (3, .int x3), (4, .int x4), (5, .int x5)]) : W p l e R s m args below meth c H locs 0 0 (MQ below (CQI x K o) args s 0 0 (AC K)) (F0 m 132 ls []) := by
  obtain ⟨hx, hb, hml, hown, hts, hE, hB, hr, hlk⟩ := id CX
  have hL : KLe K K := KLe.rf K
  have hcs : 0 ≤ R.cells ∧ 0 ≤ R.slots := ⟨Nat.zero_le _, Nat.zero_le _⟩
  unfold bC_X8_foresee_132 at hf
  refine lv_aload_n hx hb dX8_foresee_132 rfl (lv_at hl 0 rfl) ?_
  obtain ⟨hk_x0_9, hf⟩ := gd_some hf
  refine cr_getR kc_8 CX hR fa_X8_28 rfl hk_x0_9 dX8_foresee_133 ?_
  refine lv_aload_n hx hb dX8_foresee_136 rfl (lv_at hl 0 rfl) ?_
  refine cr_getR kc_8 CX hR fa_X8_32 rfl hk_x0_9 dX8_foresee_137 ?_
  obtain ⟨a1, ha1, hf⟩ := nn_some hf
  refine rf_0 ha1 ?_
  obtain ⟨a2, ha2, hf⟩ := nn_some hf
  refine rf_1 ha2 ?_
  obtain ⟨hk_a2_5, hf⟩ := gd_some hf
  obtain ⟨o140, ho140, hf⟩ := bnd_some hf
  refine cr_callVv kc_4 CX hR hL hS (As := [.ref a1]) (rest := []) hk_a2_5 (MC_X4_copy l x N K a2 a1 M o140 ho140) cv_X8_226 ⟨by omega, by omega⟩ rfl rfl (Nat.le_of_ble_eq_true rfl) hl.1 dX8_foresee_140 hcs (fun H locs hR hS => ?_)
  refine lv_aload_n hx hb dX8_foresee_143 rfl (lv_at hl 0 rfl) ?_
  refine cr_getR kc_8 CX hR fa_X8_38 rfl hk_x0_9 dX8_foresee_144 ?_
  refine lv_iload_n hx hb dX8_foresee_147 rfl (lv_at hl 1 rfl) ?_
  refine lv_iload hx hb dX8_foresee_148 (lv_at hl 2 rfl) ?_
  refine lv_iload hx hb dX8_foresee_150 (lv_at hl 3 rfl) ?_
  obtain ⟨a3, ha3, hf⟩ := nn_some hf
  refine rf_3 ha3 ?_
  obtain ⟨hk_a3_1, hf⟩ := gd_some hf
  obtain ⟨o152, ho152, hf⟩ := bnd_some hf
  refine cr_callVv kc_0 CX hR hL hS (As := [.int x3, .int x4, .int x5]) (rest := []) hk_a3_1 (MC_X0_cut l x N K a3 x3 x4 x5 o140 o152 ho152) cv_X8_236 ⟨by omega, by omega⟩ rfl rfl (Nat.le_of_ble_eq_true rfl) hl.1 dX8_foresee_152 hcs (fun H locs hR hS => ?_)
  refine lv_aload_n hx hb dX8_foresee_155 rfl (lv_at hl 0 rfl) ?_
  refine cr_getI kc_8 CX hR fa_X8_64 rfl hk_x0_9 dX8_foresee_156 ?_
  exact cr_iret CX hR hS hf dX8_foresee_159
def fC_X8_foresee (N : Nat) (K : Ka) (x0 : Nat) (x1 : Int32) (x2 : Int32) (M : Cm) : Option (Int32 × Cm) := gd (kd K x0 == 9) ((fC_X8_canDemand N K x0 x1 x2 M).bind fun o3 => if o3.1 = 0 then ((bC_X8_foresee_16 N K) x0 o3.2) else (if (cI o3.2 x0 12) = 0 then (nn (cR o3.2 x0 2) fun a1 => nn (cR o3.2 x0 3) fun a2 => gd (kd K a2 == 5) ((fC_X4_copy N K a2 a1 o3.2).bind fun o26 => nn (cR o26 x0 4) fun a3 => gd (kd K a3 == 1) (nn (cR o26 x0 4) fun a4 => gd (kd K a4 == 1) (nn (cR o26 x0 4) fun a5 => gd (kd K a5 == 1) (nn (cR o26 x0 7) fun a6 => nn (cR o26 x0 5) fun a7 => gd (kd K a7 == 3) ((fC_X2_runDemand N K a7 a6 x1 x2 o26).bind fun o65 => (lC_X8_foresee_76 N K (bC_X8_foresee_132 N K) N) x0 (cI o26 a3 4) (cI o26 a4 5) (cI o26 a5 6) (cI o26 a3 4) (wI o65 x0 8 0))))))) else ((bC_X8_foresee_16 N K) x0 o3.2)))
set_option maxRecDepth 100000 in
set_option maxHeartbeats 4000000 in
theorem wfC_X8_foresee {p : Program} {l : Launch} {e : Env} {R : Room} {s : State} {m : MethodId} {args : Array Value} {below : List Frame} {meth : Method} {c : Code} {x : Xc} {o : Int32 × Cm} {N : Nat} {K : Ka} (CX : CC p s m args meth c x K RX8 cX8_foresee 7 (some .int)) (hRm : 7 ≤ R.frames ∧ 167 ≤ R.locals) (x0 : Nat) (x1 : Int32) (x2 : Int32) (M : Cm) (H : Heap) (locs : List Loc) (ls : Array Slot) (hf : fC_X8_foresee N K x0 x1 x2 M = some o) (hR : RC x K M H) (hS : va_S (AC K) s.heap H locs) (hl : lv_has ls 7 [(0, .ref x0), (1, .int x1), (2, .int x2)]) : W p l e R s m args below meth c H locs 0 0 (MQ below (CQI x K o) args s 0 0 (AC K)) (F0 m 0 ls []) := by
  obtain ⟨hx, hb, hml, hown, hts, hE, hB, hr, hlk⟩ := id CX
  have hL : KLe K K := KLe.rf K
  have hcs : 0 ≤ R.cells ∧ 0 ≤ R.slots := ⟨Nat.zero_le _, Nat.zero_le _⟩
  unfold fC_X8_foresee at hf
  refine lv_aload_n hx hb dX8_foresee_0 rfl (lv_at hl 0 rfl) ?_
  refine lv_iload_n hx hb dX8_foresee_1 rfl (lv_at hl 1 rfl) ?_
  refine lv_iload_n hx hb dX8_foresee_2 rfl (lv_at hl 2 rfl) ?_
  obtain ⟨hk_x0_9, hf⟩ := gd_some hf
  obtain ⟨o3, ho3, hf⟩ := bnd_some hf
  refine cr_callIv kc_8 CX hR hL hS (As := [.int x1, .int x2]) (rest := []) hk_x0_9 (MC_X8_canDemand l x N K x0 x1 x2 M o3 ho3) cv_X8_142 ⟨by omega, by omega⟩ rfl rfl (Nat.le_of_ble_eq_true rfl) hl.1 dX8_foresee_3 hcs (fun H locs hR hS => ?_)
  refine lv_if_eq (tgt := 16) hx hb dX8_foresee_6 (by decide) (fun hc => ?_) (fun hc => ?_)
  · rw [if_pos hc] at hf
    exact (wbC_X8_foresee_16 CX hRm) _ _ _ _ _ hf hR hS (lv_sub hl [0] rfl)
  · rw [if_neg hc] at hf
    refine lv_aload_n hx hb dX8_foresee_9 rfl (lv_at hl 0 rfl) ?_
    refine cr_getI kc_8 CX hR fa_X8_77 rfl hk_x0_9 dX8_foresee_10 ?_
    refine lv_if_eq (tgt := 18) hx hb dX8_foresee_13 (by decide) (fun hc => ?_) (fun hc => ?_)
    · rw [if_pos hc] at hf
      refine lv_aload_n hx hb dX8_foresee_18 rfl (lv_at hl 0 rfl) ?_
      refine cr_getR kc_8 CX hR fa_X8_32 rfl hk_x0_9 dX8_foresee_19 ?_
      refine lv_aload_n hx hb dX8_foresee_22 rfl (lv_at hl 0 rfl) ?_
      refine cr_getR kc_8 CX hR fa_X8_28 rfl hk_x0_9 dX8_foresee_23 ?_
      obtain ⟨a1, ha1, hf⟩ := nn_some hf
      refine rf_0 ha1 ?_
      obtain ⟨a2, ha2, hf⟩ := nn_some hf
      refine rf_1 ha2 ?_
      obtain ⟨hk_a2_5, hf⟩ := gd_some hf
      obtain ⟨o26, ho26, hf⟩ := bnd_some hf
      refine cr_callVv kc_4 CX hR hL hS (As := [.ref a1]) (rest := []) hk_a2_5 (MC_X4_copy l x N K a2 a1 o3.2 o26 ho26) cv_X8_226 ⟨by omega, by omega⟩ rfl rfl (Nat.le_of_ble_eq_true rfl) hl.1 dX8_foresee_26 hcs (fun H locs hR hS => ?_)
      refine lv_aload_n hx hb dX8_foresee_29 rfl (lv_at hl 0 rfl) ?_
      refine cr_getR kc_8 CX hR fa_X8_38 rfl hk_x0_9 dX8_foresee_30 ?_
      obtain ⟨a3, ha3, hf⟩ := nn_some hf
      refine rf_0 ha3 ?_
      obtain ⟨hk_a3_1, hf⟩ := gd_some hf
      refine cr_getI kc_0 CX hR fa_X8_188 rfl hk_a3_1 dX8_foresee_33 ?_
      refine lv_istore_n (lv' := [(3, .int (cI o26 a3 4)), (0, .ref x0), (1, .int x1), (2, .int x2)]) hx hb dX8_foresee_36 rfl hl (by decide) rfl (fun ls hl => ?_)
      refine lv_aload_n hx hb dX8_foresee_37 rfl (lv_at hl 1 rfl) ?_
      refine cr_getR kc_8 CX hR fa_X8_38 rfl hk_x0_9 dX8_foresee_38 ?_
      obtain ⟨a4, ha4, hf⟩ := nn_some hf
      refine rf_0 ha4 ?_
      obtain ⟨hk_a4_1, hf⟩ := gd_some hf
      refine cr_getI kc_0 CX hR fa_X8_230 rfl hk_a4_1 dX8_foresee_41 ?_
      refine lv_istore (lv' := [(4, .int (cI o26 a4 5)), (3, .int (cI o26 a3 4)), (0, .ref x0), (1, .int x1), (2, .int x2)]) hx hb dX8_foresee_44 hl (by decide) rfl (fun ls hl => ?_)
      refine lv_aload_n hx hb dX8_foresee_46 rfl (lv_at hl 2 rfl) ?_
      refine cr_getR kc_8 CX hR fa_X8_38 rfl hk_x0_9 dX8_foresee_47 ?_
      obtain ⟨a5, ha5, hf⟩ := nn_some hf
      refine rf_0 ha5 ?_
      obtain ⟨hk_a5_1, hf⟩ := gd_some hf
      refine cr_getI kc_0 CX hR fa_X8_233 rfl hk_a5_1 dX8_foresee_50 ?_
      refine lv_istore (lv' := [(5, .int (cI o26 a5 6)), (4, .int (cI o26 a4 5)), (3, .int (cI o26 a3 4)), (0, .ref x0), (1, .int x1), (2, .int x2)]) hx hb dX8_foresee_53 hl (by decide) rfl (fun ls hl => ?_)
      refine lv_aload_n hx hb dX8_foresee_55 rfl (lv_at hl 3 rfl) ?_
      refine cr_getR kc_8 CX hR fa_X8_47 rfl hk_x0_9 dX8_foresee_56 ?_
      refine lv_aload_n hx hb dX8_foresee_59 rfl (lv_at hl 3 rfl) ?_
      refine cr_getR kc_8 CX hR fa_X8_60 rfl hk_x0_9 dX8_foresee_60 ?_
      refine lv_iload_n hx hb dX8_foresee_63 rfl (lv_at hl 4 rfl) ?_
      refine lv_iload_n hx hb dX8_foresee_64 rfl (lv_at hl 5 rfl) ?_
      obtain ⟨a6, ha6, hf⟩ := nn_some hf
      refine rf_2 ha6 ?_
      obtain ⟨a7, ha7, hf⟩ := nn_some hf
      refine rf_3 ha7 ?_
      obtain ⟨hk_a7_3, hf⟩ := gd_some hf
      obtain ⟨o65, ho65, hf⟩ := bnd_some hf
      refine cr_callVv kc_2 CX hR hL hS (As := [.ref a6, .int x1, .int x2]) (rest := []) hk_a7_3 (MC_X2_runDemand l x N K a7 a6 x1 x2 o26 o65 ho65) cv_X8_146 ⟨by omega, by omega⟩ rfl rfl (Nat.le_of_ble_eq_true rfl) hl.1 dX8_foresee_65 hcs (fun H locs hR hS => ?_)
      refine lv_aload_n hx hb dX8_foresee_68 rfl (lv_at hl 3 rfl) ?_
      refine lv_iconst (v := 0) hx hb dX8_foresee_69 (by decide) ?_
      refine cr_putI kc_8 CX hR hL hS fa_X8_64 ⟨rfl, rfl, rfl⟩ hk_x0_9 dX8_foresee_70 (fun H locs hR hS => ?_)
      refine lv_iload_n hx hb dX8_foresee_73 rfl (lv_at hl 2 rfl) ?_
      refine lv_istore (lv' := [(6, .int (cI o26 a3 4)), (5, .int (cI o26 a5 6)), (4, .int (cI o26 a4 5)), (3, .int (cI o26 a3 4)), (0, .ref x0), (1, .int x1), (2, .int x2)]) hx hb dX8_foresee_74 hl (by decide) rfl (fun ls hl => ?_)
      exact (wlC_X8_foresee_76 CX hRm (wbC_X8_foresee_132 CX hRm) N) _ _ _ _ _ _ _ _ _ hf hR hS (lv_sub hl [4, 3, 2, 1, 0] rfl)
    · rw [if_neg hc] at hf
      exact (wbC_X8_foresee_16 CX hRm) _ _ _ _ _ hf hR hS (lv_sub hl [0] rfl)
theorem MC_X8_foresee (l : Launch) (x : Xc) (N : Nat) (K : Ka) (x0 : Nat) (x1 : Int32) (x2 : Int32) (M : Cm) (o : Int32 × Cm) (hf : fC_X8_foresee N K x0 x1 x2 M = some o) : CtI l x yX8_foresee cX8_foresee 7 (some .int) 7 167 [.ref x0, .int x1, .int x2] K M o :=
  cr_metI RX8 (by decide) rfl (Nat.le_of_ble_eq_true rfl) (fun p e s m args below meth c ls CX hR hl => wfC_X8_foresee CX ⟨Nat.le_refl _, Nat.le_refl _⟩ x0 x1 x2 M s.heap [] ls hf hR va_S.rf hl)
def bC_X8_foreseen_22 (N : Nat) (K : Ka) (x0 : Nat) (s0 : Int32) (M : Cm) : Option (Int32 × Cm) := some (s0, M)
set_option maxRecDepth 100000 in
set_option maxHeartbeats 4000000 in
theorem wbC_X8_foreseen_22 {p : Program} {l : Launch} {e : Env} {R : Room} {s : State} {m : MethodId} {args : Array Value} {below : List Frame} {meth : Method} {c : Code} {x : Xc} {o : Int32 × Cm} {N : Nat} {K : Ka} (CX : CC p s m args meth c x K RX8 cX8_foreseen 2 (some .int)) (hRm : 0 ≤ R.frames ∧ 0 ≤ R.locals) (x0 : Nat) (s0 : Int32) (M : Cm) (H : Heap) (locs : List Loc) (ls : Array Slot) (hf : bC_X8_foreseen_22 N K x0 s0 M = some o) (hR : RC x K M H) (hS : va_S (AC K) s.heap H locs) (hl : lv_has ls 2 [(0, .ref x0)]) : W p l e R s m args below meth c H locs 0 0 (MQ below (CQI x K o) args s 0 0 (AC K)) (F0 m 22 ls [.int s0]) := by
  obtain ⟨hx, hb, hml, hown, hts, hE, hB, hr, hlk⟩ := id CX
  have hL : KLe K K := KLe.rf K
  have hcs : 0 ≤ R.cells ∧ 0 ≤ R.slots := ⟨Nat.zero_le _, Nat.zero_le _⟩
  unfold bC_X8_foreseen_22 at hf
  exact cr_iret CX hR hS hf dX8_foreseen_22
def bC_X8_foreseen_12 (N : Nat) (K : Ka) (x0 : Nat) (M : Cm) : Option (Int32 × Cm) := (bC_X8_foreseen_22 N K) x0 (-1) M
set_option maxRecDepth 100000 in
set_option maxHeartbeats 4000000 in
theorem wbC_X8_foreseen_12 {p : Program} {l : Launch} {e : Env} {R : Room} {s : State} {m : MethodId} {args : Array Value} {below : List Frame} {meth : Method} {c : Code} {x : Xc} {o : Int32 × Cm} {N : Nat} {K : Ka} (CX : CC p s m args meth c x K RX8 cX8_foreseen 2 (some .int)) (hRm : 0 ≤ R.frames ∧ 0 ≤ R.locals) (x0 : Nat) (M : Cm) (H : Heap) (locs : List Loc) (ls : Array Slot) (hf : bC_X8_foreseen_12 N K x0 M = some o) (hR : RC x K M H) (hS : va_S (AC K) s.heap H locs) (hl : lv_has ls 2 [(0, .ref x0)]) : W p l e R s m args below meth c H locs 0 0 (MQ below (CQI x K o) args s 0 0 (AC K)) (F0 m 12 ls []) := by
  obtain ⟨hx, hb, hml, hown, hts, hE, hB, hr, hlk⟩ := id CX
  have hL : KLe K K := KLe.rf K
  have hcs : 0 ≤ R.cells ∧ 0 ≤ R.slots := ⟨Nat.zero_le _, Nat.zero_le _⟩
  unfold bC_X8_foreseen_12 at hf
  refine lv_iconst (v := (-1)) hx hb dX8_foreseen_12 (by decide) ?_
  refine lv_goto (tgt := 22) hx hb dX8_foreseen_13 (by decide) ?_
  exact (wbC_X8_foreseen_22 CX hRm) _ _ _ _ _ _ hf hR hS (lv_sub hl [0] rfl)
def fC_X8_foreseen (N : Nat) (K : Ka) (x0 : Nat) (x1 : Int32) (M : Cm) : Option (Int32 × Cm) := if x1 < 0 then ((bC_X8_foreseen_12 N K) x0 M) else (gd (kd K x0 == 9) (if x1 < (cI M x0 8) then (nn (cR M x0 6) fun a1 => gd (kd K a1 == 22) (ck x1 (le K a1) ((bC_X8_foreseen_22 N K) x0 (cI M a1 (x1 : Int32).toNatClampNeg) M))) else ((bC_X8_foreseen_12 N K) x0 M)))
set_option maxRecDepth 100000 in
set_option maxHeartbeats 4000000 in
theorem wfC_X8_foreseen {p : Program} {l : Launch} {e : Env} {R : Room} {s : State} {m : MethodId} {args : Array Value} {below : List Frame} {meth : Method} {c : Code} {x : Xc} {o : Int32 × Cm} {N : Nat} {K : Ka} (CX : CC p s m args meth c x K RX8 cX8_foreseen 2 (some .int)) (hRm : 0 ≤ R.frames ∧ 0 ≤ R.locals) (x0 : Nat) (x1 : Int32) (M : Cm) (H : Heap) (locs : List Loc) (ls : Array Slot) (hf : fC_X8_foreseen N K x0 x1 M = some o) (hR : RC x K M H) (hS : va_S (AC K) s.heap H locs) (hl : lv_has ls 2 [(0, .ref x0), (1, .int x1)]) : W p l e R s m args below meth c H locs 0 0 (MQ below (CQI x K o) args s 0 0 (AC K)) (F0 m 0 ls []) := by
  obtain ⟨hx, hb, hml, hown, hts, hE, hB, hr, hlk⟩ := id CX
  have hL : KLe K K := KLe.rf K
  have hcs : 0 ≤ R.cells ∧ 0 ≤ R.slots := ⟨Nat.zero_le _, Nat.zero_le _⟩
  unfold fC_X8_foreseen at hf
  refine lv_iload_n hx hb dX8_foreseen_0 rfl (lv_at hl 1 rfl) ?_
  refine lv_if_lt (tgt := 12) hx hb dX8_foreseen_1 (by decide) (fun hc => ?_) (fun hc => ?_)
  · rw [if_pos hc] at hf
    exact (wbC_X8_foreseen_12 CX hRm) _ _ _ _ _ hf hR hS (lv_sub hl [0] rfl)
  · rw [if_neg hc] at hf
    refine lv_iload_n hx hb dX8_foreseen_4 rfl (lv_at hl 1 rfl) ?_
    refine lv_aload_n hx hb dX8_foreseen_5 rfl (lv_at hl 0 rfl) ?_
    obtain ⟨hk_x0_9, hf⟩ := gd_some hf
    refine cr_getI kc_8 CX hR fa_X8_64 rfl hk_x0_9 dX8_foreseen_6 ?_
    refine lv_icmp_lt (tgt := 16) hx hb dX8_foreseen_9 (by decide) (fun hc => ?_) (fun hc => ?_)
    · rw [if_pos hc] at hf
      refine lv_aload_n hx hb dX8_foreseen_16 rfl (lv_at hl 0 rfl) ?_
      refine cr_getR kc_8 CX hR fa_X8_51 rfl hk_x0_9 dX8_foreseen_17 ?_
      refine lv_iload_n hx hb dX8_foreseen_20 rfl (lv_at hl 1 rfl) ?_
      obtain ⟨a1, ha1, hf⟩ := nn_some hf
      refine rf_1 ha1 ?_
      obtain ⟨hk_a1_22, hf⟩ := gd_some hf
      obtain ⟨hi, hf⟩ := ck_some hf
      refine cr_iald CX hR hk_a1_22 hi dX8_foreseen_21 ?_
      exact (wbC_X8_foreseen_22 CX hRm) _ _ _ _ _ _ hf hR hS (lv_sub hl [0] rfl)
    · rw [if_neg hc] at hf
      exact (wbC_X8_foreseen_12 CX hRm) _ _ _ _ _ hf hR hS (lv_sub hl [0] rfl)
theorem MC_X8_foreseen (l : Launch) (x : Xc) (N : Nat) (K : Ka) (x0 : Nat) (x1 : Int32) (M : Cm) (o : Int32 × Cm) (hf : fC_X8_foreseen N K x0 x1 M = some o) : CtI l x yX8_foreseen cX8_foreseen 2 (some .int) 0 0 [.ref x0, .int x1] K M o :=
  cr_metI RX8 (by decide) rfl (Nat.le_of_ble_eq_true rfl) (fun p e s m args below meth c ls CX hR hl => wfC_X8_foreseen CX ⟨Nat.le_refl _, Nat.le_refl _⟩ x0 x1 M s.heap [] ls hf hR va_S.rf hl)
def bC_X8_cause_17 (N : Nat) (K : Ka) (x0 : Nat) (M : Cm) : Option (Int32 × Cm) := some (0, M)
set_option maxRecDepth 100000 in
set_option maxHeartbeats 4000000 in
theorem wbC_X8_cause_17 {p : Program} {l : Launch} {e : Env} {R : Room} {s : State} {m : MethodId} {args : Array Value} {below : List Frame} {meth : Method} {c : Code} {x : Xc} {o : Int32 × Cm} {N : Nat} {K : Ka} (CX : CC p s m args meth c x K RX8 cX8_cause 3 (some .int)) (hRm : 1 ≤ R.frames ∧ 21 ≤ R.locals) (x0 : Nat) (M : Cm) (H : Heap) (locs : List Loc) (ls : Array Slot) (hf : bC_X8_cause_17 N K x0 M = some o) (hR : RC x K M H) (hS : va_S (AC K) s.heap H locs) (hl : lv_has ls 3 [(0, .ref x0)]) : W p l e R s m args below meth c H locs 0 0 (MQ below (CQI x K o) args s 0 0 (AC K)) (F0 m 17 ls []) := by
  obtain ⟨hx, hb, hml, hown, hts, hE, hB, hr, hlk⟩ := id CX
  have hL : KLe K K := KLe.rf K
  have hcs : 0 ≤ R.cells ∧ 0 ≤ R.slots := ⟨Nat.zero_le _, Nat.zero_le _⟩
  unfold bC_X8_cause_17 at hf
  refine lv_iconst (v := 0) hx hb dX8_cause_17 (by decide) ?_
  exact cr_iret CX hR hS hf dX8_cause_18
def bC_X8_cause_44 (N : Nat) (K : Ka) (x0 : Nat) (s0 : Int32) (M : Cm) : Option (Int32 × Cm) := some (s0, M)
set_option maxRecDepth 100000 in
set_option maxHeartbeats 4000000 in
theorem wbC_X8_cause_44 {p : Program} {l : Launch} {e : Env} {R : Room} {s : State} {m : MethodId} {args : Array Value} {below : List Frame} {meth : Method} {c : Code} {x : Xc} {o : Int32 × Cm} {N : Nat} {K : Ka} (CX : CC p s m args meth c x K RX8 cX8_cause 3 (some .int)) (hRm : 1 ≤ R.frames ∧ 21 ≤ R.locals) (x0 : Nat) (s0 : Int32) (M : Cm) (H : Heap) (locs : List Loc) (ls : Array Slot) (hf : bC_X8_cause_44 N K x0 s0 M = some o) (hR : RC x K M H) (hS : va_S (AC K) s.heap H locs) (hl : lv_has ls 3 [(0, .ref x0)]) : W p l e R s m args below meth c H locs 0 0 (MQ below (CQI x K o) args s 0 0 (AC K)) (F0 m 44 ls [.int s0]) := by
  obtain ⟨hx, hb, hml, hown, hts, hE, hB, hr, hlk⟩ := id CX
  have hL : KLe K K := KLe.rf K
  have hcs : 0 ≤ R.cells ∧ 0 ≤ R.slots := ⟨Nat.zero_le _, Nat.zero_le _⟩
  unfold bC_X8_cause_44 at hf
  exact cr_iret CX hR hS hf dX8_cause_44
def fC_X8_cause (N : Nat) (K : Ka) (x0 : Nat) (x1 : Int32) (x2 : Int32) (M : Cm) : Option (Int32 × Cm) := gd (kd K x0 == 9) ((fC_X8_isUnit N K x0 x1 M).bind fun o2 => if o2.1 = 0 then ((bC_X8_cause_17 N K) x0 o2.2) else (if x2 < 0 then ((bC_X8_cause_17 N K) x0 o2.2) else (if x2 ≤ 1 then (if x2 = 0 then (nn (cR o2.2 x0 2) fun a3 => gd (kd K a3 == 5) (nn (cR o2.2 a3 3) fun a4 => gd (kd K a4 == 22) (ck x1 (le K a4) ((bC_X8_cause_44 N K) x0 (cI o2.2 a4 (x1 : Int32).toNatClampNeg) o2.2)))) else (nn (cR o2.2 x0 2) fun a1 => gd (kd K a1 == 5) (nn (cR o2.2 a1 4) fun a2 => gd (kd K a2 == 22) (ck x1 (le K a2) ((bC_X8_cause_44 N K) x0 (cI o2.2 a2 (x1 : Int32).toNatClampNeg) o2.2))))) else ((bC_X8_cause_17 N K) x0 o2.2))))
set_option maxRecDepth 100000 in
set_option maxHeartbeats 4000000 in
theorem wfC_X8_cause {p : Program} {l : Launch} {e : Env} {R : Room} {s : State} {m : MethodId} {args : Array Value} {below : List Frame} {meth : Method} {c : Code} {x : Xc} {o : Int32 × Cm} {N : Nat} {K : Ka} (CX : CC p s m args meth c x K RX8 cX8_cause 3 (some .int)) (hRm : 1 ≤ R.frames ∧ 21 ≤ R.locals) (x0 : Nat) (x1 : Int32) (x2 : Int32) (M : Cm) (H : Heap) (locs : List Loc) (ls : Array Slot) (hf : fC_X8_cause N K x0 x1 x2 M = some o) (hR : RC x K M H) (hS : va_S (AC K) s.heap H locs) (hl : lv_has ls 3 [(0, .ref x0), (1, .int x1), (2, .int x2)]) : W p l e R s m args below meth c H locs 0 0 (MQ below (CQI x K o) args s 0 0 (AC K)) (F0 m 0 ls []) := by
  obtain ⟨hx, hb, hml, hown, hts, hE, hB, hr, hlk⟩ := id CX
  have hL : KLe K K := KLe.rf K
  have hcs : 0 ≤ R.cells ∧ 0 ≤ R.slots := ⟨Nat.zero_le _, Nat.zero_le _⟩
  unfold fC_X8_cause at hf
  refine lv_aload_n hx hb dX8_cause_0 rfl (lv_at hl 0 rfl) ?_
  refine lv_iload_n hx hb dX8_cause_1 rfl (lv_at hl 1 rfl) ?_
  obtain ⟨hk_x0_9, hf⟩ := gd_some hf
  obtain ⟨o2, ho2, hf⟩ := bnd_some hf
  refine cr_callIv kc_8 CX hR hL hS (As := [.int x1]) (rest := []) hk_x0_9 (MC_X8_isUnit l x N K x0 x1 M o2 ho2) cv_X8_162 ⟨by omega, by omega⟩ rfl rfl (Nat.le_of_ble_eq_true rfl) hl.1 dX8_cause_2 hcs (fun H locs hR hS => ?_)
  refine lv_if_eq (tgt := 17) hx hb dX8_cause_5 (by decide) (fun hc => ?_) (fun hc => ?_)
  · rw [if_pos hc] at hf
    exact (wbC_X8_cause_17 CX hRm) _ _ _ _ _ hf hR hS (lv_sub hl [0] rfl)
  · rw [if_neg hc] at hf
    refine lv_iload_n hx hb dX8_cause_8 rfl (lv_at hl 2 rfl) ?_
    refine lv_if_lt (tgt := 17) hx hb dX8_cause_9 (by decide) (fun hc => ?_) (fun hc => ?_)
    · rw [if_pos hc] at hf
      exact (wbC_X8_cause_17 CX hRm) _ _ _ _ _ hf hR hS (lv_sub hl [0] rfl)
    · rw [if_neg hc] at hf
      refine lv_iload_n hx hb dX8_cause_12 rfl (lv_at hl 2 rfl) ?_
      refine lv_iconst (v := 1) hx hb dX8_cause_13 (by decide) ?_
      refine lv_icmp_le (tgt := 19) hx hb dX8_cause_14 (by decide) (fun hc => ?_) (fun hc => ?_)
      · rw [if_pos hc] at hf
        refine lv_iload_n hx hb dX8_cause_19 rfl (lv_at hl 2 rfl) ?_
        refine lv_if_ne (tgt := 35) hx hb dX8_cause_20 (by decide) (fun hc => ?_) (fun hc => ?_)
        · rw [if_neg hc] at hf
          refine lv_aload_n hx hb dX8_cause_35 rfl (lv_at hl 0 rfl) ?_
          refine cr_getR kc_8 CX hR fa_X8_28 rfl hk_x0_9 dX8_cause_36 ?_
          obtain ⟨a1, ha1, hf⟩ := nn_some hf
          refine rf_0 ha1 ?_
          obtain ⟨hk_a1_5, hf⟩ := gd_some hf
          refine cr_getR kc_4 CX hR fa_X8_280 rfl hk_a1_5 dX8_cause_39 ?_
          refine lv_iload_n hx hb dX8_cause_42 rfl (lv_at hl 1 rfl) ?_
          obtain ⟨a2, ha2, hf⟩ := nn_some hf
          refine rf_1 ha2 ?_
          obtain ⟨hk_a2_22, hf⟩ := gd_some hf
          obtain ⟨hi, hf⟩ := ck_some hf
          refine cr_iald CX hR hk_a2_22 hi dX8_cause_43 ?_
          exact (wbC_X8_cause_44 CX hRm) _ _ _ _ _ _ hf hR hS (lv_sub hl [0] rfl)
        · rw [if_pos hc] at hf
          refine lv_aload_n hx hb dX8_cause_23 rfl (lv_at hl 0 rfl) ?_
          refine cr_getR kc_8 CX hR fa_X8_28 rfl hk_x0_9 dX8_cause_24 ?_
          obtain ⟨a3, ha3, hf⟩ := nn_some hf
          refine rf_0 ha3 ?_
          obtain ⟨hk_a3_5, hf⟩ := gd_some hf
          refine cr_getR kc_4 CX hR fa_X8_277 rfl hk_a3_5 dX8_cause_27 ?_
          refine lv_iload_n hx hb dX8_cause_30 rfl (lv_at hl 1 rfl) ?_
          obtain ⟨a4, ha4, hf⟩ := nn_some hf
          refine rf_1 ha4 ?_
          obtain ⟨hk_a4_22, hf⟩ := gd_some hf
          obtain ⟨hi, hf⟩ := ck_some hf
          refine cr_iald CX hR hk_a4_22 hi dX8_cause_31 ?_
          refine lv_goto (tgt := 44) hx hb dX8_cause_32 (by decide) ?_
          exact (wbC_X8_cause_44 CX hRm) _ _ _ _ _ _ hf hR hS (lv_sub hl [0] rfl)
      · rw [if_neg hc] at hf
        exact (wbC_X8_cause_17 CX hRm) _ _ _ _ _ hf hR hS (lv_sub hl [0] rfl)
theorem MC_X8_cause (l : Launch) (x : Xc) (N : Nat) (K : Ka) (x0 : Nat) (x1 : Int32) (x2 : Int32) (M : Cm) (o : Int32 × Cm) (hf : fC_X8_cause N K x0 x1 x2 M = some o) : CtI l x yX8_cause cX8_cause 3 (some .int) 1 21 [.ref x0, .int x1, .int x2] K M o :=
  cr_metI RX8 (by decide) rfl (Nat.le_of_ble_eq_true rfl) (fun p e s m args below meth c ls CX hR hl => wfC_X8_cause CX ⟨Nat.le_refl _, Nat.le_refl _⟩ x0 x1 x2 M s.heap [] ls hf hR va_S.rf hl)
