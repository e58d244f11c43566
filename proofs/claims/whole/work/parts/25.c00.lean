def fC_X0_cut (N : Nat) (K : Ka) (x0 : Nat) (x1 : Int32) (x2 : Int32) (x3 : Int32) (M : Cm) : Option (Cm) := gd (kd K x0 == 1) (some (wI (wI (wI M x0 4 x1) x0 5 x2) x0 6 x3))
set_option maxRecDepth 100000 in
set_option maxHeartbeats 4000000 in
theorem wfC_X0_cut {p : Program} {l : Launch} {e : Env} {R : Room} {s : State} {m : MethodId} {args : Array Value} {below : List Frame} {meth : Method} {c : Code} {x : Xc} {o : Cm} {N : Nat} {K : Ka} (CX : CC p s m args meth c x K RX0 cX0_cut 4 none) (hRm : 0 ≤ R.frames ∧ 0 ≤ R.locals) (x0 : Nat) (x1 : Int32) (x2 : Int32) (x3 : Int32) (M : Cm) (H : Heap) (locs : List Loc) (ls : Array Slot) (hf : fC_X0_cut N K x0 x1 x2 x3 M = some o) (hR : RC x K M H) (hS : va_S (AC K) s.heap H locs) (hl : lv_has ls 4 [(0, .ref x0), (1, .int x1), (2, .int x2), (3, .int x3)]) : W p l e R s m args below meth c H locs 0 0 (MQ below (CQV x K o) args s 0 0 (AC K)) (F0 m 0 ls []) := by
  obtain ⟨hx, hb, hml, hown, hts, hE, hB, hr, hlk⟩ := id CX
  have hL : KLe K K := KLe.rf K
  have hcs : 0 ≤ R.cells ∧ 0 ≤ R.slots := ⟨Nat.zero_le _, Nat.zero_le _⟩
  unfold fC_X0_cut at hf
  refine lv_aload_n hx hb dX0_cut_0 rfl (lv_at hl 0 rfl) ?_
  refine lv_iload_n hx hb dX0_cut_1 rfl (lv_at hl 1 rfl) ?_
  obtain ⟨hk_x0_1, hf⟩ := gd_some hf
  refine cr_putI kc_0 CX hR hL hS fa_X0_24 ⟨rfl, rfl, rfl⟩ hk_x0_1 dX0_cut_2 (fun H locs hR hS => ?_)
  refine lv_aload_n hx hb dX0_cut_5 rfl (lv_at hl 0 rfl) ?_
  refine lv_iload_n hx hb dX0_cut_6 rfl (lv_at hl 2 rfl) ?_
  refine cr_putI kc_0 CX hR hL hS fa_X0_28 ⟨rfl, rfl, rfl⟩ hk_x0_1 dX0_cut_7 (fun H locs hR hS => ?_)
  refine lv_aload_n hx hb dX0_cut_10 rfl (lv_at hl 0 rfl) ?_
  refine lv_iload_n hx hb dX0_cut_11 rfl (lv_at hl 3 rfl) ?_
  refine cr_putI kc_0 CX hR hL hS fa_X0_31 ⟨rfl, rfl, rfl⟩ hk_x0_1 dX0_cut_12 (fun H locs hR hS => ?_)
  exact cr_vret CX hR hS hf dX0_cut_15
theorem MC_X0_cut (l : Launch) (x : Xc) (N : Nat) (K : Ka) (x0 : Nat) (x1 : Int32) (x2 : Int32) (x3 : Int32) (M : Cm) (o : Cm) (hf : fC_X0_cut N K x0 x1 x2 x3 M = some o) : CtV l x yX0_cut cX0_cut 4 0 0 [.ref x0, .int x1, .int x2, .int x3] K M o :=
  cr_metV RX0 (by decide) rfl (Nat.le_of_ble_eq_true rfl) (fun p e s m args below meth c ls CX hR hl => wfC_X0_cut CX ⟨Nat.le_refl _, Nat.le_refl _⟩ x0 x1 x2 x3 M s.heap [] ls hf hR va_S.rf hl)
def fC_X0_empty (N : Nat) (K : Ka) (x0 : Nat) (M : Cm) : Option (Cm) := gd (kd K x0 == 1) ((fC_X0_cut N K x0 0 0 0 M).bind fun o4 => some (wI o4 x0 7 0))
set_option maxRecDepth 100000 in
set_option maxHeartbeats 4000000 in
theorem wfC_X0_empty {p : Program} {l : Launch} {e : Env} {R : Room} {s : State} {m : MethodId} {args : Array Value} {below : List Frame} {meth : Method} {c : Code} {x : Xc} {o : Cm} {N : Nat} {K : Ka} (CX : CC p s m args meth c x K RX0 cX0_empty 1 none) (hRm : 1 ≤ R.frames ∧ 23 ≤ R.locals) (x0 : Nat) (M : Cm) (H : Heap) (locs : List Loc) (ls : Array Slot) (hf : fC_X0_empty N K x0 M = some o) (hR : RC x K M H) (hS : va_S (AC K) s.heap H locs) (hl : lv_has ls 1 [(0, .ref x0)]) : W p l e R s m args below meth c H locs 0 0 (MQ below (CQV x K o) args s 0 0 (AC K)) (F0 m 0 ls []) := by
  obtain ⟨hx, hb, hml, hown, hts, hE, hB, hr, hlk⟩ := id CX
  have hL : KLe K K := KLe.rf K
  have hcs : 0 ≤ R.cells ∧ 0 ≤ R.slots := ⟨Nat.zero_le _, Nat.zero_le _⟩
  unfold fC_X0_empty at hf
  refine lv_aload_n hx hb dX0_empty_0 rfl (lv_at hl 0 rfl) ?_
  refine lv_iconst (v := 0) hx hb dX0_empty_1 (by decide) ?_
  refine lv_iconst (v := 0) hx hb dX0_empty_2 (by decide) ?_
  refine lv_iconst (v := 0) hx hb dX0_empty_3 (by decide) ?_
  obtain ⟨hk_x0_1, hf⟩ := gd_some hf
  obtain ⟨o4, ho4, hf⟩ := bnd_some hf
  refine cr_callVv kc_0 CX hR hL hS (As := [.int 0, .int 0, .int 0]) (rest := []) hk_x0_1 (MC_X0_cut l x N K x0 0 0 0 M o4 ho4) cv_X0_37 ⟨by omega, by omega⟩ rfl rfl (Nat.le_of_ble_eq_true rfl) hl.1 dX0_empty_4 hcs (fun H locs hR hS => ?_)
  refine lv_aload_n hx hb dX0_empty_7 rfl (lv_at hl 0 rfl) ?_
  refine lv_iconst (v := 0) hx hb dX0_empty_8 (by decide) ?_
  refine cr_putI kc_0 CX hR hL hS fa_X0_34 ⟨rfl, rfl, rfl⟩ hk_x0_1 dX0_empty_9 (fun H locs hR hS => ?_)
  exact cr_vret CX hR hS hf dX0_empty_12
theorem MC_X0_empty (l : Launch) (x : Xc) (N : Nat) (K : Ka) (x0 : Nat) (M : Cm) (o : Cm) (hf : fC_X0_empty N K x0 M = some o) : CtV l x yX0_empty cX0_empty 1 1 23 [.ref x0] K M o :=
  cr_metV RX0 (by decide) rfl (Nat.le_of_ble_eq_true rfl) (fun p e s m args below meth c ls CX hR hl => wfC_X0_empty CX ⟨Nat.le_refl _, Nat.le_refl _⟩ x0 M s.heap [] ls hf hR va_S.rf hl)
def bC_X0_addUp_60 (N : Nat) (K : Ka) (x0 : Nat) (M : Cm) : Option (Cm) := some M
set_option maxRecDepth 100000 in
set_option maxHeartbeats 4000000 in
theorem wbC_X0_addUp_60 {p : Program} {l : Launch} {e : Env} {R : Room} {s : State} {m : MethodId} {args : Array Value} {below : List Frame} {meth : Method} {c : Code} {x : Xc} {o : Cm} {N : Nat} {K : Ka} (CX : CC p s m args meth c x K RX0 cX0_addUp 4 none) (hRm : 0 ≤ R.frames ∧ 0 ≤ R.locals) (x0 : Nat) (M : Cm) (H : Heap) (locs : List Loc) (ls : Array Slot) (hf : bC_X0_addUp_60 N K x0 M = some o) (hR : RC x K M H) (hS : va_S (AC K) s.heap H locs) (hl : lv_has ls 4 [(0, .ref x0)]) : W p l e R s m args below meth c H locs 0 0 (MQ below (CQV x K o) args s 0 0 (AC K)) (F0 m 60 ls []) := by
  obtain ⟨hx, hb, hml, hown, hts, hE, hB, hr, hlk⟩ := id CX
  have hL : KLe K K := KLe.rf K
  have hcs : 0 ≤ R.cells ∧ 0 ≤ R.slots := ⟨Nat.zero_le _, Nat.zero_le _⟩
  unfold bC_X0_addUp_60 at hf
  exact cr_vret CX hR hS hf dX0_addUp_60
def fC_X0_addUp (N : Nat) (K : Ka) (x0 : Nat) (x1 : Int32) (x2 : Int32) (x3 : Int32) (M : Cm) : Option (Cm) := gd (kd K x0 == 1) (if 744 ≤ (cI M x0 4) then ((bC_X0_addUp_60 N K) x0 M) else (nn (cR M x0 0) fun a1 => gd (kd K a1 == 22) (ck ((cI M x0 4) * 3) (le K a1) (nn (cR (wI M a1 ((cI M x0 4) * 3 : Int32).toNatClampNeg x1) x0 0) fun a2 => gd (kd K a2 == 22) (ck (((cI (wI M a1 ((cI M x0 4) * 3 : Int32).toNatClampNeg x1) x0 4) * 3) + 1) (le K a2) (nn (cR (wI (wI M a1 ((cI M x0 4) * 3 : Int32).toNatClampNeg x1) a2 (((cI (wI M a1 ((cI M x0 4) * 3 : Int32).toNatClampNeg x1) x0 4) * 3) + 1 : Int32).toNatClampNeg x2) x0 0) fun a3 => gd (kd K a3 == 22) (ck (((cI (wI (wI M a1 ((cI M x0 4) * 3 : Int32).toNatClampNeg x1) a2 (((cI (wI M a1 ((cI M x0 4) * 3 : Int32).toNatClampNeg x1) x0 4) * 3) + 1 : Int32).toNatClampNeg x2) x0 4) * 3) + 2) (le K a3) ((bC_X0_addUp_60 N K) x0 (wI (wI (wI (wI M a1 ((cI M x0 4) * 3 : Int32).toNatClampNeg x1) a2 (((cI (wI M a1 ((cI M x0 4) * 3 : Int32).toNatClampNeg x1) x0 4) * 3) + 1 : Int32).toNatClampNeg x2) a3 (((cI (wI (wI M a1 ((cI M x0 4) * 3 : Int32).toNatClampNeg x1) a2 (((cI (wI M a1 ((cI M x0 4) * 3 : Int32).toNatClampNeg x1) x0 4) * 3) + 1 : Int32).toNatClampNeg x2) x0 4) * 3) + 2 : Int32).toNatClampNeg x3) x0 4 ((cI (wI (wI (wI M a1 ((cI M x0 4) * 3 : Int32).toNatClampNeg x1) a2 (((cI (wI M a1 ((cI M x0 4) * 3 : Int32).toNatClampNeg x1) x0 4) * 3) + 1 : Int32).toNatClampNeg x2) a3 (((cI (wI (wI M a1 ((cI M x0 4) * 3 : Int32).toNatClampNeg x1) a2 (((cI (wI M a1 ((cI M x0 4) * 3 : Int32).toNatClampNeg x1) x0 4) * 3) + 1 : Int32).toNatClampNeg x2) x0 4) * 3) + 2 : Int32).toNatClampNeg x3) x0 4) + 1))))))))))
set_option maxRecDepth 100000 in
set_option maxHeartbeats 4000000 in
theorem wfC_X0_addUp {p : Program} {l : Launch} {e : Env} {R : Room} {s : State} {m : MethodId} {args : Array Value} {below : List Frame} {meth : Method} {c : Code} {x : Xc} {o : Cm} {N : Nat} {K : Ka} (CX : CC p s m args meth c x K RX0 cX0_addUp 4 none) (hRm : 0 ≤ R.frames ∧ 0 ≤ R.locals) (x0 : Nat) (x1 : Int32) (x2 : Int32) (x3 : Int32) (M : Cm) (H : Heap) (locs : List Loc) (ls : Array Slot) (hf : fC_X0_addUp N K x0 x1 x2 x3 M = some o) (hR : RC x K M H) (hS : va_S (AC K) s.heap H locs) (hl : lv_has ls 4 [(0, .ref x0), (1, .int x1), (2, .int x2), (3, .int x3)]) : W p l e R s m args below meth c H locs 0 0 (MQ below (CQV x K o) args s 0 0 (AC K)) (F0 m 0 ls []) := by
  obtain ⟨hx, hb, hml, hown, hts, hE, hB, hr, hlk⟩ := id CX
  have hL : KLe K K := KLe.rf K
  have hcs : 0 ≤ R.cells ∧ 0 ≤ R.slots := ⟨Nat.zero_le _, Nat.zero_le _⟩
  unfold fC_X0_addUp at hf
  refine lv_aload_n hx hb dX0_addUp_0 rfl (lv_at hl 0 rfl) ?_
  obtain ⟨hk_x0_1, hf⟩ := gd_some hf
  refine cr_getI kc_0 CX hR fa_X0_24 rfl hk_x0_1 dX0_addUp_1 ?_
  refine lv_sipush (v := 744) hx hb dX0_addUp_4 (by decide) ?_
  refine lv_icmp_ge (tgt := 60) hx hb dX0_addUp_7 (by decide) (fun hc => ?_) (fun hc => ?_)
  · rw [if_pos hc] at hf
    exact (wbC_X0_addUp_60 CX hRm) _ _ _ _ _ hf hR hS (lv_sub hl [0] rfl)
  · rw [if_neg hc] at hf
    refine lv_aload_n hx hb dX0_addUp_10 rfl (lv_at hl 0 rfl) ?_
    refine cr_getR kc_0 CX hR fa_X0_9 rfl hk_x0_1 dX0_addUp_11 ?_
    refine lv_aload_n hx hb dX0_addUp_14 rfl (lv_at hl 0 rfl) ?_
    refine cr_getI kc_0 CX hR fa_X0_24 rfl hk_x0_1 dX0_addUp_15 ?_
    refine lv_iconst (v := 3) hx hb dX0_addUp_18 (by decide) ?_
    refine lv_imul hx hb dX0_addUp_19 ?_
    refine lv_iload_n hx hb dX0_addUp_20 rfl (lv_at hl 1 rfl) ?_
    obtain ⟨a1, ha1, hf⟩ := nn_some hf
    refine rf_2 ha1 ?_
    obtain ⟨hk_a1_22, hf⟩ := gd_some hf
    obtain ⟨hi, hf⟩ := ck_some hf
    refine cr_iast CX hR hL hS hk_a1_22 hi dX0_addUp_21 (fun H locs hR hS => ?_)
    refine lv_aload_n hx hb dX0_addUp_22 rfl (lv_at hl 0 rfl) ?_
    refine cr_getR kc_0 CX hR fa_X0_9 rfl hk_x0_1 dX0_addUp_23 ?_
    refine lv_aload_n hx hb dX0_addUp_26 rfl (lv_at hl 0 rfl) ?_
    refine cr_getI kc_0 CX hR fa_X0_24 rfl hk_x0_1 dX0_addUp_27 ?_
    refine lv_iconst (v := 3) hx hb dX0_addUp_30 (by decide) ?_
    refine lv_imul hx hb dX0_addUp_31 ?_
    refine lv_iconst (v := 1) hx hb dX0_addUp_32 (by decide) ?_
    refine lv_iadd hx hb dX0_addUp_33 ?_
    refine lv_iload_n hx hb dX0_addUp_34 rfl (lv_at hl 2 rfl) ?_
    obtain ⟨a2, ha2, hf⟩ := nn_some hf
    refine rf_2 ha2 ?_
    obtain ⟨hk_a2_22, hf⟩ := gd_some hf
    obtain ⟨hi, hf⟩ := ck_some hf
    refine cr_iast CX hR hL hS hk_a2_22 hi dX0_addUp_35 (fun H locs hR hS => ?_)
    refine lv_aload_n hx hb dX0_addUp_36 rfl (lv_at hl 0 rfl) ?_
    refine cr_getR kc_0 CX hR fa_X0_9 rfl hk_x0_1 dX0_addUp_37 ?_
    refine lv_aload_n hx hb dX0_addUp_40 rfl (lv_at hl 0 rfl) ?_
    refine cr_getI kc_0 CX hR fa_X0_24 rfl hk_x0_1 dX0_addUp_41 ?_
    refine lv_iconst (v := 3) hx hb dX0_addUp_44 (by decide) ?_
    refine lv_imul hx hb dX0_addUp_45 ?_
    refine lv_iconst (v := 2) hx hb dX0_addUp_46 (by decide) ?_
    refine lv_iadd hx hb dX0_addUp_47 ?_
    refine lv_iload_n hx hb dX0_addUp_48 rfl (lv_at hl 3 rfl) ?_
    obtain ⟨a3, ha3, hf⟩ := nn_some hf
    refine rf_2 ha3 ?_
    obtain ⟨hk_a3_22, hf⟩ := gd_some hf
    obtain ⟨hi, hf⟩ := ck_some hf
    refine cr_iast CX hR hL hS hk_a3_22 hi dX0_addUp_49 (fun H locs hR hS => ?_)
    refine lv_aload_n hx hb dX0_addUp_50 rfl (lv_at hl 0 rfl) ?_
    refine lv_dup hx hb dX0_addUp_51 rfl ?_
    refine cr_getI kc_0 CX hR fa_X0_24 rfl hk_x0_1 dX0_addUp_52 ?_
    refine lv_iconst (v := 1) hx hb dX0_addUp_55 (by decide) ?_
    refine lv_iadd hx hb dX0_addUp_56 ?_
    refine cr_putI kc_0 CX hR hL hS fa_X0_24 ⟨rfl, rfl, rfl⟩ hk_x0_1 dX0_addUp_57 (fun H locs hR hS => ?_)
    exact (wbC_X0_addUp_60 CX hRm) _ _ _ _ _ hf hR hS (lv_sub hl [0] rfl)
theorem MC_X0_addUp (l : Launch) (x : Xc) (N : Nat) (K : Ka) (x0 : Nat) (x1 : Int32) (x2 : Int32) (x3 : Int32) (M : Cm) (o : Cm) (hf : fC_X0_addUp N K x0 x1 x2 x3 M = some o) : CtV l x yX0_addUp cX0_addUp 4 0 0 [.ref x0, .int x1, .int x2, .int x3] K M o :=
  cr_metV RX0 (by decide) rfl (Nat.le_of_ble_eq_true rfl) (fun p e s m args below meth c ls CX hR hl => wfC_X0_addUp CX ⟨Nat.le_refl _, Nat.le_refl _⟩ x0 x1 x2 x3 M s.heap [] ls hf hR va_S.rf hl)
def bC_X0_addHalf_50 (N : Nat) (K : Ka) (x0 : Nat) (M : Cm) : Option (Cm) := gd (kd K x0 == 1) (some (wI M x0 5 ((cI M x0 5) + 1)))
set_option maxRecDepth 100000 in
set_option maxHeartbeats 4000000 in
theorem wbC_X0_addHalf_50 {p : Program} {l : Launch} {e : Env} {R : Room} {s : State} {m : MethodId} {args : Array Value} {below : List Frame} {meth : Method} {c : Code} {x : Xc} {o : Cm} {N : Nat} {K : Ka} (CX : CC p s m args meth c x K RX0 cX0_addHalf 4 none) (hRm : 0 ≤ R.frames ∧ 0 ≤ R.locals) (x0 : Nat) (M : Cm) (H : Heap) (locs : List Loc) (ls : Array Slot) (hf : bC_X0_addHalf_50 N K x0 M = some o) (hR : RC x K M H) (hS : va_S (AC K) s.heap H locs) (hl : lv_has ls 4 [(0, .ref x0)]) : W p l e R s m args below meth c H locs 0 0 (MQ below (CQV x K o) args s 0 0 (AC K)) (F0 m 50 ls []) := by
  obtain ⟨hx, hb, hml, hown, hts, hE, hB, hr, hlk⟩ := id CX
  have hL : KLe K K := KLe.rf K
  have hcs : 0 ≤ R.cells ∧ 0 ≤ R.slots := ⟨Nat.zero_le _, Nat.zero_le _⟩
  unfold bC_X0_addHalf_50 at hf
  refine lv_aload_n hx hb dX0_addHalf_50 rfl (lv_at hl 0 rfl) ?_
  refine lv_dup hx hb dX0_addHalf_51 rfl ?_
  obtain ⟨hk_x0_1, hf⟩ := gd_some hf
  refine cr_getI kc_0 CX hR fa_X0_28 rfl hk_x0_1 dX0_addHalf_52 ?_
  refine lv_iconst (v := 1) hx hb dX0_addHalf_55 (by decide) ?_
  refine lv_iadd hx hb dX0_addHalf_56 ?_
  refine cr_putI kc_0 CX hR hL hS fa_X0_28 ⟨rfl, rfl, rfl⟩ hk_x0_1 dX0_addHalf_57 (fun H locs hR hS => ?_)
  exact cr_vret CX hR hS hf dX0_addHalf_60
def fC_X0_addHalf (N : Nat) (K : Ka) (x0 : Nat) (x1 : Int32) (x2 : Int32) (x3 : Int32) (M : Cm) : Option (Cm) := gd (kd K x0 == 1) (if 200 ≤ (cI M x0 5) then ((bC_X0_addHalf_50 N K) x0 M) else (nn (cR M x0 1) fun a1 => gd (kd K a1 == 22) (ck ((cI M x0 5) * 3) (le K a1) (nn (cR (wI M a1 ((cI M x0 5) * 3 : Int32).toNatClampNeg x1) x0 1) fun a2 => gd (kd K a2 == 22) (ck (((cI (wI M a1 ((cI M x0 5) * 3 : Int32).toNatClampNeg x1) x0 5) * 3) + 1) (le K a2) (nn (cR (wI (wI M a1 ((cI M x0 5) * 3 : Int32).toNatClampNeg x1) a2 (((cI (wI M a1 ((cI M x0 5) * 3 : Int32).toNatClampNeg x1) x0 5) * 3) + 1 : Int32).toNatClampNeg x2) x0 1) fun a3 => gd (kd K a3 == 22) (ck (((cI (wI (wI M a1 ((cI M x0 5) * 3 : Int32).toNatClampNeg x1) a2 (((cI (wI M a1 ((cI M x0 5) * 3 : Int32).toNatClampNeg x1) x0 5) * 3) + 1 : Int32).toNatClampNeg x2) x0 5) * 3) + 2) (le K a3) ((bC_X0_addHalf_50 N K) x0 (wI (wI (wI M a1 ((cI M x0 5) * 3 : Int32).toNatClampNeg x1) a2 (((cI (wI M a1 ((cI M x0 5) * 3 : Int32).toNatClampNeg x1) x0 5) * 3) + 1 : Int32).toNatClampNeg x2) a3 (((cI (wI (wI M a1 ((cI M x0 5) * 3 : Int32).toNatClampNeg x1) a2 (((cI (wI M a1 ((cI M x0 5) * 3 : Int32).toNatClampNeg x1) x0 5) * 3) + 1 : Int32).toNatClampNeg x2) x0 5) * 3) + 2 : Int32).toNatClampNeg x3)))))))))
set_option maxRecDepth 100000 in
set_option maxHeartbeats 4000000 in
theorem wfC_X0_addHalf {p : Program} {l : Launch} {e : Env} {R : Room} {s : State} {m : MethodId} {args : Array Value} {below : List Frame} {meth : Method} {c : Code} {x : Xc} {o : Cm} {N : Nat} {K : Ka} (CX : CC p s m args meth c x K RX0 cX0_addHalf 4 none) (hRm : 0 ≤ R.frames ∧ 0 ≤ R.locals) (x0 : Nat) (x1 : Int32) (x2 : Int32) (x3 : Int32) (M : Cm) (H : Heap) (locs : List Loc) (ls : Array Slot) (hf : fC_X0_addHalf N K x0 x1 x2 x3 M = some o) (hR : RC x K M H) (hS : va_S (AC K) s.heap H locs) (hl : lv_has ls 4 [(0, .ref x0), (1, .int x1), (2, .int x2), (3, .int x3)]) : W p l e R s m args below meth c H locs 0 0 (MQ below (CQV x K o) args s 0 0 (AC K)) (F0 m 0 ls []) := by
  obtain ⟨hx, hb, hml, hown, hts, hE, hB, hr, hlk⟩ := id CX
  have hL : KLe K K := KLe.rf K
  have hcs : 0 ≤ R.cells ∧ 0 ≤ R.slots := ⟨Nat.zero_le _, Nat.zero_le _⟩
  unfold fC_X0_addHalf at hf
  refine lv_aload_n hx hb dX0_addHalf_0 rfl (lv_at hl 0 rfl) ?_
  obtain ⟨hk_x0_1, hf⟩ := gd_some hf
  refine cr_getI kc_0 CX hR fa_X0_28 rfl hk_x0_1 dX0_addHalf_1 ?_
  refine lv_sipush (v := 200) hx hb dX0_addHalf_4 (by decide) ?_
  refine lv_icmp_ge (tgt := 50) hx hb dX0_addHalf_7 (by decide) (fun hc => ?_) (fun hc => ?_)
  · rw [if_pos hc] at hf
    exact (wbC_X0_addHalf_50 CX hRm) _ _ _ _ _ hf hR hS (lv_sub hl [0] rfl)
  · rw [if_neg hc] at hf
    refine lv_aload_n hx hb dX0_addHalf_10 rfl (lv_at hl 0 rfl) ?_
    refine cr_getR kc_0 CX hR fa_X0_15 rfl hk_x0_1 dX0_addHalf_11 ?_
    refine lv_aload_n hx hb dX0_addHalf_14 rfl (lv_at hl 0 rfl) ?_
    refine cr_getI kc_0 CX hR fa_X0_28 rfl hk_x0_1 dX0_addHalf_15 ?_
    refine lv_iconst (v := 3) hx hb dX0_addHalf_18 (by decide) ?_
    refine lv_imul hx hb dX0_addHalf_19 ?_
    refine lv_iload_n hx hb dX0_addHalf_20 rfl (lv_at hl 1 rfl) ?_
    obtain ⟨a1, ha1, hf⟩ := nn_some hf
    refine rf_2 ha1 ?_
    obtain ⟨hk_a1_22, hf⟩ := gd_some hf
    obtain ⟨hi, hf⟩ := ck_some hf
    refine cr_iast CX hR hL hS hk_a1_22 hi dX0_addHalf_21 (fun H locs hR hS => ?_)
    refine lv_aload_n hx hb dX0_addHalf_22 rfl (lv_at hl 0 rfl) ?_
    refine cr_getR kc_0 CX hR fa_X0_15 rfl hk_x0_1 dX0_addHalf_23 ?_
    refine lv_aload_n hx hb dX0_addHalf_26 rfl (lv_at hl 0 rfl) ?_
    refine cr_getI kc_0 CX hR fa_X0_28 rfl hk_x0_1 dX0_addHalf_27 ?_
    refine lv_iconst (v := 3) hx hb dX0_addHalf_30 (by decide) ?_
    refine lv_imul hx hb dX0_addHalf_31 ?_
    refine lv_iconst (v := 1) hx hb dX0_addHalf_32 (by decide) ?_
    refine lv_iadd hx hb dX0_addHalf_33 ?_
    refine lv_iload_n hx hb dX0_addHalf_34 rfl (lv_at hl 2 rfl) ?_
    obtain ⟨a2, ha2, hf⟩ := nn_some hf
    refine rf_2 ha2 ?_
    obtain ⟨hk_a2_22, hf⟩ := gd_some hf
    obtain ⟨hi, hf⟩ := ck_some hf
    refine cr_iast CX hR hL hS hk_a2_22 hi dX0_addHalf_35 (fun H locs hR hS => ?_)
    refine lv_aload_n hx hb dX0_addHalf_36 rfl (lv_at hl 0 rfl) ?_
    refine cr_getR kc_0 CX hR fa_X0_15 rfl hk_x0_1 dX0_addHalf_37 ?_
    refine lv_aload_n hx hb dX0_addHalf_40 rfl (lv_at hl 0 rfl) ?_
    refine cr_getI kc_0 CX hR fa_X0_28 rfl hk_x0_1 dX0_addHalf_41 ?_
    refine lv_iconst (v := 3) hx hb dX0_addHalf_44 (by decide) ?_
    refine lv_imul hx hb dX0_addHalf_45 ?_
    refine lv_iconst (v := 2) hx hb dX0_addHalf_46 (by decide) ?_
    refine lv_iadd hx hb dX0_addHalf_47 ?_
    refine lv_iload_n hx hb dX0_addHalf_48 rfl (lv_at hl 3 rfl) ?_
    obtain ⟨a3, ha3, hf⟩ := nn_some hf
    refine rf_2 ha3 ?_
    obtain ⟨hk_a3_22, hf⟩ := gd_some hf
    obtain ⟨hi, hf⟩ := ck_some hf
    refine cr_iast CX hR hL hS hk_a3_22 hi dX0_addHalf_49 (fun H locs hR hS => ?_)
    exact (wbC_X0_addHalf_50 CX hRm) _ _ _ _ _ hf hR hS (lv_sub hl [0] rfl)
theorem MC_X0_addHalf (l : Launch) (x : Xc) (N : Nat) (K : Ka) (x0 : Nat) (x1 : Int32) (x2 : Int32) (x3 : Int32) (M : Cm) (o : Cm) (hf : fC_X0_addHalf N K x0 x1 x2 x3 M = some o) : CtV l x yX0_addHalf cX0_addHalf 4 0 0 [.ref x0, .int x1, .int x2, .int x3] K M o :=
  cr_metV RX0 (by decide) rfl (Nat.le_of_ble_eq_true rfl) (fun p e s m args below meth c ls CX hR hl => wfC_X0_addHalf CX ⟨Nat.le_refl _, Nat.le_refl _⟩ x0 x1 x2 x3 M s.heap [] ls hf hR va_S.rf hl)
def bC_X0_addOrder_73 (N : Nat) (K : Ka) (x0 : Nat) (M : Cm) : Option (Cm) := gd (kd K x0 == 1) (some (wI M x0 6 ((cI M x0 6) + 1)))
set_option maxRecDepth 100000 in
set_option maxHeartbeats 4000000 in
theorem wbC_X0_addOrder_73 {p : Program} {l : Launch} {e : Env} {R : Room} {s : State} {m : MethodId} {args : Array Value} {below : List Frame} {meth : Method} {c : Code} {x : Xc} {o : Cm} {N : Nat} {K : Ka} (CX : CC p s m args meth c x K RX0 cX0_addOrder 5 none) (hRm : 0 ≤ R.frames ∧ 0 ≤ R.locals) (x0 : Nat) (M : Cm) (H : Heap) (locs : List Loc) (ls : Array Slot) (hf : bC_X0_addOrder_73 N K x0 M = some o) (hR : RC x K M H) (hS : va_S (AC K) s.heap H locs) (hl : lv_has ls 5 [(0, .ref x0)]) : W p l e R s m args below meth c H locs 0 0 (MQ below (CQV x K o) args s 0 0 (AC K)) (F0 m 73 ls []) := by
  obtain ⟨hx, hb, hml, hown, hts, hE, hB, hr, hlk⟩ := id CX
  have hL : KLe K K := KLe.rf K
  have hcs : 0 ≤ R.cells ∧ 0 ≤ R.slots := ⟨Nat.zero_le _, Nat.zero_le _⟩
  unfold bC_X0_addOrder_73 at hf
  refine lv_aload_n hx hb dX0_addOrder_73 rfl (lv_at hl 0 rfl) ?_
  refine lv_dup hx hb dX0_addOrder_74 rfl ?_
  obtain ⟨hk_x0_1, hf⟩ := gd_some hf
  refine cr_getI kc_0 CX hR fa_X0_31 rfl hk_x0_1 dX0_addOrder_75 ?_
  refine lv_iconst (v := 1) hx hb dX0_addOrder_78 (by decide) ?_
  refine lv_iadd hx hb dX0_addOrder_79 ?_
  refine cr_putI kc_0 CX hR hL hS fa_X0_31 ⟨rfl, rfl, rfl⟩ hk_x0_1 dX0_addOrder_80 (fun H locs hR hS => ?_)
  exact cr_vret CX hR hS hf dX0_addOrder_83
def bC_X0_addOrder_72 (N : Nat) (K : Ka) (x0 : Nat) (s0 : Nat) (s1 : Int32) (s2 : Int32) (M : Cm) : Option (Cm) := gd (kd K s0 == 22) (ck s1 (le K s0) ((bC_X0_addOrder_73 N K) x0 (wI M s0 (s1 : Int32).toNatClampNeg s2)))
set_option maxRecDepth 100000 in
set_option maxHeartbeats 4000000 in
theorem wbC_X0_addOrder_72 {p : Program} {l : Launch} {e : Env} {R : Room} {s : State} {m : MethodId} {args : Array Value} {below : List Frame} {meth : Method} {c : Code} {x : Xc} {o : Cm} {N : Nat} {K : Ka} (CX : CC p s m args meth c x K RX0 cX0_addOrder 5 none) (hRm : 0 ≤ R.frames ∧ 0 ≤ R.locals) (x0 : Nat) (s0 : Nat) (s1 : Int32) (s2 : Int32) (M : Cm) (H : Heap) (locs : List Loc) (ls : Array Slot) (hf : bC_X0_addOrder_72 N K x0 s0 s1 s2 M = some o) (hR : RC x K M H) (hS : va_S (AC K) s.heap H locs) (hl : lv_has ls 5 [(0, .ref x0)]) : W p l e R s m args below meth c H locs 0 0 (MQ below (CQV x K o) args s 0 0 (AC K)) (F0 m 72 ls [.int s2, .int s1, .ref s0]) := by
  obtain ⟨hx, hb, hml, hown, hts, hE, hB, hr, hlk⟩ := id CX
  have hL : KLe K K := KLe.rf K
  have hcs : 0 ≤ R.cells ∧ 0 ≤ R.slots := ⟨Nat.zero_le _, Nat.zero_le _⟩
  unfold bC_X0_addOrder_72 at hf
  obtain ⟨hk_s0_22, hf⟩ := gd_some hf
  obtain ⟨hi, hf⟩ := ck_some hf
  refine cr_iast CX hR hL hS hk_s0_22 hi dX0_addOrder_72 (fun H locs hR hS => ?_)
  exact (wbC_X0_addOrder_73 CX hRm) _ _ _ _ _ hf hR hS (lv_sub hl [0] rfl)
def fC_X0_addOrder (N : Nat) (K : Ka) (x0 : Nat) (x1 : Int32) (x2 : Int32) (x3 : Int32) (x4 : Int32) (M : Cm) : Option (Cm) := gd (kd K x0 == 1) (if 200 ≤ (cI M x0 6) then ((bC_X0_addOrder_73 N K) x0 M) else (nn (cR M x0 2) fun a1 => gd (kd K a1 == 22) (ck ((cI M x0 6) * 4) (le K a1) (nn (cR (wI M a1 ((cI M x0 6) * 4 : Int32).toNatClampNeg x1) x0 2) fun a2 => gd (kd K a2 == 22) (ck (((cI (wI M a1 ((cI M x0 6) * 4 : Int32).toNatClampNeg x1) x0 6) * 4) + 1) (le K a2) (nn (cR (wI (wI M a1 ((cI M x0 6) * 4 : Int32).toNatClampNeg x1) a2 (((cI (wI M a1 ((cI M x0 6) * 4 : Int32).toNatClampNeg x1) x0 6) * 4) + 1 : Int32).toNatClampNeg x2) x0 2) fun a3 => gd (kd K a3 == 22) (ck (((cI (wI (wI M a1 ((cI M x0 6) * 4 : Int32).toNatClampNeg x1) a2 (((cI (wI M a1 ((cI M x0 6) * 4 : Int32).toNatClampNeg x1) x0 6) * 4) + 1 : Int32).toNatClampNeg x2) x0 6) * 4) + 2) (le K a3) (if x4 = 0 then (nn (cR (wI (wI (wI M a1 ((cI M x0 6) * 4 : Int32).toNatClampNeg x1) a2 (((cI (wI M a1 ((cI M x0 6) * 4 : Int32).toNatClampNeg x1) x0 6) * 4) + 1 : Int32).toNatClampNeg x2) a3 (((cI (wI (wI M a1 ((cI M x0 6) * 4 : Int32).toNatClampNeg x1) a2 (((cI (wI M a1 ((cI M x0 6) * 4 : Int32).toNatClampNeg x1) x0 6) * 4) + 1 : Int32).toNatClampNeg x2) x0 6) * 4) + 2 : Int32).toNatClampNeg x3) x0 2) fun a4 => (bC_X0_addOrder_72 N K) x0 a4 (((cI (wI (wI (wI M a1 ((cI M x0 6) * 4 : Int32).toNatClampNeg x1) a2 (((cI (wI M a1 ((cI M x0 6) * 4 : Int32).toNatClampNeg x1) x0 6) * 4) + 1 : Int32).toNatClampNeg x2) a3 (((cI (wI (wI M a1 ((cI M x0 6) * 4 : Int32).toNatClampNeg x1) a2 (((cI (wI M a1 ((cI M x0 6) * 4 : Int32).toNatClampNeg x1) x0 6) * 4) + 1 : Int32).toNatClampNeg x2) x0 6) * 4) + 2 : Int32).toNatClampNeg x3) x0 6) * 4) + 3) 0 (wI (wI (wI M a1 ((cI M x0 6) * 4 : Int32).toNatClampNeg x1) a2 (((cI (wI M a1 ((cI M x0 6) * 4 : Int32).toNatClampNeg x1) x0 6) * 4) + 1 : Int32).toNatClampNeg x2) a3 (((cI (wI (wI M a1 ((cI M x0 6) * 4 : Int32).toNatClampNeg x1) a2 (((cI (wI M a1 ((cI M x0 6) * 4 : Int32).toNatClampNeg x1) x0 6) * 4) + 1 : Int32).toNatClampNeg x2) x0 6) * 4) + 2 : Int32).toNatClampNeg x3)) else (nn (cR (wI (wI (wI M a1 ((cI M x0 6) * 4 : Int32).toNatClampNeg x1) a2 (((cI (wI M a1 ((cI M x0 6) * 4 : Int32).toNatClampNeg x1) x0 6) * 4) + 1 : Int32).toNatClampNeg x2) a3 (((cI (wI (wI M a1 ((cI M x0 6) * 4 : Int32).toNatClampNeg x1) a2 (((cI (wI M a1 ((cI M x0 6) * 4 : Int32).toNatClampNeg x1) x0 6) * 4) + 1 : Int32).toNatClampNeg x2) x0 6) * 4) + 2 : Int32).toNatClampNeg x3) x0 2) fun a5 => (bC_X0_addOrder_72 N K) x0 a5 (((cI (wI (wI (wI M a1 ((cI M x0 6) * 4 : Int32).toNatClampNeg x1) a2 (((cI (wI M a1 ((cI M x0 6) * 4 : Int32).toNatClampNeg x1) x0 6) * 4) + 1 : Int32).toNatClampNeg x2) a3 (((cI (wI (wI M a1 ((cI M x0 6) * 4 : Int32).toNatClampNeg x1) a2 (((cI (wI M a1 ((cI M x0 6) * 4 : Int32).toNatClampNeg x1) x0 6) * 4) + 1 : Int32).toNatClampNeg x2) x0 6) * 4) + 2 : Int32).toNatClampNeg x3) x0 6) * 4) + 3) 1 (wI (wI (wI M a1 ((cI M x0 6) * 4 : Int32).toNatClampNeg x1) a2 (((cI (wI M a1 ((cI M x0 6) * 4 : Int32).toNatClampNeg x1) x0 6) * 4) + 1 : Int32).toNatClampNeg x2) a3 (((cI (wI (wI M a1 ((cI M x0 6) * 4 : Int32).toNatClampNeg x1) a2 (((cI (wI M a1 ((cI M x0 6) * 4 : Int32).toNatClampNeg x1) x0 6) * 4) + 1 : Int32).toNatClampNeg x2) x0 6) * 4) + 2 : Int32).toNatClampNeg x3))))))))))
set_option maxRecDepth 100000 in
set_option maxHeartbeats 4000000 in
theorem wfC_X0_addOrder {p : Program} {l : Launch} {e : Env} {R : Room} {s : State} {m : MethodId} {args : Array Value} {below : List Frame} {meth : Method} {c : Code} {x : Xc} {o : Cm} {N : Nat} {K : Ka} (CX : CC p s m args meth c x K RX0 cX0_addOrder 5 none) (hRm : 0 ≤ R.frames ∧ 0 ≤ R.locals) (x0 : Nat) (x1 : Int32) (x2 : Int32) (x3 : Int32) (x4 : Int32) (M : Cm) (H : Heap) (locs : List Loc) (ls : Array Slot) (hf : fC_X0_addOrder N K x0 x1 x2 x3 x4 M = some o) (hR : RC x K M H) (hS : va_S (AC K) s.heap H locs) (hl : lv_has ls 5 [(0, .ref x0), (1, .int x1), (2, .int x2), (3, .int x3), (4, .int x4)]) : W p l e R s m args below meth c H locs 0 0 (MQ below (CQV x K o) args s 0 0 (AC K)) (F0 m 0 ls []) := by
  obtain ⟨hx, hb, hml, hown, hts, hE, hB, hr, hlk⟩ := id CX
  have hL : KLe K K := KLe.rf K
  have hcs : 0 ≤ R.cells ∧ 0 ≤ R.slots := ⟨Nat.zero_le _, Nat.zero_le _⟩
  unfold fC_X0_addOrder at hf
  refine lv_aload_n hx hb dX0_addOrder_0 rfl (lv_at hl 0 rfl) ?_
  obtain ⟨hk_x0_1, hf⟩ := gd_some hf
  refine cr_getI kc_0 CX hR fa_X0_31 rfl hk_x0_1 dX0_addOrder_1 ?_
  refine lv_sipush (v := 200) hx hb dX0_addOrder_4 (by decide) ?_
  refine lv_icmp_ge (tgt := 73) hx hb dX0_addOrder_7 (by decide) (fun hc => ?_) (fun hc => ?_)
  · rw [if_pos hc] at hf
    exact (wbC_X0_addOrder_73 CX hRm) _ _ _ _ _ hf hR hS (lv_sub hl [0] rfl)
  · rw [if_neg hc] at hf
    refine lv_aload_n hx hb dX0_addOrder_10 rfl (lv_at hl 0 rfl) ?_
    refine cr_getR kc_0 CX hR fa_X0_18 rfl hk_x0_1 dX0_addOrder_11 ?_
    refine lv_aload_n hx hb dX0_addOrder_14 rfl (lv_at hl 0 rfl) ?_
    refine cr_getI kc_0 CX hR fa_X0_31 rfl hk_x0_1 dX0_addOrder_15 ?_
    refine lv_iconst (v := 4) hx hb dX0_addOrder_18 (by decide) ?_
    refine lv_imul hx hb dX0_addOrder_19 ?_
    refine lv_iload_n hx hb dX0_addOrder_20 rfl (lv_at hl 1 rfl) ?_
    obtain ⟨a1, ha1, hf⟩ := nn_some hf
    refine rf_2 ha1 ?_
    obtain ⟨hk_a1_22, hf⟩ := gd_some hf
    obtain ⟨hi, hf⟩ := ck_some hf
    refine cr_iast CX hR hL hS hk_a1_22 hi dX0_addOrder_21 (fun H locs hR hS => ?_)
    refine lv_aload_n hx hb dX0_addOrder_22 rfl (lv_at hl 0 rfl) ?_
    refine cr_getR kc_0 CX hR fa_X0_18 rfl hk_x0_1 dX0_addOrder_23 ?_
    refine lv_aload_n hx hb dX0_addOrder_26 rfl (lv_at hl 0 rfl) ?_
    refine cr_getI kc_0 CX hR fa_X0_31 rfl hk_x0_1 dX0_addOrder_27 ?_
    refine lv_iconst (v := 4) hx hb dX0_addOrder_30 (by decide) ?_
    refine lv_imul hx hb dX0_addOrder_31 ?_
    refine lv_iconst (v := 1) hx hb dX0_addOrder_32 (by decide) ?_
    refine lv_iadd hx hb dX0_addOrder_33 ?_
    refine lv_iload_n hx hb dX0_addOrder_34 rfl (lv_at hl 2 rfl) ?_
    obtain ⟨a2, ha2, hf⟩ := nn_some hf
    refine rf_2 ha2 ?_
    obtain ⟨hk_a2_22, hf⟩ := gd_some hf
    obtain ⟨hi, hf⟩ := ck_some hf
    refine cr_iast CX hR hL hS hk_a2_22 hi dX0_addOrder_35 (fun H locs hR hS => ?_)
    refine lv_aload_n hx hb dX0_addOrder_36 rfl (lv_at hl 0 rfl) ?_
    refine cr_getR kc_0 CX hR fa_X0_18 rfl hk_x0_1 dX0_addOrder_37 ?_
    refine lv_aload_n hx hb dX0_addOrder_40 rfl (lv_at hl 0 rfl) ?_
    refine cr_getI kc_0 CX hR fa_X0_31 rfl hk_x0_1 dX0_addOrder_41 ?_
    refine lv_iconst (v := 4) hx hb dX0_addOrder_44 (by decide) ?_
    refine lv_imul hx hb dX0_addOrder_45 ?_
    refine lv_iconst (v := 2) hx hb dX0_addOrder_46 (by decide) ?_
    refine lv_iadd hx hb dX0_addOrder_47 ?_
    refine lv_iload_n hx hb dX0_addOrder_48 rfl (lv_at hl 3 rfl) ?_
    obtain ⟨a3, ha3, hf⟩ := nn_some hf
    refine rf_2 ha3 ?_
    obtain ⟨hk_a3_22, hf⟩ := gd_some hf
    obtain ⟨hi, hf⟩ := ck_some hf
    refine cr_iast CX hR hL hS hk_a3_22 hi dX0_addOrder_49 (fun H locs hR hS => ?_)
    refine lv_aload_n hx hb dX0_addOrder_50 rfl (lv_at hl 0 rfl) ?_
    refine cr_getR kc_0 CX hR fa_X0_18 rfl hk_x0_1 dX0_addOrder_51 ?_
    refine lv_aload_n hx hb dX0_addOrder_54 rfl (lv_at hl 0 rfl) ?_
    refine cr_getI kc_0 CX hR fa_X0_31 rfl hk_x0_1 dX0_addOrder_55 ?_
    refine lv_iconst (v := 4) hx hb dX0_addOrder_58 (by decide) ?_
    refine lv_imul hx hb dX0_addOrder_59 ?_
    refine lv_iconst (v := 3) hx hb dX0_addOrder_60 (by decide) ?_
    refine lv_iadd hx hb dX0_addOrder_61 ?_
    refine lv_iload hx hb dX0_addOrder_62 (lv_at hl 4 rfl) ?_
    refine lv_if_eq (tgt := 71) hx hb dX0_addOrder_64 (by decide) (fun hc => ?_) (fun hc => ?_)
    · rw [if_pos hc] at hf
      refine lv_iconst (v := 0) hx hb dX0_addOrder_71 (by decide) ?_
      obtain ⟨a4, ha4, hf⟩ := nn_some hf
      refine rf_2 ha4 ?_
      exact (wbC_X0_addOrder_72 CX hRm) _ _ _ _ _ _ _ _ hf hR hS (lv_sub hl [0] rfl)
    · rw [if_neg hc] at hf
      refine lv_iconst (v := 1) hx hb dX0_addOrder_67 (by decide) ?_
      refine lv_goto (tgt := 72) hx hb dX0_addOrder_68 (by decide) ?_
      obtain ⟨a5, ha5, hf⟩ := nn_some hf
      refine rf_2 ha5 ?_
      exact (wbC_X0_addOrder_72 CX hRm) _ _ _ _ _ _ _ _ hf hR hS (lv_sub hl [0] rfl)
theorem MC_X0_addOrder (l : Launch) (x : Xc) (N : Nat) (K : Ka) (x0 : Nat) (x1 : Int32) (x2 : Int32) (x3 : Int32) (x4 : Int32) (M : Cm) (o : Cm) (hf : fC_X0_addOrder N K x0 x1 x2 x3 x4 M = some o) : CtV l x yX0_addOrder cX0_addOrder 5 0 0 [.ref x0, .int x1, .int x2, .int x3, .int x4] K M o :=
  cr_metV RX0 (by decide) rfl (Nat.le_of_ble_eq_true rfl) (fun p e s m args below meth c ls CX hR hl => wfC_X0_addOrder CX ⟨Nat.le_refl _, Nat.le_refl _⟩ x0 x1 x2 x3 x4 M s.heap [] ls hf hR va_S.rf hl)
def bC_X0_addClosed_45 (N : Nat) (K : Ka) (x0 : Nat) (M : Cm) : Option (Cm) := some M
set_option maxRecDepth 100000 in
set_option maxHeartbeats 4000000 in
theorem wbC_X0_addClosed_45 {p : Program} {l : Launch} {e : Env} {R : Room} {s : State} {m : MethodId} {args : Array Value} {below : List Frame} {meth : Method} {c : Code} {x : Xc} {o : Cm} {N : Nat} {K : Ka} (CX : CC p s m args meth c x K RX0 cX0_addClosed 3 none) (hRm : 0 ≤ R.frames ∧ 0 ≤ R.locals) (x0 : Nat) (M : Cm) (H : Heap) (locs : List Loc) (ls : Array Slot) (hf : bC_X0_addClosed_45 N K x0 M = some o) (hR : RC x K M H) (hS : va_S (AC K) s.heap H locs) (hl : lv_has ls 3 [(0, .ref x0)]) : W p l e R s m args below meth c H locs 0 0 (MQ below (CQV x K o) args s 0 0 (AC K)) (F0 m 45 ls []) := by
  obtain ⟨hx, hb, hml, hown, hts, hE, hB, hr, hlk⟩ := id CX
  have hL : KLe K K := KLe.rf K
  have hcs : 0 ≤ R.cells ∧ 0 ≤ R.slots := ⟨Nat.zero_le _, Nat.zero_le _⟩
  unfold bC_X0_addClosed_45 at hf
  exact cr_vret CX hR hS hf dX0_addClosed_45
def fC_X0_addClosed (N : Nat) (K : Ka) (x0 : Nat) (x1 : Int32) (x2 : Int32) (M : Cm) : Option (Cm) := gd (kd K x0 == 1) (if 24 ≤ (cI M x0 7) then ((bC_X0_addClosed_45 N K) x0 M) else (nn (cR M x0 3) fun a1 => gd (kd K a1 == 22) (ck ((cI M x0 7) * 2) (le K a1) (nn (cR (wI M a1 ((cI M x0 7) * 2 : Int32).toNatClampNeg x1) x0 3) fun a2 => gd (kd K a2 == 22) (ck (((cI (wI M a1 ((cI M x0 7) * 2 : Int32).toNatClampNeg x1) x0 7) * 2) + 1) (le K a2) ((bC_X0_addClosed_45 N K) x0 (wI (wI (wI M a1 ((cI M x0 7) * 2 : Int32).toNatClampNeg x1) a2 (((cI (wI M a1 ((cI M x0 7) * 2 : Int32).toNatClampNeg x1) x0 7) * 2) + 1 : Int32).toNatClampNeg x2) x0 7 ((cI (wI (wI M a1 ((cI M x0 7) * 2 : Int32).toNatClampNeg x1) a2 (((cI (wI M a1 ((cI M x0 7) * 2 : Int32).toNatClampNeg x1) x0 7) * 2) + 1 : Int32).toNatClampNeg x2) x0 7) + 1))))))))
set_option maxRecDepth 100000 in
set_option maxHeartbeats 4000000 in
theorem wfC_X0_addClosed {p : Program} {l : Launch} {e : Env} {R : Room} {s : State} {m : MethodId} {args : Array Value} {below : List Frame} {meth : Method} {c : Code} {x : Xc} {o : Cm} {N : Nat} {K : Ka} (CX : CC p s m args meth c x K RX0 cX0_addClosed 3 none) (hRm : 0 ≤ R.frames ∧ 0 ≤ R.locals) (x0 : Nat) (x1 : Int32) (x2 : Int32) (M : Cm) (H : Heap) (locs : List Loc) (ls : Array Slot) (hf : fC_X0_addClosed N K x0 x1 x2 M = some o) (hR : RC x K M H) (hS : va_S (AC K) s.heap H locs) (hl : lv_has ls 3 [(0, .ref x0), (1, .int x1), (2, .int x2)]) : W p l e R s m args below meth c H locs 0 0 (MQ below (CQV x K o) args s 0 0 (AC K)) (F0 m 0 ls []) := by
  obtain ⟨hx, hb, hml, hown, hts, hE, hB, hr, hlk⟩ := id CX
  have hL : KLe K K := KLe.rf K
  have hcs : 0 ≤ R.cells ∧ 0 ≤ R.slots := ⟨Nat.zero_le _, Nat.zero_le _⟩
  unfold fC_X0_addClosed at hf
  refine lv_aload_n hx hb dX0_addClosed_0 rfl (lv_at hl 0 rfl) ?_
  obtain ⟨hk_x0_1, hf⟩ := gd_some hf
  refine cr_getI kc_0 CX hR fa_X0_34 rfl hk_x0_1 dX0_addClosed_1 ?_
  refine lv_bipush (v := 24) hx hb dX0_addClosed_4 (by decide) ?_
  refine lv_icmp_ge (tgt := 45) hx hb dX0_addClosed_6 (by decide) (fun hc => ?_) (fun hc => ?_)
  · rw [if_pos hc] at hf
    exact (wbC_X0_addClosed_45 CX hRm) _ _ _ _ _ hf hR hS (lv_sub hl [0] rfl)
  · rw [if_neg hc] at hf
    refine lv_aload_n hx hb dX0_addClosed_9 rfl (lv_at hl 0 rfl) ?_
    refine cr_getR kc_0 CX hR fa_X0_21 rfl hk_x0_1 dX0_addClosed_10 ?_
    refine lv_aload_n hx hb dX0_addClosed_13 rfl (lv_at hl 0 rfl) ?_
    refine cr_getI kc_0 CX hR fa_X0_34 rfl hk_x0_1 dX0_addClosed_14 ?_
    refine lv_iconst (v := 2) hx hb dX0_addClosed_17 (by decide) ?_
    refine lv_imul hx hb dX0_addClosed_18 ?_
    refine lv_iload_n hx hb dX0_addClosed_19 rfl (lv_at hl 1 rfl) ?_
    obtain ⟨a1, ha1, hf⟩ := nn_some hf
    refine rf_2 ha1 ?_
    obtain ⟨hk_a1_22, hf⟩ := gd_some hf
    obtain ⟨hi, hf⟩ := ck_some hf
    refine cr_iast CX hR hL hS hk_a1_22 hi dX0_addClosed_20 (fun H locs hR hS => ?_)
    refine lv_aload_n hx hb dX0_addClosed_21 rfl (lv_at hl 0 rfl) ?_
    refine cr_getR kc_0 CX hR fa_X0_21 rfl hk_x0_1 dX0_addClosed_22 ?_
    refine lv_aload_n hx hb dX0_addClosed_25 rfl (lv_at hl 0 rfl) ?_
    refine cr_getI kc_0 CX hR fa_X0_34 rfl hk_x0_1 dX0_addClosed_26 ?_
    refine lv_iconst (v := 2) hx hb dX0_addClosed_29 (by decide) ?_
    refine lv_imul hx hb dX0_addClosed_30 ?_
    refine lv_iconst (v := 1) hx hb dX0_addClosed_31 (by decide) ?_
    refine lv_iadd hx hb dX0_addClosed_32 ?_
    refine lv_iload_n hx hb dX0_addClosed_33 rfl (lv_at hl 2 rfl) ?_
    obtain ⟨a2, ha2, hf⟩ := nn_some hf
    refine rf_2 ha2 ?_
    obtain ⟨hk_a2_22, hf⟩ := gd_some hf
    obtain ⟨hi, hf⟩ := ck_some hf
    refine cr_iast CX hR hL hS hk_a2_22 hi dX0_addClosed_34 (fun H locs hR hS => ?_)
    refine lv_aload_n hx hb dX0_addClosed_35 rfl (lv_at hl 0 rfl) ?_
    refine lv_dup hx hb dX0_addClosed_36 rfl ?_
    refine cr_getI kc_0 CX hR fa_X0_34 rfl hk_x0_1 dX0_addClosed_37 ?_
    refine lv_iconst (v := 1) hx hb dX0_addClosed_40 (by decide) ?_
    refine lv_iadd hx hb dX0_addClosed_41 ?_
    refine cr_putI kc_0 CX hR hL hS fa_X0_34 ⟨rfl, rfl, rfl⟩ hk_x0_1 dX0_addClosed_42 (fun H locs hR hS => ?_)
    exact (wbC_X0_addClosed_45 CX hRm) _ _ _ _ _ hf hR hS (lv_sub hl [0] rfl)
theorem MC_X0_addClosed (l : Launch) (x : Xc) (N : Nat) (K : Ka) (x0 : Nat) (x1 : Int32) (x2 : Int32) (M : Cm) (o : Cm) (hf : fC_X0_addClosed N K x0 x1 x2 M = some o) : CtV l x yX0_addClosed cX0_addClosed 3 0 0 [.ref x0, .int x1, .int x2] K M o :=
  cr_metV RX0 (by decide) rfl (Nat.le_of_ble_eq_true rfl) (fun p e s m args below meth c ls CX hR hl => wfC_X0_addClosed CX ⟨Nat.le_refl _, Nat.le_refl _⟩ x0 x1 x2 M s.heap [] ls hf hR va_S.rf hl)
def bC_X0_at_44 (N : Nat) (K : Ka) (s0 : Int32) (M : Cm) : Option (Int32 × Cm) := some (s0, M)
set_option maxRecDepth 100000 in
set_option maxHeartbeats 4000000 in
theorem wbC_X0_at_44 {p : Program} {l : Launch} {e : Env} {R : Room} {s : State} {m : MethodId} {args : Array Value} {below : List Frame} {meth : Method} {c : Code} {x : Xc} {o : Int32 × Cm} {N : Nat} {K : Ka} (CX : CC p s m args meth c x K RX0 cX0_at 6 (some .int)) (hRm : 0 ≤ R.frames ∧ 0 ≤ R.locals) (s0 : Int32) (M : Cm) (H : Heap) (locs : List Loc) (ls : Array Slot) (hf : bC_X0_at_44 N K s0 M = some o) (hR : RC x K M H) (hS : va_S (AC K) s.heap H locs) (hl : lv_has ls 6 []) : W p l e R s m args below meth c H locs 0 0 (MQ below (CQI x K o) args s 0 0 (AC K)) (F0 m 44 ls [.int s0]) := by
  obtain ⟨hx, hb, hml, hown, hts, hE, hB, hr, hlk⟩ := id CX
  have hL : KLe K K := KLe.rf K
  have hcs : 0 ≤ R.cells ∧ 0 ≤ R.slots := ⟨Nat.zero_le _, Nat.zero_le _⟩
  unfold bC_X0_at_44 at hf
  exact cr_iret CX hR hS hf dX0_at_44
def bC_X0_at_25 (N : Nat) (K : Ka) (x0 : Nat) (x2 : Int32) (x3 : Int32) (x4 : Int32) (s0 : Int32) (M : Cm) : Option (Int32 × Cm) := if s0 = 0 then ((bC_X0_at_44 N K) (-1) M) else (gd (kd K x0 == 22) (ck ((x3 * x2) + x4) (le K x0) ((bC_X0_at_44 N K) (cI M x0 ((x3 * x2) + x4 : Int32).toNatClampNeg) M)))
set_option maxRecDepth 100000 in
set_option maxHeartbeats 4000000 in
theorem wbC_X0_at_25 {p : Program} {l : Launch} {e : Env} {R : Room} {s : State} {m : MethodId} {args : Array Value} {below : List Frame} {meth : Method} {c : Code} {x : Xc} {o : Int32 × Cm} {N : Nat} {K : Ka} (CX : CC p s m args meth c x K RX0 cX0_at 6 (some .int)) (hRm : 0 ≤ R.frames ∧ 0 ≤ R.locals) (x0 : Nat) (x2 : Int32) (x3 : Int32) (x4 : Int32) (s0 : Int32) (M : Cm) (H : Heap) (locs : List Loc) (ls : Array Slot) (hf : bC_X0_at_25 N K x0 x2 x3 x4 s0 M = some o) (hR : RC x K M H) (hS : va_S (AC K) s.heap H locs) (hl : lv_has ls 6 [(0, .ref x0), (2, .int x2), (3, .int x3), (4, .int x4)]) : W p l e R s m args below meth c H locs 0 0 (MQ below (CQI x K o) args s 0 0 (AC K)) (F0 m 25 ls [.int s0]) := by
  obtain ⟨hx, hb, hml, hown, hts, hE, hB, hr, hlk⟩ := id CX
  have hL : KLe K K := KLe.rf K
  have hcs : 0 ≤ R.cells ∧ 0 ≤ R.slots := ⟨Nat.zero_le _, Nat.zero_le _⟩
  unfold bC_X0_at_25 at hf
  refine lv_istore (lv' := [(5, .int s0), (0, .ref x0), (2, .int x2), (3, .int x3), (4, .int x4)]) hx hb dX0_at_25 hl (by decide) rfl (fun ls hl => ?_)
  refine lv_iload hx hb dX0_at_27 (lv_at hl 0 rfl) ?_
  refine lv_if_eq (tgt := 43) hx hb dX0_at_29 (by decide) (fun hc => ?_) (fun hc => ?_)
  · rw [if_pos hc] at hf
    refine lv_iconst (v := (-1)) hx hb dX0_at_43 (by decide) ?_
    exact (wbC_X0_at_44 CX hRm) _ _ _ _ _ hf hR hS (lv_sub hl [] rfl)
  · rw [if_neg hc] at hf
    refine lv_aload_n hx hb dX0_at_32 rfl (lv_at hl 1 rfl) ?_
    refine lv_iload_n hx hb dX0_at_33 rfl (lv_at hl 3 rfl) ?_
    refine lv_iload_n hx hb dX0_at_34 rfl (lv_at hl 2 rfl) ?_
    refine lv_imul hx hb dX0_at_35 ?_
    refine lv_iload hx hb dX0_at_36 (lv_at hl 4 rfl) ?_
    refine lv_iadd hx hb dX0_at_38 ?_
    obtain ⟨hk_x0_22, hf⟩ := gd_some hf
    obtain ⟨hi, hf⟩ := ck_some hf
    refine cr_iald CX hR hk_x0_22 hi dX0_at_39 ?_
    refine lv_goto (tgt := 44) hx hb dX0_at_40 (by decide) ?_
    exact (wbC_X0_at_44 CX hRm) _ _ _ _ _ hf hR hS (lv_sub hl [] rfl)
def bC_X0_at_24 (N : Nat) (K : Ka) (x0 : Nat) (x2 : Int32) (x3 : Int32) (x4 : Int32) (M : Cm) : Option (Int32 × Cm) := (bC_X0_at_25 N K) x0 x2 x3 x4 0 M
set_option maxRecDepth 100000 in
set_option maxHeartbeats 4000000 in
theorem wbC_X0_at_24 {p : Program} {l : Launch} {e : Env} {R : Room} {s : State} {m : MethodId} {args : Array Value} {below : List Frame} {meth : Method} {c : Code} {x : Xc} {o : Int32 × Cm} {N : Nat} {K : Ka} (CX : CC p s m args meth c x K RX0 cX0_at 6 (some .int)) (hRm : 0 ≤ R.frames ∧ 0 ≤ R.locals) (x0 : Nat) (x2 : Int32) (x3 : Int32) (x4 : Int32) (M : Cm) (H : Heap) (locs : List Loc) (ls : Array Slot) (hf : bC_X0_at_24 N K x0 x2 x3 x4 M = some o) (hR : RC x K M H) (hS : va_S (AC K) s.heap H locs) (hl : lv_has ls 6 [(0, .ref x0), (2, .int x2), (3, .int x3), (4, .int x4)]) : W p l e R s m args below meth c H locs 0 0 (MQ below (CQI x K o) args s 0 0 (AC K)) (F0 m 24 ls []) := by
  obtain ⟨hx, hb, hml, hown, hts, hE, hB, hr, hlk⟩ := id CX
  have hL : KLe K K := KLe.rf K
  have hcs : 0 ≤ R.cells ∧ 0 ≤ R.slots := ⟨Nat.zero_le _, Nat.zero_le _⟩
  unfold bC_X0_at_24 at hf
  refine lv_iconst (v := 0) hx hb dX0_at_24 (by decide) ?_
  exact (wbC_X0_at_25 CX hRm) _ _ _ _ _ _ _ _ _ hf hR hS (lv_sub hl [0, 1, 2, 3] rfl)
def fC_X0_at (N : Nat) (K : Ka) (x0 : Nat) (x1 : Int32) (x2 : Int32) (x3 : Int32) (x4 : Int32) (M : Cm) : Option (Int32 × Cm) := if x3 < 0 then ((bC_X0_at_24 N K) x0 x2 x3 x4 M) else (if x1 ≤ x3 then ((bC_X0_at_24 N K) x0 x2 x3 x4 M) else (if x4 < 0 then ((bC_X0_at_24 N K) x0 x2 x3 x4 M) else (if x2 ≤ x4 then ((bC_X0_at_24 N K) x0 x2 x3 x4 M) else ((bC_X0_at_25 N K) x0 x2 x3 x4 1 M))))
set_option maxRecDepth 100000 in
set_option maxHeartbeats 4000000 in
theorem wfC_X0_at {p : Program} {l : Launch} {e : Env} {R : Room} {s : State} {m : MethodId} {args : Array Value} {below : List Frame} {meth : Method} {c : Code} {x : Xc} {o : Int32 × Cm} {N : Nat} {K : Ka} (CX : CC p s m args meth c x K RX0 cX0_at 6 (some .int)) (hRm : 0 ≤ R.frames ∧ 0 ≤ R.locals) (x0 : Nat) (x1 : Int32) (x2 : Int32) (x3 : Int32) (x4 : Int32) (M : Cm) (H : Heap) (locs : List Loc) (ls : Array Slot) (hf : fC_X0_at N K x0 x1 x2 x3 x4 M = some o) (hR : RC x K M H) (hS : va_S (AC K) s.heap H locs) (hl : lv_has ls 6 [(0, .ref x0), (1, .int x1), (2, .int x2), (3, .int x3), (4, .int x4)]) : W p l e R s m args below meth c H locs 0 0 (MQ below (CQI x K o) args s 0 0 (AC K)) (F0 m 0 ls []) := by
  obtain ⟨hx, hb, hml, hown, hts, hE, hB, hr, hlk⟩ := id CX
  have hL : KLe K K := KLe.rf K
  have hcs : 0 ≤ R.cells ∧ 0 ≤ R.slots := ⟨Nat.zero_le _, Nat.zero_le _⟩
  unfold fC_X0_at at hf
  refine lv_iload_n hx hb dX0_at_0 rfl (lv_at hl 3 rfl) ?_
  refine lv_if_lt (tgt := 24) hx hb dX0_at_1 (by decide) (fun hc => ?_) (fun hc => ?_)
  · rw [if_pos hc] at hf
    exact (wbC_X0_at_24 CX hRm) _ _ _ _ _ _ _ _ hf hR hS (lv_sub hl [0, 2, 3, 4] rfl)
  · rw [if_neg hc] at hf
    refine lv_iload_n hx hb dX0_at_4 rfl (lv_at hl 3 rfl) ?_
    refine lv_iload_n hx hb dX0_at_5 rfl (lv_at hl 1 rfl) ?_
    refine lv_icmp_ge (tgt := 24) hx hb dX0_at_6 (by decide) (fun hc => ?_) (fun hc => ?_)
    · rw [if_pos hc] at hf
      exact (wbC_X0_at_24 CX hRm) _ _ _ _ _ _ _ _ hf hR hS (lv_sub hl [0, 2, 3, 4] rfl)
    · rw [if_neg hc] at hf
      refine lv_iload hx hb dX0_at_9 (lv_at hl 4 rfl) ?_
      refine lv_if_lt (tgt := 24) hx hb dX0_at_11 (by decide) (fun hc => ?_) (fun hc => ?_)
      · rw [if_pos hc] at hf
        exact (wbC_X0_at_24 CX hRm) _ _ _ _ _ _ _ _ hf hR hS (lv_sub hl [0, 2, 3, 4] rfl)
      · rw [if_neg hc] at hf
        refine lv_iload hx hb dX0_at_14 (lv_at hl 4 rfl) ?_
        refine lv_iload_n hx hb dX0_at_16 rfl (lv_at hl 2 rfl) ?_
        refine lv_icmp_ge (tgt := 24) hx hb dX0_at_17 (by decide) (fun hc => ?_) (fun hc => ?_)
        · rw [if_pos hc] at hf
          exact (wbC_X0_at_24 CX hRm) _ _ _ _ _ _ _ _ hf hR hS (lv_sub hl [0, 2, 3, 4] rfl)
        · rw [if_neg hc] at hf
          refine lv_iconst (v := 1) hx hb dX0_at_20 (by decide) ?_
          refine lv_goto (tgt := 25) hx hb dX0_at_21 (by decide) ?_
          exact (wbC_X0_at_25 CX hRm) _ _ _ _ _ _ _ _ _ hf hR hS (lv_sub hl [0, 2, 3, 4] rfl)
theorem MC_X0_at (l : Launch) (x : Xc) (N : Nat) (K : Ka) (x0 : Nat) (x1 : Int32) (x2 : Int32) (x3 : Int32) (x4 : Int32) (M : Cm) (o : Int32 × Cm) (hf : fC_X0_at N K x0 x1 x2 x3 x4 M = some o) : CtI l x yX0_at cX0_at 6 (some .int) 0 0 [.ref x0, .int x1, .int x2, .int x3, .int x4] K M o :=
  cr_metI RX0 (by decide) rfl (Nat.le_of_ble_eq_true rfl) (fun p e s m args below meth c ls CX hR hl => wfC_X0_at CX ⟨Nat.le_refl _, Nat.le_refl _⟩ x0 x1 x2 x3 x4 M s.heap [] ls hf hR va_S.rf hl)
def fC_X0_upAt (N : Nat) (K : Ka) (x0 : Nat) (x1 : Int32) (x2 : Int32) (M : Cm) : Option (Int32 × Cm) := gd (kd K x0 == 1) (nn (cR M x0 0) fun a1 => (fC_X0_at N K a1 (cI M x0 4) 3 x1 x2 M).bind fun o11 => some (o11.1, o11.2))
set_option maxRecDepth 100000 in
set_option maxHeartbeats 4000000 in
theorem wfC_X0_upAt {p : Program} {l : Launch} {e : Env} {R : Room} {s : State} {m : MethodId} {args : Array Value} {below : List Frame} {meth : Method} {c : Code} {x : Xc} {o : Int32 × Cm} {N : Nat} {K : Ka} (CX : CC p s m args meth c x K RX0 cX0_upAt 3 (some .int)) (hRm : 1 ≤ R.frames ∧ 25 ≤ R.locals) (x0 : Nat) (x1 : Int32) (x2 : Int32) (M : Cm) (H : Heap) (locs : List Loc) (ls : Array Slot) (hf : fC_X0_upAt N K x0 x1 x2 M = some o) (hR : RC x K M H) (hS : va_S (AC K) s.heap H locs) (hl : lv_has ls 3 [(0, .ref x0), (1, .int x1), (2, .int x2)]) : W p l e R s m args below meth c H locs 0 0 (MQ below (CQI x K o) args s 0 0 (AC K)) (F0 m 0 ls []) := by
  obtain ⟨hx, hb, hml, hown, hts, hE, hB, hr, hlk⟩ := id CX
  have hL : KLe K K := KLe.rf K
  have hcs : 0 ≤ R.cells ∧ 0 ≤ R.slots := ⟨Nat.zero_le _, Nat.zero_le _⟩
  unfold fC_X0_upAt at hf
  refine lv_aload_n hx hb dX0_upAt_0 rfl (lv_at hl 0 rfl) ?_
  obtain ⟨hk_x0_1, hf⟩ := gd_some hf
  refine cr_getR kc_0 CX hR fa_X0_9 rfl hk_x0_1 dX0_upAt_1 ?_
  refine lv_aload_n hx hb dX0_upAt_4 rfl (lv_at hl 0 rfl) ?_
  refine cr_getI kc_0 CX hR fa_X0_24 rfl hk_x0_1 dX0_upAt_5 ?_
  refine lv_iconst (v := 3) hx hb dX0_upAt_8 (by decide) ?_
  refine lv_iload_n hx hb dX0_upAt_9 rfl (lv_at hl 1 rfl) ?_
  refine lv_iload_n hx hb dX0_upAt_10 rfl (lv_at hl 2 rfl) ?_
  obtain ⟨a1, ha1, hf⟩ := nn_some hf
  refine rf_4 ha1 ?_
  obtain ⟨o11, ho11, hf⟩ := bnd_some hf
  refine cr_callIs CX hR hL hS (As := [.ref a1, .int (cI M x0 4), .int 3, .int x1, .int x2]) (rest := []) (MC_X0_at l x N K a1 (cI M x0 4) 3 x1 x2 M o11 ho11) cs_X0_41 ⟨by omega, by omega⟩ rfl rfl (Nat.le_of_ble_eq_true rfl) hl.1 dX0_upAt_11 hcs (fun H locs hR hS => ?_)
  exact cr_iret CX hR hS hf dX0_upAt_14
theorem MC_X0_upAt (l : Launch) (x : Xc) (N : Nat) (K : Ka) (x0 : Nat) (x1 : Int32) (x2 : Int32) (M : Cm) (o : Int32 × Cm) (hf : fC_X0_upAt N K x0 x1 x2 M = some o) : CtI l x yX0_upAt cX0_upAt 3 (some .int) 1 25 [.ref x0, .int x1, .int x2] K M o :=
  cr_metI RX0 (by decide) rfl (Nat.le_of_ble_eq_true rfl) (fun p e s m args below meth c ls CX hR hl => wfC_X0_upAt CX ⟨Nat.le_refl _, Nat.le_refl _⟩ x0 x1 x2 M s.heap [] ls hf hR va_S.rf hl)
def fC_X0_halfAt (N : Nat) (K : Ka) (x0 : Nat) (x1 : Int32) (x2 : Int32) (M : Cm) : Option (Int32 × Cm) := gd (kd K x0 == 1) (nn (cR M x0 1) fun a1 => (fC_X0_at N K a1 (if 200 < (cI M x0 5) then 200 else (cI M x0 5)) 3 x1 x2 M).bind fun o17 => some (o17.1, o17.2))
set_option maxRecDepth 100000 in
set_option maxHeartbeats 4000000 in
theorem wfC_X0_halfAt {p : Program} {l : Launch} {e : Env} {R : Room} {s : State} {m : MethodId} {args : Array Value} {below : List Frame} {meth : Method} {c : Code} {x : Xc} {o : Int32 × Cm} {N : Nat} {K : Ka} (CX : CC p s m args meth c x K RX0 cX0_halfAt 3 (some .int)) (hRm : 1 ≤ R.frames ∧ 40 ≤ R.locals) (x0 : Nat) (x1 : Int32) (x2 : Int32) (M : Cm) (H : Heap) (locs : List Loc) (ls : Array Slot) (hf : fC_X0_halfAt N K x0 x1 x2 M = some o) (hR : RC x K M H) (hS : va_S (AC K) s.heap H locs) (hl : lv_has ls 3 [(0, .ref x0), (1, .int x1), (2, .int x2)]) : W p l e R s m args below meth c H locs 0 0 (MQ below (CQI x K o) args s 0 0 (AC K)) (F0 m 0 ls []) := by
  obtain ⟨hx, hb, hml, hown, hts, hE, hB, hr, hlk⟩ := id CX
  have hL : KLe K K := KLe.rf K
  have hcs : 0 ≤ R.cells ∧ 0 ≤ R.slots := ⟨Nat.zero_le _, Nat.zero_le _⟩
  unfold fC_X0_halfAt at hf
  refine lv_aload_n hx hb dX0_halfAt_0 rfl (lv_at hl 0 rfl) ?_
  obtain ⟨hk_x0_1, hf⟩ := gd_some hf
  refine cr_getR kc_0 CX hR fa_X0_15 rfl hk_x0_1 dX0_halfAt_1 ?_
  refine lv_aload_n hx hb dX0_halfAt_4 rfl (lv_at hl 0 rfl) ?_
  refine cr_getI kc_0 CX hR fa_X0_28 rfl hk_x0_1 dX0_halfAt_5 ?_
  refine lv_sipush (v := 200) hx hb dX0_halfAt_8 (by decide) ?_
  obtain ⟨a1, ha1, hf⟩ := nn_some hf
  refine rf_2 ha1 ?_
  refine cr_minI CX wl_X0_45 hl.1 (by omega) (by omega) (Nat.le_of_ble_eq_true rfl) hcs dX0_halfAt_11 ?_
  refine lv_iconst (v := 3) hx hb dX0_halfAt_14 (by decide) ?_
  refine lv_iload_n hx hb dX0_halfAt_15 rfl (lv_at hl 1 rfl) ?_
  refine lv_iload_n hx hb dX0_halfAt_16 rfl (lv_at hl 2 rfl) ?_
  obtain ⟨o17, ho17, hf⟩ := bnd_some hf
  refine cr_callIs CX hR hL hS (As := [.ref a1, .int (if 200 < (cI M x0 5) then 200 else (cI M x0 5)), .int 3, .int x1, .int x2]) (rest := []) (MC_X0_at l x N K a1 (if 200 < (cI M x0 5) then 200 else (cI M x0 5)) 3 x1 x2 M o17 ho17) cs_X0_41 ⟨by omega, by omega⟩ rfl rfl (Nat.le_of_ble_eq_true rfl) hl.1 dX0_halfAt_17 hcs (fun H locs hR hS => ?_)
  exact cr_iret CX hR hS hf dX0_halfAt_20
theorem MC_X0_halfAt (l : Launch) (x : Xc) (N : Nat) (K : Ka) (x0 : Nat) (x1 : Int32) (x2 : Int32) (M : Cm) (o : Int32 × Cm) (hf : fC_X0_halfAt N K x0 x1 x2 M = some o) : CtI l x yX0_halfAt cX0_halfAt 3 (some .int) 1 40 [.ref x0, .int x1, .int x2] K M o :=
  cr_metI RX0 (by decide) rfl (Nat.le_of_ble_eq_true rfl) (fun p e s m args below meth c ls CX hR hl => wfC_X0_halfAt CX ⟨Nat.le_refl _, Nat.le_refl _⟩ x0 x1 x2 M s.heap [] ls hf hR va_S.rf hl)
def fC_X0_orderAt (N : Nat) (K : Ka) (x0 : Nat) (x1 : Int32) (x2 : Int32) (M : Cm) : Option (Int32 × Cm) := gd (kd K x0 == 1) (nn (cR M x0 2) fun a1 => (fC_X0_at N K a1 (if 200 < (cI M x0 6) then 200 else (cI M x0 6)) 4 x1 x2 M).bind fun o17 => some (o17.1, o17.2))
set_option maxRecDepth 100000 in
set_option maxHeartbeats 4000000 in
theorem wfC_X0_orderAt {p : Program} {l : Launch} {e : Env} {R : Room} {s : State} {m : MethodId} {args : Array Value} {below : List Frame} {meth : Method} {c : Code} {x : Xc} {o : Int32 × Cm} {N : Nat} {K : Ka} (CX : CC p s m args meth c x K RX0 cX0_orderAt 3 (some .int)) (hRm : 1 ≤ R.frames ∧ 40 ≤ R.locals) (x0 : Nat) (x1 : Int32) (x2 : Int32) (M : Cm) (H : Heap) (locs : List Loc) (ls : Array Slot) (hf : fC_X0_orderAt N K x0 x1 x2 M = some o) (hR : RC x K M H) (hS : va_S (AC K) s.heap H locs) (hl : lv_has ls 3 [(0, .ref x0), (1, .int x1), (2, .int x2)]) : W p l e R s m args below meth c H locs 0 0 (MQ below (CQI x K o) args s 0 0 (AC K)) (F0 m 0 ls []) := by
  obtain ⟨hx, hb, hml, hown, hts, hE, hB, hr, hlk⟩ := id CX
  have hL : KLe K K := KLe.rf K
  have hcs : 0 ≤ R.cells ∧ 0 ≤ R.slots := ⟨Nat.zero_le _, Nat.zero_le _⟩
  unfold fC_X0_orderAt at hf
  refine lv_aload_n hx hb dX0_orderAt_0 rfl (lv_at hl 0 rfl) ?_
  obtain ⟨hk_x0_1, hf⟩ := gd_some hf
  refine cr_getR kc_0 CX hR fa_X0_18 rfl hk_x0_1 dX0_orderAt_1 ?_
  refine lv_aload_n hx hb dX0_orderAt_4 rfl (lv_at hl 0 rfl) ?_
  refine cr_getI kc_0 CX hR fa_X0_31 rfl hk_x0_1 dX0_orderAt_5 ?_
  refine lv_sipush (v := 200) hx hb dX0_orderAt_8 (by decide) ?_
  obtain ⟨a1, ha1, hf⟩ := nn_some hf
  refine rf_2 ha1 ?_
  refine cr_minI CX wl_X0_45 hl.1 (by omega) (by omega) (Nat.le_of_ble_eq_true rfl) hcs dX0_orderAt_11 ?_
  refine lv_iconst (v := 4) hx hb dX0_orderAt_14 (by decide) ?_
  refine lv_iload_n hx hb dX0_orderAt_15 rfl (lv_at hl 1 rfl) ?_
  refine lv_iload_n hx hb dX0_orderAt_16 rfl (lv_at hl 2 rfl) ?_
  obtain ⟨o17, ho17, hf⟩ := bnd_some hf
  refine cr_callIs CX hR hL hS (As := [.ref a1, .int (if 200 < (cI M x0 6) then 200 else (cI M x0 6)), .int 4, .int x1, .int x2]) (rest := []) (MC_X0_at l x N K a1 (if 200 < (cI M x0 6) then 200 else (cI M x0 6)) 4 x1 x2 M o17 ho17) cs_X0_41 ⟨by omega, by omega⟩ rfl rfl (Nat.le_of_ble_eq_true rfl) hl.1 dX0_orderAt_17 hcs (fun H locs hR hS => ?_)
  exact cr_iret CX hR hS hf dX0_orderAt_20
theorem MC_X0_orderAt (l : Launch) (x : Xc) (N : Nat) (K : Ka) (x0 : Nat) (x1 : Int32) (x2 : Int32) (M : Cm) (o : Int32 × Cm) (hf : fC_X0_orderAt N K x0 x1 x2 M = some o) : CtI l x yX0_orderAt cX0_orderAt 3 (some .int) 1 40 [.ref x0, .int x1, .int x2] K M o :=
  cr_metI RX0 (by decide) rfl (Nat.le_of_ble_eq_true rfl) (fun p e s m args below meth c ls CX hR hl => wfC_X0_orderAt CX ⟨Nat.le_refl _, Nat.le_refl _⟩ x0 x1 x2 M s.heap [] ls hf hR va_S.rf hl)
def fC_X0_closedAt (N : Nat) (K : Ka) (x0 : Nat) (x1 : Int32) (x2 : Int32) (M : Cm) : Option (Int32 × Cm) := gd (kd K x0 == 1) (nn (cR M x0 3) fun a1 => (fC_X0_at N K a1 (cI M x0 7) 2 x1 x2 M).bind fun o11 => some (o11.1, o11.2))
set_option maxRecDepth 100000 in
set_option maxHeartbeats 4000000 in
theorem wfC_X0_closedAt {p : Program} {l : Launch} {e : Env} {R : Room} {s : State} {m : MethodId} {args : Array Value} {below : List Frame} {meth : Method} {c : Code} {x : Xc} {o : Int32 × Cm} {N : Nat} {K : Ka} (CX : CC p s m args meth c x K RX0 cX0_closedAt 3 (some .int)) (hRm : 1 ≤ R.frames ∧ 25 ≤ R.locals) (x0 : Nat) (x1 : Int32) (x2 : Int32) (M : Cm) (H : Heap) (locs : List Loc) (ls : Array Slot) (hf : fC_X0_closedAt N K x0 x1 x2 M = some o) (hR : RC x K M H) (hS : va_S (AC K) s.heap H locs) (hl : lv_has ls 3 [(0, .ref x0), (1, .int x1), (2, .int x2)]) : W p l e R s m args below meth c H locs 0 0 (MQ below (CQI x K o) args s 0 0 (AC K)) (F0 m 0 ls []) := by
  obtain ⟨hx, hb, hml, hown, hts, hE, hB, hr, hlk⟩ := id CX
  have hL : KLe K K := KLe.rf K
  have hcs : 0 ≤ R.cells ∧ 0 ≤ R.slots := ⟨Nat.zero_le _, Nat.zero_le _⟩
  unfold fC_X0_closedAt at hf
  refine lv_aload_n hx hb dX0_closedAt_0 rfl (lv_at hl 0 rfl) ?_
  obtain ⟨hk_x0_1, hf⟩ := gd_some hf
  refine cr_getR kc_0 CX hR fa_X0_21 rfl hk_x0_1 dX0_closedAt_1 ?_
  refine lv_aload_n hx hb dX0_closedAt_4 rfl (lv_at hl 0 rfl) ?_
  refine cr_getI kc_0 CX hR fa_X0_34 rfl hk_x0_1 dX0_closedAt_5 ?_
  refine lv_iconst (v := 2) hx hb dX0_closedAt_8 (by decide) ?_
  refine lv_iload_n hx hb dX0_closedAt_9 rfl (lv_at hl 1 rfl) ?_
  refine lv_iload_n hx hb dX0_closedAt_10 rfl (lv_at hl 2 rfl) ?_
  obtain ⟨a1, ha1, hf⟩ := nn_some hf
  refine rf_4 ha1 ?_
  obtain ⟨o11, ho11, hf⟩ := bnd_some hf
  refine cr_callIs CX hR hL hS (As := [.ref a1, .int (cI M x0 7), .int 2, .int x1, .int x2]) (rest := []) (MC_X0_at l x N K a1 (cI M x0 7) 2 x1 x2 M o11 ho11) cs_X0_41 ⟨by omega, by omega⟩ rfl rfl (Nat.le_of_ble_eq_true rfl) hl.1 dX0_closedAt_11 hcs (fun H locs hR hS => ?_)
  exact cr_iret CX hR hS hf dX0_closedAt_14
theorem MC_X0_closedAt (l : Launch) (x : Xc) (N : Nat) (K : Ka) (x0 : Nat) (x1 : Int32) (x2 : Int32) (M : Cm) (o : Int32 × Cm) (hf : fC_X0_closedAt N K x0 x1 x2 M = some o) : CtI l x yX0_closedAt cX0_closedAt 3 (some .int) 1 25 [.ref x0, .int x1, .int x2] K M o :=
  cr_metI RX0 (by decide) rfl (Nat.le_of_ble_eq_true rfl) (fun p e s m args below meth c ls CX hR hl => wfC_X0_closedAt CX ⟨Nat.le_refl _, Nat.le_refl _⟩ x0 x1 x2 M s.heap [] ls hf hR va_S.rf hl)
def fC_X1_open (N : Nat) (K : Ka) (x0 : Nat) (x1 : Int32) (x2 : Int32) (x3 : Int32) (M : Cm) : Option (Cm) := gd (kd K x0 == 2) (some (wI (wI (wI (wI (wI M x0 1 x1) x0 2 x2) x0 3 0) x0 4 x3) x0 5 0))
set_option maxRecDepth 100000 in
set_option maxHeartbeats 4000000 in
theorem wfC_X1_open {p : Program} {l : Launch} {e : Env} {R : Room} {s : State} {m : MethodId} {args : Array Value} {below : List Frame} {meth : Method} {c : Code} {x : Xc} {o : Cm} {N : Nat} {K : Ka} (CX : CC p s m args meth c x K RX1 cX1_open 4 none) (hRm : 0 ≤ R.frames ∧ 0 ≤ R.locals) (x0 : Nat) (x1 : Int32) (x2 : Int32) (x3 : Int32) (M : Cm) (H : Heap) (locs : List Loc) (ls : Array Slot) (hf : fC_X1_open N K x0 x1 x2 x3 M = some o) (hR : RC x K M H) (hS : va_S (AC K) s.heap H locs) (hl : lv_has ls 4 [(0, .ref x0), (1, .int x1), (2, .int x2), (3, .int x3)]) : W p l e R s m args below meth c H locs 0 0 (MQ below (CQV x K o) args s 0 0 (AC K)) (F0 m 0 ls []) := by
  obtain ⟨hx, hb, hml, hown, hts, hE, hB, hr, hlk⟩ := id CX
  have hL : KLe K K := KLe.rf K
  have hcs : 0 ≤ R.cells ∧ 0 ≤ R.slots := ⟨Nat.zero_le _, Nat.zero_le _⟩
  unfold fC_X1_open at hf
  refine lv_aload_n hx hb dX1_open_0 rfl (lv_at hl 0 rfl) ?_
  refine lv_iload_n hx hb dX1_open_1 rfl (lv_at hl 1 rfl) ?_
  obtain ⟨hk_x0_2, hf⟩ := gd_some hf
  refine cr_putI kc_1 CX hR hL hS fa_X1_15 ⟨rfl, rfl, rfl⟩ hk_x0_2 dX1_open_2 (fun H locs hR hS => ?_)
  refine lv_aload_n hx hb dX1_open_5 rfl (lv_at hl 0 rfl) ?_
  refine lv_iload_n hx hb dX1_open_6 rfl (lv_at hl 2 rfl) ?_
  refine cr_putI kc_1 CX hR hL hS fa_X1_19 ⟨rfl, rfl, rfl⟩ hk_x0_2 dX1_open_7 (fun H locs hR hS => ?_)
  refine lv_aload_n hx hb dX1_open_10 rfl (lv_at hl 0 rfl) ?_
  refine lv_iconst (v := 0) hx hb dX1_open_11 (by decide) ?_
  refine cr_putI kc_1 CX hR hL hS fa_X1_22 ⟨rfl, rfl, rfl⟩ hk_x0_2 dX1_open_12 (fun H locs hR hS => ?_)
  refine lv_aload_n hx hb dX1_open_15 rfl (lv_at hl 0 rfl) ?_
  refine lv_iload_n hx hb dX1_open_16 rfl (lv_at hl 3 rfl) ?_
  refine cr_putI kc_1 CX hR hL hS fa_X1_25 ⟨rfl, rfl, rfl⟩ hk_x0_2 dX1_open_17 (fun H locs hR hS => ?_)
  refine lv_aload_n hx hb dX1_open_20 rfl (lv_at hl 0 rfl) ?_
  refine lv_iconst (v := 0) hx hb dX1_open_21 (by decide) ?_
  refine cr_putI kc_1 CX hR hL hS fa_X1_28 ⟨rfl, rfl, rfl⟩ hk_x0_2 dX1_open_22 (fun H locs hR hS => ?_)
  exact cr_vret CX hR hS hf dX1_open_25
theorem MC_X1_open (l : Launch) (x : Xc) (N : Nat) (K : Ka) (x0 : Nat) (x1 : Int32) (x2 : Int32) (x3 : Int32) (M : Cm) (o : Cm) (hf : fC_X1_open N K x0 x1 x2 x3 M = some o) : CtV l x yX1_open cX1_open 4 0 0 [.ref x0, .int x1, .int x2, .int x3] K M o :=
  cr_metV RX1 (by decide) rfl (Nat.le_of_ble_eq_true rfl) (fun p e s m args below meth c ls CX hR hl => wfC_X1_open CX ⟨Nat.le_refl _, Nat.le_refl _⟩ x0 x1 x2 x3 M s.heap [] ls hf hR va_S.rf hl)
def bC_X1_addTry_32 (N : Nat) (K : Ka) (x0 : Nat) (M : Cm) : Option (Cm) := some M
set_option maxRecDepth 100000 in
set_option maxHeartbeats 4000000 in
theorem wbC_X1_addTry_32 {p : Program} {l : Launch} {e : Env} {R : Room} {s : State} {m : MethodId} {args : Array Value} {below : List Frame} {meth : Method} {c : Code} {x : Xc} {o : Cm} {N : Nat} {K : Ka} (CX : CC p s m args meth c x K RX1 cX1_addTry 2 none) (hRm : 0 ≤ R.frames ∧ 0 ≤ R.locals) (x0 : Nat) (M : Cm) (H : Heap) (locs : List Loc) (ls : Array Slot) (hf : bC_X1_addTry_32 N K x0 M = some o) (hR : RC x K M H) (hS : va_S (AC K) s.heap H locs) (hl : lv_has ls 2 [(0, .ref x0)]) : W p l e R s m args below meth c H locs 0 0 (MQ below (CQV x K o) args s 0 0 (AC K)) (F0 m 32 ls []) := by
  obtain ⟨hx, hb, hml, hown, hts, hE, hB, hr, hlk⟩ := id CX
  have hL : KLe K K := KLe.rf K
  have hcs : 0 ≤ R.cells ∧ 0 ≤ R.slots := ⟨Nat.zero_le _, Nat.zero_le _⟩
  unfold bC_X1_addTry_32 at hf
  exact cr_vret CX hR hS hf dX1_addTry_32
def fC_X1_addTry (N : Nat) (K : Ka) (x0 : Nat) (x1 : Int32) (M : Cm) : Option (Cm) := gd (kd K x0 == 2) (nn (cR M x0 0) fun a1 => gd (kd K a1 == 22) (if (nI (le K a1)) ≤ (cI M x0 5) then ((bC_X1_addTry_32 N K) x0 M) else (nn (cR M x0 0) fun a2 => gd (kd K a2 == 22) (ck (cI M x0 5) (le K a2) ((bC_X1_addTry_32 N K) x0 (wI (wI M a2 (cI M x0 5 : Int32).toNatClampNeg x1) x0 5 ((cI (wI M a2 (cI M x0 5 : Int32).toNatClampNeg x1) x0 5) + 1)))))))
set_option maxRecDepth 100000 in
set_option maxHeartbeats 4000000 in
theorem wfC_X1_addTry {p : Program} {l : Launch} {e : Env} {R : Room} {s : State} {m : MethodId} {args : Array Value} {below : List Frame} {meth : Method} {c : Code} {x : Xc} {o : Cm} {N : Nat} {K : Ka} (CX : CC p s m args meth c x K RX1 cX1_addTry 2 none) (hRm : 0 ≤ R.frames ∧ 0 ≤ R.locals) (x0 : Nat) (x1 : Int32) (M : Cm) (H : Heap) (locs : List Loc) (ls : Array Slot) (hf : fC_X1_addTry N K x0 x1 M = some o) (hR : RC x K M H) (hS : va_S (AC K) s.heap H locs) (hl : lv_has ls 2 [(0, .ref x0), (1, .int x1)]) : W p l e R s m args below meth c H locs 0 0 (MQ below (CQV x K o) args s 0 0 (AC K)) (F0 m 0 ls []) := by
  obtain ⟨hx, hb, hml, hown, hts, hE, hB, hr, hlk⟩ := id CX
  have hL : KLe K K := KLe.rf K
  have hcs : 0 ≤ R.cells ∧ 0 ≤ R.slots := ⟨Nat.zero_le _, Nat.zero_le _⟩
  unfold fC_X1_addTry at hf
  refine lv_aload_n hx hb dX1_addTry_0 rfl (lv_at hl 0 rfl) ?_
  obtain ⟨hk_x0_2, hf⟩ := gd_some hf
  refine cr_getI kc_1 CX hR fa_X1_28 rfl hk_x0_2 dX1_addTry_1 ?_
  refine lv_aload_n hx hb dX1_addTry_4 rfl (lv_at hl 0 rfl) ?_
  refine cr_getR kc_1 CX hR fa_X1_9 rfl hk_x0_2 dX1_addTry_5 ?_
  obtain ⟨a1, ha1, hf⟩ := nn_some hf
  refine rf_0 ha1 ?_
  obtain ⟨hk_a1_22, hf⟩ := gd_some hf
  refine cr_ilen CX hR hk_a1_22 dX1_addTry_8 ?_
  refine lv_icmp_ge (tgt := 32) hx hb dX1_addTry_9 (by decide) (fun hc => ?_) (fun hc => ?_)
  · rw [if_pos hc] at hf
    exact (wbC_X1_addTry_32 CX hRm) _ _ _ _ _ hf hR hS (lv_sub hl [0] rfl)
  · rw [if_neg hc] at hf
    refine lv_aload_n hx hb dX1_addTry_12 rfl (lv_at hl 0 rfl) ?_
    refine cr_getR kc_1 CX hR fa_X1_9 rfl hk_x0_2 dX1_addTry_13 ?_
    refine lv_aload_n hx hb dX1_addTry_16 rfl (lv_at hl 0 rfl) ?_
    refine cr_getI kc_1 CX hR fa_X1_28 rfl hk_x0_2 dX1_addTry_17 ?_
    refine lv_iload_n hx hb dX1_addTry_20 rfl (lv_at hl 1 rfl) ?_
    obtain ⟨a2, ha2, hf⟩ := nn_some hf
    refine rf_2 ha2 ?_
    obtain ⟨hk_a2_22, hf⟩ := gd_some hf
    obtain ⟨hi, hf⟩ := ck_some hf
    refine cr_iast CX hR hL hS hk_a2_22 hi dX1_addTry_21 (fun H locs hR hS => ?_)
    refine lv_aload_n hx hb dX1_addTry_22 rfl (lv_at hl 0 rfl) ?_
    refine lv_dup hx hb dX1_addTry_23 rfl ?_
    refine cr_getI kc_1 CX hR fa_X1_28 rfl hk_x0_2 dX1_addTry_24 ?_
    refine lv_iconst (v := 1) hx hb dX1_addTry_27 (by decide) ?_
    refine lv_iadd hx hb dX1_addTry_28 ?_
    refine cr_putI kc_1 CX hR hL hS fa_X1_28 ⟨rfl, rfl, rfl⟩ hk_x0_2 dX1_addTry_29 (fun H locs hR hS => ?_)
    exact (wbC_X1_addTry_32 CX hRm) _ _ _ _ _ hf hR hS (lv_sub hl [0] rfl)
theorem MC_X1_addTry (l : Launch) (x : Xc) (N : Nat) (K : Ka) (x0 : Nat) (x1 : Int32) (M : Cm) (o : Cm) (hf : fC_X1_addTry N K x0 x1 M = some o) : CtV l x yX1_addTry cX1_addTry 2 0 0 [.ref x0, .int x1] K M o :=
  cr_metV RX1 (by decide) rfl (Nat.le_of_ble_eq_true rfl) (fun p e s m args below meth c ls CX hR hl => wfC_X1_addTry CX ⟨Nat.le_refl _, Nat.le_refl _⟩ x0 x1 M s.heap [] ls hf hR va_S.rf hl)
def bC_X2_enter_48 (N : Nat) (K : Ka) (x0 : Nat) (M : Cm) : Option (Cm) := some M
set_option maxRecDepth 100000 in
set_option maxHeartbeats 4000000 in
theorem wbC_X2_enter_48 {p : Program} {l : Launch} {e : Env} {R : Room} {s : State} {m : MethodId} {args : Array Value} {below : List Frame} {meth : Method} {c : Code} {x : Xc} {o : Cm} {N : Nat} {K : Ka} (CX : CC p s m args meth c x K RX2 cX2_enter 3 none) (hRm : 1 ≤ R.frames ∧ 23 ≤ R.locals) (x0 : Nat) (M : Cm) (H : Heap) (locs : List Loc) (ls : Array Slot) (hf : bC_X2_enter_48 N K x0 M = some o) (hR : RC x K M H) (hS : va_S (AC K) s.heap H locs) (hl : lv_has ls 3 [(0, .ref x0)]) : W p l e R s m args below meth c H locs 0 0 (MQ below (CQV x K o) args s 0 0 (AC K)) (F0 m 48 ls []) := by
  obtain ⟨hx, hb, hml, hown, hts, hE, hB, hr, hlk⟩ := id CX
  have hL : KLe K K := KLe.rf K
  have hcs : 0 ≤ R.cells ∧ 0 ≤ R.slots := ⟨Nat.zero_le _, Nat.zero_le _⟩
  unfold bC_X2_enter_48 at hf
  exact cr_vret CX hR hS hf dX2_enter_48
def fC_X2_enter (N : Nat) (K : Ka) (x0 : Nat) (x1 : Int32) (x2 : Int32) (M : Cm) : Option (Cm) := gd (kd K x0 == 3) (nn (cR M x0 2) fun a1 => gd (kd K a1 == 25) (if (nI (le K a1)) ≤ (cI M x0 6) then ((bC_X2_enter_48 N K) x0 M) else (nn (cR M x0 2) fun a2 => gd (kd K a2 == 25) (ck (cI M x0 6) (le K a2) (nn (cR (wR M x0 5 (cR M a2 (cI M x0 6 : Int32).toNatClampNeg)) x0 5) fun a3 => gd (kd K a3 == 2) ((fC_X1_open N K a3 x1 x2 (cI (wR M x0 5 (cR M a2 (cI M x0 6 : Int32).toNatClampNeg)) x0 7) (wR M x0 5 (cR M a2 (cI M x0 6 : Int32).toNatClampNeg))).bind fun o35 => (bC_X2_enter_48 N K) x0 (wI o35 x0 6 ((cI o35 x0 6) + 1))))))))
set_option maxRecDepth 100000 in
set_option maxHeartbeats 4000000 in
theorem wfC_X2_enter {p : Program} {l : Launch} {e : Env} {R : Room} {s : State} {m : MethodId} {args : Array Value} {below : List Frame} {meth : Method} {c : Code} {x : Xc} {o : Cm} {N : Nat} {K : Ka} (CX : CC p s m args meth c x K RX2 cX2_enter 3 none) (hRm : 1 ≤ R.frames ∧ 23 ≤ R.locals) (x0 : Nat) (x1 : Int32) (x2 : Int32) (M : Cm) (H : Heap) (locs : List Loc) (ls : Array Slot) (hf : fC_X2_enter N K x0 x1 x2 M = some o) (hR : RC x K M H) (hS : va_S (AC K) s.heap H locs) (hl : lv_has ls 3 [(0, .ref x0), (1, .int x1), (2, .int x2)]) : W p l e R s m args below meth c H locs 0 0 (MQ below (CQV x K o) args s 0 0 (AC K)) (F0 m 0 ls []) := by
  obtain ⟨hx, hb, hml, hown, hts, hE, hB, hr, hlk⟩ := id CX
  have hL : KLe K K := KLe.rf K
  have hcs : 0 ≤ R.cells ∧ 0 ≤ R.slots := ⟨Nat.zero_le _, Nat.zero_le _⟩
  unfold fC_X2_enter at hf
  refine lv_aload_n hx hb dX2_enter_0 rfl (lv_at hl 0 rfl) ?_
  obtain ⟨hk_x0_3, hf⟩ := gd_some hf
  refine cr_getI kc_2 CX hR fa_X2_29 rfl hk_x0_3 dX2_enter_1 ?_
  refine lv_aload_n hx hb dX2_enter_4 rfl (lv_at hl 0 rfl) ?_
  refine cr_getR kc_2 CX hR fa_X2_11 rfl hk_x0_3 dX2_enter_5 ?_
  obtain ⟨a1, ha1, hf⟩ := nn_some hf
  refine rf_0 ha1 ?_
  obtain ⟨hk_a1_25, hf⟩ := gd_some hf
  refine cr_flen CX hR hk_a1_25 dX2_enter_8 ?_
  refine lv_icmp_ge (tgt := 48) hx hb dX2_enter_9 (by decide) (fun hc => ?_) (fun hc => ?_)
  · rw [if_pos hc] at hf
    exact (wbC_X2_enter_48 CX hRm) _ _ _ _ _ hf hR hS (lv_sub hl [0] rfl)
  · rw [if_neg hc] at hf
    refine lv_aload_n hx hb dX2_enter_12 rfl (lv_at hl 0 rfl) ?_
    refine lv_aload_n hx hb dX2_enter_13 rfl (lv_at hl 0 rfl) ?_
    refine cr_getR kc_2 CX hR fa_X2_11 rfl hk_x0_3 dX2_enter_14 ?_
    refine lv_aload_n hx hb dX2_enter_17 rfl (lv_at hl 0 rfl) ?_
    refine cr_getI kc_2 CX hR fa_X2_29 rfl hk_x0_3 dX2_enter_18 ?_
    obtain ⟨a2, ha2, hf⟩ := nn_some hf
    refine rf_1 ha2 ?_
    obtain ⟨hk_a2_25, hf⟩ := gd_some hf
    obtain ⟨hi, hf⟩ := ck_some hf
    refine cr_fald CX hR hk_a2_25 hi dX2_enter_21 ?_
    refine cr_putR kc_2 CX hR hL hS (v := cR M a2 (cI M x0 6 : Int32).toNatClampNeg) fa_X2_25 ⟨rfl, rfl, .inl ⟨_, rfl⟩⟩ hk_x0_3 dX2_enter_22 (fun H locs hR hS => ?_)
    refine lv_aload_n hx hb dX2_enter_25 rfl (lv_at hl 0 rfl) ?_
    refine cr_getR kc_2 CX hR fa_X2_25 rfl hk_x0_3 dX2_enter_26 ?_
    refine lv_iload_n hx hb dX2_enter_29 rfl (lv_at hl 1 rfl) ?_
    refine lv_iload_n hx hb dX2_enter_30 rfl (lv_at hl 2 rfl) ?_
    refine lv_aload_n hx hb dX2_enter_31 rfl (lv_at hl 0 rfl) ?_
    refine cr_getI kc_2 CX hR fa_X2_33 rfl hk_x0_3 dX2_enter_32 ?_
    obtain ⟨a3, ha3, hf⟩ := nn_some hf
    refine rf_3 ha3 ?_
    obtain ⟨hk_a3_2, hf⟩ := gd_some hf
    obtain ⟨o35, ho35, hf⟩ := bnd_some hf
    refine cr_callVv kc_1 CX hR hL hS (As := [.int x1, .int x2, .int (cI (wR M x0 5 (cR M a2 (cI M x0 6 : Int32).toNatClampNeg)) x0 7)]) (rest := []) hk_a3_2 (MC_X1_open l x N K a3 x1 x2 (cI (wR M x0 5 (cR M a2 (cI M x0 6 : Int32).toNatClampNeg)) x0 7) (wR M x0 5 (cR M a2 (cI M x0 6 : Int32).toNatClampNeg)) o35 ho35) cv_X2_112 ⟨by omega, by omega⟩ rfl rfl (Nat.le_of_ble_eq_true rfl) hl.1 dX2_enter_35 hcs (fun H locs hR hS => ?_)
    refine lv_aload_n hx hb dX2_enter_38 rfl (lv_at hl 0 rfl) ?_
    refine lv_dup hx hb dX2_enter_39 rfl ?_
    refine cr_getI kc_2 CX hR fa_X2_29 rfl hk_x0_3 dX2_enter_40 ?_
    refine lv_iconst (v := 1) hx hb dX2_enter_43 (by decide) ?_
    refine lv_iadd hx hb dX2_enter_44 ?_
    refine cr_putI kc_2 CX hR hL hS fa_X2_29 ⟨rfl, rfl, rfl⟩ hk_x0_3 dX2_enter_45 (fun H locs hR hS => ?_)
    exact (wbC_X2_enter_48 CX hRm) _ _ _ _ _ hf hR hS (lv_sub hl [0] rfl)
theorem MC_X2_enter (l : Launch) (x : Xc) (N : Nat) (K : Ka) (x0 : Nat) (x1 : Int32) (x2 : Int32) (M : Cm) (o : Cm) (hf : fC_X2_enter N K x0 x1 x2 M = some o) : CtV l x yX2_enter cX2_enter 3 1 23 [.ref x0, .int x1, .int x2] K M o :=
  cr_metV RX2 (by decide) rfl (Nat.le_of_ble_eq_true rfl) (fun p e s m args below meth c ls CX hR hl => wfC_X2_enter CX ⟨Nat.le_refl _, Nat.le_refl _⟩ x0 x1 x2 M s.heap [] ls hf hR va_S.rf hl)
def fC_X2_drop (N : Nat) (K : Ka) (x0 : Nat) (M : Cm) : Option (Cm) := gd (kd K x0 == 3) (nn (cR (wI M x0 6 ((cI M x0 6) - 1)) x0 2) fun a1 => gd (kd K a1 == 25) (ck ((cI (wI M x0 6 ((cI M x0 6) - 1)) x0 6) - 1) (le K a1) (some (wR (wI M x0 6 ((cI M x0 6) - 1)) x0 5 (cR (wI M x0 6 ((cI M x0 6) - 1)) a1 ((cI (wI M x0 6 ((cI M x0 6) - 1)) x0 6) - 1 : Int32).toNatClampNeg)))))
set_option maxRecDepth 100000 in
set_option maxHeartbeats 4000000 in
theorem wfC_X2_drop {p : Program} {l : Launch} {e : Env} {R : Room} {s : State} {m : MethodId} {args : Array Value} {below : List Frame} {meth : Method} {c : Code} {x : Xc} {o : Cm} {N : Nat} {K : Ka} (CX : CC p s m args meth c x K RX2 cX2_drop 1 none) (hRm : 0 ≤ R.frames ∧ 0 ≤ R.locals) (x0 : Nat) (M : Cm) (H : Heap) (locs : List Loc) (ls : Array Slot) (hf : fC_X2_drop N K x0 M = some o) (hR : RC x K M H) (hS : va_S (AC K) s.heap H locs) (hl : lv_has ls 1 [(0, .ref x0)]) : W p l e R s m args below meth c H locs 0 0 (MQ below (CQV x K o) args s 0 0 (AC K)) (F0 m 0 ls []) := by
  obtain ⟨hx, hb, hml, hown, hts, hE, hB, hr, hlk⟩ := id CX
  have hL : KLe K K := KLe.rf K
  have hcs : 0 ≤ R.cells ∧ 0 ≤ R.slots := ⟨Nat.zero_le _, Nat.zero_le _⟩
  unfold fC_X2_drop at hf
  refine lv_aload_n hx hb dX2_drop_0 rfl (lv_at hl 0 rfl) ?_
  refine lv_dup hx hb dX2_drop_1 rfl ?_
  obtain ⟨hk_x0_3, hf⟩ := gd_some hf
  refine cr_getI kc_2 CX hR fa_X2_29 rfl hk_x0_3 dX2_drop_2 ?_
  refine lv_iconst (v := 1) hx hb dX2_drop_5 (by decide) ?_
  refine lv_isub hx hb dX2_drop_6 ?_
  refine cr_putI kc_2 CX hR hL hS fa_X2_29 ⟨rfl, rfl, rfl⟩ hk_x0_3 dX2_drop_7 (fun H locs hR hS => ?_)
  refine lv_aload_n hx hb dX2_drop_10 rfl (lv_at hl 0 rfl) ?_
  refine lv_aload_n hx hb dX2_drop_11 rfl (lv_at hl 0 rfl) ?_
  refine cr_getR kc_2 CX hR fa_X2_11 rfl hk_x0_3 dX2_drop_12 ?_
  refine lv_aload_n hx hb dX2_drop_15 rfl (lv_at hl 0 rfl) ?_
  refine cr_getI kc_2 CX hR fa_X2_29 rfl hk_x0_3 dX2_drop_16 ?_
  refine lv_iconst (v := 1) hx hb dX2_drop_19 (by decide) ?_
  refine lv_isub hx hb dX2_drop_20 ?_
  obtain ⟨a1, ha1, hf⟩ := nn_some hf
  refine rf_1 ha1 ?_
  obtain ⟨hk_a1_25, hf⟩ := gd_some hf
  obtain ⟨hi, hf⟩ := ck_some hf
  refine cr_fald CX hR hk_a1_25 hi dX2_drop_21 ?_
  refine cr_putR kc_2 CX hR hL hS (v := cR (wI M x0 6 ((cI M x0 6) - 1)) a1 ((cI (wI M x0 6 ((cI M x0 6) - 1)) x0 6) - 1 : Int32).toNatClampNeg) fa_X2_25 ⟨rfl, rfl, .inl ⟨_, rfl⟩⟩ hk_x0_3 dX2_drop_22 (fun H locs hR hS => ?_)
  exact cr_vret CX hR hS hf dX2_drop_25
theorem MC_X2_drop (l : Launch) (x : Xc) (N : Nat) (K : Ka) (x0 : Nat) (M : Cm) (o : Cm) (hf : fC_X2_drop N K x0 M = some o) : CtV l x yX2_drop cX2_drop 1 0 0 [.ref x0] K M o :=
  cr_metV RX2 (by decide) rfl (Nat.le_of_ble_eq_true rfl) (fun p e s m args below meth c ls CX hR hl => wfC_X2_drop CX ⟨Nat.le_refl _, Nat.le_refl _⟩ x0 M s.heap [] ls hf hR va_S.rf hl)
def fC_X4_fail (N : Nat) (K : Ka) (x0 : Nat) (x1 : Int32) (x2 : Int32) (x3 : Int32) (M : Cm) : Option (Cm) := gd (kd K x0 == 5) (nn (cR M x0 0) fun a1 => gd (kd K a1 == 22) (ck x1 (le K a1) (nn (cR (wI M a1 (x1 : Int32).toNatClampNeg 3) x0 3) fun a2 => gd (kd K a2 == 22) (ck x1 (le K a2) (nn (cR (wI (wI M a1 (x1 : Int32).toNatClampNeg 3) a2 (x1 : Int32).toNatClampNeg x2) x0 4) fun a3 => gd (kd K a3 == 22) (ck x1 (le K a3) (some (wI (wI (wI M a1 (x1 : Int32).toNatClampNeg 3) a2 (x1 : Int32).toNatClampNeg x2) a3 (x1 : Int32).toNatClampNeg x3))))))))
set_option maxRecDepth 100000 in
set_option maxHeartbeats 4000000 in
theorem wfC_X4_fail {p : Program} {l : Launch} {e : Env} {R : Room} {s : State} {m : MethodId} {args : Array Value} {below : List Frame} {meth : Method} {c : Code} {x : Xc} {o : Cm} {N : Nat} {K : Ka} (CX : CC p s m args meth c x K RX4 cX4_fail 4 none) (hRm : 0 ≤ R.frames ∧ 0 ≤ R.locals) (x0 : Nat) (x1 : Int32) (x2 : Int32) (x3 : Int32) (M : Cm) (H : Heap) (locs : List Loc) (ls : Array Slot) (hf : fC_X4_fail N K x0 x1 x2 x3 M = some o) (hR : RC x K M H) (hS : va_S (AC K) s.heap H locs) (hl : lv_has ls 4 [(0, .ref x0), (1, .int x1), (2, .int x2), (3, .int x3)]) : W p l e R s m args below meth c H locs 0 0 (MQ below (CQV x K o) args s 0 0 (AC K)) (F0 m 0 ls []) := by
  obtain ⟨hx, hb, hml, hown, hts, hE, hB, hr, hlk⟩ := id CX
  have hL : KLe K K := KLe.rf K
  have hcs : 0 ≤ R.cells ∧ 0 ≤ R.slots := ⟨Nat.zero_le _, Nat.zero_le _⟩
  unfold fC_X4_fail at hf
  refine lv_aload_n hx hb dX4_fail_0 rfl (lv_at hl 0 rfl) ?_
  obtain ⟨hk_x0_5, hf⟩ := gd_some hf
  refine cr_getR kc_4 CX hR fa_X4_9 rfl hk_x0_5 dX4_fail_1 ?_
  refine lv_iload_n hx hb dX4_fail_4 rfl (lv_at hl 1 rfl) ?_
  refine lv_iconst (v := 3) hx hb dX4_fail_5 (by decide) ?_
  obtain ⟨a1, ha1, hf⟩ := nn_some hf
  refine rf_2 ha1 ?_
  obtain ⟨hk_a1_22, hf⟩ := gd_some hf
  obtain ⟨hi, hf⟩ := ck_some hf
  refine cr_iast CX hR hL hS hk_a1_22 hi dX4_fail_6 (fun H locs hR hS => ?_)
  refine lv_aload_n hx hb dX4_fail_7 rfl (lv_at hl 0 rfl) ?_
  refine cr_getR kc_4 CX hR fa_X4_21 rfl hk_x0_5 dX4_fail_8 ?_
  refine lv_iload_n hx hb dX4_fail_11 rfl (lv_at hl 1 rfl) ?_
  refine lv_iload_n hx hb dX4_fail_12 rfl (lv_at hl 2 rfl) ?_
  obtain ⟨a2, ha2, hf⟩ := nn_some hf
  refine rf_2 ha2 ?_
  obtain ⟨hk_a2_22, hf⟩ := gd_some hf
  obtain ⟨hi, hf⟩ := ck_some hf
  refine cr_iast CX hR hL hS hk_a2_22 hi dX4_fail_13 (fun H locs hR hS => ?_)
  refine lv_aload_n hx hb dX4_fail_14 rfl (lv_at hl 0 rfl) ?_
  refine cr_getR kc_4 CX hR fa_X4_24 rfl hk_x0_5 dX4_fail_15 ?_
  refine lv_iload_n hx hb dX4_fail_18 rfl (lv_at hl 1 rfl) ?_
  refine lv_iload_n hx hb dX4_fail_19 rfl (lv_at hl 3 rfl) ?_
  obtain ⟨a3, ha3, hf⟩ := nn_some hf
  refine rf_2 ha3 ?_
  obtain ⟨hk_a3_22, hf⟩ := gd_some hf
  obtain ⟨hi, hf⟩ := ck_some hf
  refine cr_iast CX hR hL hS hk_a3_22 hi dX4_fail_20 (fun H locs hR hS => ?_)
  exact cr_vret CX hR hS hf dX4_fail_21
theorem MC_X4_fail (l : Launch) (x : Xc) (N : Nat) (K : Ka) (x0 : Nat) (x1 : Int32) (x2 : Int32) (x3 : Int32) (M : Cm) (o : Cm) (hf : fC_X4_fail N K x0 x1 x2 x3 M = some o) : CtV l x yX4_fail cX4_fail 4 0 0 [.ref x0, .int x1, .int x2, .int x3] K M o :=
  cr_metV RX4 (by decide) rfl (Nat.le_of_ble_eq_true rfl) (fun p e s m args below meth c ls CX hR hl => wfC_X4_fail CX ⟨Nat.le_refl _, Nat.le_refl _⟩ x0 x1 x2 x3 M s.heap [] ls hf hR va_S.rf hl)
def bC_X2_raise_120 (N : Nat) (K : Ka) (r7 : Nat → Int32 → Int32 → Int32 → Cm → Option (Cm)) (k24 : Nat → Int32 → Cm → Option (Cm)) (k87 : Nat → Int32 → Int32 → Cm → Option (Cm)) (k146 : Nat → Cm → Option (Cm)) (x0 : Nat) (x2 : Int32) (x3 : Int32) (x4 : Int32) (M : Cm) : Option (Cm) := gd (kd K x0 == 3) (nn (cR M x0 5) fun a1 => gd (kd K a1 == 2) (nn (cR M x0 0) fun a2 => gd (kd K a2 == 5) ((fC_X4_fail N K a2 (cI M a1 1) x2 x3 M).bind fun o133 => (fC_X2_drop N K x0 o133).bind fun o137 => r7 x0 x2 x3 (x4 + 1) o137)))
set_option maxRecDepth 100000 in
set_option maxHeartbeats 4000000 in
theorem wbC_X2_raise_120 {p : Program} {l : Launch} {e : Env} {R : Room} {s : State} {m : MethodId} {args : Array Value} {below : List Frame} {meth : Method} {c : Code} {x : Xc} {o : Cm} {N : Nat} {K : Ka} {r7 : Nat → Int32 → Int32 → Int32 → Cm → Option (Cm)} {k24 : Nat → Int32 → Cm → Option (Cm)} {k87 : Nat → Int32 → Int32 → Cm → Option (Cm)} {k146 : Nat → Cm → Option (Cm)} (CX : CC p s m args meth c x K RX2 cX2_raise 5 none) (hRm : 1 ≤ R.frames ∧ 23 ≤ R.locals) (hr7 : ∀ (x0 : Nat) (x2 : Int32) (x3 : Int32) (x4 : Int32) (M : Cm) (H : Heap) (locs : List Loc) (ls : Array Slot), r7 x0 x2 x3 x4 M = some o → RC x K M H → va_S (AC K) s.heap H locs → lv_has ls 5 [(0, .ref x0), (2, .int x2), (3, .int x3), (4, .int x4)] → W p l e R s m args below meth c H locs 0 0 (MQ below (CQV x K o) args s 0 0 (AC K)) (F0 m 7 ls [])) (hk24 : ∀ (x0 : Nat) (x2 : Int32) (M : Cm) (H : Heap) (locs : List Loc) (ls : Array Slot), k24 x0 x2 M = some o → RC x K M H → va_S (AC K) s.heap H locs → lv_has ls 5 [(0, .ref x0), (2, .int x2)] → W p l e R s m args below meth c H locs 0 0 (MQ below (CQV x K o) args s 0 0 (AC K)) (F0 m 24 ls [])) (hk87 : ∀ (x0 : Nat) (x2 : Int32) (x3 : Int32) (M : Cm) (H : Heap) (locs : List Loc) (ls : Array Slot), k87 x0 x2 x3 M = some o → RC x K M H → va_S (AC K) s.heap H locs → lv_has ls 5 [(0, .ref x0), (2, .int x2), (3, .int x3)] → W p l e R s m args below meth c H locs 0 0 (MQ below (CQV x K o) args s 0 0 (AC K)) (F0 m 87 ls [])) (hk146 : ∀ (x0 : Nat) (M : Cm) (H : Heap) (locs : List Loc) (ls : Array Slot), k146 x0 M = some o → RC x K M H → va_S (AC K) s.heap H locs → lv_has ls 5 [(0, .ref x0)] → W p l e R s m args below meth c H locs 0 0 (MQ below (CQV x K o) args s 0 0 (AC K)) (F0 m 146 ls [])) (x0 : Nat) (x2 : Int32) (x3 : Int32) (x4 : Int32) (M : Cm) (H : Heap) (locs : List Loc) (ls : Array Slot) (hf : bC_X2_raise_120 N K r7 k24 k87 k146 x0 x2 x3 x4 M = some o) (hR : RC x K M H) (hS : va_S (AC K) s.heap H locs) (hl : lv_has ls 5 [(0, .ref x0), (2, .int x2), (3, .int x3), (4, .int x4)]) : W p l e R s m args below meth c H locs 0 0 (MQ below (CQV x K o) args s 0 0 (AC K)) (F0 m 120 ls []) := by
  obtain ⟨hx, hb, hml, hown, hts, hE, hB, hr, hlk⟩ := id CX
  have hL : KLe K K := KLe.rf K
  have hcs : 0 ≤ R.cells ∧ 0 ≤ R.slots := ⟨Nat.zero_le _, Nat.zero_le _⟩
  unfold bC_X2_raise_120 at hf
  refine lv_aload_n hx hb dX2_raise_120 rfl (lv_at hl 0 rfl) ?_
  obtain ⟨hk_x0_3, hf⟩ := gd_some hf
  refine cr_getR kc_2 CX hR fa_X2_64 rfl hk_x0_3 dX2_raise_121 ?_
  refine lv_aload_n hx hb dX2_raise_124 rfl (lv_at hl 0 rfl) ?_
  refine cr_getR kc_2 CX hR fa_X2_25 rfl hk_x0_3 dX2_raise_125 ?_
  obtain ⟨a1, ha1, hf⟩ := nn_some hf
  refine rf_0 ha1 ?_
  obtain ⟨hk_a1_2, hf⟩ := gd_some hf
  refine cr_getI kc_1 CX hR fa_X2_134 rfl hk_a1_2 dX2_raise_128 ?_
  refine lv_iload_n hx hb dX2_raise_131 rfl (lv_at hl 1 rfl) ?_
  refine lv_iload_n hx hb dX2_raise_132 rfl (lv_at hl 2 rfl) ?_
  obtain ⟨a2, ha2, hf⟩ := nn_some hf
  refine rf_3 ha2 ?_
  obtain ⟨hk_a2_5, hf⟩ := gd_some hf
  obtain ⟨o133, ho133, hf⟩ := bnd_some hf
  refine cr_callVv kc_4 CX hR hL hS (As := [.int (cI M a1 1), .int x2, .int x3]) (rest := []) hk_a2_5 (MC_X4_fail l x N K a2 (cI M a1 1) x2 x3 M o133 ho133) cv_X2_181 ⟨by omega, by omega⟩ rfl rfl (Nat.le_of_ble_eq_true rfl) hl.1 dX2_raise_133 hcs (fun H locs hR hS => ?_)
  refine lv_aload_n hx hb dX2_raise_136 rfl (lv_at hl 0 rfl) ?_
  obtain ⟨o137, ho137, hf⟩ := bnd_some hf
  refine cr_callVv kc_2 CX hR hL hS (As := []) (rest := []) hk_x0_3 (MC_X2_drop l x N K x0 o133 o137 ho137) cv_X2_216 ⟨by omega, by omega⟩ rfl rfl (Nat.le_of_ble_eq_true rfl) hl.1 dX2_raise_137 hcs (fun H locs hR hS => ?_)
  refine lv_iinc (v := x4 + 1) (lv' := [(4, .int (x4 + 1)), (0, .ref x0), (2, .int x2), (3, .int x3)]) hx hb dX2_raise_140 hl (k := 3) rfl rfl (by decide) rfl (fun ls hl => ?_)
  refine lv_goto (tgt := 7) hx hb dX2_raise_143 (by decide) ?_
  exact hr7 _ _ _ _ _ _ _ _ hf hR hS (lv_sub hl [1, 2, 3, 0] rfl)
def lC_X2_raise_7 (N : Nat) (K : Ka) (k24 : Nat → Int32 → Cm → Option (Cm)) (k87 : Nat → Int32 → Int32 → Cm → Option (Cm)) (k146 : Nat → Cm → Option (Cm)) : Nat → Nat → Int32 → Int32 → Int32 → Cm → Option (Cm)
  | 0, _, _, _, _, _ => none
  | n + 1, x0, x2, x3, x4, M => if 25 ≤ x4 then (k146 x0 M) else (gd (kd K x0 == 3) (nn (cR M x0 5) fun a1 => gd (kd K a1 == 2) (if (cI M a1 5) ≤ 0 then (if 1 < (cI M x0 6) then (if x2 = 20 then ((bC_X2_raise_120 N K (lC_X2_raise_7 N K k24 k87 k146 n) k24 k87 k146) x0 x2 x3 x4 M) else (if x2 = 21 then ((bC_X2_raise_120 N K (lC_X2_raise_7 N K k24 k87 k146 n) k24 k87 k146) x0 x2 x3 x4 M) else ((bC_X2_raise_120 N K (lC_X2_raise_7 N K k24 k87 k146 n) k24 k87 k146) x0 20 x2 x4 M))) else (k87 x0 x2 x3 M)) else (k24 x0 x2 M))))
set_option maxRecDepth 100000 in
set_option maxHeartbeats 4000000 in
theorem wlC_X2_raise_7 {p : Program} {l : Launch} {e : Env} {R : Room} {s : State} {m : MethodId} {args : Array Value} {below : List Frame} {meth : Method} {c : Code} {x : Xc} {o : Cm} {N : Nat} {K : Ka} {k24 : Nat → Int32 → Cm → Option (Cm)} {k87 : Nat → Int32 → Int32 → Cm → Option (Cm)} {k146 : Nat → Cm → Option (Cm)} (CX : CC p s m args meth c x K RX2 cX2_raise 5 none) (hRm : 1 ≤ R.frames ∧ 23 ≤ R.locals) (hk24 : ∀ (x0 : Nat) (x2 : Int32) (M : Cm) (H : Heap) (locs : List Loc) (ls : Array Slot), k24 x0 x2 M = some o → RC x K M H → va_S (AC K) s.heap H locs → lv_has ls 5 [(0, .ref x0), (2, .int x2)] → W p l e R s m args below meth c H locs 0 0 (MQ below (CQV x K o) args s 0 0 (AC K)) (F0 m 24 ls [])) (hk87 : ∀ (x0 : Nat) (x2 : Int32) (x3 : Int32) (M : Cm) (H : Heap) (locs : List Loc) (ls : Array Slot), k87 x0 x2 x3 M = some o → RC x K M H → va_S (AC K) s.heap H locs → lv_has ls 5 [(0, .ref x0), (2, .int x2), (3, .int x3)] → W p l e R s m args below meth c H locs 0 0 (MQ below (CQV x K o) args s 0 0 (AC K)) (F0 m 87 ls [])) (hk146 : ∀ (x0 : Nat) (M : Cm) (H : Heap) (locs : List Loc) (ls : Array Slot), k146 x0 M = some o → RC x K M H → va_S (AC K) s.heap H locs → lv_has ls 5 [(0, .ref x0)] → W p l e R s m args below meth c H locs 0 0 (MQ below (CQV x K o) args s 0 0 (AC K)) (F0 m 146 ls [])) : ∀ (n : Nat) (x0 : Nat) (x2 : Int32) (x3 : Int32) (x4 : Int32) (M : Cm) (H : Heap) (locs : List Loc) (ls : Array Slot), lC_X2_raise_7 N K k24 k87 k146 n x0 x2 x3 x4 M = some o → RC x K M H → va_S (AC K) s.heap H locs → lv_has ls 5 [(0, .ref x0), (2, .int x2), (3, .int x3), (4, .int x4)] → W p l e R s m args below meth c H locs 0 0 (MQ below (CQV x K o) args s 0 0 (AC K)) (F0 m 7 ls []) := by
  obtain ⟨hx, hb, hml, hown, hts, hE, hB, hr, hlk⟩ := id CX
  have hL : KLe K K := KLe.rf K
  have hcs : 0 ≤ R.cells ∧ 0 ≤ R.slots := ⟨Nat.zero_le _, Nat.zero_le _⟩
  intro n
  induction n with
  | zero => intro x0 x2 x3 x4 M H locs ls hf; cases hf
  | succ n ih =>
    intro x0 x2 x3 x4 M H locs ls hf hR hS hl
    rw [lC_X2_raise_7] at hf
    refine lv_iload hx hb dX2_raise_7 (lv_at hl 3 rfl) ?_
    refine lv_bipush (v := 25) hx hb dX2_raise_9 (by decide) ?_
    refine lv_icmp_ge (tgt := 146) hx hb dX2_raise_11 (by decide) (fun hc => ?_) (fun hc => ?_)
    · rw [if_pos hc] at hf
      exact hk146 _ _ _ _ _ hf hR hS (lv_sub hl [0] rfl)
    · rw [if_neg hc] at hf
      refine lv_aload_n hx hb dX2_raise_14 rfl (lv_at hl 0 rfl) ?_
      obtain ⟨hk_x0_3, hf⟩ := gd_some hf
      refine cr_getR kc_2 CX hR fa_X2_25 rfl hk_x0_3 dX2_raise_15 ?_
      obtain ⟨a1, ha1, hf⟩ := nn_some hf
      refine rf_0 ha1 ?_
      obtain ⟨hk_a1_2, hf⟩ := gd_some hf
      refine cr_getI kc_1 CX hR fa_X2_174 rfl hk_a1_2 dX2_raise_18 ?_
      refine lv_if_le (tgt := 79) hx hb dX2_raise_21 (by decide) (fun hc => ?_) (fun hc => ?_)
      · rw [if_pos hc] at hf
        refine lv_aload_n hx hb dX2_raise_79 rfl (lv_at hl 0 rfl) ?_
        refine cr_getI kc_2 CX hR fa_X2_29 rfl hk_x0_3 dX2_raise_80 ?_
        refine lv_iconst (v := 1) hx hb dX2_raise_83 (by decide) ?_
        refine lv_icmp_gt (tgt := 103) hx hb dX2_raise_84 (by decide) (fun hc => ?_) (fun hc => ?_)
        · rw [if_pos hc] at hf
          refine lv_iload_n hx hb dX2_raise_103 rfl (lv_at hl 1 rfl) ?_
          refine lv_bipush (v := 20) hx hb dX2_raise_104 (by decide) ?_
          refine lv_icmp_eq (tgt := 120) hx hb dX2_raise_106 (by decide) (fun hc => ?_) (fun hc => ?_)
          · rw [if_pos hc] at hf
            exact (wbC_X2_raise_120 CX hRm ih hk24 hk87 hk146) _ _ _ _ _ _ _ _ hf hR hS (lv_sub hl [0, 1, 2, 3] rfl)
          · rw [if_neg hc] at hf
            refine lv_iload_n hx hb dX2_raise_109 rfl (lv_at hl 1 rfl) ?_
            refine lv_bipush (v := 21) hx hb dX2_raise_110 (by decide) ?_
            refine lv_icmp_eq (tgt := 120) hx hb dX2_raise_112 (by decide) (fun hc => ?_) (fun hc => ?_)
            · rw [if_pos hc] at hf
              exact (wbC_X2_raise_120 CX hRm ih hk24 hk87 hk146) _ _ _ _ _ _ _ _ hf hR hS (lv_sub hl [0, 1, 2, 3] rfl)
            · rw [if_neg hc] at hf
              refine lv_iload_n hx hb dX2_raise_115 rfl (lv_at hl 1 rfl) ?_
              refine lv_istore_n (lv' := [(3, .int x2), (0, .ref x0), (2, .int x2), (4, .int x4)]) hx hb dX2_raise_116 rfl hl (by decide) rfl (fun ls hl => ?_)
              refine lv_bipush (v := 20) hx hb dX2_raise_117 (by decide) ?_
              refine lv_istore_n (lv' := [(2, .int 20), (3, .int x2), (0, .ref x0), (4, .int x4)]) hx hb dX2_raise_119 rfl hl (by decide) rfl (fun ls hl => ?_)
              exact (wbC_X2_raise_120 CX hRm ih hk24 hk87 hk146) _ _ _ _ _ _ _ _ hf hR hS (lv_sub hl [2, 0, 1, 3] rfl)
        · rw [if_neg hc] at hf
          exact hk87 _ _ _ _ _ _ _ hf hR hS (lv_sub hl [0, 1, 2] rfl)
      · rw [if_neg hc] at hf
        exact hk24 _ _ _ _ _ _ hf hR hS (lv_sub hl [0, 1] rfl)
def bC_X2_raise_24 (N : Nat) (K : Ka) (x0 : Nat) (x2 : Int32) (M : Cm) : Option (Cm) := gd (kd K x0 == 3) (nn (cR M x0 5) fun a1 => gd (kd K a1 == 2) (nn (cR (wI M a1 5 ((cI M a1 5) - 1)) x0 5) fun a2 => gd (kd K a2 == 2) (nn (cR (wI (wI M a1 5 ((cI M a1 5) - 1)) a2 3 x2) x0 5) fun a3 => gd (kd K a3 == 2) (nn (cR (wI (wI M a1 5 ((cI M a1 5) - 1)) a2 3 x2) x0 5) fun a4 => gd (kd K a4 == 2) (nn (cR (wI (wI M a1 5 ((cI M a1 5) - 1)) a2 3 x2) a3 0) fun a5 => gd (kd K a5 == 22) (ck (cI (wI (wI M a1 5 ((cI M a1 5) - 1)) a2 3 x2) a4 5) (le K a5) (nn (cR (wI (wI M a1 5 ((cI M a1 5) - 1)) a2 3 x2) x0 5) fun a6 => gd (kd K a6 == 2) (nn (cR (wI (wI (wI M a1 5 ((cI M a1 5) - 1)) a2 3 x2) a6 2 (cI (wI (wI M a1 5 ((cI M a1 5) - 1)) a2 3 x2) a5 (cI (wI (wI M a1 5 ((cI M a1 5) - 1)) a2 3 x2) a4 5 : Int32).toNatClampNeg)) x0 5) fun a7 => gd (kd K a7 == 2) (some (wI (wI (wI (wI M a1 5 ((cI M a1 5) - 1)) a2 3 x2) a6 2 (cI (wI (wI M a1 5 ((cI M a1 5) - 1)) a2 3 x2) a5 (cI (wI (wI M a1 5 ((cI M a1 5) - 1)) a2 3 x2) a4 5 : Int32).toNatClampNeg)) x0 7 (cI (wI (wI (wI M a1 5 ((cI M a1 5) - 1)) a2 3 x2) a6 2 (cI (wI (wI M a1 5 ((cI M a1 5) - 1)) a2 3 x2) a5 (cI (wI (wI M a1 5 ((cI M a1 5) - 1)) a2 3 x2) a4 5 : Int32).toNatClampNeg)) a7 4)))))))))))
set_option maxRecDepth 100000 in
set_option maxHeartbeats 4000000 in
theorem wbC_X2_raise_24 {p : Program} {l : Launch} {e : Env} {R : Room} {s : State} {m : MethodId} {args : Array Value} {below : List Frame} {meth : Method} {c : Code} {x : Xc} {o : Cm} {N : Nat} {K : Ka} (CX : CC p s m args meth c x K RX2 cX2_raise 5 none) (hRm : 1 ≤ R.frames ∧ 23 ≤ R.locals) (x0 : Nat) (x2 : Int32) (M : Cm) (H : Heap) (locs : List Loc) (ls : Array Slot) (hf : bC_X2_raise_24 N K x0 x2 M = some o) (hR : RC x K M H) (hS : va_S (AC K) s.heap H locs) (hl : lv_has ls 5 [(0, .ref x0), (2, .int x2)]) : W p l e R s m args below meth c H locs 0 0 (MQ below (CQV x K o) args s 0 0 (AC K)) (F0 m 24 ls []) := by
  obtain ⟨hx, hb, hml, hown, hts, hE, hB, hr, hlk⟩ := id CX
  have hL : KLe K K := KLe.rf K
  have hcs : 0 ≤ R.cells ∧ 0 ≤ R.slots := ⟨Nat.zero_le _, Nat.zero_le _⟩
  unfold bC_X2_raise_24 at hf
  refine lv_aload_n hx hb dX2_raise_24 rfl (lv_at hl 0 rfl) ?_
  obtain ⟨hk_x0_3, hf⟩ := gd_some hf
  refine cr_getR kc_2 CX hR fa_X2_25 rfl hk_x0_3 dX2_raise_25 ?_
  obtain ⟨a1, ha1, hf⟩ := nn_some hf
  refine rf_0 ha1 ?_
  refine lv_dup hx hb dX2_raise_28 rfl ?_
  obtain ⟨hk_a1_2, hf⟩ := gd_some hf
  refine cr_getI kc_1 CX hR fa_X2_174 rfl hk_a1_2 dX2_raise_29 ?_
  refine lv_iconst (v := 1) hx hb dX2_raise_32 (by decide) ?_
  refine lv_isub hx hb dX2_raise_33 ?_
  refine cr_putI kc_1 CX hR hL hS fa_X2_174 ⟨rfl, rfl, rfl⟩ hk_a1_2 dX2_raise_34 (fun H locs hR hS => ?_)
  refine lv_aload_n hx hb dX2_raise_37 rfl (lv_at hl 0 rfl) ?_
  refine cr_getR kc_2 CX hR fa_X2_25 rfl hk_x0_3 dX2_raise_38 ?_
  refine lv_iload_n hx hb dX2_raise_41 rfl (lv_at hl 1 rfl) ?_
  obtain ⟨a2, ha2, hf⟩ := nn_some hf
  refine rf_1 ha2 ?_
  obtain ⟨hk_a2_2, hf⟩ := gd_some hf
  refine cr_putI kc_1 CX hR hL hS fa_X2_165 ⟨rfl, rfl, rfl⟩ hk_a2_2 dX2_raise_42 (fun H locs hR hS => ?_)
  refine lv_aload_n hx hb dX2_raise_45 rfl (lv_at hl 0 rfl) ?_
  refine cr_getR kc_2 CX hR fa_X2_25 rfl hk_x0_3 dX2_raise_46 ?_
  refine lv_aload_n hx hb dX2_raise_49 rfl (lv_at hl 0 rfl) ?_
  refine cr_getR kc_2 CX hR fa_X2_25 rfl hk_x0_3 dX2_raise_50 ?_
  obtain ⟨a3, ha3, hf⟩ := nn_some hf
  refine rf_0 ha3 ?_
  obtain ⟨hk_a3_2, hf⟩ := gd_some hf
  refine cr_getR kc_1 CX hR fa_X2_219 rfl hk_a3_2 dX2_raise_53 ?_
  refine lv_aload_n hx hb dX2_raise_56 rfl (lv_at hl 0 rfl) ?_
  refine cr_getR kc_2 CX hR fa_X2_25 rfl hk_x0_3 dX2_raise_57 ?_
  obtain ⟨a4, ha4, hf⟩ := nn_some hf
  refine rf_0 ha4 ?_
  obtain ⟨hk_a4_2, hf⟩ := gd_some hf
  refine cr_getI kc_1 CX hR fa_X2_174 rfl hk_a4_2 dX2_raise_60 ?_
  obtain ⟨a5, ha5, hf⟩ := nn_some hf
  refine rf_1 ha5 ?_
  obtain ⟨hk_a5_22, hf⟩ := gd_some hf
  obtain ⟨hi, hf⟩ := ck_some hf
  refine cr_iald CX hR hk_a5_22 hi dX2_raise_63 ?_
  obtain ⟨a6, ha6, hf⟩ := nn_some hf
  refine rf_1 ha6 ?_
  obtain ⟨hk_a6_2, hf⟩ := gd_some hf
  refine cr_putI kc_1 CX hR hL hS fa_X2_95 ⟨rfl, rfl, rfl⟩ hk_a6_2 dX2_raise_64 (fun H locs hR hS => ?_)
  refine lv_aload_n hx hb dX2_raise_67 rfl (lv_at hl 0 rfl) ?_
  refine lv_aload_n hx hb dX2_raise_68 rfl (lv_at hl 0 rfl) ?_
  refine cr_getR kc_2 CX hR fa_X2_25 rfl hk_x0_3 dX2_raise_69 ?_
  obtain ⟨a7, ha7, hf⟩ := nn_some hf
  refine rf_0 ha7 ?_
  obtain ⟨hk_a7_2, hf⟩ := gd_some hf
  refine cr_getI kc_1 CX hR fa_X2_222 rfl hk_a7_2 dX2_raise_72 ?_
  refine cr_putI kc_2 CX hR hL hS fa_X2_33 ⟨rfl, rfl, rfl⟩ hk_x0_3 dX2_raise_75 (fun H locs hR hS => ?_)
  exact cr_vret CX hR hS hf dX2_raise_78
def bC_X2_raise_87 (N : Nat) (K : Ka) (x0 : Nat) (x2 : Int32) (x3 : Int32) (M : Cm) : Option (Cm) := gd (kd K x0 == 3) (gd (is01 0) (some (wI (wI (wI M x0 15 x2) x0 16 x3) x0 13 0)))
set_option maxRecDepth 100000 in
set_option maxHeartbeats 4000000 in
theorem wbC_X2_raise_87 {p : Program} {l : Launch} {e : Env} {R : Room} {s : State} {m : MethodId} {args : Array Value} {below : List Frame} {meth : Method} {c : Code} {x : Xc} {o : Cm} {N : Nat} {K : Ka} (CX : CC p s m args meth c x K RX2 cX2_raise 5 none) (hRm : 1 ≤ R.frames ∧ 23 ≤ R.locals) (x0 : Nat) (x2 : Int32) (x3 : Int32) (M : Cm) (H : Heap) (locs : List Loc) (ls : Array Slot) (hf : bC_X2_raise_87 N K x0 x2 x3 M = some o) (hR : RC x K M H) (hS : va_S (AC K) s.heap H locs) (hl : lv_has ls 5 [(0, .ref x0), (2, .int x2), (3, .int x3)]) : W p l e R s m args below meth c H locs 0 0 (MQ below (CQV x K o) args s 0 0 (AC K)) (F0 m 87 ls []) := by
  obtain ⟨hx, hb, hml, hown, hts, hE, hB, hr, hlk⟩ := id CX
  have hL : KLe K K := KLe.rf K
  have hcs : 0 ≤ R.cells ∧ 0 ≤ R.slots := ⟨Nat.zero_le _, Nat.zero_le _⟩
  unfold bC_X2_raise_87 at hf
  refine lv_aload_n hx hb dX2_raise_87 rfl (lv_at hl 0 rfl) ?_
  refine lv_iload_n hx hb dX2_raise_88 rfl (lv_at hl 1 rfl) ?_
  obtain ⟨hk_x0_3, hf⟩ := gd_some hf
  refine cr_putI kc_2 CX hR hL hS fa_X2_58 ⟨rfl, rfl, rfl⟩ hk_x0_3 dX2_raise_89 (fun H locs hR hS => ?_)
  refine lv_aload_n hx hb dX2_raise_92 rfl (lv_at hl 0 rfl) ?_
  refine lv_iload_n hx hb dX2_raise_93 rfl (lv_at hl 2 rfl) ?_
  refine cr_putI kc_2 CX hR hL hS fa_X2_61 ⟨rfl, rfl, rfl⟩ hk_x0_3 dX2_raise_94 (fun H locs hR hS => ?_)
  refine lv_aload_n hx hb dX2_raise_97 rfl (lv_at hl 0 rfl) ?_
  refine lv_iconst (v := 0) hx hb dX2_raise_98 (by decide) ?_
  obtain ⟨hq, hf⟩ := gd_some hf
  refine cr_putZ kc_2 CX hR hL hS fa_X2_52 ⟨rfl, rfl, rfl⟩ hk_x0_3 hq dX2_raise_99 (fun H locs hR hS => ?_)
  exact cr_vret CX hR hS hf dX2_raise_102
def bC_X2_raise_146 (N : Nat) (K : Ka) (x0 : Nat) (M : Cm) : Option (Cm) := some M
set_option maxRecDepth 100000 in
set_option maxHeartbeats 4000000 in
theorem wbC_X2_raise_146 {p : Program} {l : Launch} {e : Env} {R : Room} {s : State} {m : MethodId} {args : Array Value} {below : List Frame} {meth : Method} {c : Code} {x : Xc} {o : Cm} {N : Nat} {K : Ka} (CX : CC p s m args meth c x K RX2 cX2_raise 5 none) (hRm : 1 ≤ R.frames ∧ 23 ≤ R.locals) (x0 : Nat) (M : Cm) (H : Heap) (locs : List Loc) (ls : Array Slot) (hf : bC_X2_raise_146 N K x0 M = some o) (hR : RC x K M H) (hS : va_S (AC K) s.heap H locs) (hl : lv_has ls 5 [(0, .ref x0)]) : W p l e R s m args below meth c H locs 0 0 (MQ below (CQV x K o) args s 0 0 (AC K)) (F0 m 146 ls []) := by
  obtain ⟨hx, hb, hml, hown, hts, hE, hB, hr, hlk⟩ := id CX
  have hL : KLe K K := KLe.rf K
  have hcs : 0 ≤ R.cells ∧ 0 ≤ R.slots := ⟨Nat.zero_le _, Nat.zero_le _⟩
  unfold bC_X2_raise_146 at hf
  exact cr_vret CX hR hS hf dX2_raise_146
def fC_X2_raise (N : Nat) (K : Ka) (x0 : Nat) (x1 : Int32) (M : Cm) : Option (Cm) := (lC_X2_raise_7 N K (bC_X2_raise_24 N K) (bC_X2_raise_87 N K) (bC_X2_raise_146 N K) N) x0 x1 0 0 M
set_option maxRecDepth 100000 in
set_option maxHeartbeats 4000000 in
theorem wfC_X2_raise {p : Program} {l : Launch} {e : Env} {R : Room} {s : State} {m : MethodId} {args : Array Value} {below : List Frame} {meth : Method} {c : Code} {x : Xc} {o : Cm} {N : Nat} {K : Ka} (CX : CC p s m args meth c x K RX2 cX2_raise 5 none) (hRm : 1 ≤ R.frames ∧ 23 ≤ R.locals) (x0 : Nat) (x1 : Int32) (M : Cm) (H : Heap) (locs : List Loc) (ls : Array Slot) (hf : fC_X2_raise N K x0 x1 M = some o) (hR : RC x K M H) (hS : va_S (AC K) s.heap H locs) (hl : lv_has ls 5 [(0, .ref x0), (1, .int x1)]) : W p l e R s m args below meth c H locs 0 0 (MQ below (CQV x K o) args s 0 0 (AC K)) (F0 m 0 ls []) := by
  obtain ⟨hx, hb, hml, hown, hts, hE, hB, hr, hlk⟩ := id CX
  have hL : KLe K K := KLe.rf K
  have hcs : 0 ≤ R.cells ∧ 0 ≤ R.slots := ⟨Nat.zero_le _, Nat.zero_le _⟩
  unfold fC_X2_raise at hf
  refine lv_iload_n hx hb dX2_raise_0 rfl (lv_at hl 1 rfl) ?_
  refine lv_istore_n (lv' := [(2, .int x1), (0, .ref x0), (1, .int x1)]) hx hb dX2_raise_1 rfl hl (by decide) rfl (fun ls hl => ?_)
  refine lv_iconst (v := 0) hx hb dX2_raise_2 (by decide) ?_
  refine lv_istore_n (lv' := [(3, .int 0), (2, .int x1), (0, .ref x0), (1, .int x1)]) hx hb dX2_raise_3 rfl hl (by decide) rfl (fun ls hl => ?_)
  refine lv_iconst (v := 0) hx hb dX2_raise_4 (by decide) ?_
  refine lv_istore (lv' := [(4, .int 0), (3, .int 0), (2, .int x1), (0, .ref x0), (1, .int x1)]) hx hb dX2_raise_5 hl (by decide) rfl (fun ls hl => ?_)
  exact (wlC_X2_raise_7 CX hRm (wbC_X2_raise_24 CX hRm) (wbC_X2_raise_87 CX hRm) (wbC_X2_raise_146 CX hRm) N) _ _ _ _ _ _ _ _ hf hR hS (lv_sub hl [3, 2, 1, 0] rfl)
theorem MC_X2_raise (l : Launch) (x : Xc) (N : Nat) (K : Ka) (x0 : Nat) (x1 : Int32) (M : Cm) (o : Cm) (hf : fC_X2_raise N K x0 x1 M = some o) : CtV l x yX2_raise cX2_raise 5 1 23 [.ref x0, .int x1] K M o :=
  cr_metV RX2 (by decide) rfl (Nat.le_of_ble_eq_true rfl) (fun p e s m args below meth c ls CX hR hl => wfC_X2_raise CX ⟨Nat.le_refl _, Nat.le_refl _⟩ x0 x1 M s.heap [] ls hf hR va_S.rf hl)
def bC_X2_giveOrder_72 (N : Nat) (K : Ka) (x0 : Nat) (M : Cm) : Option (Cm) := some M
set_option maxRecDepth 100000 in
set_option maxHeartbeats 4000000 in
theorem wbC_X2_giveOrder_72 {p : Program} {l : Launch} {e : Env} {R : Room} {s : State} {m : MethodId} {args : Array Value} {below : List Frame} {meth : Method} {c : Code} {x : Xc} {o : Cm} {N : Nat} {K : Ka} (CX : CC p s m args meth c x K RX2 cX2_giveOrder 4 none) (hRm : 2 ≤ R.frames ∧ 47 ≤ R.locals) (x0 : Nat) (M : Cm) (H : Heap) (locs : List Loc) (ls : Array Slot) (hf : bC_X2_giveOrder_72 N K x0 M = some o) (hR : RC x K M H) (hS : va_S (AC K) s.heap H locs) (hl : lv_has ls 4 [(0, .ref x0)]) : W p l e R s m args below meth c H locs 0 0 (MQ below (CQV x K o) args s 0 0 (AC K)) (F0 m 72 ls []) := by
  obtain ⟨hx, hb, hml, hown, hts, hE, hB, hr, hlk⟩ := id CX
  have hL : KLe K K := KLe.rf K
  have hcs : 0 ≤ R.cells ∧ 0 ≤ R.slots := ⟨Nat.zero_le _, Nat.zero_le _⟩
  unfold bC_X2_giveOrder_72 at hf
  exact cr_vret CX hR hS hf dX2_giveOrder_72
def bC_X2_giveOrder_31 (N : Nat) (K : Ka) (x0 : Nat) (x1 : Int32) (x2 : Int32) (s0 : Int32) (M : Cm) : Option (Cm) := gd (kd K x0 == 3) (nn (cR M x0 5) fun a1 => gd (kd K a1 == 2) (nn (cR M x0 1) fun a2 => gd (kd K a2 == 1) ((fC_X0_addOrder N K a2 (cI M a1 1) x1 x2 s0 M).bind fun o46 => if s0 = 0 then ((fC_X2_raise N K x0 12 o46).bind fun o69 => (bC_X2_giveOrder_72 N K) x0 o69) else (nn (cR o46 x0 0) fun a3 => gd (kd K a3 == 5) (nn (cR o46 a3 9) fun a4 => gd (kd K a4 == 22) (ck x1 (le K a4) ((bC_X2_giveOrder_72 N K) x0 (wI o46 a4 (x1 : Int32).toNatClampNeg x2))))))))
set_option maxRecDepth 100000 in
set_option maxHeartbeats 4000000 in
theorem wbC_X2_giveOrder_31 {p : Program} {l : Launch} {e : Env} {R : Room} {s : State} {m : MethodId} {args : Array Value} {below : List Frame} {meth : Method} {c : Code} {x : Xc} {o : Cm} {N : Nat} {K : Ka} (CX : CC p s m args meth c x K RX2 cX2_giveOrder 4 none) (hRm : 2 ≤ R.frames ∧ 47 ≤ R.locals) (x0 : Nat) (x1 : Int32) (x2 : Int32) (s0 : Int32) (M : Cm) (H : Heap) (locs : List Loc) (ls : Array Slot) (hf : bC_X2_giveOrder_31 N K x0 x1 x2 s0 M = some o) (hR : RC x K M H) (hS : va_S (AC K) s.heap H locs) (hl : lv_has ls 4 [(0, .ref x0), (1, .int x1), (2, .int x2)]) : W p l e R s m args below meth c H locs 0 0 (MQ below (CQV x K o) args s 0 0 (AC K)) (F0 m 31 ls [.int s0]) := by
  obtain ⟨hx, hb, hml, hown, hts, hE, hB, hr, hlk⟩ := id CX
  have hL : KLe K K := KLe.rf K
  have hcs : 0 ≤ R.cells ∧ 0 ≤ R.slots := ⟨Nat.zero_le _, Nat.zero_le _⟩
  unfold bC_X2_giveOrder_31 at hf
  refine lv_istore_n (lv' := [(3, .int s0), (0, .ref x0), (1, .int x1), (2, .int x2)]) hx hb dX2_giveOrder_31 rfl hl (by decide) rfl (fun ls hl => ?_)
  refine lv_aload_n hx hb dX2_giveOrder_32 rfl (lv_at hl 1 rfl) ?_
  obtain ⟨hk_x0_3, hf⟩ := gd_some hf
  refine cr_getR kc_2 CX hR fa_X2_68 rfl hk_x0_3 dX2_giveOrder_33 ?_
  refine lv_aload_n hx hb dX2_giveOrder_36 rfl (lv_at hl 1 rfl) ?_
  refine cr_getR kc_2 CX hR fa_X2_25 rfl hk_x0_3 dX2_giveOrder_37 ?_
  obtain ⟨a1, ha1, hf⟩ := nn_some hf
  refine rf_0 ha1 ?_
  obtain ⟨hk_a1_2, hf⟩ := gd_some hf
  refine cr_getI kc_1 CX hR fa_X2_134 rfl hk_a1_2 dX2_giveOrder_40 ?_
  refine lv_iload_n hx hb dX2_giveOrder_43 rfl (lv_at hl 2 rfl) ?_
  refine lv_iload_n hx hb dX2_giveOrder_44 rfl (lv_at hl 3 rfl) ?_
  refine lv_iload_n hx hb dX2_giveOrder_45 rfl (lv_at hl 0 rfl) ?_
  obtain ⟨a2, ha2, hf⟩ := nn_some hf
  refine rf_4 ha2 ?_
  obtain ⟨hk_a2_1, hf⟩ := gd_some hf
  obtain ⟨o46, ho46, hf⟩ := bnd_some hf
  refine cr_callVv kc_0 CX hR hL hS (As := [.int (cI M a1 1), .int x1, .int x2, .int s0]) (rest := []) hk_a2_1 (MC_X0_addOrder l x N K a2 (cI M a1 1) x1 x2 s0 M o46 ho46) cv_X2_206 ⟨by omega, by omega⟩ rfl rfl (Nat.le_of_ble_eq_true rfl) hl.1 dX2_giveOrder_46 hcs (fun H locs hR hS => ?_)
  refine lv_iload_n hx hb dX2_giveOrder_49 rfl (lv_at hl 0 rfl) ?_
  refine lv_if_eq (tgt := 66) hx hb dX2_giveOrder_50 (by decide) (fun hc => ?_) (fun hc => ?_)
  · rw [if_pos hc] at hf
    refine lv_aload_n hx hb dX2_giveOrder_66 rfl (lv_at hl 1 rfl) ?_
    refine lv_bipush (v := 12) hx hb dX2_giveOrder_67 (by decide) ?_
    obtain ⟨o69, ho69, hf⟩ := bnd_some hf
    refine cr_callVv kc_2 CX hR hL hS (As := [.int 12]) (rest := []) hk_x0_3 (MC_X2_raise l x N K x0 12 o46 o69 ho69) cv_X2_146 ⟨by omega, by omega⟩ rfl rfl (Nat.le_of_ble_eq_true rfl) hl.1 dX2_giveOrder_69 hcs (fun H locs hR hS => ?_)
    exact (wbC_X2_giveOrder_72 CX hRm) _ _ _ _ _ hf hR hS (lv_sub hl [1] rfl)
  · rw [if_neg hc] at hf
    refine lv_aload_n hx hb dX2_giveOrder_53 rfl (lv_at hl 1 rfl) ?_
    refine cr_getR kc_2 CX hR fa_X2_64 rfl hk_x0_3 dX2_giveOrder_54 ?_
    obtain ⟨a3, ha3, hf⟩ := nn_some hf
    refine rf_0 ha3 ?_
    obtain ⟨hk_a3_5, hf⟩ := gd_some hf
    refine cr_getR kc_4 CX hR fa_X2_210 rfl hk_a3_5 dX2_giveOrder_57 ?_
    refine lv_iload_n hx hb dX2_giveOrder_60 rfl (lv_at hl 2 rfl) ?_
    refine lv_iload_n hx hb dX2_giveOrder_61 rfl (lv_at hl 3 rfl) ?_
    obtain ⟨a4, ha4, hf⟩ := nn_some hf
    refine rf_2 ha4 ?_
    obtain ⟨hk_a4_22, hf⟩ := gd_some hf
    obtain ⟨hi, hf⟩ := ck_some hf
    refine cr_iast CX hR hL hS hk_a4_22 hi dX2_giveOrder_62 (fun H locs hR hS => ?_)
    refine lv_goto (tgt := 72) hx hb dX2_giveOrder_63 (by decide) ?_
    exact (wbC_X2_giveOrder_72 CX hRm) _ _ _ _ _ hf hR hS (lv_sub hl [1] rfl)
def bC_X2_giveOrder_30 (N : Nat) (K : Ka) (x0 : Nat) (x1 : Int32) (x2 : Int32) (M : Cm) : Option (Cm) := (bC_X2_giveOrder_31 N K) x0 x1 x2 0 M
set_option maxRecDepth 100000 in
set_option maxHeartbeats 4000000 in
theorem wbC_X2_giveOrder_30 {p : Program} {l : Launch} {e : Env} {R : Room} {s : State} {m : MethodId} {args : Array Value} {below : List Frame} {meth : Method} {c : Code} {x : Xc} {o : Cm} {N : Nat} {K : Ka} (CX : CC p s m args meth c x K RX2 cX2_giveOrder 4 none) (hRm : 2 ≤ R.frames ∧ 47 ≤ R.locals) (x0 : Nat) (x1 : Int32) (x2 : Int32) (M : Cm) (H : Heap) (locs : List Loc) (ls : Array Slot) (hf : bC_X2_giveOrder_30 N K x0 x1 x2 M = some o) (hR : RC x K M H) (hS : va_S (AC K) s.heap H locs) (hl : lv_has ls 4 [(0, .ref x0), (1, .int x1), (2, .int x2)]) : W p l e R s m args below meth c H locs 0 0 (MQ below (CQV x K o) args s 0 0 (AC K)) (F0 m 30 ls []) := by
  obtain ⟨hx, hb, hml, hown, hts, hE, hB, hr, hlk⟩ := id CX
  have hL : KLe K K := KLe.rf K
  have hcs : 0 ≤ R.cells ∧ 0 ≤ R.slots := ⟨Nat.zero_le _, Nat.zero_le _⟩
  unfold bC_X2_giveOrder_30 at hf
  refine lv_iconst (v := 0) hx hb dX2_giveOrder_30 (by decide) ?_
  exact (wbC_X2_giveOrder_31 CX hRm) _ _ _ _ _ _ _ _ hf hR hS (lv_sub hl [0, 1, 2] rfl)
def fC_X2_giveOrder (N : Nat) (K : Ka) (x0 : Nat) (x1 : Int32) (x2 : Int32) (M : Cm) : Option (Cm) := gd (kd K x0 == 3) (nn (cR M x0 4) fun a1 => gd (kd K a1 == 6) (nn (cR M a1 1) fun a2 => gd (kd K a2 == 22) (ck x1 (le K a2) (if x2 < (cI M a2 (x1 : Int32).toNatClampNeg) then ((bC_X2_giveOrder_30 N K) x0 x1 x2 M) else (nn (cR M x0 4) fun a3 => gd (kd K a3 == 6) (nn (cR M a3 2) fun a4 => gd (kd K a4 == 22) (ck x1 (le K a4) (if (cI M a4 (x1 : Int32).toNatClampNeg) < x2 then ((bC_X2_giveOrder_30 N K) x0 x1 x2 M) else ((bC_X2_giveOrder_31 N K) x0 x1 x2 1 M)))))))))
set_option maxRecDepth 100000 in
set_option maxHeartbeats 4000000 in
theorem wfC_X2_giveOrder {p : Program} {l : Launch} {e : Env} {R : Room} {s : State} {m : MethodId} {args : Array Value} {below : List Frame} {meth : Method} {c : Code} {x : Xc} {o : Cm} {N : Nat} {K : Ka} (CX : CC p s m args meth c x K RX2 cX2_giveOrder 4 none) (hRm : 2 ≤ R.frames ∧ 47 ≤ R.locals) (x0 : Nat) (x1 : Int32) (x2 : Int32) (M : Cm) (H : Heap) (locs : List Loc) (ls : Array Slot) (hf : fC_X2_giveOrder N K x0 x1 x2 M = some o) (hR : RC x K M H) (hS : va_S (AC K) s.heap H locs) (hl : lv_has ls 4 [(0, .ref x0), (1, .int x1), (2, .int x2)]) : W p l e R s m args below meth c H locs 0 0 (MQ below (CQV x K o) args s 0 0 (AC K)) (F0 m 0 ls []) := by
  obtain ⟨hx, hb, hml, hown, hts, hE, hB, hr, hlk⟩ := id CX
  have hL : KLe K K := KLe.rf K
  have hcs : 0 ≤ R.cells ∧ 0 ≤ R.slots := ⟨Nat.zero_le _, Nat.zero_le _⟩
  unfold fC_X2_giveOrder at hf
  refine lv_iload_n hx hb dX2_giveOrder_0 rfl (lv_at hl 2 rfl) ?_
  refine lv_aload_n hx hb dX2_giveOrder_1 rfl (lv_at hl 0 rfl) ?_
  obtain ⟨hk_x0_3, hf⟩ := gd_some hf
  refine cr_getR kc_2 CX hR fa_X2_21 rfl hk_x0_3 dX2_giveOrder_2 ?_
  obtain ⟨a1, ha1, hf⟩ := nn_some hf
  refine rf_0 ha1 ?_
  obtain ⟨hk_a1_6, hf⟩ := gd_some hf
  refine cr_getR kc_5 CX hR fa_X2_200 rfl hk_a1_6 dX2_giveOrder_5 ?_
  refine lv_iload_n hx hb dX2_giveOrder_8 rfl (lv_at hl 1 rfl) ?_
  obtain ⟨a2, ha2, hf⟩ := nn_some hf
  refine rf_1 ha2 ?_
  obtain ⟨hk_a2_22, hf⟩ := gd_some hf
  obtain ⟨hi, hf⟩ := ck_some hf
  refine cr_iald CX hR hk_a2_22 hi dX2_giveOrder_9 ?_
  refine lv_icmp_lt (tgt := 30) hx hb dX2_giveOrder_10 (by decide) (fun hc => ?_) (fun hc => ?_)
  · rw [if_pos hc] at hf
    exact (wbC_X2_giveOrder_30 CX hRm) _ _ _ _ _ _ _ hf hR hS (lv_sub hl [0, 1, 2] rfl)
  · rw [if_neg hc] at hf
    refine lv_iload_n hx hb dX2_giveOrder_13 rfl (lv_at hl 2 rfl) ?_
    refine lv_aload_n hx hb dX2_giveOrder_14 rfl (lv_at hl 0 rfl) ?_
    refine cr_getR kc_2 CX hR fa_X2_21 rfl hk_x0_3 dX2_giveOrder_15 ?_
    obtain ⟨a3, ha3, hf⟩ := nn_some hf
    refine rf_0 ha3 ?_
    obtain ⟨hk_a3_6, hf⟩ := gd_some hf
    refine cr_getR kc_5 CX hR fa_X2_203 rfl hk_a3_6 dX2_giveOrder_18 ?_
    refine lv_iload_n hx hb dX2_giveOrder_21 rfl (lv_at hl 1 rfl) ?_
    obtain ⟨a4, ha4, hf⟩ := nn_some hf
    refine rf_1 ha4 ?_
    obtain ⟨hk_a4_22, hf⟩ := gd_some hf
    obtain ⟨hi, hf⟩ := ck_some hf
    refine cr_iald CX hR hk_a4_22 hi dX2_giveOrder_22 ?_
    refine lv_icmp_gt (tgt := 30) hx hb dX2_giveOrder_23 (by decide) (fun hc => ?_) (fun hc => ?_)
    · rw [if_pos hc] at hf
      exact (wbC_X2_giveOrder_30 CX hRm) _ _ _ _ _ _ _ hf hR hS (lv_sub hl [0, 1, 2] rfl)
    · rw [if_neg hc] at hf
      refine lv_iconst (v := 1) hx hb dX2_giveOrder_26 (by decide) ?_
      refine lv_goto (tgt := 31) hx hb dX2_giveOrder_27 (by decide) ?_
      exact (wbC_X2_giveOrder_31 CX hRm) _ _ _ _ _ _ _ _ hf hR hS (lv_sub hl [0, 1, 2] rfl)
theorem MC_X2_giveOrder (l : Launch) (x : Xc) (N : Nat) (K : Ka) (x0 : Nat) (x1 : Int32) (x2 : Int32) (M : Cm) (o : Cm) (hf : fC_X2_giveOrder N K x0 x1 x2 M = some o) : CtV l x yX2_giveOrder cX2_giveOrder 4 2 47 [.ref x0, .int x1, .int x2] K M o :=
  cr_metV RX2 (by decide) rfl (Nat.le_of_ble_eq_true rfl) (fun p e s m args below meth c ls CX hR hl => wfC_X2_giveOrder CX ⟨Nat.le_refl _, Nat.le_refl _⟩ x0 x1 x2 M s.heap [] ls hf hR va_S.rf hl)
def bC_X2_isThere_27 (N : Nat) (K : Ka) (x0 : Nat) (M : Cm) : Option (Int32 × Cm) := gd (is01 1) (some (1, M))
set_option maxRecDepth 100000 in
set_option maxHeartbeats 4000000 in
theorem wbC_X2_isThere_27 {p : Program} {l : Launch} {e : Env} {R : Room} {s : State} {m : MethodId} {args : Array Value} {below : List Frame} {meth : Method} {c : Code} {x : Xc} {o : Int32 × Cm} {N : Nat} {K : Ka} (CX : CC p s m args meth c x K RX2 cX2_isThere 3 (some .boolean)) (hRm : 2 ≤ R.frames ∧ 47 ≤ R.locals) (x0 : Nat) (M : Cm) (H : Heap) (locs : List Loc) (ls : Array Slot) (hf : bC_X2_isThere_27 N K x0 M = some o) (hR : RC x K M H) (hS : va_S (AC K) s.heap H locs) (hl : lv_has ls 3 [(0, .ref x0)]) : W p l e R s m args below meth c H locs 0 0 (MQ below (CQI x K o) args s 0 0 (AC K)) (F0 m 27 ls []) := by
  obtain ⟨hx, hb, hml, hown, hts, hE, hB, hr, hlk⟩ := id CX
  have hL : KLe K K := KLe.rf K
  have hcs : 0 ≤ R.cells ∧ 0 ≤ R.slots := ⟨Nat.zero_le _, Nat.zero_le _⟩
  unfold bC_X2_isThere_27 at hf
  refine lv_iconst (v := 1) hx hb dX2_isThere_27 (by decide) ?_
  obtain ⟨hz, hf⟩ := gd_some hf
  exact cr_zret CX hR hS hz hf dX2_isThere_28
def bC_X2_isThere_82 (N : Nat) (K : Ka) (x0 : Nat) (M : Cm) : Option (Int32 × Cm) := gd (is01 0) (some (0, M))
set_option maxRecDepth 100000 in
set_option maxHeartbeats 4000000 in
theorem wbC_X2_isThere_82 {p : Program} {l : Launch} {e : Env} {R : Room} {s : State} {m : MethodId} {args : Array Value} {below : List Frame} {meth : Method} {c : Code} {x : Xc} {o : Int32 × Cm} {N : Nat} {K : Ka} (CX : CC p s m args meth c x K RX2 cX2_isThere 3 (some .boolean)) (hRm : 2 ≤ R.frames ∧ 47 ≤ R.locals) (x0 : Nat) (M : Cm) (H : Heap) (locs : List Loc) (ls : Array Slot) (hf : bC_X2_isThere_82 N K x0 M = some o) (hR : RC x K M H) (hS : va_S (AC K) s.heap H locs) (hl : lv_has ls 3 [(0, .ref x0)]) : W p l e R s m args below meth c H locs 0 0 (MQ below (CQI x K o) args s 0 0 (AC K)) (F0 m 82 ls []) := by
  obtain ⟨hx, hb, hml, hown, hts, hE, hB, hr, hlk⟩ := id CX
  have hL : KLe K K := KLe.rf K
  have hcs : 0 ≤ R.cells ∧ 0 ≤ R.slots := ⟨Nat.zero_le _, Nat.zero_le _⟩
  unfold bC_X2_isThere_82 at hf
  refine lv_iconst (v := 0) hx hb dX2_isThere_82 (by decide) ?_
  obtain ⟨hz, hf⟩ := gd_some hf
  exact cr_zret CX hR hS hz hf dX2_isThere_83
def fC_X2_isThere (N : Nat) (K : Ka) (x0 : Nat) (x1 : Int32) (M : Cm) : Option (Int32 × Cm) := gd (kd K x0 == 3) (nn (cR M x0 0) fun a1 => gd (kd K a1 == 5) (nn (cR M a1 0) fun a2 => gd (kd K a2 == 22) (ck x1 (le K a2) (if (cI M x0 9) = 0 then (if (cI M a2 (x1 : Int32).toNatClampNeg) = 2 then ((bC_X2_isThere_27 N K) x0 M) else (if (cI M a2 (x1 : Int32).toNatClampNeg) = 1 then ((bC_X2_isThere_27 N K) x0 M) else (if (cI M a2 (x1 : Int32).toNatClampNeg) = 0 then (nn (cR M x0 5) fun a3 => gd (kd K a3 == 2) (nn (cR (wI M a3 2 ((cI M a3 2) - 1)) x0 0) fun a4 => gd (kd K a4 == 5) (nn (cR (wI M a3 2 ((cI M a3 2) - 1)) a4 0) fun a5 => gd (kd K a5 == 22) (ck x1 (le K a5) (nn (cR (wI (wI M a3 2 ((cI M a3 2) - 1)) a5 (x1 : Int32).toNatClampNeg 1) x0 4) fun a6 => gd (kd K a6 == 6) (nn (cR (wI (wI M a3 2 ((cI M a3 2) - 1)) a5 (x1 : Int32).toNatClampNeg 1) a6 5) fun a7 => gd (kd K a7 == 26) (ck x1 (le K a7) (nn (cR (wI (wI M a3 2 ((cI M a3 2) - 1)) a5 (x1 : Int32).toNatClampNeg 1) a7 (x1 : Int32).toNatClampNeg) fun a8 => gd (kd K a8 == 8) ((fC_X2_enter N K x0 x1 (cI (wI (wI M a3 2 ((cI M a3 2) - 1)) a5 (x1 : Int32).toNatClampNeg 1) a8 12) (wI (wI M a3 2 ((cI M a3 2) - 1)) a5 (x1 : Int32).toNatClampNeg 1)).bind fun o70 => (bC_X2_isThere_82 N K) x0 o70))))))))) else ((fC_X2_raise N K x0 21 M).bind fun o79 => (bC_X2_isThere_82 N K) x0 o79)))) else ((bC_X2_isThere_27 N K) x0 M)))))
set_option maxRecDepth 100000 in
set_option maxHeartbeats 4000000 in
theorem wfC_X2_isThere {p : Program} {l : Launch} {e : Env} {R : Room} {s : State} {m : MethodId} {args : Array Value} {below : List Frame} {meth : Method} {c : Code} {x : Xc} {o : Int32 × Cm} {N : Nat} {K : Ka} (CX : CC p s m args meth c x K RX2 cX2_isThere 3 (some .boolean)) (hRm : 2 ≤ R.frames ∧ 47 ≤ R.locals) (x0 : Nat) (x1 : Int32) (M : Cm) (H : Heap) (locs : List Loc) (ls : Array Slot) (hf : fC_X2_isThere N K x0 x1 M = some o) (hR : RC x K M H) (hS : va_S (AC K) s.heap H locs) (hl : lv_has ls 3 [(0, .ref x0), (1, .int x1)]) : W p l e R s m args below meth c H locs 0 0 (MQ below (CQI x K o) args s 0 0 (AC K)) (F0 m 0 ls []) := by
  obtain ⟨hx, hb, hml, hown, hts, hE, hB, hr, hlk⟩ := id CX
  have hL : KLe K K := KLe.rf K
  have hcs : 0 ≤ R.cells ∧ 0 ≤ R.slots := ⟨Nat.zero_le _, Nat.zero_le _⟩
  unfold fC_X2_isThere at hf
  refine lv_aload_n hx hb dX2_isThere_0 rfl (lv_at hl 0 rfl) ?_
  obtain ⟨hk_x0_3, hf⟩ := gd_some hf
  refine cr_getR kc_2 CX hR fa_X2_64 rfl hk_x0_3 dX2_isThere_1 ?_
  obtain ⟨a1, ha1, hf⟩ := nn_some hf
  refine rf_0 ha1 ?_
  obtain ⟨hk_a1_5, hf⟩ := gd_some hf
  refine cr_getR kc_4 CX hR fa_X2_186 rfl hk_a1_5 dX2_isThere_4 ?_
  refine lv_iload_n hx hb dX2_isThere_7 rfl (lv_at hl 1 rfl) ?_
  obtain ⟨a2, ha2, hf⟩ := nn_some hf
  refine rf_1 ha2 ?_
  obtain ⟨hk_a2_22, hf⟩ := gd_some hf
  obtain ⟨hi, hf⟩ := ck_some hf
  refine cr_iald CX hR hk_a2_22 hi dX2_isThere_8 ?_
  refine lv_istore_n (lv' := [(2, .int (cI M a2 (x1 : Int32).toNatClampNeg)), (0, .ref x0), (1, .int x1)]) hx hb dX2_isThere_9 rfl hl (by decide) rfl (fun ls hl => ?_)
  refine lv_aload_n hx hb dX2_isThere_10 rfl (lv_at hl 1 rfl) ?_
  refine cr_getI kc_2 CX hR fa_X2_39 rfl hk_x0_3 dX2_isThere_11 ?_
  refine lv_if_ne (tgt := 27) hx hb dX2_isThere_14 (by decide) (fun hc => ?_) (fun hc => ?_)
  · rw [if_neg hc] at hf
    exact (wbC_X2_isThere_27 CX hRm) _ _ _ _ _ hf hR hS (lv_sub hl [1] rfl)
  · rw [if_pos hc] at hf
    refine lv_iload_n hx hb dX2_isThere_17 rfl (lv_at hl 0 rfl) ?_
    refine lv_iconst (v := 2) hx hb dX2_isThere_18 (by decide) ?_
    refine lv_icmp_eq (tgt := 27) hx hb dX2_isThere_19 (by decide) (fun hc => ?_) (fun hc => ?_)
    · rw [if_pos hc] at hf
      exact (wbC_X2_isThere_27 CX hRm) _ _ _ _ _ hf hR hS (lv_sub hl [1] rfl)
    · rw [if_neg hc] at hf
      refine lv_iload_n hx hb dX2_isThere_22 rfl (lv_at hl 0 rfl) ?_
      refine lv_iconst (v := 1) hx hb dX2_isThere_23 (by decide) ?_
      refine lv_icmp_ne (tgt := 29) hx hb dX2_isThere_24 (by decide) (fun hc => ?_) (fun hc => ?_)
      · rw [if_neg hc] at hf
        refine lv_iload_n hx hb dX2_isThere_29 rfl (lv_at hl 0 rfl) ?_
        refine lv_if_ne (tgt := 76) hx hb dX2_isThere_30 (by decide) (fun hc => ?_) (fun hc => ?_)
        · rw [if_neg hc] at hf
          refine lv_aload_n hx hb dX2_isThere_76 rfl (lv_at hl 1 rfl) ?_
          refine lv_bipush (v := 21) hx hb dX2_isThere_77 (by decide) ?_
          obtain ⟨o79, ho79, hf⟩ := bnd_some hf
          refine cr_callVv kc_2 CX hR hL hS (As := [.int 21]) (rest := []) hk_x0_3 (MC_X2_raise l x N K x0 21 M o79 ho79) cv_X2_146 ⟨by omega, by omega⟩ rfl rfl (Nat.le_of_ble_eq_true rfl) hl.1 dX2_isThere_79 hcs (fun H locs hR hS => ?_)
          exact (wbC_X2_isThere_82 CX hRm) _ _ _ _ _ hf hR hS (lv_sub hl [1] rfl)
        · rw [if_pos hc] at hf
          refine lv_aload_n hx hb dX2_isThere_33 rfl (lv_at hl 1 rfl) ?_
          refine cr_getR kc_2 CX hR fa_X2_25 rfl hk_x0_3 dX2_isThere_34 ?_
          obtain ⟨a3, ha3, hf⟩ := nn_some hf
          refine rf_0 ha3 ?_
          refine lv_dup hx hb dX2_isThere_37 rfl ?_
          obtain ⟨hk_a3_2, hf⟩ := gd_some hf
          refine cr_getI kc_1 CX hR fa_X2_95 rfl hk_a3_2 dX2_isThere_38 ?_
          refine lv_iconst (v := 1) hx hb dX2_isThere_41 (by decide) ?_
          refine lv_isub hx hb dX2_isThere_42 ?_
          refine cr_putI kc_1 CX hR hL hS fa_X2_95 ⟨rfl, rfl, rfl⟩ hk_a3_2 dX2_isThere_43 (fun H locs hR hS => ?_)
          refine lv_aload_n hx hb dX2_isThere_46 rfl (lv_at hl 1 rfl) ?_
          refine cr_getR kc_2 CX hR fa_X2_64 rfl hk_x0_3 dX2_isThere_47 ?_
          obtain ⟨a4, ha4, hf⟩ := nn_some hf
          refine rf_0 ha4 ?_
          obtain ⟨hk_a4_5, hf⟩ := gd_some hf
          refine cr_getR kc_4 CX hR fa_X2_186 rfl hk_a4_5 dX2_isThere_50 ?_
          refine lv_iload_n hx hb dX2_isThere_53 rfl (lv_at hl 2 rfl) ?_
          refine lv_iconst (v := 1) hx hb dX2_isThere_54 (by decide) ?_
          obtain ⟨a5, ha5, hf⟩ := nn_some hf
          refine rf_2 ha5 ?_
          obtain ⟨hk_a5_22, hf⟩ := gd_some hf
          obtain ⟨hi, hf⟩ := ck_some hf
          refine cr_iast CX hR hL hS hk_a5_22 hi dX2_isThere_55 (fun H locs hR hS => ?_)
          refine lv_aload_n hx hb dX2_isThere_56 rfl (lv_at hl 1 rfl) ?_
          refine lv_iload_n hx hb dX2_isThere_57 rfl (lv_at hl 2 rfl) ?_
          refine lv_aload_n hx hb dX2_isThere_58 rfl (lv_at hl 1 rfl) ?_
          refine cr_getR kc_2 CX hR fa_X2_21 rfl hk_x0_3 dX2_isThere_59 ?_
          obtain ⟨a6, ha6, hf⟩ := nn_some hf
          refine rf_0 ha6 ?_
          obtain ⟨hk_a6_6, hf⟩ := gd_some hf
          refine cr_getR kc_5 CX hR fa_X2_82 rfl hk_a6_6 dX2_isThere_62 ?_
          refine lv_iload_n hx hb dX2_isThere_65 rfl (lv_at hl 2 rfl) ?_
          obtain ⟨a7, ha7, hf⟩ := nn_some hf
          refine rf_1 ha7 ?_
          obtain ⟨hk_a7_26, hf⟩ := gd_some hf
          obtain ⟨hi, hf⟩ := ck_some hf
          refine cr_uald CX hR hk_a7_26 hi dX2_isThere_66 ?_
          obtain ⟨a8, ha8, hf⟩ := nn_some hf
          refine rf_0 ha8 ?_
          obtain ⟨hk_a8_8, hf⟩ := gd_some hf
          refine cr_getI kc_7 CX hR fa_X2_189 rfl hk_a8_8 dX2_isThere_67 ?_
          obtain ⟨o70, ho70, hf⟩ := bnd_some hf
          refine cr_callVv kc_2 CX hR hL hS (As := [.int x1, .int (cI (wI (wI M a3 2 ((cI M a3 2) - 1)) a5 (x1 : Int32).toNatClampNeg 1) a8 12)]) (rest := []) hk_x0_3 (MC_X2_enter l x N K x0 x1 (cI (wI (wI M a3 2 ((cI M a3 2) - 1)) a5 (x1 : Int32).toNatClampNeg 1) a8 12) (wI (wI M a3 2 ((cI M a3 2) - 1)) a5 (x1 : Int32).toNatClampNeg 1) o70 ho70) cv_X2_90 ⟨by omega, by omega⟩ rfl rfl (Nat.le_of_ble_eq_true rfl) hl.1 dX2_isThere_70 hcs (fun H locs hR hS => ?_)
          refine lv_goto (tgt := 82) hx hb dX2_isThere_73 (by decide) ?_
          exact (wbC_X2_isThere_82 CX hRm) _ _ _ _ _ hf hR hS (lv_sub hl [1] rfl)
      · rw [if_pos hc] at hf
        exact (wbC_X2_isThere_27 CX hRm) _ _ _ _ _ hf hR hS (lv_sub hl [1] rfl)
theorem MC_X2_isThere (l : Launch) (x : Xc) (N : Nat) (K : Ka) (x0 : Nat) (x1 : Int32) (M : Cm) (o : Int32 × Cm) (hf : fC_X2_isThere N K x0 x1 M = some o) : CtI l x yX2_isThere cX2_isThere 3 (some .boolean) 2 47 [.ref x0, .int x1] K M o :=
  cr_metI RX2 (by decide) rfl (Nat.le_of_ble_eq_true rfl) (fun p e s m args below meth c ls CX hR hl => wfC_X2_isThere CX ⟨Nat.le_refl _, Nat.le_refl _⟩ x0 x1 M s.heap [] ls hf hR va_S.rf hl)
def fC_X2_leave (N : Nat) (K : Ka) (x0 : Nat) (M : Cm) : Option (Cm) := gd (kd K x0 == 3) (if 1 < (cI M x0 6) then (nn (cR M x0 5) fun a1 => gd (kd K a1 == 2) (nn (cR M x0 0) fun a2 => gd (kd K a2 == 5) (nn (cR M a2 0) fun a3 => gd (kd K a3 == 22) (ck (cI M a1 1) (le K a3) (nn (cR (wI M a3 (cI M a1 1 : Int32).toNatClampNeg 2) x0 0) fun a4 => gd (kd K a4 == 5) (nn (cR (wI M a3 (cI M a1 1 : Int32).toNatClampNeg 2) a4 1) fun a5 => gd (kd K a5 == 22) (ck (cI M a1 1) (le K a5) (nn (cR (wI M a3 (cI M a1 1 : Int32).toNatClampNeg 2) x0 1) fun a6 => gd (kd K a6 == 1) ((fC_X0_addUp N K a6 (cI M a1 1) (cI (wI M a3 (cI M a1 1 : Int32).toNatClampNeg 2) a5 (cI M a1 1 : Int32).toNatClampNeg) (cI (wI M a3 (cI M a1 1 : Int32).toNatClampNeg 2) x0 8) (wI M a3 (cI M a1 1 : Int32).toNatClampNeg 2)).bind fun o50 => (fC_X2_drop N K x0 o50).bind fun o54 => some o54))))))))) else (gd (is01 0) (some (wI M x0 13 0))))
set_option maxRecDepth 100000 in
set_option maxHeartbeats 4000000 in
theorem wfC_X2_leave {p : Program} {l : Launch} {e : Env} {R : Room} {s : State} {m : MethodId} {args : Array Value} {below : List Frame} {meth : Method} {c : Code} {x : Xc} {o : Cm} {N : Nat} {K : Ka} (CX : CC p s m args meth c x K RX2 cX2_leave 2 none) (hRm : 1 ≤ R.frames ∧ 23 ≤ R.locals) (x0 : Nat) (M : Cm) (H : Heap) (locs : List Loc) (ls : Array Slot) (hf : fC_X2_leave N K x0 M = some o) (hR : RC x K M H) (hS : va_S (AC K) s.heap H locs) (hl : lv_has ls 2 [(0, .ref x0)]) : W p l e R s m args below meth c H locs 0 0 (MQ below (CQV x K o) args s 0 0 (AC K)) (F0 m 0 ls []) := by
  obtain ⟨hx, hb, hml, hown, hts, hE, hB, hr, hlk⟩ := id CX
  have hL : KLe K K := KLe.rf K
  have hcs : 0 ≤ R.cells ∧ 0 ≤ R.slots := ⟨Nat.zero_le _, Nat.zero_le _⟩
  unfold fC_X2_leave at hf
  refine lv_aload_n hx hb dX2_leave_0 rfl (lv_at hl 0 rfl) ?_
  obtain ⟨hk_x0_3, hf⟩ := gd_some hf
  refine cr_getI kc_2 CX hR fa_X2_29 rfl hk_x0_3 dX2_leave_1 ?_
  refine lv_iconst (v := 1) hx hb dX2_leave_4 (by decide) ?_
  refine lv_icmp_gt (tgt := 14) hx hb dX2_leave_5 (by decide) (fun hc => ?_) (fun hc => ?_)
  · rw [if_pos hc] at hf
    refine lv_aload_n hx hb dX2_leave_14 rfl (lv_at hl 0 rfl) ?_
    refine cr_getR kc_2 CX hR fa_X2_25 rfl hk_x0_3 dX2_leave_15 ?_
    obtain ⟨a1, ha1, hf⟩ := nn_some hf
    refine rf_0 ha1 ?_
    obtain ⟨hk_a1_2, hf⟩ := gd_some hf
    refine cr_getI kc_1 CX hR fa_X2_134 rfl hk_a1_2 dX2_leave_18 ?_
    refine lv_istore_n (lv' := [(1, .int (cI M a1 1)), (0, .ref x0)]) hx hb dX2_leave_21 rfl hl (by decide) rfl (fun ls hl => ?_)
    refine lv_aload_n hx hb dX2_leave_22 rfl (lv_at hl 1 rfl) ?_
    refine cr_getR kc_2 CX hR fa_X2_64 rfl hk_x0_3 dX2_leave_23 ?_
    obtain ⟨a2, ha2, hf⟩ := nn_some hf
    refine rf_0 ha2 ?_
    obtain ⟨hk_a2_5, hf⟩ := gd_some hf
    refine cr_getR kc_4 CX hR fa_X2_186 rfl hk_a2_5 dX2_leave_26 ?_
    refine lv_iload_n hx hb dX2_leave_29 rfl (lv_at hl 0 rfl) ?_
    refine lv_iconst (v := 2) hx hb dX2_leave_30 (by decide) ?_
    obtain ⟨a3, ha3, hf⟩ := nn_some hf
    refine rf_2 ha3 ?_
    obtain ⟨hk_a3_22, hf⟩ := gd_some hf
    obtain ⟨hi, hf⟩ := ck_some hf
    refine cr_iast CX hR hL hS hk_a3_22 hi dX2_leave_31 (fun H locs hR hS => ?_)
    refine lv_aload_n hx hb dX2_leave_32 rfl (lv_at hl 1 rfl) ?_
    refine cr_getR kc_2 CX hR fa_X2_68 rfl hk_x0_3 dX2_leave_33 ?_
    refine lv_iload_n hx hb dX2_leave_36 rfl (lv_at hl 0 rfl) ?_
    refine lv_aload_n hx hb dX2_leave_37 rfl (lv_at hl 1 rfl) ?_
    refine cr_getR kc_2 CX hR fa_X2_64 rfl hk_x0_3 dX2_leave_38 ?_
    obtain ⟨a4, ha4, hf⟩ := nn_some hf
    refine rf_0 ha4 ?_
    obtain ⟨hk_a4_5, hf⟩ := gd_some hf
    refine cr_getR kc_4 CX hR fa_X2_137 rfl hk_a4_5 dX2_leave_41 ?_
    refine lv_iload_n hx hb dX2_leave_44 rfl (lv_at hl 0 rfl) ?_
    obtain ⟨a5, ha5, hf⟩ := nn_some hf
    refine rf_1 ha5 ?_
    obtain ⟨hk_a5_22, hf⟩ := gd_some hf
    obtain ⟨hi, hf⟩ := ck_some hf
    refine cr_iald CX hR hk_a5_22 hi dX2_leave_45 ?_
    refine lv_aload_n hx hb dX2_leave_46 rfl (lv_at hl 1 rfl) ?_
    refine cr_getI kc_2 CX hR fa_X2_36 rfl hk_x0_3 dX2_leave_47 ?_
    obtain ⟨a6, ha6, hf⟩ := nn_some hf
    refine rf_3 ha6 ?_
    obtain ⟨hk_a6_1, hf⟩ := gd_some hf
    obtain ⟨o50, ho50, hf⟩ := bnd_some hf
    refine cr_callVv kc_0 CX hR hL hS (As := [.int (cI M a1 1), .int (cI (wI M a3 (cI M a1 1 : Int32).toNatClampNeg 2) a5 (cI M a1 1 : Int32).toNatClampNeg), .int (cI (wI M a3 (cI M a1 1 : Int32).toNatClampNeg 2) x0 8)]) (rest := []) hk_a6_1 (MC_X0_addUp l x N K a6 (cI M a1 1) (cI (wI M a3 (cI M a1 1 : Int32).toNatClampNeg 2) a5 (cI M a1 1 : Int32).toNatClampNeg) (cI (wI M a3 (cI M a1 1 : Int32).toNatClampNeg 2) x0 8) (wI M a3 (cI M a1 1 : Int32).toNatClampNeg 2) o50 ho50) cv_X2_213 ⟨by omega, by omega⟩ rfl rfl (Nat.le_of_ble_eq_true rfl) hl.1 dX2_leave_50 hcs (fun H locs hR hS => ?_)
    refine lv_aload_n hx hb dX2_leave_53 rfl (lv_at hl 1 rfl) ?_
    obtain ⟨o54, ho54, hf⟩ := bnd_some hf
    refine cr_callVv kc_2 CX hR hL hS (As := []) (rest := []) hk_x0_3 (MC_X2_drop l x N K x0 o50 o54 ho54) cv_X2_216 ⟨by omega, by omega⟩ rfl rfl (Nat.le_of_ble_eq_true rfl) hl.1 dX2_leave_54 hcs (fun H locs hR hS => ?_)
    exact cr_vret CX hR hS hf dX2_leave_57
  · rw [if_neg hc] at hf
    refine lv_aload_n hx hb dX2_leave_8 rfl (lv_at hl 0 rfl) ?_
    refine lv_iconst (v := 0) hx hb dX2_leave_9 (by decide) ?_
    obtain ⟨hq, hf⟩ := gd_some hf
    refine cr_putZ kc_2 CX hR hL hS fa_X2_52 ⟨rfl, rfl, rfl⟩ hk_x0_3 hq dX2_leave_10 (fun H locs hR hS => ?_)
    exact cr_vret CX hR hS hf dX2_leave_13
theorem MC_X2_leave (l : Launch) (x : Xc) (N : Nat) (K : Ka) (x0 : Nat) (M : Cm) (o : Cm) (hf : fC_X2_leave N K x0 M = some o) : CtV l x yX2_leave cX2_leave 2 1 23 [.ref x0] K M o :=
  cr_metV RX2 (by decide) rfl (Nat.le_of_ble_eq_true rfl) (fun p e s m args below meth c ls CX hR hl => wfC_X2_leave CX ⟨Nat.le_refl _, Nat.le_refl _⟩ x0 M s.heap [] ls hf hR va_S.rf hl)
def lC_X4_noteNeed_16 (N : Nat) (K : Ka) (k36 : Nat → Cm → Option (Cm)) (k43 : Nat → Int32 → Int32 → Int32 → Int32 → Cm → Option (Cm)) : Nat → Nat → Int32 → Int32 → Int32 → Int32 → Int32 → Cm → Option (Cm)
  | 0, _, _, _, _, _, _, _ => none
  | n + 1, x0, x1, x2, x3, x4, x5, M => if x4 ≤ x5 then (k43 x0 x1 x2 x3 x4 M) else (gd (kd K x0 == 5) (nn (cR M x0 5) fun a1 => gd (kd K a1 == 22) (ck (x3 + x5) (le K a1) (if (cI M a1 (x3 + x5 : Int32).toNatClampNeg) = x2 then (k36 x0 M) else (lC_X4_noteNeed_16 N K k36 k43 n x0 x1 x2 x3 x4 (x5 + 1) M)))))
set_option maxRecDepth 100000 in
set_option maxHeartbeats 4000000 in
theorem wlC_X4_noteNeed_16 {p : Program} {l : Launch} {e : Env} {R : Room} {s : State} {m : MethodId} {args : Array Value} {below : List Frame} {meth : Method} {c : Code} {x : Xc} {o : Cm} {N : Nat} {K : Ka} {k36 : Nat → Cm → Option (Cm)} {k43 : Nat → Int32 → Int32 → Int32 → Int32 → Cm → Option (Cm)} (CX : CC p s m args meth c x K RX4 cX4_noteNeed 6 none) (hRm : 0 ≤ R.frames ∧ 0 ≤ R.locals) (hk36 : ∀ (x0 : Nat) (M : Cm) (H : Heap) (locs : List Loc) (ls : Array Slot), k36 x0 M = some o → RC x K M H → va_S (AC K) s.heap H locs → lv_has ls 6 [(0, .ref x0)] → W p l e R s m args below meth c H locs 0 0 (MQ below (CQV x K o) args s 0 0 (AC K)) (F0 m 36 ls [])) (hk43 : ∀ (x0 : Nat) (x1 : Int32) (x2 : Int32) (x3 : Int32) (x4 : Int32) (M : Cm) (H : Heap) (locs : List Loc) (ls : Array Slot), k43 x0 x1 x2 x3 x4 M = some o → RC x K M H → va_S (AC K) s.heap H locs → lv_has ls 6 [(0, .ref x0), (1, .int x1), (2, .int x2), (3, .int x3), (4, .int x4)] → W p l e R s m args below meth c H locs 0 0 (MQ below (CQV x K o) args s 0 0 (AC K)) (F0 m 43 ls [])) : ∀ (n : Nat) (x0 : Nat) (x1 : Int32) (x2 : Int32) (x3 : Int32) (x4 : Int32) (x5 : Int32) (M : Cm) (H : Heap) (locs : List Loc) (ls : Array Slot), lC_X4_noteNeed_16 N K k36 k43 n x0 x1 x2 x3 x4 x5 M = some o → RC x K M H → va_S (AC K) s.heap H locs → lv_has ls 6 [(0, .ref x0), (1, .int x1), (2, .int x2), (3, .int x3), (4, .int x4), (5, .int x5)] → W p l e R s m args below meth c H locs 0 0 (MQ below (CQV x K o) args s 0 0 (AC K)) (F0 m 16 ls []) := by
  obtain ⟨hx, hb, hml, hown, hts, hE, hB, hr, hlk⟩ := id CX
  have hL : KLe K K := KLe.rf K
  have hcs : 0 ≤ R.cells ∧ 0 ≤ R.slots := ⟨Nat.zero_le _, Nat.zero_le _⟩
  intro n
  induction n with
  | zero => intro x0 x1 x2 x3 x4 x5 M H locs ls hf; cases hf
  | succ n ih =>
    intro x0 x1 x2 x3 x4 x5 M H locs ls hf hR hS hl
    rw [lC_X4_noteNeed_16] at hf
    refine lv_iload hx hb dX4_noteNeed_16 (lv_at hl 5 rfl) ?_
    refine lv_iload hx hb dX4_noteNeed_18 (lv_at hl 4 rfl) ?_
    refine lv_icmp_ge (tgt := 43) hx hb dX4_noteNeed_20 (by decide) (fun hc => ?_) (fun hc => ?_)
    · rw [if_pos hc] at hf
      exact hk43 _ _ _ _ _ _ _ _ _ hf hR hS (lv_sub hl [0, 1, 2, 3, 4] rfl)
    · rw [if_neg hc] at hf
      refine lv_aload_n hx hb dX4_noteNeed_23 rfl (lv_at hl 0 rfl) ?_
      obtain ⟨hk_x0_5, hf⟩ := gd_some hf
      refine cr_getR kc_4 CX hR fa_X4_27 rfl hk_x0_5 dX4_noteNeed_24 ?_
      refine lv_iload_n hx hb dX4_noteNeed_27 rfl (lv_at hl 3 rfl) ?_
      refine lv_iload hx hb dX4_noteNeed_28 (lv_at hl 5 rfl) ?_
      refine lv_iadd hx hb dX4_noteNeed_30 ?_
      obtain ⟨a1, ha1, hf⟩ := nn_some hf
      refine rf_1 ha1 ?_
      obtain ⟨hk_a1_22, hf⟩ := gd_some hf
      obtain ⟨hi, hf⟩ := ck_some hf
      refine cr_iald CX hR hk_a1_22 hi dX4_noteNeed_31 ?_
      refine lv_iload_n hx hb dX4_noteNeed_32 rfl (lv_at hl 2 rfl) ?_
      refine lv_icmp_ne (tgt := 37) hx hb dX4_noteNeed_33 (by decide) (fun hc => ?_) (fun hc => ?_)
      · rw [if_neg hc] at hf
        refine lv_iinc (v := x5 + 1) (lv' := [(5, .int (x5 + 1)), (0, .ref x0), (1, .int x1), (2, .int x2), (3, .int x3), (4, .int x4)]) hx hb dX4_noteNeed_37 hl (k := 5) rfl rfl (by decide) rfl (fun ls hl => ?_)
        refine lv_goto (tgt := 16) hx hb dX4_noteNeed_40 (by decide) ?_
        exact ih _ _ _ _ _ _ _ _ _ _ hf hR hS (lv_sub hl [1, 2, 3, 4, 5, 0] rfl)
      · rw [if_pos hc] at hf
        exact hk36 _ _ _ _ _ hf hR hS (lv_sub hl [0] rfl)
def bC_X4_noteNeed_36 (N : Nat) (K : Ka) (x0 : Nat) (M : Cm) : Option (Cm) := some M
set_option maxRecDepth 100000 in
set_option maxHeartbeats 4000000 in
theorem wbC_X4_noteNeed_36 {p : Program} {l : Launch} {e : Env} {R : Room} {s : State} {m : MethodId} {args : Array Value} {below : List Frame} {meth : Method} {c : Code} {x : Xc} {o : Cm} {N : Nat} {K : Ka} (CX : CC p s m args meth c x K RX4 cX4_noteNeed 6 none) (hRm : 0 ≤ R.frames ∧ 0 ≤ R.locals) (x0 : Nat) (M : Cm) (H : Heap) (locs : List Loc) (ls : Array Slot) (hf : bC_X4_noteNeed_36 N K x0 M = some o) (hR : RC x K M H) (hS : va_S (AC K) s.heap H locs) (hl : lv_has ls 6 [(0, .ref x0)]) : W p l e R s m args below meth c H locs 0 0 (MQ below (CQV x K o) args s 0 0 (AC K)) (F0 m 36 ls []) := by
  obtain ⟨hx, hb, hml, hown, hts, hE, hB, hr, hlk⟩ := id CX
  have hL : KLe K K := KLe.rf K
  have hcs : 0 ≤ R.cells ∧ 0 ≤ R.slots := ⟨Nat.zero_le _, Nat.zero_le _⟩
  unfold bC_X4_noteNeed_36 at hf
  exact cr_vret CX hR hS hf dX4_noteNeed_36
def bC_X4_noteNeed_70 (N : Nat) (K : Ka) (x0 : Nat) (M : Cm) : Option (Cm) := some M
set_option maxRecDepth 100000 in
set_option maxHeartbeats 4000000 in
theorem wbC_X4_noteNeed_70 {p : Program} {l : Launch} {e : Env} {R : Room} {s : State} {m : MethodId} {args : Array Value} {below : List Frame} {meth : Method} {c : Code} {x : Xc} {o : Cm} {N : Nat} {K : Ka} (CX : CC p s m args meth c x K RX4 cX4_noteNeed 6 none) (hRm : 0 ≤ R.frames ∧ 0 ≤ R.locals) (x0 : Nat) (M : Cm) (H : Heap) (locs : List Loc) (ls : Array Slot) (hf : bC_X4_noteNeed_70 N K x0 M = some o) (hR : RC x K M H) (hS : va_S (AC K) s.heap H locs) (hl : lv_has ls 6 [(0, .ref x0)]) : W p l e R s m args below meth c H locs 0 0 (MQ below (CQV x K o) args s 0 0 (AC K)) (F0 m 70 ls []) := by
  obtain ⟨hx, hb, hml, hown, hts, hE, hB, hr, hlk⟩ := id CX
  have hL : KLe K K := KLe.rf K
  have hcs : 0 ≤ R.cells ∧ 0 ≤ R.slots := ⟨Nat.zero_le _, Nat.zero_le _⟩
  unfold bC_X4_noteNeed_70 at hf
  exact cr_vret CX hR hS hf dX4_noteNeed_70
def bC_X4_noteNeed_43 (N : Nat) (K : Ka) (x0 : Nat) (x1 : Int32) (x2 : Int32) (x3 : Int32) (x4 : Int32) (M : Cm) : Option (Cm) := if 24 ≤ x4 then ((bC_X4_noteNeed_70 N K) x0 M) else (gd (kd K x0 == 5) (nn (cR M x0 5) fun a1 => gd (kd K a1 == 22) (ck (x3 + x4) (le K a1) (nn (cR (wI M a1 (x3 + x4 : Int32).toNatClampNeg x2) x0 6) fun a2 => gd (kd K a2 == 22) (ck x1 (le K a2) (ck x1 (le K a2) ((bC_X4_noteNeed_70 N K) x0 (wI (wI M a1 (x3 + x4 : Int32).toNatClampNeg x2) a2 (x1 : Int32).toNatClampNeg ((cI (wI M a1 (x3 + x4 : Int32).toNatClampNeg x2) a2 (x1 : Int32).toNatClampNeg) + 1)))))))))
set_option maxRecDepth 100000 in
set_option maxHeartbeats 4000000 in
theorem wbC_X4_noteNeed_43 {p : Program} {l : Launch} {e : Env} {R : Room} {s : State} {m : MethodId} {args : Array Value} {below : List Frame} {meth : Method} {c : Code} {x : Xc} {o : Cm} {N : Nat} {K : Ka} (CX : CC p s m args meth c x K RX4 cX4_noteNeed 6 none) (hRm : 0 ≤ R.frames ∧ 0 ≤ R.locals) (x0 : Nat) (x1 : Int32) (x2 : Int32) (x3 : Int32) (x4 : Int32) (M : Cm) (H : Heap) (locs : List Loc) (ls : Array Slot) (hf : bC_X4_noteNeed_43 N K x0 x1 x2 x3 x4 M = some o) (hR : RC x K M H) (hS : va_S (AC K) s.heap H locs) (hl : lv_has ls 6 [(0, .ref x0), (1, .int x1), (2, .int x2), (3, .int x3), (4, .int x4)]) : W p l e R s m args below meth c H locs 0 0 (MQ below (CQV x K o) args s 0 0 (AC K)) (F0 m 43 ls []) := by
  obtain ⟨hx, hb, hml, hown, hts, hE, hB, hr, hlk⟩ := id CX
  have hL : KLe K K := KLe.rf K
  have hcs : 0 ≤ R.cells ∧ 0 ≤ R.slots := ⟨Nat.zero_le _, Nat.zero_le _⟩
  unfold bC_X4_noteNeed_43 at hf
  refine lv_iload hx hb dX4_noteNeed_43 (lv_at hl 4 rfl) ?_
  refine lv_bipush (v := 24) hx hb dX4_noteNeed_45 (by decide) ?_
  refine lv_icmp_ge (tgt := 70) hx hb dX4_noteNeed_47 (by decide) (fun hc => ?_) (fun hc => ?_)
  · rw [if_pos hc] at hf
    exact (wbC_X4_noteNeed_70 CX hRm) _ _ _ _ _ hf hR hS (lv_sub hl [0] rfl)
  · rw [if_neg hc] at hf
    refine lv_aload_n hx hb dX4_noteNeed_50 rfl (lv_at hl 0 rfl) ?_
    obtain ⟨hk_x0_5, hf⟩ := gd_some hf
    refine cr_getR kc_4 CX hR fa_X4_27 rfl hk_x0_5 dX4_noteNeed_51 ?_
    refine lv_iload_n hx hb dX4_noteNeed_54 rfl (lv_at hl 3 rfl) ?_
    refine lv_iload hx hb dX4_noteNeed_55 (lv_at hl 4 rfl) ?_
    refine lv_iadd hx hb dX4_noteNeed_57 ?_
    refine lv_iload_n hx hb dX4_noteNeed_58 rfl (lv_at hl 2 rfl) ?_
    obtain ⟨a1, ha1, hf⟩ := nn_some hf
    refine rf_2 ha1 ?_
    obtain ⟨hk_a1_22, hf⟩ := gd_some hf
    obtain ⟨hi, hf⟩ := ck_some hf
    refine cr_iast CX hR hL hS hk_a1_22 hi dX4_noteNeed_59 (fun H locs hR hS => ?_)
    refine lv_aload_n hx hb dX4_noteNeed_60 rfl (lv_at hl 0 rfl) ?_
    refine cr_getR kc_4 CX hR fa_X4_30 rfl hk_x0_5 dX4_noteNeed_61 ?_
    refine lv_iload_n hx hb dX4_noteNeed_64 rfl (lv_at hl 1 rfl) ?_
    obtain ⟨a2, ha2, hf⟩ := nn_some hf
    refine rf_1 ha2 ?_
    refine lv_dup2_11 hx hb dX4_noteNeed_65 rfl rfl ?_
    obtain ⟨hk_a2_22, hf⟩ := gd_some hf
    obtain ⟨hi, hf⟩ := ck_some hf
    refine cr_iald CX hR hk_a2_22 hi dX4_noteNeed_66 ?_
    refine lv_iconst (v := 1) hx hb dX4_noteNeed_67 (by decide) ?_
    refine lv_iadd hx hb dX4_noteNeed_68 ?_
    obtain ⟨hi, hf⟩ := ck_some hf
    refine cr_iast CX hR hL hS hk_a2_22 hi dX4_noteNeed_69 (fun H locs hR hS => ?_)
    exact (wbC_X4_noteNeed_70 CX hRm) _ _ _ _ _ hf hR hS (lv_sub hl [0] rfl)
def fC_X4_noteNeed (N : Nat) (K : Ka) (x0 : Nat) (x1 : Int32) (x2 : Int32) (M : Cm) : Option (Cm) := gd (kd K x0 == 5) (nn (cR M x0 6) fun a1 => gd (kd K a1 == 22) (ck x1 (le K a1) ((lC_X4_noteNeed_16 N K (bC_X4_noteNeed_36 N K) (bC_X4_noteNeed_43 N K) N) x0 x1 x2 (x1 * 24) (cI M a1 (x1 : Int32).toNatClampNeg) 0 M)))
set_option maxRecDepth 100000 in
set_option maxHeartbeats 4000000 in
theorem wfC_X4_noteNeed {p : Program} {l : Launch} {e : Env} {R : Room} {s : State} {m : MethodId} {args : Array Value} {below : List Frame} {meth : Method} {c : Code} {x : Xc} {o : Cm} {N : Nat} {K : Ka} (CX : CC p s m args meth c x K RX4 cX4_noteNeed 6 none) (hRm : 0 ≤ R.frames ∧ 0 ≤ R.locals) (x0 : Nat) (x1 : Int32) (x2 : Int32) (M : Cm) (H : Heap) (locs : List Loc) (ls : Array Slot) (hf : fC_X4_noteNeed N K x0 x1 x2 M = some o) (hR : RC x K M H) (hS : va_S (AC K) s.heap H locs) (hl : lv_has ls 6 [(0, .ref x0), (1, .int x1), (2, .int x2)]) : W p l e R s m args below meth c H locs 0 0 (MQ below (CQV x K o) args s 0 0 (AC K)) (F0 m 0 ls []) := by
  obtain ⟨hx, hb, hml, hown, hts, hE, hB, hr, hlk⟩ := id CX
  have hL : KLe K K := KLe.rf K
  have hcs : 0 ≤ R.cells ∧ 0 ≤ R.slots := ⟨Nat.zero_le _, Nat.zero_le _⟩
  unfold fC_X4_noteNeed at hf
  refine lv_iload_n hx hb dX4_noteNeed_0 rfl (lv_at hl 1 rfl) ?_
  refine lv_bipush (v := 24) hx hb dX4_noteNeed_1 (by decide) ?_
  refine lv_imul hx hb dX4_noteNeed_3 ?_
  refine lv_istore_n (lv' := [(3, .int (x1 * 24)), (0, .ref x0), (1, .int x1), (2, .int x2)]) hx hb dX4_noteNeed_4 rfl hl (by decide) rfl (fun ls hl => ?_)
  refine lv_aload_n hx hb dX4_noteNeed_5 rfl (lv_at hl 1 rfl) ?_
  obtain ⟨hk_x0_5, hf⟩ := gd_some hf
  refine cr_getR kc_4 CX hR fa_X4_30 rfl hk_x0_5 dX4_noteNeed_6 ?_
  refine lv_iload_n hx hb dX4_noteNeed_9 rfl (lv_at hl 2 rfl) ?_
  obtain ⟨a1, ha1, hf⟩ := nn_some hf
  refine rf_1 ha1 ?_
  obtain ⟨hk_a1_22, hf⟩ := gd_some hf
  obtain ⟨hi, hf⟩ := ck_some hf
  refine cr_iald CX hR hk_a1_22 hi dX4_noteNeed_10 ?_
  refine lv_istore (lv' := [(4, .int (cI M a1 (x1 : Int32).toNatClampNeg)), (3, .int (x1 * 24)), (0, .ref x0), (1, .int x1), (2, .int x2)]) hx hb dX4_noteNeed_11 hl (by decide) rfl (fun ls hl => ?_)
  refine lv_iconst (v := 0) hx hb dX4_noteNeed_13 (by decide) ?_
  refine lv_istore (lv' := [(5, .int 0), (4, .int (cI M a1 (x1 : Int32).toNatClampNeg)), (3, .int (x1 * 24)), (0, .ref x0), (1, .int x1), (2, .int x2)]) hx hb dX4_noteNeed_14 hl (by decide) rfl (fun ls hl => ?_)
  exact (wlC_X4_noteNeed_16 CX hRm (wbC_X4_noteNeed_36 CX hRm) (wbC_X4_noteNeed_43 CX hRm) N) _ _ _ _ _ _ _ _ _ _ hf hR hS (lv_sub hl [3, 4, 5, 2, 1, 0] rfl)
theorem MC_X4_noteNeed (l : Launch) (x : Xc) (N : Nat) (K : Ka) (x0 : Nat) (x1 : Int32) (x2 : Int32) (M : Cm) (o : Cm) (hf : fC_X4_noteNeed N K x0 x1 x2 M = some o) : CtV l x yX4_noteNeed cX4_noteNeed 6 0 0 [.ref x0, .int x1, .int x2] K M o :=
  cr_metV RX4 (by decide) rfl (Nat.le_of_ble_eq_true rfl) (fun p e s m args below meth c ls CX hR hl => wfC_X4_noteNeed CX ⟨Nat.le_refl _, Nat.le_refl _⟩ x0 x1 x2 M s.heap [] ls hf hR va_S.rf hl)
def bC_X2_noteNeed_43 (N : Nat) (K : Ka) (x0 : Nat) (M : Cm) : Option (Cm) := some M
set_option maxRecDepth 100000 in
set_option maxHeartbeats 4000000 in
theorem wbC_X2_noteNeed_43 {p : Program} {l : Launch} {e : Env} {R : Room} {s : State} {m : MethodId} {args : Array Value} {below : List Frame} {meth : Method} {c : Code} {x : Xc} {o : Cm} {N : Nat} {K : Ka} (CX : CC p s m args meth c x K RX2 cX2_noteNeed 2 none) (hRm : 1 ≤ R.frames ∧ 25 ≤ R.locals) (x0 : Nat) (M : Cm) (H : Heap) (locs : List Loc) (ls : Array Slot) (hf : bC_X2_noteNeed_43 N K x0 M = some o) (hR : RC x K M H) (hS : va_S (AC K) s.heap H locs) (hl : lv_has ls 2 [(0, .ref x0)]) : W p l e R s m args below meth c H locs 0 0 (MQ below (CQV x K o) args s 0 0 (AC K)) (F0 m 43 ls []) := by
  obtain ⟨hx, hb, hml, hown, hts, hE, hB, hr, hlk⟩ := id CX
  have hL : KLe K K := KLe.rf K
  have hcs : 0 ≤ R.cells ∧ 0 ≤ R.slots := ⟨Nat.zero_le _, Nat.zero_le _⟩
  unfold bC_X2_noteNeed_43 at hf
  exact cr_vret CX hR hS hf dX2_noteNeed_43
def fC_X2_noteNeed (N : Nat) (K : Ka) (x0 : Nat) (x1 : Int32) (M : Cm) : Option (Cm) := gd (kd K x0 == 3) (if (cI M x0 9) = 0 then (nn (cR M x0 5) fun a1 => gd (kd K a1 == 2) (if (cI M a1 1) < 0 then ((bC_X2_noteNeed_43 N K) x0 M) else (nn (cR M x0 5) fun a2 => gd (kd K a2 == 2) (if (cI M a2 1) = x1 then ((bC_X2_noteNeed_43 N K) x0 M) else (nn (cR M x0 5) fun a3 => gd (kd K a3 == 2) (nn (cR M x0 0) fun a4 => gd (kd K a4 == 5) ((fC_X4_noteNeed N K a4 (cI M a3 1) x1 M).bind fun o40 => (bC_X2_noteNeed_43 N K) x0 o40))))))) else ((bC_X2_noteNeed_43 N K) x0 M))
set_option maxRecDepth 100000 in
set_option maxHeartbeats 4000000 in
theorem wfC_X2_noteNeed {p : Program} {l : Launch} {e : Env} {R : Room} {s : State} {m : MethodId} {args : Array Value} {below : List Frame} {meth : Method} {c : Code} {x : Xc} {o : Cm} {N : Nat} {K : Ka} (CX : CC p s m args meth c x K RX2 cX2_noteNeed 2 none) (hRm : 1 ≤ R.frames ∧ 25 ≤ R.locals) (x0 : Nat) (x1 : Int32) (M : Cm) (H : Heap) (locs : List Loc) (ls : Array Slot) (hf : fC_X2_noteNeed N K x0 x1 M = some o) (hR : RC x K M H) (hS : va_S (AC K) s.heap H locs) (hl : lv_has ls 2 [(0, .ref x0), (1, .int x1)]) : W p l e R s m args below meth c H locs 0 0 (MQ below (CQV x K o) args s 0 0 (AC K)) (F0 m 0 ls []) := by
  obtain ⟨hx, hb, hml, hown, hts, hE, hB, hr, hlk⟩ := id CX
  have hL : KLe K K := KLe.rf K
  have hcs : 0 ≤ R.cells ∧ 0 ≤ R.slots := ⟨Nat.zero_le _, Nat.zero_le _⟩
  unfold fC_X2_noteNeed at hf
  refine lv_aload_n hx hb dX2_noteNeed_0 rfl (lv_at hl 0 rfl) ?_
  obtain ⟨hk_x0_3, hf⟩ := gd_some hf
  refine cr_getI kc_2 CX hR fa_X2_39 rfl hk_x0_3 dX2_noteNeed_1 ?_
  refine lv_if_ne (tgt := 43) hx hb dX2_noteNeed_4 (by decide) (fun hc => ?_) (fun hc => ?_)
  · rw [if_neg hc] at hf
    exact (wbC_X2_noteNeed_43 CX hRm) _ _ _ _ _ hf hR hS (lv_sub hl [0] rfl)
  · rw [if_pos hc] at hf
    refine lv_aload_n hx hb dX2_noteNeed_7 rfl (lv_at hl 0 rfl) ?_
    refine cr_getR kc_2 CX hR fa_X2_25 rfl hk_x0_3 dX2_noteNeed_8 ?_
    obtain ⟨a1, ha1, hf⟩ := nn_some hf
    refine rf_0 ha1 ?_
    obtain ⟨hk_a1_2, hf⟩ := gd_some hf
    refine cr_getI kc_1 CX hR fa_X2_134 rfl hk_a1_2 dX2_noteNeed_11 ?_
    refine lv_if_lt (tgt := 43) hx hb dX2_noteNeed_14 (by decide) (fun hc => ?_) (fun hc => ?_)
    · rw [if_pos hc] at hf
      exact (wbC_X2_noteNeed_43 CX hRm) _ _ _ _ _ hf hR hS (lv_sub hl [0] rfl)
    · rw [if_neg hc] at hf
      refine lv_aload_n hx hb dX2_noteNeed_17 rfl (lv_at hl 0 rfl) ?_
      refine cr_getR kc_2 CX hR fa_X2_25 rfl hk_x0_3 dX2_noteNeed_18 ?_
      obtain ⟨a2, ha2, hf⟩ := nn_some hf
      refine rf_0 ha2 ?_
      obtain ⟨hk_a2_2, hf⟩ := gd_some hf
      refine cr_getI kc_1 CX hR fa_X2_134 rfl hk_a2_2 dX2_noteNeed_21 ?_
      refine lv_iload_n hx hb dX2_noteNeed_24 rfl (lv_at hl 1 rfl) ?_
      refine lv_icmp_eq (tgt := 43) hx hb dX2_noteNeed_25 (by decide) (fun hc => ?_) (fun hc => ?_)
      · rw [if_pos hc] at hf
        exact (wbC_X2_noteNeed_43 CX hRm) _ _ _ _ _ hf hR hS (lv_sub hl [0] rfl)
      · rw [if_neg hc] at hf
        refine lv_aload_n hx hb dX2_noteNeed_28 rfl (lv_at hl 0 rfl) ?_
        refine cr_getR kc_2 CX hR fa_X2_64 rfl hk_x0_3 dX2_noteNeed_29 ?_
        refine lv_aload_n hx hb dX2_noteNeed_32 rfl (lv_at hl 0 rfl) ?_
        refine cr_getR kc_2 CX hR fa_X2_25 rfl hk_x0_3 dX2_noteNeed_33 ?_
        obtain ⟨a3, ha3, hf⟩ := nn_some hf
        refine rf_0 ha3 ?_
        obtain ⟨hk_a3_2, hf⟩ := gd_some hf
        refine cr_getI kc_1 CX hR fa_X2_134 rfl hk_a3_2 dX2_noteNeed_36 ?_
        refine lv_iload_n hx hb dX2_noteNeed_39 rfl (lv_at hl 1 rfl) ?_
        obtain ⟨a4, ha4, hf⟩ := nn_some hf
        refine rf_2 ha4 ?_
        obtain ⟨hk_a4_5, hf⟩ := gd_some hf
        obtain ⟨o40, ho40, hf⟩ := bnd_some hf
        refine cr_callVv kc_4 CX hR hL hS (As := [.int (cI M a3 1), .int x1]) (rest := []) hk_a4_5 (MC_X4_noteNeed l x N K a4 (cI M a3 1) x1 M o40 ho40) cv_X2_184 ⟨by omega, by omega⟩ rfl rfl (Nat.le_of_ble_eq_true rfl) hl.1 dX2_noteNeed_40 hcs (fun H locs hR hS => ?_)
        exact (wbC_X2_noteNeed_43 CX hRm) _ _ _ _ _ hf hR hS (lv_sub hl [0] rfl)
theorem MC_X2_noteNeed (l : Launch) (x : Xc) (N : Nat) (K : Ka) (x0 : Nat) (x1 : Int32) (M : Cm) (o : Cm) (hf : fC_X2_noteNeed N K x0 x1 M = some o) : CtV l x yX2_noteNeed cX2_noteNeed 2 1 25 [.ref x0, .int x1] K M o :=
  cr_metV RX2 (by decide) rfl (Nat.le_of_ble_eq_true rfl) (fun p e s m args below meth c ls CX hR hl => wfC_X2_noteNeed CX ⟨Nat.le_refl _, Nat.le_refl _⟩ x0 x1 M s.heap [] ls hf hR va_S.rf hl)
def bC_X2_push_32 (N : Nat) (K : Ka) (x0 : Nat) (M : Cm) : Option (Cm) := some M
set_option maxRecDepth 100000 in
set_option maxHeartbeats 4000000 in
theorem wbC_X2_push_32 {p : Program} {l : Launch} {e : Env} {R : Room} {s : State} {m : MethodId} {args : Array Value} {below : List Frame} {meth : Method} {c : Code} {x : Xc} {o : Cm} {N : Nat} {K : Ka} (CX : CC p s m args meth c x K RX2 cX2_push 2 none) (hRm : 0 ≤ R.frames ∧ 0 ≤ R.locals) (x0 : Nat) (M : Cm) (H : Heap) (locs : List Loc) (ls : Array Slot) (hf : bC_X2_push_32 N K x0 M = some o) (hR : RC x K M H) (hS : va_S (AC K) s.heap H locs) (hl : lv_has ls 2 [(0, .ref x0)]) : W p l e R s m args below meth c H locs 0 0 (MQ below (CQV x K o) args s 0 0 (AC K)) (F0 m 32 ls []) := by
  obtain ⟨hx, hb, hml, hown, hts, hE, hB, hr, hlk⟩ := id CX
  have hL : KLe K K := KLe.rf K
  have hcs : 0 ≤ R.cells ∧ 0 ≤ R.slots := ⟨Nat.zero_le _, Nat.zero_le _⟩
  unfold bC_X2_push_32 at hf
  exact cr_vret CX hR hS hf dX2_push_32
def fC_X2_push (N : Nat) (K : Ka) (x0 : Nat) (x1 : Int32) (M : Cm) : Option (Cm) := gd (kd K x0 == 3) (nn (cR M x0 3) fun a1 => gd (kd K a1 == 22) (if (nI (le K a1)) ≤ (cI M x0 7) then ((bC_X2_push_32 N K) x0 M) else (nn (cR M x0 3) fun a2 => gd (kd K a2 == 22) (ck (cI M x0 7) (le K a2) ((bC_X2_push_32 N K) x0 (wI (wI M a2 (cI M x0 7 : Int32).toNatClampNeg x1) x0 7 ((cI (wI M a2 (cI M x0 7 : Int32).toNatClampNeg x1) x0 7) + 1)))))))
set_option maxRecDepth 100000 in
set_option maxHeartbeats 4000000 in
theorem wfC_X2_push {p : Program} {l : Launch} {e : Env} {R : Room} {s : State} {m : MethodId} {args : Array Value} {below : List Frame} {meth : Method} {c : Code} {x : Xc} {o : Cm} {N : Nat} {K : Ka} (CX : CC p s m args meth c x K RX2 cX2_push 2 none) (hRm : 0 ≤ R.frames ∧ 0 ≤ R.locals) (x0 : Nat) (x1 : Int32) (M : Cm) (H : Heap) (locs : List Loc) (ls : Array Slot) (hf : fC_X2_push N K x0 x1 M = some o) (hR : RC x K M H) (hS : va_S (AC K) s.heap H locs) (hl : lv_has ls 2 [(0, .ref x0), (1, .int x1)]) : W p l e R s m args below meth c H locs 0 0 (MQ below (CQV x K o) args s 0 0 (AC K)) (F0 m 0 ls []) := by
  obtain ⟨hx, hb, hml, hown, hts, hE, hB, hr, hlk⟩ := id CX
  have hL : KLe K K := KLe.rf K
  have hcs : 0 ≤ R.cells ∧ 0 ≤ R.slots := ⟨Nat.zero_le _, Nat.zero_le _⟩
  unfold fC_X2_push at hf
  refine lv_aload_n hx hb dX2_push_0 rfl (lv_at hl 0 rfl) ?_
  obtain ⟨hk_x0_3, hf⟩ := gd_some hf
  refine cr_getI kc_2 CX hR fa_X2_33 rfl hk_x0_3 dX2_push_1 ?_
  refine lv_aload_n hx hb dX2_push_4 rfl (lv_at hl 0 rfl) ?_
  refine cr_getR kc_2 CX hR fa_X2_17 rfl hk_x0_3 dX2_push_5 ?_
  obtain ⟨a1, ha1, hf⟩ := nn_some hf
  refine rf_0 ha1 ?_
  obtain ⟨hk_a1_22, hf⟩ := gd_some hf
  refine cr_ilen CX hR hk_a1_22 dX2_push_8 ?_
  refine lv_icmp_ge (tgt := 32) hx hb dX2_push_9 (by decide) (fun hc => ?_) (fun hc => ?_)
  · rw [if_pos hc] at hf
    exact (wbC_X2_push_32 CX hRm) _ _ _ _ _ hf hR hS (lv_sub hl [0] rfl)
  · rw [if_neg hc] at hf
    refine lv_aload_n hx hb dX2_push_12 rfl (lv_at hl 0 rfl) ?_
    refine cr_getR kc_2 CX hR fa_X2_17 rfl hk_x0_3 dX2_push_13 ?_
    refine lv_aload_n hx hb dX2_push_16 rfl (lv_at hl 0 rfl) ?_
    refine cr_getI kc_2 CX hR fa_X2_33 rfl hk_x0_3 dX2_push_17 ?_
    refine lv_iload_n hx hb dX2_push_20 rfl (lv_at hl 1 rfl) ?_
    obtain ⟨a2, ha2, hf⟩ := nn_some hf
    refine rf_2 ha2 ?_
    obtain ⟨hk_a2_22, hf⟩ := gd_some hf
    obtain ⟨hi, hf⟩ := ck_some hf
    refine cr_iast CX hR hL hS hk_a2_22 hi dX2_push_21 (fun H locs hR hS => ?_)
    refine lv_aload_n hx hb dX2_push_22 rfl (lv_at hl 0 rfl) ?_
    refine lv_dup hx hb dX2_push_23 rfl ?_
    refine cr_getI kc_2 CX hR fa_X2_33 rfl hk_x0_3 dX2_push_24 ?_
    refine lv_iconst (v := 1) hx hb dX2_push_27 (by decide) ?_
    refine lv_iadd hx hb dX2_push_28 ?_
    refine cr_putI kc_2 CX hR hL hS fa_X2_33 ⟨rfl, rfl, rfl⟩ hk_x0_3 dX2_push_29 (fun H locs hR hS => ?_)
    exact (wbC_X2_push_32 CX hRm) _ _ _ _ _ hf hR hS (lv_sub hl [0] rfl)
theorem MC_X2_push (l : Launch) (x : Xc) (N : Nat) (K : Ka) (x0 : Nat) (x1 : Int32) (M : Cm) (o : Cm) (hf : fC_X2_push N K x0 x1 M = some o) : CtV l x yX2_push cX2_push 2 0 0 [.ref x0, .int x1] K M o :=
  cr_metV RX2 (by decide) rfl (Nat.le_of_ble_eq_true rfl) (fun p e s m args below meth c ls CX hR hl => wfC_X2_push CX ⟨Nat.le_refl _, Nat.le_refl _⟩ x0 x1 M s.heap [] ls hf hR va_S.rf hl)
