def bT_X3_takeNewName_41 (N : Nat) (x0 : Nat) (x1 : Int64) (K : Ka) (M : Cm) : Option ((Int64 × Ka × Cm) ⊕ (Ka × Cm)) := gd (kd K x0 == 4) ((fC_X3_moveTo N K x0 ((cI M x0 2) + 1) M).bind fun o48 => some (.inl (x1, K, o48)))
theorem mbT_X3_takeNewName_41 {o : (Int64 × Ka × Cm) ⊕ (Ka × Cm)} {N : Nat}  (x0 : Nat) (x1 : Int64) (K : Ka) (M : Cm) (hf : bT_X3_takeNewName_41 N x0 x1 K M = some o) : KLe K (oK sT o) := by
  unfold bT_X3_takeNewName_41 at hf
  obtain ⟨-, hf⟩ := gd_some hf
  obtain ⟨o48, -, hf⟩ := bnd_some hf
  cases hf
  exact KLe.rf _
set_option maxRecDepth 100000 in
set_option maxHeartbeats 4000000 in
theorem wbT_X3_takeNewName_41 {p : Program} {l : Launch} {e : Env} {R : Room} {s : State} {m : MethodId} {args : Array Value} {below : List Frame} {meth : Method} {c : Code} {x : Xc} {K0 : Ka} {o : (Int64 × Ka × Cm) ⊕ (Ka × Cm)} {N : Nat} (CTX : CT p l s m args meth c x K0 RX3 "takeNewName" cX3_takeNewName 3 (some .long)) (hRm : 7 ≤ R.frames ∧ 116 ≤ R.locals) (hRc : nz sT K0 o ≤ R.cells ∧ nu sT K0 o ≤ R.slots) (x0 : Nat) (x1 : Int64) (K : Ka) (M : Cm) (H : Heap) (locs : List Loc) (ls : Array Slot) (hf : bT_X3_takeNewName_41 N x0 x1 K M = some o) (hL : KLe K0 K) (hR : RC x K M H) (hS : va_S (AC K0) s.heap H locs) (hl : lv_has ls 3 [(0, .ref x0), (1, .long x1)]) : W p l e R s m args below meth c H locs (kz K - kz K0) (ku K - ku K0) (TQ sT (aQL x K0) (zQV K0) "java/lang/IllegalStateException" x K0 below args s o) (F0 m 41 ls []) := by
  obtain ⟨CX, hno, hlt, hmn⟩ := id CTX
  obtain ⟨hx, hb, hml, hown, hts, hE, hB, hr, hlk⟩ := id CX
  have hcs := nz_le (mbT_X3_takeNewName_41  x0 x1 K M hf) hRc
  unfold bT_X3_takeNewName_41 at hf
  refine lv_aload_n hx hb dX3_takeNewName_41 rfl (lv_at hl 0 rfl) ?_
  refine lv_aload_n hx hb dX3_takeNewName_42 rfl (lv_at hl 0 rfl) ?_
  obtain ⟨hk_x0_4, hf⟩ := gd_some hf
  refine cr_getI kc_3 CX hR fa_X3_15 rfl hk_x0_4 dX3_takeNewName_43 ?_
  refine lv_iconst (v := 1) hx hb dX3_takeNewName_46 (by decide) ?_
  refine lv_iadd hx hb dX3_takeNewName_47 ?_
  obtain ⟨o48, ho48, hf⟩ := bnd_some hf
  refine cr_callVv kc_3 CX hR hL hS (As := [.int ((cI M x0 2) + 1)]) (rest := []) hk_x0_4 (MC_X3_moveTo l x N K x0 ((cI M x0 2) + 1) M o48 ho48) cv_X3_42 ⟨by omega, by omega⟩ rfl rfl (Nat.le_of_ble_eq_true rfl) hl.1 dX3_takeNewName_48 hcs (fun H locs hR hS => ?_)
  refine lv_lload_n hx hb dX3_takeNewName_51 rfl (lv_at hl 1 rfl) ?_
  exact tr_lret CX hR hS hf dX3_takeNewName_52
def bT_X3_takeNewName_13 (N : Nat) (x0 : Nat) (K : Ka) (M : Cm) : Option ((Int64 × Ka × Cm) ⊕ (Ka × Cm)) := gd (kd K x0 == 4) (nn (cR M x0 0) fun a1 => gd (kd K a1 == 7) ((fC_X6_valueAt N K a1 (cI M x0 2) M).bind fun o21 => nn (cR o21.2 x0 1) fun a2 => gd (kd K a2 == 6) ((fC_X5_isTold N K a2 o21.1 o21.2).bind fun o30 => if o30.1 = 0 then ((bT_X3_takeNewName_41 N) x0 o21.1 K o30.2) else (tb (fT_X3_refuse N x0 3 K o30.2) fun o38 => (bT_X3_takeNewName_41 N) x0 o21.1 o38.1 o38.2))))
theorem mbT_X3_takeNewName_13 {o : (Int64 × Ka × Cm) ⊕ (Ka × Cm)} {N : Nat}  (x0 : Nat) (K : Ka) (M : Cm) (hf : bT_X3_takeNewName_13 N x0 K M = some o) : KLe K (oK sT o) := by
  unfold bT_X3_takeNewName_13 at hf
  obtain ⟨-, hf⟩ := gd_some hf
  obtain ⟨a1, -, hf⟩ := nn_some hf
  obtain ⟨-, hf⟩ := gd_some hf
  obtain ⟨o21, -, hf⟩ := bnd_some hf
  obtain ⟨a2, -, hf⟩ := nn_some hf
  obtain ⟨-, hf⟩ := gd_some hf
  obtain ⟨o30, -, hf⟩ := bnd_some hf
  by_cases hc : o30.1 = 0
  · rw [if_pos hc] at hf
    exact mbT_X3_takeNewName_41 _ _ _ _ hf
  · rw [if_neg hc] at hf
    rcases tb_some hf with ⟨o38, ho, hf⟩ | ⟨q, ho, rfl⟩
    · exact KLe.tr (mfT_X3_refuse _ _ _ _ ho) (mbT_X3_takeNewName_41 _ _ _ _ hf)
    · exact (mfT_X3_refuse _ _ _ _ ho)
set_option maxRecDepth 100000 in
set_option maxHeartbeats 4000000 in
theorem wbT_X3_takeNewName_13 {p : Program} {l : Launch} {e : Env} {R : Room} {s : State} {m : MethodId} {args : Array Value} {below : List Frame} {meth : Method} {c : Code} {x : Xc} {K0 : Ka} {o : (Int64 × Ka × Cm) ⊕ (Ka × Cm)} {N : Nat} (CTX : CT p l s m args meth c x K0 RX3 "takeNewName" cX3_takeNewName 3 (some .long)) (hRm : 7 ≤ R.frames ∧ 116 ≤ R.locals) (hRc : nz sT K0 o ≤ R.cells ∧ nu sT K0 o ≤ R.slots) (x0 : Nat) (K : Ka) (M : Cm) (H : Heap) (locs : List Loc) (ls : Array Slot) (hf : bT_X3_takeNewName_13 N x0 K M = some o) (hL : KLe K0 K) (hR : RC x K M H) (hS : va_S (AC K0) s.heap H locs) (hl : lv_has ls 3 [(0, .ref x0)]) : W p l e R s m args below meth c H locs (kz K - kz K0) (ku K - ku K0) (TQ sT (aQL x K0) (zQV K0) "java/lang/IllegalStateException" x K0 below args s o) (F0 m 13 ls []) := by
  obtain ⟨CX, hno, hlt, hmn⟩ := id CTX
  obtain ⟨hx, hb, hml, hown, hts, hE, hB, hr, hlk⟩ := id CX
  have hcs := nz_le (mbT_X3_takeNewName_13  x0 K M hf) hRc
  unfold bT_X3_takeNewName_13 at hf
  refine lv_aload_n hx hb dX3_takeNewName_13 rfl (lv_at hl 0 rfl) ?_
  obtain ⟨hk_x0_4, hf⟩ := gd_some hf
  refine cr_getR kc_3 CX hR fa_X3_28 rfl hk_x0_4 dX3_takeNewName_14 ?_
  refine lv_aload_n hx hb dX3_takeNewName_17 rfl (lv_at hl 0 rfl) ?_
  refine cr_getI kc_3 CX hR fa_X3_15 rfl hk_x0_4 dX3_takeNewName_18 ?_
  obtain ⟨a1, ha1, hf⟩ := nn_some hf
  refine rf_1 ha1 ?_
  obtain ⟨hk_a1_7, hf⟩ := gd_some hf
  obtain ⟨o21, ho21, hf⟩ := bnd_some hf
  refine cr_callLv kc_6 CX hR hL hS (As := [.int (cI M x0 2)]) (rest := []) hk_a1_7 (MC_X6_valueAt l x N K a1 (cI M x0 2) M o21 ho21) cv_X3_88 ⟨by omega, by omega⟩ rfl rfl (Nat.le_of_ble_eq_true rfl) hl.1 dX3_takeNewName_21 hcs (fun H locs hR hS => ?_)
  refine lv_lstore_n (lv' := [(1, .long o21.1), (0, .ref x0)]) hx hb dX3_takeNewName_24 rfl hl (by decide) rfl (fun ls hl => ?_)
  refine lv_aload_n hx hb dX3_takeNewName_25 rfl (lv_at hl 1 rfl) ?_
  refine cr_getR kc_3 CX hR fa_X3_9 rfl hk_x0_4 dX3_takeNewName_26 ?_
  refine lv_lload_n hx hb dX3_takeNewName_29 rfl (lv_at hl 0 rfl) ?_
  obtain ⟨a2, ha2, hf⟩ := nn_some hf
  refine rf_1 ha2 ?_
  obtain ⟨hk_a2_6, hf⟩ := gd_some hf
  obtain ⟨o30, ho30, hf⟩ := bnd_some hf
  refine cr_callIv kc_5 CX hR hL hS (As := [.long o21.1]) (rest := []) hk_a2_6 (MC_X5_isTold l x N K a2 o21.1 o21.2 o30 ho30) cv_X3_92 ⟨by omega, by omega⟩ rfl rfl (Nat.le_of_ble_eq_true rfl) hl.1 dX3_takeNewName_30 hcs (fun H locs hR hS => ?_)
  refine lv_if_eq (tgt := 41) hx hb dX3_takeNewName_33 (by decide) (fun hc => ?_) (fun hc => ?_)
  · rw [if_pos hc] at hf
    exact (wbT_X3_takeNewName_41 CTX hRm hRc) _ _ _ _ _ _ _ hf hL hR hS (lv_sub hl [1, 0] rfl)
  · rw [if_neg hc] at hf
    refine lv_aload_n hx hb dX3_takeNewName_36 rfl (lv_at hl 1 rfl) ?_
    refine lv_iconst (v := 3) hx hb dX3_takeNewName_37 (by decide) ?_
    rcases tb_some hf with ⟨o38, ho, hf⟩ | ⟨q, ho, rfl⟩
    · have hm1 := mbT_X3_takeNewName_41 _ _ _ _ hf
      have hb1 := nz_le hm1 hRc
      have hq1 := (mfT_X3_refuse _ _ _ _ ho)
      refine ta_callVv kc_3 CX hL hR hS (As := [.int 3]) (rest := []) hk_x0_4 (MT_X3_refuse l x hlt N _ _ _ _ _ ho) cv_X3_54 ⟨by omega, by omega⟩ rfl (Nat.le_of_ble_eq_true rfl) hl.1 hq1 hb1 rfl dX3_takeNewName_38 (fun H locs hR hS => ?_)
      exact (wbT_X3_takeNewName_41 CTX hRm hRc) _ _ _ _ _ _ _ hf (hL.tr hq1) hR hS (lv_sub hl [1, 0] rfl)
    · exact tx_callv kc_3 CTX hL hR hS (As := [.int 3]) (rest := []) hk_x0_4 (MT_X3_refuse l x hlt N _ _ _ _ _ ho) cv_X3_54 ⟨by omega, by omega⟩ rfl (Nat.le_of_ble_eq_true rfl) hl.1 (mfT_X3_refuse _ _ _ _ ho) hRc rfl dX3_takeNewName_38
def fT_X3_takeNewName (N : Nat) (x0 : Nat) (K : Ka) (M : Cm) : Option ((Int64 × Ka × Cm) ⊕ (Ka × Cm)) := gd (kd K x0 == 4) (if (cI M x0 3) = 2 then ((bT_X3_takeNewName_13 N) x0 K M) else (tb (fT_X3_refuse N x0 1 K M) fun o10 => (bT_X3_takeNewName_13 N) x0 o10.1 o10.2))
theorem mfT_X3_takeNewName {o : (Int64 × Ka × Cm) ⊕ (Ka × Cm)} {N : Nat}  (x0 : Nat) (K : Ka) (M : Cm) (hf : fT_X3_takeNewName N x0 K M = some o) : KLe K (oK sT o) := by
  unfold fT_X3_takeNewName at hf
  obtain ⟨-, hf⟩ := gd_some hf
  by_cases hc : (cI M x0 3) = 2
  · rw [if_pos hc] at hf
    exact mbT_X3_takeNewName_13 _ _ _ hf
  · rw [if_neg hc] at hf
    rcases tb_some hf with ⟨o10, ho, hf⟩ | ⟨q, ho, rfl⟩
    · exact KLe.tr (mfT_X3_refuse _ _ _ _ ho) (mbT_X3_takeNewName_13 _ _ _ hf)
    · exact (mfT_X3_refuse _ _ _ _ ho)
set_option maxRecDepth 100000 in
set_option maxHeartbeats 4000000 in
theorem wfT_X3_takeNewName {p : Program} {l : Launch} {e : Env} {R : Room} {s : State} {m : MethodId} {args : Array Value} {below : List Frame} {meth : Method} {c : Code} {x : Xc} {K0 : Ka} {o : (Int64 × Ka × Cm) ⊕ (Ka × Cm)} {N : Nat} (CTX : CT p l s m args meth c x K0 RX3 "takeNewName" cX3_takeNewName 3 (some .long)) (hRm : 7 ≤ R.frames ∧ 116 ≤ R.locals) (hRc : nz sT K0 o ≤ R.cells ∧ nu sT K0 o ≤ R.slots) (x0 : Nat) (K : Ka) (M : Cm) (H : Heap) (locs : List Loc) (ls : Array Slot) (hf : fT_X3_takeNewName N x0 K M = some o) (hL : KLe K0 K) (hR : RC x K M H) (hS : va_S (AC K0) s.heap H locs) (hl : lv_has ls 3 [(0, .ref x0)]) : W p l e R s m args below meth c H locs (kz K - kz K0) (ku K - ku K0) (TQ sT (aQL x K0) (zQV K0) "java/lang/IllegalStateException" x K0 below args s o) (F0 m 0 ls []) := by
  obtain ⟨CX, hno, hlt, hmn⟩ := id CTX
  obtain ⟨hx, hb, hml, hown, hts, hE, hB, hr, hlk⟩ := id CX
  have hcs := nz_le (mfT_X3_takeNewName  x0 K M hf) hRc
  unfold fT_X3_takeNewName at hf
  refine lv_aload_n hx hb dX3_takeNewName_0 rfl (lv_at hl 0 rfl) ?_
  obtain ⟨hk_x0_4, hf⟩ := gd_some hf
  refine cr_getI kc_3 CX hR fa_X3_19 rfl hk_x0_4 dX3_takeNewName_1 ?_
  refine lv_iconst (v := 2) hx hb dX3_takeNewName_4 (by decide) ?_
  refine lv_icmp_eq (tgt := 13) hx hb dX3_takeNewName_5 (by decide) (fun hc => ?_) (fun hc => ?_)
  · rw [if_pos hc] at hf
    exact (wbT_X3_takeNewName_13 CTX hRm hRc) _ _ _ _ _ _ hf hL hR hS (lv_sub hl [0] rfl)
  · rw [if_neg hc] at hf
    refine lv_aload_n hx hb dX3_takeNewName_8 rfl (lv_at hl 0 rfl) ?_
    refine lv_iconst (v := 1) hx hb dX3_takeNewName_9 (by decide) ?_
    rcases tb_some hf with ⟨o10, ho, hf⟩ | ⟨q, ho, rfl⟩
    · have hm1 := mbT_X3_takeNewName_13 _ _ _ hf
      have hb1 := nz_le hm1 hRc
      have hq1 := (mfT_X3_refuse _ _ _ _ ho)
      refine ta_callVv kc_3 CX hL hR hS (As := [.int 1]) (rest := []) hk_x0_4 (MT_X3_refuse l x hlt N _ _ _ _ _ ho) cv_X3_54 ⟨by omega, by omega⟩ rfl (Nat.le_of_ble_eq_true rfl) hl.1 hq1 hb1 rfl dX3_takeNewName_10 (fun H locs hR hS => ?_)
      exact (wbT_X3_takeNewName_13 CTX hRm hRc) _ _ _ _ _ _ hf (hL.tr hq1) hR hS (lv_sub hl [0] rfl)
    · exact tx_callv kc_3 CTX hL hR hS (As := [.int 1]) (rest := []) hk_x0_4 (MT_X3_refuse l x hlt N _ _ _ _ _ ho) cv_X3_54 ⟨by omega, by omega⟩ rfl (Nat.le_of_ble_eq_true rfl) hl.1 (mfT_X3_refuse _ _ _ _ ho) hRc rfl dX3_takeNewName_10
theorem MT_X3_takeNewName (l : Launch) (x : Xc) (hlt : l.stackTraces = false) (N : Nat) (x0 : Nat) (K : Ka) (M : Cm) (o : (Int64 × Ka × Cm) ⊕ (Ka × Cm)) (hf : fT_X3_takeNewName N x0 K M = some o) : Tc sT (aQL x K) (zQV K) "java/lang/IllegalStateException" l x yX3_takeNewName cX3_takeNewName 3 (some .long) 7 116 [.ref x0] K M o :=
  tr_met RX3 "takeNewName" hlt (by decide) rfl rfl (Nat.le_of_ble_eq_true rfl) (fun p e s m args below meth c ls CTX hR hl => wfT_X3_takeNewName CTX ⟨Nat.le_refl _, Nat.le_refl _⟩ ⟨Nat.le_refl _, Nat.le_refl _⟩ x0 K M s.heap [] ls hf (KLe.rf K) hR va_S.rf hl)
def bT_X3_readDemand_63 (N : Nat) (x0 : Nat) (s0 : Int32) (K : Ka) (M : Cm) : Option ((Ka × Cm) ⊕ (Ka × Cm)) := some (.inl (K, M))
theorem mbT_X3_readDemand_63 {o : (Ka × Cm) ⊕ (Ka × Cm)} {N : Nat}  (x0 : Nat) (s0 : Int32) (K : Ka) (M : Cm) (hf : bT_X3_readDemand_63 N x0 s0 K M = some o) : KLe K (oK sV o) := by
  unfold bT_X3_readDemand_63 at hf
  cases hf
  exact KLe.rf _
set_option maxRecDepth 100000 in
set_option maxHeartbeats 4000000 in
theorem wbT_X3_readDemand_63 {p : Program} {l : Launch} {e : Env} {R : Room} {s : State} {m : MethodId} {args : Array Value} {below : List Frame} {meth : Method} {c : Code} {x : Xc} {K0 : Ka} {o : (Ka × Cm) ⊕ (Ka × Cm)} {N : Nat} (CTX : CT p l s m args meth c x K0 RX3 "readDemand" cX3_readDemand 1 none) (hRm : 161 ≤ R.frames ∧ 9205 ≤ R.locals) (hRc : nz sV K0 o ≤ R.cells ∧ nu sV K0 o ≤ R.slots) (x0 : Nat) (s0 : Int32) (K : Ka) (M : Cm) (H : Heap) (locs : List Loc) (ls : Array Slot) (hf : bT_X3_readDemand_63 N x0 s0 K M = some o) (hL : KLe K0 K) (hR : RC x K M H) (hS : va_S (AC K0) s.heap H locs) (hl : lv_has ls 1 [(0, .ref x0)]) : W p l e R s m args below meth c H locs (kz K - kz K0) (ku K - ku K0) (TQ sV (aQV x K0) (zQV K0) "java/lang/IllegalStateException" x K0 below args s o) (F0 m 63 ls [.int s0]) := by
  obtain ⟨CX, hno, hlt, hmn⟩ := id CTX
  obtain ⟨hx, hb, hml, hown, hts, hE, hB, hr, hlk⟩ := id CX
  have hcs := nz_le (mbT_X3_readDemand_63  x0 s0 K M hf) hRc
  unfold bT_X3_readDemand_63 at hf
  refine lv_pop hx hb dX3_readDemand_63 rfl ?_
  exact tr_vret CX hR hS hf dX3_readDemand_64
def bT_X3_readDemand_55 (N : Nat) (x0 : Nat) (K : Ka) (M : Cm) : Option ((Ka × Cm) ⊕ (Ka × Cm)) := gd (kd K x0 == 4) (ta (fT_X3_emit N x0 20 0 0 K M) fun o60 => (bT_X3_readDemand_63 N) x0 o60.1 o60.2.1 o60.2.2)
theorem mbT_X3_readDemand_55 {o : (Ka × Cm) ⊕ (Ka × Cm)} {N : Nat}  (x0 : Nat) (K : Ka) (M : Cm) (hf : bT_X3_readDemand_55 N x0 K M = some o) : KLe K (oK sV o) := by
  unfold bT_X3_readDemand_55 at hf
  obtain ⟨-, hf⟩ := gd_some hf
  obtain ⟨o60, ho, hf⟩ := ta_some hf
  exact KLe.tr (mfT_X3_emit _ _ _ _ _ _ ho) (mbT_X3_readDemand_63 _ _ _ _ hf)
set_option maxRecDepth 100000 in
set_option maxHeartbeats 4000000 in
theorem wbT_X3_readDemand_55 {p : Program} {l : Launch} {e : Env} {R : Room} {s : State} {m : MethodId} {args : Array Value} {below : List Frame} {meth : Method} {c : Code} {x : Xc} {K0 : Ka} {o : (Ka × Cm) ⊕ (Ka × Cm)} {N : Nat} (CTX : CT p l s m args meth c x K0 RX3 "readDemand" cX3_readDemand 1 none) (hRm : 161 ≤ R.frames ∧ 9205 ≤ R.locals) (hRc : nz sV K0 o ≤ R.cells ∧ nu sV K0 o ≤ R.slots) (x0 : Nat) (K : Ka) (M : Cm) (H : Heap) (locs : List Loc) (ls : Array Slot) (hf : bT_X3_readDemand_55 N x0 K M = some o) (hL : KLe K0 K) (hR : RC x K M H) (hS : va_S (AC K0) s.heap H locs) (hl : lv_has ls 1 [(0, .ref x0)]) : W p l e R s m args below meth c H locs (kz K - kz K0) (ku K - ku K0) (TQ sV (aQV x K0) (zQV K0) "java/lang/IllegalStateException" x K0 below args s o) (F0 m 55 ls []) := by
  obtain ⟨CX, hno, hlt, hmn⟩ := id CTX
  obtain ⟨hx, hb, hml, hown, hts, hE, hB, hr, hlk⟩ := id CX
  have hcs := nz_le (mbT_X3_readDemand_55  x0 K M hf) hRc
  unfold bT_X3_readDemand_55 at hf
  refine lv_aload_n hx hb dX3_readDemand_55 rfl (lv_at hl 0 rfl) ?_
  refine lv_bipush (v := 20) hx hb dX3_readDemand_56 (by decide) ?_
  refine lv_iconst (v := 0) hx hb dX3_readDemand_58 (by decide) ?_
  refine lv_iconst (v := 0) hx hb dX3_readDemand_59 (by decide) ?_
  obtain ⟨hk_x0_4, hf⟩ := gd_some hf
  obtain ⟨o60, ho, hf⟩ := ta_some hf
  have hm1 := mbT_X3_readDemand_63 _ _ _ _ hf
  have hb1 := nz_le hm1 hRc
  have hq1 := (mfT_X3_emit _ _ _ _ _ _ ho)
  refine ta_callIv kc_3 CX hL hR hS (As := [.int 20, .int 0, .int 0]) (rest := []) hk_x0_4 (MT_X3_emit l x hlt N _ _ _ _ _ _ _ ho) cv_X3_144 ⟨by omega, by omega⟩ rfl (Nat.le_of_ble_eq_true rfl) hl.1 hq1 hb1 rfl dX3_readDemand_60 (fun H locs hR hS => ?_)
  exact (wbT_X3_readDemand_63 CTX hRm hRc) _ _ _ _ _ _ _ hf (hL.tr hq1) hR hS (lv_sub hl [0] rfl)
def bT_X3_readDemand_40 (N : Nat) (x0 : Nat) (s0 : Nat) (s1 : Int64) (K : Ka) (M : Cm) : Option ((Ka × Cm) ⊕ (Ka × Cm)) := gd (kd K x0 == 4) (nn (cR M x0 1) fun a1 => gd (kd K a1 == 6) (gd (kd K s0 == 6) ((fC_X5_addDemand N K s0 s1 (cI M a1 13) M).bind fun o47 => tb (fGT_X3_readBlock N x0 0 K o47) fun o52 => (bT_X3_readDemand_55 N) x0 o52.1 o52.2)))
theorem mbT_X3_readDemand_40 {o : (Ka × Cm) ⊕ (Ka × Cm)} {N : Nat}  (x0 : Nat) (s0 : Nat) (s1 : Int64) (K : Ka) (M : Cm) (hf : bT_X3_readDemand_40 N x0 s0 s1 K M = some o) : KLe K (oK sV o) := by
  unfold bT_X3_readDemand_40 at hf
  obtain ⟨-, hf⟩ := gd_some hf
  obtain ⟨a1, -, hf⟩ := nn_some hf
  obtain ⟨-, hf⟩ := gd_some hf
  obtain ⟨-, hf⟩ := gd_some hf
  obtain ⟨o47, -, hf⟩ := bnd_some hf
  rcases tb_some hf with ⟨o52, ho, hf⟩ | ⟨q, ho, rfl⟩
  · exact KLe.tr (mGT_X3_readBlock ho) (mbT_X3_readDemand_55 _ _ _ hf)
  · exact (mGT_X3_readBlock ho)
set_option maxRecDepth 100000 in
set_option maxHeartbeats 4000000 in
theorem wbT_X3_readDemand_40 {p : Program} {l : Launch} {e : Env} {R : Room} {s : State} {m : MethodId} {args : Array Value} {below : List Frame} {meth : Method} {c : Code} {x : Xc} {K0 : Ka} {o : (Ka × Cm) ⊕ (Ka × Cm)} {N : Nat} (CTX : CT p l s m args meth c x K0 RX3 "readDemand" cX3_readDemand 1 none) (hRm : 161 ≤ R.frames ∧ 9205 ≤ R.locals) (hRc : nz sV K0 o ≤ R.cells ∧ nu sV K0 o ≤ R.slots) (x0 : Nat) (s0 : Nat) (s1 : Int64) (K : Ka) (M : Cm) (H : Heap) (locs : List Loc) (ls : Array Slot) (hf : bT_X3_readDemand_40 N x0 s0 s1 K M = some o) (hL : KLe K0 K) (hR : RC x K M H) (hS : va_S (AC K0) s.heap H locs) (hl : lv_has ls 1 [(0, .ref x0)]) : W p l e R s m args below meth c H locs (kz K - kz K0) (ku K - ku K0) (TQ sV (aQV x K0) (zQV K0) "java/lang/IllegalStateException" x K0 below args s o) (F0 m 40 ls [.long s1, .ref s0]) := by
  obtain ⟨CX, hno, hlt, hmn⟩ := id CTX
  obtain ⟨hx, hb, hml, hown, hts, hE, hB, hr, hlk⟩ := id CX
  have hcs := nz_le (mbT_X3_readDemand_40  x0 s0 s1 K M hf) hRc
  unfold bT_X3_readDemand_40 at hf
  refine lv_aload_n hx hb dX3_readDemand_40 rfl (lv_at hl 0 rfl) ?_
  obtain ⟨hk_x0_4, hf⟩ := gd_some hf
  refine cr_getR kc_3 CX hR fa_X3_9 rfl hk_x0_4 dX3_readDemand_41 ?_
  obtain ⟨a1, ha1, hf⟩ := nn_some hf
  refine rf_0 ha1 ?_
  obtain ⟨hk_a1_6, hf⟩ := gd_some hf
  refine cr_getI kc_5 CX hR fa_X3_134 rfl hk_a1_6 dX3_readDemand_44 ?_
  obtain ⟨hk_s0_6, hf⟩ := gd_some hf
  obtain ⟨o47, ho47, hf⟩ := bnd_some hf
  refine cr_callVv kc_5 CX hR hL hS (As := [.long s1, .int (cI M a1 13)]) (rest := []) hk_s0_6 (MC_X5_addDemand l x N K s0 s1 (cI M a1 13) M o47 ho47) cv_X3_137 ⟨by omega, by omega⟩ rfl rfl (Nat.le_of_ble_eq_true rfl) hl.1 dX3_readDemand_47 hcs (fun H locs hR hS => ?_)
  refine lv_aload_n hx hb dX3_readDemand_50 rfl (lv_at hl 0 rfl) ?_
  refine lv_iconst (v := 0) hx hb dX3_readDemand_51 (by decide) ?_
  rcases tb_some hf with ⟨o52, ho, hf⟩ | ⟨q, ho, rfl⟩
  · have hm1 := mbT_X3_readDemand_55 _ _ _ hf
    have hb1 := nz_le hm1 hRc
    have hq1 := (mGT_X3_readBlock ho)
    refine ta_callVv kc_3 CX hL hR hS (As := [.int 0]) (rest := []) hk_x0_4 (MGT_X3_readBlock l x hlt N _ _ _ _ _ ho) cv_X3_141 ⟨by omega, by omega⟩ rfl (Nat.le_of_ble_eq_true rfl) hl.1 hq1 hb1 rfl dX3_readDemand_52 (fun H locs hR hS => ?_)
    exact (wbT_X3_readDemand_55 CTX hRm hRc) _ _ _ _ _ _ hf (hL.tr hq1) hR hS (lv_sub hl [0] rfl)
  · exact tx_callv kc_3 CTX hL hR hS (As := [.int 0]) (rest := []) hk_x0_4 (MGT_X3_readBlock l x hlt N _ _ _ _ _ ho) cv_X3_141 ⟨by omega, by omega⟩ rfl (Nat.le_of_ble_eq_true rfl) hl.1 (mGT_X3_readBlock ho) hRc rfl dX3_readDemand_52
def bT_X3_readDemand_17 (N : Nat) (x0 : Nat) (K : Ka) (M : Cm) : Option ((Ka × Cm) ⊕ (Ka × Cm)) := gd (kd K x0 == 4) ((fC_X3_moveTo N K x0 ((cI M x0 2) + 1) M).bind fun o24 => nn (cR (wI o24 x0 4 (-1)) x0 1) fun a1 => tb (fT_X3_takeNewName N x0 K (wI o24 x0 4 (-1))) fun o37 => (bT_X3_readDemand_40 N) x0 a1 o37.1 o37.2.1 o37.2.2)
theorem mbT_X3_readDemand_17 {o : (Ka × Cm) ⊕ (Ka × Cm)} {N : Nat}  (x0 : Nat) (K : Ka) (M : Cm) (hf : bT_X3_readDemand_17 N x0 K M = some o) : KLe K (oK sV o) := by
  unfold bT_X3_readDemand_17 at hf
  obtain ⟨-, hf⟩ := gd_some hf
  obtain ⟨o24, -, hf⟩ := bnd_some hf
  obtain ⟨a1, -, hf⟩ := nn_some hf
  rcases tb_some hf with ⟨o37, ho, hf⟩ | ⟨q, ho, rfl⟩
  · exact KLe.tr (mfT_X3_takeNewName _ _ _ ho) (mbT_X3_readDemand_40 _ _ _ _ _ hf)
  · exact (mfT_X3_takeNewName _ _ _ ho)
set_option maxRecDepth 100000 in
set_option maxHeartbeats 4000000 in
theorem wbT_X3_readDemand_17 {p : Program} {l : Launch} {e : Env} {R : Room} {s : State} {m : MethodId} {args : Array Value} {below : List Frame} {meth : Method} {c : Code} {x : Xc} {K0 : Ka} {o : (Ka × Cm) ⊕ (Ka × Cm)} {N : Nat} (CTX : CT p l s m args meth c x K0 RX3 "readDemand" cX3_readDemand 1 none) (hRm : 161 ≤ R.frames ∧ 9205 ≤ R.locals) (hRc : nz sV K0 o ≤ R.cells ∧ nu sV K0 o ≤ R.slots) (x0 : Nat) (K : Ka) (M : Cm) (H : Heap) (locs : List Loc) (ls : Array Slot) (hf : bT_X3_readDemand_17 N x0 K M = some o) (hL : KLe K0 K) (hR : RC x K M H) (hS : va_S (AC K0) s.heap H locs) (hl : lv_has ls 1 [(0, .ref x0)]) : W p l e R s m args below meth c H locs (kz K - kz K0) (ku K - ku K0) (TQ sV (aQV x K0) (zQV K0) "java/lang/IllegalStateException" x K0 below args s o) (F0 m 17 ls []) := by
  obtain ⟨CX, hno, hlt, hmn⟩ := id CTX
  obtain ⟨hx, hb, hml, hown, hts, hE, hB, hr, hlk⟩ := id CX
  have hcs := nz_le (mbT_X3_readDemand_17  x0 K M hf) hRc
  unfold bT_X3_readDemand_17 at hf
  refine lv_aload_n hx hb dX3_readDemand_17 rfl (lv_at hl 0 rfl) ?_
  refine lv_aload_n hx hb dX3_readDemand_18 rfl (lv_at hl 0 rfl) ?_
  obtain ⟨hk_x0_4, hf⟩ := gd_some hf
  refine cr_getI kc_3 CX hR fa_X3_15 rfl hk_x0_4 dX3_readDemand_19 ?_
  refine lv_iconst (v := 1) hx hb dX3_readDemand_22 (by decide) ?_
  refine lv_iadd hx hb dX3_readDemand_23 ?_
  obtain ⟨o24, ho24, hf⟩ := bnd_some hf
  refine cr_callVv kc_3 CX hR hL hS (As := [.int ((cI M x0 2) + 1)]) (rest := []) hk_x0_4 (MC_X3_moveTo l x N K x0 ((cI M x0 2) + 1) M o24 ho24) cv_X3_42 ⟨by omega, by omega⟩ rfl rfl (Nat.le_of_ble_eq_true rfl) hl.1 dX3_readDemand_24 hcs (fun H locs hR hS => ?_)
  refine lv_aload_n hx hb dX3_readDemand_27 rfl (lv_at hl 0 rfl) ?_
  refine lv_iconst (v := (-1)) hx hb dX3_readDemand_28 (by decide) ?_
  refine cr_putI kc_3 CX hR hL hS fa_X3_22 ⟨rfl, rfl, rfl⟩ hk_x0_4 dX3_readDemand_29 (fun H locs hR hS => ?_)
  refine lv_aload_n hx hb dX3_readDemand_32 rfl (lv_at hl 0 rfl) ?_
  refine cr_getR kc_3 CX hR fa_X3_9 rfl hk_x0_4 dX3_readDemand_33 ?_
  refine lv_aload_n hx hb dX3_readDemand_36 rfl (lv_at hl 0 rfl) ?_
  obtain ⟨a1, ha1, hf⟩ := nn_some hf
  refine rf_1 ha1 ?_
  rcases tb_some hf with ⟨o37, ho, hf⟩ | ⟨q, ho, rfl⟩
  · have hm1 := mbT_X3_readDemand_40 _ _ _ _ _ hf
    have hb1 := nz_le hm1 hRc
    have hq1 := (mfT_X3_takeNewName _ _ _ ho)
    refine ta_callLv kc_3 CX hL hR hS (As := []) (rest := [.ref a1]) hk_x0_4 (MT_X3_takeNewName l x hlt N _ _ _ _ ho) cv_X3_115 ⟨by omega, by omega⟩ rfl (Nat.le_of_ble_eq_true rfl) hl.1 hq1 hb1 rfl dX3_readDemand_37 (fun H locs hR hS => ?_)
    exact (wbT_X3_readDemand_40 CTX hRm hRc) _ _ _ _ _ _ _ _ hf (hL.tr hq1) hR hS (lv_sub hl [0] rfl)
  · exact tx_callv kc_3 CTX hL hR hS (As := []) (rest := [.ref a1]) hk_x0_4 (MT_X3_takeNewName l x hlt N _ _ _ _ ho) cv_X3_115 ⟨by omega, by omega⟩ rfl (Nat.le_of_ble_eq_true rfl) hl.1 (mfT_X3_takeNewName _ _ _ ho) hRc rfl dX3_readDemand_37
def fT_X3_readDemand (N : Nat) (x0 : Nat) (K : Ka) (M : Cm) : Option ((Ka × Cm) ⊕ (Ka × Cm)) := gd (kd K x0 == 4) (nn (cR M x0 1) fun a1 => gd (kd K a1 == 6) (if (cI M a1 12) < 20 then ((bT_X3_readDemand_17 N) x0 K M) else (tb (fT_X3_refuse N x0 5 K M) fun o14 => (bT_X3_readDemand_17 N) x0 o14.1 o14.2)))
theorem mfT_X3_readDemand {o : (Ka × Cm) ⊕ (Ka × Cm)} {N : Nat}  (x0 : Nat) (K : Ka) (M : Cm) (hf : fT_X3_readDemand N x0 K M = some o) : KLe K (oK sV o) := by
  unfold fT_X3_readDemand at hf
  obtain ⟨-, hf⟩ := gd_some hf
  obtain ⟨a1, -, hf⟩ := nn_some hf
  obtain ⟨-, hf⟩ := gd_some hf
  by_cases hc : (cI M a1 12) < 20
  · rw [if_pos hc] at hf
    exact mbT_X3_readDemand_17 _ _ _ hf
  · rw [if_neg hc] at hf
    rcases tb_some hf with ⟨o14, ho, hf⟩ | ⟨q, ho, rfl⟩
    · exact KLe.tr (mfT_X3_refuse _ _ _ _ ho) (mbT_X3_readDemand_17 _ _ _ hf)
    · exact (mfT_X3_refuse _ _ _ _ ho)
set_option maxRecDepth 100000 in
set_option maxHeartbeats 4000000 in
theorem wfT_X3_readDemand {p : Program} {l : Launch} {e : Env} {R : Room} {s : State} {m : MethodId} {args : Array Value} {below : List Frame} {meth : Method} {c : Code} {x : Xc} {K0 : Ka} {o : (Ka × Cm) ⊕ (Ka × Cm)} {N : Nat} (CTX : CT p l s m args meth c x K0 RX3 "readDemand" cX3_readDemand 1 none) (hRm : 161 ≤ R.frames ∧ 9205 ≤ R.locals) (hRc : nz sV K0 o ≤ R.cells ∧ nu sV K0 o ≤ R.slots) (x0 : Nat) (K : Ka) (M : Cm) (H : Heap) (locs : List Loc) (ls : Array Slot) (hf : fT_X3_readDemand N x0 K M = some o) (hL : KLe K0 K) (hR : RC x K M H) (hS : va_S (AC K0) s.heap H locs) (hl : lv_has ls 1 [(0, .ref x0)]) : W p l e R s m args below meth c H locs (kz K - kz K0) (ku K - ku K0) (TQ sV (aQV x K0) (zQV K0) "java/lang/IllegalStateException" x K0 below args s o) (F0 m 0 ls []) := by
  obtain ⟨CX, hno, hlt, hmn⟩ := id CTX
  obtain ⟨hx, hb, hml, hown, hts, hE, hB, hr, hlk⟩ := id CX
  have hcs := nz_le (mfT_X3_readDemand  x0 K M hf) hRc
  unfold fT_X3_readDemand at hf
  refine lv_aload_n hx hb dX3_readDemand_0 rfl (lv_at hl 0 rfl) ?_
  obtain ⟨hk_x0_4, hf⟩ := gd_some hf
  refine cr_getR kc_3 CX hR fa_X3_9 rfl hk_x0_4 dX3_readDemand_1 ?_
  obtain ⟨a1, ha1, hf⟩ := nn_some hf
  refine rf_0 ha1 ?_
  obtain ⟨hk_a1_6, hf⟩ := gd_some hf
  refine cr_getI kc_5 CX hR fa_X3_131 rfl hk_a1_6 dX3_readDemand_4 ?_
  refine lv_bipush (v := 20) hx hb dX3_readDemand_7 (by decide) ?_
  refine lv_icmp_lt (tgt := 17) hx hb dX3_readDemand_9 (by decide) (fun hc => ?_) (fun hc => ?_)
  · rw [if_pos hc] at hf
    exact (wbT_X3_readDemand_17 CTX hRm hRc) _ _ _ _ _ _ hf hL hR hS (lv_sub hl [0] rfl)
  · rw [if_neg hc] at hf
    refine lv_aload_n hx hb dX3_readDemand_12 rfl (lv_at hl 0 rfl) ?_
    refine lv_iconst (v := 5) hx hb dX3_readDemand_13 (by decide) ?_
    rcases tb_some hf with ⟨o14, ho, hf⟩ | ⟨q, ho, rfl⟩
    · have hm1 := mbT_X3_readDemand_17 _ _ _ hf
      have hb1 := nz_le hm1 hRc
      have hq1 := (mfT_X3_refuse _ _ _ _ ho)
      refine ta_callVv kc_3 CX hL hR hS (As := [.int 5]) (rest := []) hk_x0_4 (MT_X3_refuse l x hlt N _ _ _ _ _ ho) cv_X3_54 ⟨by omega, by omega⟩ rfl (Nat.le_of_ble_eq_true rfl) hl.1 hq1 hb1 rfl dX3_readDemand_14 (fun H locs hR hS => ?_)
      exact (wbT_X3_readDemand_17 CTX hRm hRc) _ _ _ _ _ _ hf (hL.tr hq1) hR hS (lv_sub hl [0] rfl)
    · exact tx_callv kc_3 CTX hL hR hS (As := [.int 5]) (rest := []) hk_x0_4 (MT_X3_refuse l x hlt N _ _ _ _ _ ho) cv_X3_54 ⟨by omega, by omega⟩ rfl (Nat.le_of_ble_eq_true rfl) hl.1 (mfT_X3_refuse _ _ _ _ ho) hRc rfl dX3_readDemand_14
theorem MT_X3_readDemand (l : Launch) (x : Xc) (hlt : l.stackTraces = false) (N : Nat) (x0 : Nat) (K : Ka) (M : Cm) (o : (Ka × Cm) ⊕ (Ka × Cm)) (hf : fT_X3_readDemand N x0 K M = some o) : Tc sV (aQV x K) (zQV K) "java/lang/IllegalStateException" l x yX3_readDemand cX3_readDemand 1 none 161 9205 [.ref x0] K M o :=
  tr_met RX3 "readDemand" hlt (by decide) rfl rfl (Nat.le_of_ble_eq_true rfl) (fun p e s m args below meth c ls CTX hR hl => wfT_X3_readDemand CTX ⟨Nat.le_refl _, Nat.le_refl _⟩ ⟨Nat.le_refl _, Nat.le_refl _⟩ x0 K M s.heap [] ls hf (KLe.rf K) hR va_S.rf hl)
def bT_X3_readDevice_85 (N : Nat) (x0 : Nat) (x1 : Int64) (x3 : Int32) (x4 : Int32) (x5 : Int32) (K : Ka) (M : Cm) : Option ((Ka × Cm) ⊕ (Ka × Cm)) := gd (kd K x0 == 4) (nn (cR M x0 1) fun a1 => gd (kd K a1 == 6) ((fC_X5_addDevice N K a1 x1 x3 x4 x5 M).bind fun o95 => some (.inl (K, o95))))
theorem mbT_X3_readDevice_85 {o : (Ka × Cm) ⊕ (Ka × Cm)} {N : Nat}  (x0 : Nat) (x1 : Int64) (x3 : Int32) (x4 : Int32) (x5 : Int32) (K : Ka) (M : Cm) (hf : bT_X3_readDevice_85 N x0 x1 x3 x4 x5 K M = some o) : KLe K (oK sV o) := by
  unfold bT_X3_readDevice_85 at hf
  obtain ⟨-, hf⟩ := gd_some hf
  obtain ⟨a1, -, hf⟩ := nn_some hf
  obtain ⟨-, hf⟩ := gd_some hf
  obtain ⟨o95, -, hf⟩ := bnd_some hf
  cases hf
  exact KLe.rf _
set_option maxRecDepth 100000 in
set_option maxHeartbeats 4000000 in
theorem wbT_X3_readDevice_85 {p : Program} {l : Launch} {e : Env} {R : Room} {s : State} {m : MethodId} {args : Array Value} {below : List Frame} {meth : Method} {c : Code} {x : Xc} {K0 : Ka} {o : (Ka × Cm) ⊕ (Ka × Cm)} {N : Nat} (CTX : CT p l s m args meth c x K0 RX3 "readDevice" cX3_readDevice 6 none) (hRm : 8 ≤ R.frames ∧ 140 ≤ R.locals) (hRc : nz sV K0 o ≤ R.cells ∧ nu sV K0 o ≤ R.slots) (x0 : Nat) (x1 : Int64) (x3 : Int32) (x4 : Int32) (x5 : Int32) (K : Ka) (M : Cm) (H : Heap) (locs : List Loc) (ls : Array Slot) (hf : bT_X3_readDevice_85 N x0 x1 x3 x4 x5 K M = some o) (hL : KLe K0 K) (hR : RC x K M H) (hS : va_S (AC K0) s.heap H locs) (hl : lv_has ls 6 [(0, .ref x0), (1, .long x1), (3, .int x3), (4, .int x4), (5, .int x5)]) : W p l e R s m args below meth c H locs (kz K - kz K0) (ku K - ku K0) (TQ sV (aQV x K0) (zQV K0) "java/lang/IllegalStateException" x K0 below args s o) (F0 m 85 ls []) := by
  obtain ⟨CX, hno, hlt, hmn⟩ := id CTX
  obtain ⟨hx, hb, hml, hown, hts, hE, hB, hr, hlk⟩ := id CX
  have hcs := nz_le (mbT_X3_readDevice_85  x0 x1 x3 x4 x5 K M hf) hRc
  unfold bT_X3_readDevice_85 at hf
  refine lv_aload_n hx hb dX3_readDevice_85 rfl (lv_at hl 0 rfl) ?_
  obtain ⟨hk_x0_4, hf⟩ := gd_some hf
  refine cr_getR kc_3 CX hR fa_X3_9 rfl hk_x0_4 dX3_readDevice_86 ?_
  refine lv_lload_n hx hb dX3_readDevice_89 rfl (lv_at hl 1 rfl) ?_
  refine lv_iload_n hx hb dX3_readDevice_90 rfl (lv_at hl 2 rfl) ?_
  refine lv_iload hx hb dX3_readDevice_91 (lv_at hl 3 rfl) ?_
  refine lv_iload hx hb dX3_readDevice_93 (lv_at hl 4 rfl) ?_
  obtain ⟨a1, ha1, hf⟩ := nn_some hf
  refine rf_4 ha1 ?_
  obtain ⟨hk_a1_6, hf⟩ := gd_some hf
  obtain ⟨o95, ho95, hf⟩ := bnd_some hf
  refine cr_callVv kc_5 CX hR hL hS (As := [.long x1, .int x3, .int x4, .int x5]) (rest := []) hk_a1_6 (MC_X5_addDevice l x N K a1 x1 x3 x4 x5 M o95 ho95) cv_X3_127 ⟨by omega, by omega⟩ rfl rfl (Nat.le_of_ble_eq_true rfl) hl.1 dX3_readDevice_95 hcs (fun H locs hR hS => ?_)
  exact tr_vret CX hR hS hf dX3_readDevice_98
def bT_X3_readDevice_77 (N : Nat) (x0 : Nat) (x1 : Int64) (x3 : Int32) (x4 : Int32) (s0 : Int32) (K : Ka) (M : Cm) : Option ((Ka × Cm) ⊕ (Ka × Cm)) := gd (kd K x0 == 4) (tb (fT_X3_take N x0 59 K M) fun o82 => (bT_X3_readDevice_85 N) x0 x1 x3 x4 s0 o82.1 o82.2)
theorem mbT_X3_readDevice_77 {o : (Ka × Cm) ⊕ (Ka × Cm)} {N : Nat}  (x0 : Nat) (x1 : Int64) (x3 : Int32) (x4 : Int32) (s0 : Int32) (K : Ka) (M : Cm) (hf : bT_X3_readDevice_77 N x0 x1 x3 x4 s0 K M = some o) : KLe K (oK sV o) := by
  unfold bT_X3_readDevice_77 at hf
  obtain ⟨-, hf⟩ := gd_some hf
  rcases tb_some hf with ⟨o82, ho, hf⟩ | ⟨q, ho, rfl⟩
  · exact KLe.tr (mfT_X3_take _ _ _ _ ho) (mbT_X3_readDevice_85 _ _ _ _ _ _ _ hf)
  · exact (mfT_X3_take _ _ _ _ ho)
set_option maxRecDepth 100000 in
set_option maxHeartbeats 4000000 in
theorem wbT_X3_readDevice_77 {p : Program} {l : Launch} {e : Env} {R : Room} {s : State} {m : MethodId} {args : Array Value} {below : List Frame} {meth : Method} {c : Code} {x : Xc} {K0 : Ka} {o : (Ka × Cm) ⊕ (Ka × Cm)} {N : Nat} (CTX : CT p l s m args meth c x K0 RX3 "readDevice" cX3_readDevice 6 none) (hRm : 8 ≤ R.frames ∧ 140 ≤ R.locals) (hRc : nz sV K0 o ≤ R.cells ∧ nu sV K0 o ≤ R.slots) (x0 : Nat) (x1 : Int64) (x3 : Int32) (x4 : Int32) (s0 : Int32) (K : Ka) (M : Cm) (H : Heap) (locs : List Loc) (ls : Array Slot) (hf : bT_X3_readDevice_77 N x0 x1 x3 x4 s0 K M = some o) (hL : KLe K0 K) (hR : RC x K M H) (hS : va_S (AC K0) s.heap H locs) (hl : lv_has ls 6 [(0, .ref x0), (1, .long x1), (3, .int x3), (4, .int x4)]) : W p l e R s m args below meth c H locs (kz K - kz K0) (ku K - ku K0) (TQ sV (aQV x K0) (zQV K0) "java/lang/IllegalStateException" x K0 below args s o) (F0 m 77 ls [.int s0]) := by
  obtain ⟨CX, hno, hlt, hmn⟩ := id CTX
  obtain ⟨hx, hb, hml, hown, hts, hE, hB, hr, hlk⟩ := id CX
  have hcs := nz_le (mbT_X3_readDevice_77  x0 x1 x3 x4 s0 K M hf) hRc
  unfold bT_X3_readDevice_77 at hf
  refine lv_istore (lv' := [(5, .int s0), (0, .ref x0), (1, .long x1), (3, .int x3), (4, .int x4)]) hx hb dX3_readDevice_77 hl (by decide) rfl (fun ls hl => ?_)
  refine lv_aload_n hx hb dX3_readDevice_79 rfl (lv_at hl 1 rfl) ?_
  refine lv_bipush (v := 59) hx hb dX3_readDevice_80 (by decide) ?_
  obtain ⟨hk_x0_4, hf⟩ := gd_some hf
  rcases tb_some hf with ⟨o82, ho, hf⟩ | ⟨q, ho, rfl⟩
  · have hm1 := mbT_X3_readDevice_85 _ _ _ _ _ _ _ hf
    have hb1 := nz_le hm1 hRc
    have hq1 := (mfT_X3_take _ _ _ _ ho)
    refine ta_callVv kc_3 CX hL hR hS (As := [.int 59]) (rest := []) hk_x0_4 (MT_X3_take l x hlt N _ _ _ _ _ ho) cv_X3_119 ⟨by omega, by omega⟩ rfl (Nat.le_of_ble_eq_true rfl) hl.1 hq1 hb1 rfl dX3_readDevice_82 (fun H locs hR hS => ?_)
    exact (wbT_X3_readDevice_85 CTX hRm hRc) _ _ _ _ _ _ _ _ _ _ hf (hL.tr hq1) hR hS (lv_sub hl [1, 2, 3, 4, 0] rfl)
  · exact tx_callv kc_3 CTX hL hR hS (As := [.int 59]) (rest := []) hk_x0_4 (MT_X3_take l x hlt N _ _ _ _ _ ho) cv_X3_119 ⟨by omega, by omega⟩ rfl (Nat.le_of_ble_eq_true rfl) hl.1 (mfT_X3_take _ _ _ _ ho) hRc rfl dX3_readDevice_82
def bT_X3_readDevice_70 (N : Nat) (x0 : Nat) (x1 : Int64) (x3 : Int32) (x4 : Int32) (K : Ka) (M : Cm) : Option ((Ka × Cm) ⊕ (Ka × Cm)) := gd (kd K x0 == 4) (tb (fT_X3_takeNumber N x0 1 999999999 K M) fun o74 => (bT_X3_readDevice_77 N) x0 x1 x3 x4 o74.1 o74.2.1 o74.2.2)
theorem mbT_X3_readDevice_70 {o : (Ka × Cm) ⊕ (Ka × Cm)} {N : Nat}  (x0 : Nat) (x1 : Int64) (x3 : Int32) (x4 : Int32) (K : Ka) (M : Cm) (hf : bT_X3_readDevice_70 N x0 x1 x3 x4 K M = some o) : KLe K (oK sV o) := by
  unfold bT_X3_readDevice_70 at hf
  obtain ⟨-, hf⟩ := gd_some hf
  rcases tb_some hf with ⟨o74, ho, hf⟩ | ⟨q, ho, rfl⟩
  · exact KLe.tr (mfT_X3_takeNumber _ _ _ _ _ ho) (mbT_X3_readDevice_77 _ _ _ _ _ _ _ hf)
  · exact (mfT_X3_takeNumber _ _ _ _ _ ho)
set_option maxRecDepth 100000 in
set_option maxHeartbeats 4000000 in
theorem wbT_X3_readDevice_70 {p : Program} {l : Launch} {e : Env} {R : Room} {s : State} {m : MethodId} {args : Array Value} {below : List Frame} {meth : Method} {c : Code} {x : Xc} {K0 : Ka} {o : (Ka × Cm) ⊕ (Ka × Cm)} {N : Nat} (CTX : CT p l s m args meth c x K0 RX3 "readDevice" cX3_readDevice 6 none) (hRm : 8 ≤ R.frames ∧ 140 ≤ R.locals) (hRc : nz sV K0 o ≤ R.cells ∧ nu sV K0 o ≤ R.slots) (x0 : Nat) (x1 : Int64) (x3 : Int32) (x4 : Int32) (K : Ka) (M : Cm) (H : Heap) (locs : List Loc) (ls : Array Slot) (hf : bT_X3_readDevice_70 N x0 x1 x3 x4 K M = some o) (hL : KLe K0 K) (hR : RC x K M H) (hS : va_S (AC K0) s.heap H locs) (hl : lv_has ls 6 [(0, .ref x0), (1, .long x1), (3, .int x3), (4, .int x4)]) : W p l e R s m args below meth c H locs (kz K - kz K0) (ku K - ku K0) (TQ sV (aQV x K0) (zQV K0) "java/lang/IllegalStateException" x K0 below args s o) (F0 m 70 ls []) := by
  obtain ⟨CX, hno, hlt, hmn⟩ := id CTX
  obtain ⟨hx, hb, hml, hown, hts, hE, hB, hr, hlk⟩ := id CX
  have hcs := nz_le (mbT_X3_readDevice_70  x0 x1 x3 x4 K M hf) hRc
  unfold bT_X3_readDevice_70 at hf
  refine lv_aload_n hx hb dX3_readDevice_70 rfl (lv_at hl 0 rfl) ?_
  refine lv_iconst (v := 1) hx hb dX3_readDevice_71 (by decide) ?_
  refine lv_ldc hx hb hown (hts _ wc_774) dX3_readDevice_72 ?_
  obtain ⟨hk_x0_4, hf⟩ := gd_some hf
  rcases tb_some hf with ⟨o74, ho, hf⟩ | ⟨q, ho, rfl⟩
  · have hm1 := mbT_X3_readDevice_77 _ _ _ _ _ _ _ hf
    have hb1 := nz_le hm1 hRc
    have hq1 := (mfT_X3_takeNumber _ _ _ _ _ ho)
    refine ta_callIv kc_3 CX hL hR hS (As := [.int 1, .int 999999999]) (rest := []) hk_x0_4 (MT_X3_takeNumber l x hlt N _ _ _ _ _ _ ho) cv_X3_123 ⟨by omega, by omega⟩ rfl (Nat.le_of_ble_eq_true rfl) hl.1 hq1 hb1 rfl dX3_readDevice_74 (fun H locs hR hS => ?_)
    exact (wbT_X3_readDevice_77 CTX hRm hRc) _ _ _ _ _ _ _ _ _ _ hf (hL.tr hq1) hR hS (lv_sub hl [0, 1, 2, 3] rfl)
  · exact tx_callv kc_3 CTX hL hR hS (As := [.int 1, .int 999999999]) (rest := []) hk_x0_4 (MT_X3_takeNumber l x hlt N _ _ _ _ _ _ ho) cv_X3_123 ⟨by omega, by omega⟩ rfl (Nat.le_of_ble_eq_true rfl) hl.1 (mfT_X3_takeNumber _ _ _ _ _ ho) hRc rfl dX3_readDevice_74
def bT_X3_readDevice_61 (N : Nat) (x0 : Nat) (x1 : Int64) (x3 : Int32) (s0 : Int32) (K : Ka) (M : Cm) : Option ((Ka × Cm) ⊕ (Ka × Cm)) := gd (kd K x0 == 4) (tb (fT_X3_take N x0 131 K M) fun o67 => (bT_X3_readDevice_70 N) x0 x1 x3 s0 o67.1 o67.2)
theorem mbT_X3_readDevice_61 {o : (Ka × Cm) ⊕ (Ka × Cm)} {N : Nat}  (x0 : Nat) (x1 : Int64) (x3 : Int32) (s0 : Int32) (K : Ka) (M : Cm) (hf : bT_X3_readDevice_61 N x0 x1 x3 s0 K M = some o) : KLe K (oK sV o) := by
  unfold bT_X3_readDevice_61 at hf
  obtain ⟨-, hf⟩ := gd_some hf
  rcases tb_some hf with ⟨o67, ho, hf⟩ | ⟨q, ho, rfl⟩
  · exact KLe.tr (mfT_X3_take _ _ _ _ ho) (mbT_X3_readDevice_70 _ _ _ _ _ _ hf)
  · exact (mfT_X3_take _ _ _ _ ho)
set_option maxRecDepth 100000 in
set_option maxHeartbeats 4000000 in
theorem wbT_X3_readDevice_61 {p : Program} {l : Launch} {e : Env} {R : Room} {s : State} {m : MethodId} {args : Array Value} {below : List Frame} {meth : Method} {c : Code} {x : Xc} {K0 : Ka} {o : (Ka × Cm) ⊕ (Ka × Cm)} {N : Nat} (CTX : CT p l s m args meth c x K0 RX3 "readDevice" cX3_readDevice 6 none) (hRm : 8 ≤ R.frames ∧ 140 ≤ R.locals) (hRc : nz sV K0 o ≤ R.cells ∧ nu sV K0 o ≤ R.slots) (x0 : Nat) (x1 : Int64) (x3 : Int32) (s0 : Int32) (K : Ka) (M : Cm) (H : Heap) (locs : List Loc) (ls : Array Slot) (hf : bT_X3_readDevice_61 N x0 x1 x3 s0 K M = some o) (hL : KLe K0 K) (hR : RC x K M H) (hS : va_S (AC K0) s.heap H locs) (hl : lv_has ls 6 [(0, .ref x0), (1, .long x1), (3, .int x3)]) : W p l e R s m args below meth c H locs (kz K - kz K0) (ku K - ku K0) (TQ sV (aQV x K0) (zQV K0) "java/lang/IllegalStateException" x K0 below args s o) (F0 m 61 ls [.int s0]) := by
  obtain ⟨CX, hno, hlt, hmn⟩ := id CTX
  obtain ⟨hx, hb, hml, hown, hts, hE, hB, hr, hlk⟩ := id CX
  have hcs := nz_le (mbT_X3_readDevice_61  x0 x1 x3 s0 K M hf) hRc
  unfold bT_X3_readDevice_61 at hf
  refine lv_istore (lv' := [(4, .int s0), (0, .ref x0), (1, .long x1), (3, .int x3)]) hx hb dX3_readDevice_61 hl (by decide) rfl (fun ls hl => ?_)
  refine lv_aload_n hx hb dX3_readDevice_63 rfl (lv_at hl 1 rfl) ?_
  refine lv_sipush (v := 131) hx hb dX3_readDevice_64 (by decide) ?_
  obtain ⟨hk_x0_4, hf⟩ := gd_some hf
  rcases tb_some hf with ⟨o67, ho, hf⟩ | ⟨q, ho, rfl⟩
  · have hm1 := mbT_X3_readDevice_70 _ _ _ _ _ _ hf
    have hb1 := nz_le hm1 hRc
    have hq1 := (mfT_X3_take _ _ _ _ ho)
    refine ta_callVv kc_3 CX hL hR hS (As := [.int 131]) (rest := []) hk_x0_4 (MT_X3_take l x hlt N _ _ _ _ _ ho) cv_X3_119 ⟨by omega, by omega⟩ rfl (Nat.le_of_ble_eq_true rfl) hl.1 hq1 hb1 rfl dX3_readDevice_67 (fun H locs hR hS => ?_)
    exact (wbT_X3_readDevice_70 CTX hRm hRc) _ _ _ _ _ _ _ _ _ hf (hL.tr hq1) hR hS (lv_sub hl [1, 2, 3, 0] rfl)
  · exact tx_callv kc_3 CTX hL hR hS (As := [.int 131]) (rest := []) hk_x0_4 (MT_X3_take l x hlt N _ _ _ _ _ ho) cv_X3_119 ⟨by omega, by omega⟩ rfl (Nat.le_of_ble_eq_true rfl) hl.1 (mfT_X3_take _ _ _ _ ho) hRc rfl dX3_readDevice_67
def bT_X3_readDevice_54 (N : Nat) (x0 : Nat) (x1 : Int64) (x3 : Int32) (K : Ka) (M : Cm) : Option ((Ka × Cm) ⊕ (Ka × Cm)) := gd (kd K x0 == 4) (tb (fT_X3_takeNumber N x0 x3 999999999 K M) fun o58 => (bT_X3_readDevice_61 N) x0 x1 x3 o58.1 o58.2.1 o58.2.2)
theorem mbT_X3_readDevice_54 {o : (Ka × Cm) ⊕ (Ka × Cm)} {N : Nat}  (x0 : Nat) (x1 : Int64) (x3 : Int32) (K : Ka) (M : Cm) (hf : bT_X3_readDevice_54 N x0 x1 x3 K M = some o) : KLe K (oK sV o) := by
  unfold bT_X3_readDevice_54 at hf
  obtain ⟨-, hf⟩ := gd_some hf
  rcases tb_some hf with ⟨o58, ho, hf⟩ | ⟨q, ho, rfl⟩
  · exact KLe.tr (mfT_X3_takeNumber _ _ _ _ _ ho) (mbT_X3_readDevice_61 _ _ _ _ _ _ hf)
  · exact (mfT_X3_takeNumber _ _ _ _ _ ho)
set_option maxRecDepth 100000 in
set_option maxHeartbeats 4000000 in
theorem wbT_X3_readDevice_54 {p : Program} {l : Launch} {e : Env} {R : Room} {s : State} {m : MethodId} {args : Array Value} {below : List Frame} {meth : Method} {c : Code} {x : Xc} {K0 : Ka} {o : (Ka × Cm) ⊕ (Ka × Cm)} {N : Nat} (CTX : CT p l s m args meth c x K0 RX3 "readDevice" cX3_readDevice 6 none) (hRm : 8 ≤ R.frames ∧ 140 ≤ R.locals) (hRc : nz sV K0 o ≤ R.cells ∧ nu sV K0 o ≤ R.slots) (x0 : Nat) (x1 : Int64) (x3 : Int32) (K : Ka) (M : Cm) (H : Heap) (locs : List Loc) (ls : Array Slot) (hf : bT_X3_readDevice_54 N x0 x1 x3 K M = some o) (hL : KLe K0 K) (hR : RC x K M H) (hS : va_S (AC K0) s.heap H locs) (hl : lv_has ls 6 [(0, .ref x0), (1, .long x1), (3, .int x3)]) : W p l e R s m args below meth c H locs (kz K - kz K0) (ku K - ku K0) (TQ sV (aQV x K0) (zQV K0) "java/lang/IllegalStateException" x K0 below args s o) (F0 m 54 ls []) := by
  obtain ⟨CX, hno, hlt, hmn⟩ := id CTX
  obtain ⟨hx, hb, hml, hown, hts, hE, hB, hr, hlk⟩ := id CX
  have hcs := nz_le (mbT_X3_readDevice_54  x0 x1 x3 K M hf) hRc
  unfold bT_X3_readDevice_54 at hf
  refine lv_aload_n hx hb dX3_readDevice_54 rfl (lv_at hl 0 rfl) ?_
  refine lv_iload_n hx hb dX3_readDevice_55 rfl (lv_at hl 2 rfl) ?_
  refine lv_ldc hx hb hown (hts _ wc_774) dX3_readDevice_56 ?_
  obtain ⟨hk_x0_4, hf⟩ := gd_some hf
  rcases tb_some hf with ⟨o58, ho, hf⟩ | ⟨q, ho, rfl⟩
  · have hm1 := mbT_X3_readDevice_61 _ _ _ _ _ _ hf
    have hb1 := nz_le hm1 hRc
    have hq1 := (mfT_X3_takeNumber _ _ _ _ _ ho)
    refine ta_callIv kc_3 CX hL hR hS (As := [.int x3, .int 999999999]) (rest := []) hk_x0_4 (MT_X3_takeNumber l x hlt N _ _ _ _ _ _ ho) cv_X3_123 ⟨by omega, by omega⟩ rfl (Nat.le_of_ble_eq_true rfl) hl.1 hq1 hb1 rfl dX3_readDevice_58 (fun H locs hR hS => ?_)
    exact (wbT_X3_readDevice_61 CTX hRm hRc) _ _ _ _ _ _ _ _ _ hf (hL.tr hq1) hR hS (lv_sub hl [0, 1, 2] rfl)
  · exact tx_callv kc_3 CTX hL hR hS (As := [.int x3, .int 999999999]) (rest := []) hk_x0_4 (MT_X3_takeNumber l x hlt N _ _ _ _ _ _ ho) cv_X3_123 ⟨by omega, by omega⟩ rfl (Nat.le_of_ble_eq_true rfl) hl.1 (mfT_X3_takeNumber _ _ _ _ _ ho) hRc rfl dX3_readDevice_58
def bT_X3_readDevice_46 (N : Nat) (x0 : Nat) (x1 : Int64) (s0 : Int32) (K : Ka) (M : Cm) : Option ((Ka × Cm) ⊕ (Ka × Cm)) := gd (kd K x0 == 4) (tb (fT_X3_take N x0 130 K M) fun o51 => (bT_X3_readDevice_54 N) x0 x1 s0 o51.1 o51.2)
theorem mbT_X3_readDevice_46 {o : (Ka × Cm) ⊕ (Ka × Cm)} {N : Nat}  (x0 : Nat) (x1 : Int64) (s0 : Int32) (K : Ka) (M : Cm) (hf : bT_X3_readDevice_46 N x0 x1 s0 K M = some o) : KLe K (oK sV o) := by
  unfold bT_X3_readDevice_46 at hf
  obtain ⟨-, hf⟩ := gd_some hf
  rcases tb_some hf with ⟨o51, ho, hf⟩ | ⟨q, ho, rfl⟩
  · exact KLe.tr (mfT_X3_take _ _ _ _ ho) (mbT_X3_readDevice_54 _ _ _ _ _ hf)
  · exact (mfT_X3_take _ _ _ _ ho)
set_option maxRecDepth 100000 in
set_option maxHeartbeats 4000000 in
theorem wbT_X3_readDevice_46 {p : Program} {l : Launch} {e : Env} {R : Room} {s : State} {m : MethodId} {args : Array Value} {below : List Frame} {meth : Method} {c : Code} {x : Xc} {K0 : Ka} {o : (Ka × Cm) ⊕ (Ka × Cm)} {N : Nat} (CTX : CT p l s m args meth c x K0 RX3 "readDevice" cX3_readDevice 6 none) (hRm : 8 ≤ R.frames ∧ 140 ≤ R.locals) (hRc : nz sV K0 o ≤ R.cells ∧ nu sV K0 o ≤ R.slots) (x0 : Nat) (x1 : Int64) (s0 : Int32) (K : Ka) (M : Cm) (H : Heap) (locs : List Loc) (ls : Array Slot) (hf : bT_X3_readDevice_46 N x0 x1 s0 K M = some o) (hL : KLe K0 K) (hR : RC x K M H) (hS : va_S (AC K0) s.heap H locs) (hl : lv_has ls 6 [(0, .ref x0), (1, .long x1)]) : W p l e R s m args below meth c H locs (kz K - kz K0) (ku K - ku K0) (TQ sV (aQV x K0) (zQV K0) "java/lang/IllegalStateException" x K0 below args s o) (F0 m 46 ls [.int s0]) := by
  obtain ⟨CX, hno, hlt, hmn⟩ := id CTX
  obtain ⟨hx, hb, hml, hown, hts, hE, hB, hr, hlk⟩ := id CX
  have hcs := nz_le (mbT_X3_readDevice_46  x0 x1 s0 K M hf) hRc
  unfold bT_X3_readDevice_46 at hf
  refine lv_istore_n (lv' := [(3, .int s0), (0, .ref x0), (1, .long x1)]) hx hb dX3_readDevice_46 rfl hl (by decide) rfl (fun ls hl => ?_)
  refine lv_aload_n hx hb dX3_readDevice_47 rfl (lv_at hl 1 rfl) ?_
  refine lv_sipush (v := 130) hx hb dX3_readDevice_48 (by decide) ?_
  obtain ⟨hk_x0_4, hf⟩ := gd_some hf
  rcases tb_some hf with ⟨o51, ho, hf⟩ | ⟨q, ho, rfl⟩
  · have hm1 := mbT_X3_readDevice_54 _ _ _ _ _ hf
    have hb1 := nz_le hm1 hRc
    have hq1 := (mfT_X3_take _ _ _ _ ho)
    refine ta_callVv kc_3 CX hL hR hS (As := [.int 130]) (rest := []) hk_x0_4 (MT_X3_take l x hlt N _ _ _ _ _ ho) cv_X3_119 ⟨by omega, by omega⟩ rfl (Nat.le_of_ble_eq_true rfl) hl.1 hq1 hb1 rfl dX3_readDevice_51 (fun H locs hR hS => ?_)
    exact (wbT_X3_readDevice_54 CTX hRm hRc) _ _ _ _ _ _ _ _ hf (hL.tr hq1) hR hS (lv_sub hl [1, 2, 0] rfl)
  · exact tx_callv kc_3 CTX hL hR hS (As := [.int 130]) (rest := []) hk_x0_4 (MT_X3_take l x hlt N _ _ _ _ _ ho) cv_X3_119 ⟨by omega, by omega⟩ rfl (Nat.le_of_ble_eq_true rfl) hl.1 (mfT_X3_take _ _ _ _ ho) hRc rfl dX3_readDevice_51
def bT_X3_readDevice_39 (N : Nat) (x0 : Nat) (x1 : Int64) (K : Ka) (M : Cm) : Option ((Ka × Cm) ⊕ (Ka × Cm)) := gd (kd K x0 == 4) (tb (fT_X3_takeNumber N x0 0 999999999 K M) fun o43 => (bT_X3_readDevice_46 N) x0 x1 o43.1 o43.2.1 o43.2.2)
theorem mbT_X3_readDevice_39 {o : (Ka × Cm) ⊕ (Ka × Cm)} {N : Nat}  (x0 : Nat) (x1 : Int64) (K : Ka) (M : Cm) (hf : bT_X3_readDevice_39 N x0 x1 K M = some o) : KLe K (oK sV o) := by
  unfold bT_X3_readDevice_39 at hf
  obtain ⟨-, hf⟩ := gd_some hf
  rcases tb_some hf with ⟨o43, ho, hf⟩ | ⟨q, ho, rfl⟩
  · exact KLe.tr (mfT_X3_takeNumber _ _ _ _ _ ho) (mbT_X3_readDevice_46 _ _ _ _ _ hf)
  · exact (mfT_X3_takeNumber _ _ _ _ _ ho)
set_option maxRecDepth 100000 in
set_option maxHeartbeats 4000000 in
theorem wbT_X3_readDevice_39 {p : Program} {l : Launch} {e : Env} {R : Room} {s : State} {m : MethodId} {args : Array Value} {below : List Frame} {meth : Method} {c : Code} {x : Xc} {K0 : Ka} {o : (Ka × Cm) ⊕ (Ka × Cm)} {N : Nat} (CTX : CT p l s m args meth c x K0 RX3 "readDevice" cX3_readDevice 6 none) (hRm : 8 ≤ R.frames ∧ 140 ≤ R.locals) (hRc : nz sV K0 o ≤ R.cells ∧ nu sV K0 o ≤ R.slots) (x0 : Nat) (x1 : Int64) (K : Ka) (M : Cm) (H : Heap) (locs : List Loc) (ls : Array Slot) (hf : bT_X3_readDevice_39 N x0 x1 K M = some o) (hL : KLe K0 K) (hR : RC x K M H) (hS : va_S (AC K0) s.heap H locs) (hl : lv_has ls 6 [(0, .ref x0), (1, .long x1)]) : W p l e R s m args below meth c H locs (kz K - kz K0) (ku K - ku K0) (TQ sV (aQV x K0) (zQV K0) "java/lang/IllegalStateException" x K0 below args s o) (F0 m 39 ls []) := by
  obtain ⟨CX, hno, hlt, hmn⟩ := id CTX
  obtain ⟨hx, hb, hml, hown, hts, hE, hB, hr, hlk⟩ := id CX
  have hcs := nz_le (mbT_X3_readDevice_39  x0 x1 K M hf) hRc
  unfold bT_X3_readDevice_39 at hf
  refine lv_aload_n hx hb dX3_readDevice_39 rfl (lv_at hl 0 rfl) ?_
  refine lv_iconst (v := 0) hx hb dX3_readDevice_40 (by decide) ?_
  refine lv_ldc hx hb hown (hts _ wc_774) dX3_readDevice_41 ?_
  obtain ⟨hk_x0_4, hf⟩ := gd_some hf
  rcases tb_some hf with ⟨o43, ho, hf⟩ | ⟨q, ho, rfl⟩
  · have hm1 := mbT_X3_readDevice_46 _ _ _ _ _ hf
    have hb1 := nz_le hm1 hRc
    have hq1 := (mfT_X3_takeNumber _ _ _ _ _ ho)
    refine ta_callIv kc_3 CX hL hR hS (As := [.int 0, .int 999999999]) (rest := []) hk_x0_4 (MT_X3_takeNumber l x hlt N _ _ _ _ _ _ ho) cv_X3_123 ⟨by omega, by omega⟩ rfl (Nat.le_of_ble_eq_true rfl) hl.1 hq1 hb1 rfl dX3_readDevice_43 (fun H locs hR hS => ?_)
    exact (wbT_X3_readDevice_46 CTX hRm hRc) _ _ _ _ _ _ _ _ hf (hL.tr hq1) hR hS (lv_sub hl [0, 1] rfl)
  · exact tx_callv kc_3 CTX hL hR hS (As := [.int 0, .int 999999999]) (rest := []) hk_x0_4 (MT_X3_takeNumber l x hlt N _ _ _ _ _ _ ho) cv_X3_123 ⟨by omega, by omega⟩ rfl (Nat.le_of_ble_eq_true rfl) hl.1 (mfT_X3_takeNumber _ _ _ _ _ ho) hRc rfl dX3_readDevice_43
def bT_X3_readDevice_31 (N : Nat) (x0 : Nat) (s0 : Int64) (K : Ka) (M : Cm) : Option ((Ka × Cm) ⊕ (Ka × Cm)) := gd (kd K x0 == 4) (tb (fT_X3_take N x0 129 K M) fun o36 => (bT_X3_readDevice_39 N) x0 s0 o36.1 o36.2)
theorem mbT_X3_readDevice_31 {o : (Ka × Cm) ⊕ (Ka × Cm)} {N : Nat}  (x0 : Nat) (s0 : Int64) (K : Ka) (M : Cm) (hf : bT_X3_readDevice_31 N x0 s0 K M = some o) : KLe K (oK sV o) := by
  unfold bT_X3_readDevice_31 at hf
  obtain ⟨-, hf⟩ := gd_some hf
  rcases tb_some hf with ⟨o36, ho, hf⟩ | ⟨q, ho, rfl⟩
  · exact KLe.tr (mfT_X3_take _ _ _ _ ho) (mbT_X3_readDevice_39 _ _ _ _ hf)
  · exact (mfT_X3_take _ _ _ _ ho)
set_option maxRecDepth 100000 in
set_option maxHeartbeats 4000000 in
theorem wbT_X3_readDevice_31 {p : Program} {l : Launch} {e : Env} {R : Room} {s : State} {m : MethodId} {args : Array Value} {below : List Frame} {meth : Method} {c : Code} {x : Xc} {K0 : Ka} {o : (Ka × Cm) ⊕ (Ka × Cm)} {N : Nat} (CTX : CT p l s m args meth c x K0 RX3 "readDevice" cX3_readDevice 6 none) (hRm : 8 ≤ R.frames ∧ 140 ≤ R.locals) (hRc : nz sV K0 o ≤ R.cells ∧ nu sV K0 o ≤ R.slots) (x0 : Nat) (s0 : Int64) (K : Ka) (M : Cm) (H : Heap) (locs : List Loc) (ls : Array Slot) (hf : bT_X3_readDevice_31 N x0 s0 K M = some o) (hL : KLe K0 K) (hR : RC x K M H) (hS : va_S (AC K0) s.heap H locs) (hl : lv_has ls 6 [(0, .ref x0)]) : W p l e R s m args below meth c H locs (kz K - kz K0) (ku K - ku K0) (TQ sV (aQV x K0) (zQV K0) "java/lang/IllegalStateException" x K0 below args s o) (F0 m 31 ls [.long s0]) := by
  obtain ⟨CX, hno, hlt, hmn⟩ := id CTX
  obtain ⟨hx, hb, hml, hown, hts, hE, hB, hr, hlk⟩ := id CX
  have hcs := nz_le (mbT_X3_readDevice_31  x0 s0 K M hf) hRc
  unfold bT_X3_readDevice_31 at hf
  refine lv_lstore_n (lv' := [(1, .long s0), (0, .ref x0)]) hx hb dX3_readDevice_31 rfl hl (by decide) rfl (fun ls hl => ?_)
  refine lv_aload_n hx hb dX3_readDevice_32 rfl (lv_at hl 1 rfl) ?_
  refine lv_sipush (v := 129) hx hb dX3_readDevice_33 (by decide) ?_
  obtain ⟨hk_x0_4, hf⟩ := gd_some hf
  rcases tb_some hf with ⟨o36, ho, hf⟩ | ⟨q, ho, rfl⟩
  · have hm1 := mbT_X3_readDevice_39 _ _ _ _ hf
    have hb1 := nz_le hm1 hRc
    have hq1 := (mfT_X3_take _ _ _ _ ho)
    refine ta_callVv kc_3 CX hL hR hS (As := [.int 129]) (rest := []) hk_x0_4 (MT_X3_take l x hlt N _ _ _ _ _ ho) cv_X3_119 ⟨by omega, by omega⟩ rfl (Nat.le_of_ble_eq_true rfl) hl.1 hq1 hb1 rfl dX3_readDevice_36 (fun H locs hR hS => ?_)
    exact (wbT_X3_readDevice_39 CTX hRm hRc) _ _ _ _ _ _ _ hf (hL.tr hq1) hR hS (lv_sub hl [1, 0] rfl)
  · exact tx_callv kc_3 CTX hL hR hS (As := [.int 129]) (rest := []) hk_x0_4 (MT_X3_take l x hlt N _ _ _ _ _ ho) cv_X3_119 ⟨by omega, by omega⟩ rfl (Nat.le_of_ble_eq_true rfl) hl.1 (mfT_X3_take _ _ _ _ ho) hRc rfl dX3_readDevice_36
def bT_X3_readDevice_17 (N : Nat) (x0 : Nat) (K : Ka) (M : Cm) : Option ((Ka × Cm) ⊕ (Ka × Cm)) := gd (kd K x0 == 4) ((fC_X3_moveTo N K x0 ((cI M x0 2) + 1) M).bind fun o24 => tb (fT_X3_takeNewName N x0 K o24) fun o28 => (bT_X3_readDevice_31 N) x0 o28.1 o28.2.1 o28.2.2)
theorem mbT_X3_readDevice_17 {o : (Ka × Cm) ⊕ (Ka × Cm)} {N : Nat}  (x0 : Nat) (K : Ka) (M : Cm) (hf : bT_X3_readDevice_17 N x0 K M = some o) : KLe K (oK sV o) := by
  unfold bT_X3_readDevice_17 at hf
  obtain ⟨-, hf⟩ := gd_some hf
  obtain ⟨o24, -, hf⟩ := bnd_some hf
  rcases tb_some hf with ⟨o28, ho, hf⟩ | ⟨q, ho, rfl⟩
  · exact KLe.tr (mfT_X3_takeNewName _ _ _ ho) (mbT_X3_readDevice_31 _ _ _ _ hf)
  · exact (mfT_X3_takeNewName _ _ _ ho)
set_option maxRecDepth 100000 in
set_option maxHeartbeats 4000000 in
theorem wbT_X3_readDevice_17 {p : Program} {l : Launch} {e : Env} {R : Room} {s : State} {m : MethodId} {args : Array Value} {below : List Frame} {meth : Method} {c : Code} {x : Xc} {K0 : Ka} {o : (Ka × Cm) ⊕ (Ka × Cm)} {N : Nat} (CTX : CT p l s m args meth c x K0 RX3 "readDevice" cX3_readDevice 6 none) (hRm : 8 ≤ R.frames ∧ 140 ≤ R.locals) (hRc : nz sV K0 o ≤ R.cells ∧ nu sV K0 o ≤ R.slots) (x0 : Nat) (K : Ka) (M : Cm) (H : Heap) (locs : List Loc) (ls : Array Slot) (hf : bT_X3_readDevice_17 N x0 K M = some o) (hL : KLe K0 K) (hR : RC x K M H) (hS : va_S (AC K0) s.heap H locs) (hl : lv_has ls 6 [(0, .ref x0)]) : W p l e R s m args below meth c H locs (kz K - kz K0) (ku K - ku K0) (TQ sV (aQV x K0) (zQV K0) "java/lang/IllegalStateException" x K0 below args s o) (F0 m 17 ls []) := by
  obtain ⟨CX, hno, hlt, hmn⟩ := id CTX
  obtain ⟨hx, hb, hml, hown, hts, hE, hB, hr, hlk⟩ := id CX
  have hcs := nz_le (mbT_X3_readDevice_17  x0 K M hf) hRc
  unfold bT_X3_readDevice_17 at hf
  refine lv_aload_n hx hb dX3_readDevice_17 rfl (lv_at hl 0 rfl) ?_
  refine lv_aload_n hx hb dX3_readDevice_18 rfl (lv_at hl 0 rfl) ?_
  obtain ⟨hk_x0_4, hf⟩ := gd_some hf
  refine cr_getI kc_3 CX hR fa_X3_15 rfl hk_x0_4 dX3_readDevice_19 ?_
  refine lv_iconst (v := 1) hx hb dX3_readDevice_22 (by decide) ?_
  refine lv_iadd hx hb dX3_readDevice_23 ?_
  obtain ⟨o24, ho24, hf⟩ := bnd_some hf
  refine cr_callVv kc_3 CX hR hL hS (As := [.int ((cI M x0 2) + 1)]) (rest := []) hk_x0_4 (MC_X3_moveTo l x N K x0 ((cI M x0 2) + 1) M o24 ho24) cv_X3_42 ⟨by omega, by omega⟩ rfl rfl (Nat.le_of_ble_eq_true rfl) hl.1 dX3_readDevice_24 hcs (fun H locs hR hS => ?_)
  refine lv_aload_n hx hb dX3_readDevice_27 rfl (lv_at hl 0 rfl) ?_
  rcases tb_some hf with ⟨o28, ho, hf⟩ | ⟨q, ho, rfl⟩
  · have hm1 := mbT_X3_readDevice_31 _ _ _ _ hf
    have hb1 := nz_le hm1 hRc
    have hq1 := (mfT_X3_takeNewName _ _ _ ho)
    refine ta_callLv kc_3 CX hL hR hS (As := []) (rest := []) hk_x0_4 (MT_X3_takeNewName l x hlt N _ _ _ _ ho) cv_X3_115 ⟨by omega, by omega⟩ rfl (Nat.le_of_ble_eq_true rfl) hl.1 hq1 hb1 rfl dX3_readDevice_28 (fun H locs hR hS => ?_)
    exact (wbT_X3_readDevice_31 CTX hRm hRc) _ _ _ _ _ _ _ hf (hL.tr hq1) hR hS (lv_sub hl [0] rfl)
  · exact tx_callv kc_3 CTX hL hR hS (As := []) (rest := []) hk_x0_4 (MT_X3_takeNewName l x hlt N _ _ _ _ ho) cv_X3_115 ⟨by omega, by omega⟩ rfl (Nat.le_of_ble_eq_true rfl) hl.1 (mfT_X3_takeNewName _ _ _ ho) hRc rfl dX3_readDevice_28
def fT_X3_readDevice (N : Nat) (x0 : Nat) (K : Ka) (M : Cm) : Option ((Ka × Cm) ⊕ (Ka × Cm)) := gd (kd K x0 == 4) (nn (cR M x0 1) fun a1 => gd (kd K a1 == 6) (if (cI M a1 10) < 24 then ((bT_X3_readDevice_17 N) x0 K M) else (tb (fT_X3_refuse N x0 5 K M) fun o14 => (bT_X3_readDevice_17 N) x0 o14.1 o14.2)))
theorem mfT_X3_readDevice {o : (Ka × Cm) ⊕ (Ka × Cm)} {N : Nat}  (x0 : Nat) (K : Ka) (M : Cm) (hf : fT_X3_readDevice N x0 K M = some o) : KLe K (oK sV o) := by
  unfold fT_X3_readDevice at hf
  obtain ⟨-, hf⟩ := gd_some hf
  obtain ⟨a1, -, hf⟩ := nn_some hf
  obtain ⟨-, hf⟩ := gd_some hf
  by_cases hc : (cI M a1 10) < 24
  · rw [if_pos hc] at hf
    exact mbT_X3_readDevice_17 _ _ _ hf
  · rw [if_neg hc] at hf
    rcases tb_some hf with ⟨o14, ho, hf⟩ | ⟨q, ho, rfl⟩
    · exact KLe.tr (mfT_X3_refuse _ _ _ _ ho) (mbT_X3_readDevice_17 _ _ _ hf)
    · exact (mfT_X3_refuse _ _ _ _ ho)
set_option maxRecDepth 100000 in
set_option maxHeartbeats 4000000 in
theorem wfT_X3_readDevice {p : Program} {l : Launch} {e : Env} {R : Room} {s : State} {m : MethodId} {args : Array Value} {below : List Frame} {meth : Method} {c : Code} {x : Xc} {K0 : Ka} {o : (Ka × Cm) ⊕ (Ka × Cm)} {N : Nat} (CTX : CT p l s m args meth c x K0 RX3 "readDevice" cX3_readDevice 6 none) (hRm : 8 ≤ R.frames ∧ 140 ≤ R.locals) (hRc : nz sV K0 o ≤ R.cells ∧ nu sV K0 o ≤ R.slots) (x0 : Nat) (K : Ka) (M : Cm) (H : Heap) (locs : List Loc) (ls : Array Slot) (hf : fT_X3_readDevice N x0 K M = some o) (hL : KLe K0 K) (hR : RC x K M H) (hS : va_S (AC K0) s.heap H locs) (hl : lv_has ls 6 [(0, .ref x0)]) : W p l e R s m args below meth c H locs (kz K - kz K0) (ku K - ku K0) (TQ sV (aQV x K0) (zQV K0) "java/lang/IllegalStateException" x K0 below args s o) (F0 m 0 ls []) := by
  obtain ⟨CX, hno, hlt, hmn⟩ := id CTX
  obtain ⟨hx, hb, hml, hown, hts, hE, hB, hr, hlk⟩ := id CX
  have hcs := nz_le (mfT_X3_readDevice  x0 K M hf) hRc
  unfold fT_X3_readDevice at hf
  refine lv_aload_n hx hb dX3_readDevice_0 rfl (lv_at hl 0 rfl) ?_
  obtain ⟨hk_x0_4, hf⟩ := gd_some hf
  refine cr_getR kc_3 CX hR fa_X3_9 rfl hk_x0_4 dX3_readDevice_1 ?_
  obtain ⟨a1, ha1, hf⟩ := nn_some hf
  refine rf_0 ha1 ?_
  obtain ⟨hk_a1_6, hf⟩ := gd_some hf
  refine cr_getI kc_5 CX hR fa_X3_112 rfl hk_a1_6 dX3_readDevice_4 ?_
  refine lv_bipush (v := 24) hx hb dX3_readDevice_7 (by decide) ?_
  refine lv_icmp_lt (tgt := 17) hx hb dX3_readDevice_9 (by decide) (fun hc => ?_) (fun hc => ?_)
  · rw [if_pos hc] at hf
    exact (wbT_X3_readDevice_17 CTX hRm hRc) _ _ _ _ _ _ hf hL hR hS (lv_sub hl [0] rfl)
  · rw [if_neg hc] at hf
    refine lv_aload_n hx hb dX3_readDevice_12 rfl (lv_at hl 0 rfl) ?_
    refine lv_iconst (v := 5) hx hb dX3_readDevice_13 (by decide) ?_
    rcases tb_some hf with ⟨o14, ho, hf⟩ | ⟨q, ho, rfl⟩
    · have hm1 := mbT_X3_readDevice_17 _ _ _ hf
      have hb1 := nz_le hm1 hRc
      have hq1 := (mfT_X3_refuse _ _ _ _ ho)
      refine ta_callVv kc_3 CX hL hR hS (As := [.int 5]) (rest := []) hk_x0_4 (MT_X3_refuse l x hlt N _ _ _ _ _ ho) cv_X3_54 ⟨by omega, by omega⟩ rfl (Nat.le_of_ble_eq_true rfl) hl.1 hq1 hb1 rfl dX3_readDevice_14 (fun H locs hR hS => ?_)
      exact (wbT_X3_readDevice_17 CTX hRm hRc) _ _ _ _ _ _ hf (hL.tr hq1) hR hS (lv_sub hl [0] rfl)
    · exact tx_callv kc_3 CTX hL hR hS (As := [.int 5]) (rest := []) hk_x0_4 (MT_X3_refuse l x hlt N _ _ _ _ _ ho) cv_X3_54 ⟨by omega, by omega⟩ rfl (Nat.le_of_ble_eq_true rfl) hl.1 (mfT_X3_refuse _ _ _ _ ho) hRc rfl dX3_readDevice_14
theorem MT_X3_readDevice (l : Launch) (x : Xc) (hlt : l.stackTraces = false) (N : Nat) (x0 : Nat) (K : Ka) (M : Cm) (o : (Ka × Cm) ⊕ (Ka × Cm)) (hf : fT_X3_readDevice N x0 K M = some o) : Tc sV (aQV x K) (zQV K) "java/lang/IllegalStateException" l x yX3_readDevice cX3_readDevice 6 none 8 140 [.ref x0] K M o :=
  tr_met RX3 "readDevice" hlt (by decide) rfl rfl (Nat.le_of_ble_eq_true rfl) (fun p e s m args below meth c ls CTX hR hl => wfT_X3_readDevice CTX ⟨Nat.le_refl _, Nat.le_refl _⟩ ⟨Nat.le_refl _, Nat.le_refl _⟩ x0 K M s.heap [] ls hf (KLe.rf K) hR va_S.rf hl)
def bT_X3_readBase_72 (N : Nat) (x0 : Nat) (x1 : Int32) (K : Ka) (M : Cm) : Option ((Int32 × Ka × Cm) ⊕ (Ka × Cm)) := gd (kd K x0 == 4) ((fC_X3_moveTo N K x0 ((cI M x0 2) + 1) M).bind fun o79 => some (.inl (x1, K, o79)))
theorem mbT_X3_readBase_72 {o : (Int32 × Ka × Cm) ⊕ (Ka × Cm)} {N : Nat}  (x0 : Nat) (x1 : Int32) (K : Ka) (M : Cm) (hf : bT_X3_readBase_72 N x0 x1 K M = some o) : KLe K (oK sT o) := by
  unfold bT_X3_readBase_72 at hf
  obtain ⟨-, hf⟩ := gd_some hf
  obtain ⟨o79, -, hf⟩ := bnd_some hf
  cases hf
  exact KLe.rf _
set_option maxRecDepth 100000 in
set_option maxHeartbeats 4000000 in
theorem wbT_X3_readBase_72 {p : Program} {l : Launch} {e : Env} {R : Room} {s : State} {m : MethodId} {args : Array Value} {below : List Frame} {meth : Method} {c : Code} {x : Xc} {K0 : Ka} {o : (Int32 × Ka × Cm) ⊕ (Ka × Cm)} {N : Nat} (CTX : CT p l s m args meth c x K0 RX3 "readBase" cX3_readBase 2 (some .int)) (hRm : 7 ≤ R.frames ∧ 116 ≤ R.locals) (hRc : nz sT K0 o ≤ R.cells ∧ nu sT K0 o ≤ R.slots) (x0 : Nat) (x1 : Int32) (K : Ka) (M : Cm) (H : Heap) (locs : List Loc) (ls : Array Slot) (hf : bT_X3_readBase_72 N x0 x1 K M = some o) (hL : KLe K0 K) (hR : RC x K M H) (hS : va_S (AC K0) s.heap H locs) (hl : lv_has ls 2 [(0, .ref x0), (1, .int x1)]) : W p l e R s m args below meth c H locs (kz K - kz K0) (ku K - ku K0) (TQ sT (aQI x K0) (zQV K0) "java/lang/IllegalStateException" x K0 below args s o) (F0 m 72 ls []) := by
  obtain ⟨CX, hno, hlt, hmn⟩ := id CTX
  obtain ⟨hx, hb, hml, hown, hts, hE, hB, hr, hlk⟩ := id CX
  have hcs := nz_le (mbT_X3_readBase_72  x0 x1 K M hf) hRc
  unfold bT_X3_readBase_72 at hf
  refine lv_aload_n hx hb dX3_readBase_72 rfl (lv_at hl 0 rfl) ?_
  refine lv_aload_n hx hb dX3_readBase_73 rfl (lv_at hl 0 rfl) ?_
  obtain ⟨hk_x0_4, hf⟩ := gd_some hf
  refine cr_getI kc_3 CX hR fa_X3_15 rfl hk_x0_4 dX3_readBase_74 ?_
  refine lv_iconst (v := 1) hx hb dX3_readBase_77 (by decide) ?_
  refine lv_iadd hx hb dX3_readBase_78 ?_
  obtain ⟨o79, ho79, hf⟩ := bnd_some hf
  refine cr_callVv kc_3 CX hR hL hS (As := [.int ((cI M x0 2) + 1)]) (rest := []) hk_x0_4 (MC_X3_moveTo l x N K x0 ((cI M x0 2) + 1) M o79 ho79) cv_X3_42 ⟨by omega, by omega⟩ rfl rfl (Nat.le_of_ble_eq_true rfl) hl.1 dX3_readBase_79 hcs (fun H locs hR hS => ?_)
  refine lv_iload_n hx hb dX3_readBase_82 rfl (lv_at hl 1 rfl) ?_
  exact tr_iret CX hR hS hf dX3_readBase_83
def bT_X3_readBase_51 (N : Nat) (x0 : Nat) (x1 : Int32) (K : Ka) (M : Cm) : Option ((Int32 × Ka × Cm) ⊕ (Ka × Cm)) := gd (kd K x0 == 4) (nn (cR M x0 1) fun a1 => gd (kd K a1 == 6) (nn (cR M a1 5) fun a2 => gd (kd K a2 == 26) (ck x1 (le K a2) (nn (cR M a2 (x1 : Int32).toNatClampNeg) fun a3 => gd (kd K a3 == 8) (if (cI M a3 0) = 0 then (tb (fT_X3_refuse N x0 6 K M) fun o69 => (bT_X3_readBase_72 N) x0 x1 o69.1 o69.2) else ((bT_X3_readBase_72 N) x0 x1 K M))))))
theorem mbT_X3_readBase_51 {o : (Int32 × Ka × Cm) ⊕ (Ka × Cm)} {N : Nat}  (x0 : Nat) (x1 : Int32) (K : Ka) (M : Cm) (hf : bT_X3_readBase_51 N x0 x1 K M = some o) : KLe K (oK sT o) := by
  unfold bT_X3_readBase_51 at hf
  obtain ⟨-, hf⟩ := gd_some hf
  obtain ⟨a1, -, hf⟩ := nn_some hf
  obtain ⟨-, hf⟩ := gd_some hf
  obtain ⟨a2, -, hf⟩ := nn_some hf
  obtain ⟨-, hf⟩ := gd_some hf
  obtain ⟨-, hf⟩ := ck_some hf
  obtain ⟨a3, -, hf⟩ := nn_some hf
  obtain ⟨-, hf⟩ := gd_some hf
  by_cases hc : (cI M a3 0) = 0
  · rw [if_pos hc] at hf
    rcases tb_some hf with ⟨o69, ho, hf⟩ | ⟨q, ho, rfl⟩
    · exact KLe.tr (mfT_X3_refuse _ _ _ _ ho) (mbT_X3_readBase_72 _ _ _ _ hf)
    · exact (mfT_X3_refuse _ _ _ _ ho)
  · rw [if_neg hc] at hf
    exact mbT_X3_readBase_72 _ _ _ _ hf
set_option maxRecDepth 100000 in
set_option maxHeartbeats 4000000 in
theorem wbT_X3_readBase_51 {p : Program} {l : Launch} {e : Env} {R : Room} {s : State} {m : MethodId} {args : Array Value} {below : List Frame} {meth : Method} {c : Code} {x : Xc} {K0 : Ka} {o : (Int32 × Ka × Cm) ⊕ (Ka × Cm)} {N : Nat} (CTX : CT p l s m args meth c x K0 RX3 "readBase" cX3_readBase 2 (some .int)) (hRm : 7 ≤ R.frames ∧ 116 ≤ R.locals) (hRc : nz sT K0 o ≤ R.cells ∧ nu sT K0 o ≤ R.slots) (x0 : Nat) (x1 : Int32) (K : Ka) (M : Cm) (H : Heap) (locs : List Loc) (ls : Array Slot) (hf : bT_X3_readBase_51 N x0 x1 K M = some o) (hL : KLe K0 K) (hR : RC x K M H) (hS : va_S (AC K0) s.heap H locs) (hl : lv_has ls 2 [(0, .ref x0), (1, .int x1)]) : W p l e R s m args below meth c H locs (kz K - kz K0) (ku K - ku K0) (TQ sT (aQI x K0) (zQV K0) "java/lang/IllegalStateException" x K0 below args s o) (F0 m 51 ls []) := by
  obtain ⟨CX, hno, hlt, hmn⟩ := id CTX
  obtain ⟨hx, hb, hml, hown, hts, hE, hB, hr, hlk⟩ := id CX
  have hcs := nz_le (mbT_X3_readBase_51  x0 x1 K M hf) hRc
  unfold bT_X3_readBase_51 at hf
  refine lv_aload_n hx hb dX3_readBase_51 rfl (lv_at hl 0 rfl) ?_
  obtain ⟨hk_x0_4, hf⟩ := gd_some hf
  refine cr_getR kc_3 CX hR fa_X3_9 rfl hk_x0_4 dX3_readBase_52 ?_
  obtain ⟨a1, ha1, hf⟩ := nn_some hf
  refine rf_0 ha1 ?_
  obtain ⟨hk_a1_6, hf⟩ := gd_some hf
  refine cr_getR kc_5 CX hR fa_X3_200 rfl hk_a1_6 dX3_readBase_55 ?_
  refine lv_iload_n hx hb dX3_readBase_58 rfl (lv_at hl 1 rfl) ?_
  obtain ⟨a2, ha2, hf⟩ := nn_some hf
  refine rf_1 ha2 ?_
  obtain ⟨hk_a2_26, hf⟩ := gd_some hf
  obtain ⟨hi, hf⟩ := ck_some hf
  refine cr_uald CX hR hk_a2_26 hi dX3_readBase_59 ?_
  obtain ⟨a3, ha3, hf⟩ := nn_some hf
  refine rf_0 ha3 ?_
  obtain ⟨hk_a3_8, hf⟩ := gd_some hf
  refine cr_getI kc_7 CX hR fa_X3_173 rfl hk_a3_8 dX3_readBase_60 ?_
  refine lv_if_ne (tgt := 72) hx hb dX3_readBase_63 (by decide) (fun hc => ?_) (fun hc => ?_)
  · rw [if_neg hc] at hf
    exact (wbT_X3_readBase_72 CTX hRm hRc) _ _ _ _ _ _ _ hf hL hR hS (lv_sub hl [0, 1] rfl)
  · rw [if_pos hc] at hf
    refine lv_aload_n hx hb dX3_readBase_66 rfl (lv_at hl 0 rfl) ?_
    refine lv_bipush (v := 6) hx hb dX3_readBase_67 (by decide) ?_
    rcases tb_some hf with ⟨o69, ho, hf⟩ | ⟨q, ho, rfl⟩
    · have hm1 := mbT_X3_readBase_72 _ _ _ _ hf
      have hb1 := nz_le hm1 hRc
      have hq1 := (mfT_X3_refuse _ _ _ _ ho)
      refine ta_callVv kc_3 CX hL hR hS (As := [.int 6]) (rest := []) hk_x0_4 (MT_X3_refuse l x hlt N _ _ _ _ _ ho) cv_X3_54 ⟨by omega, by omega⟩ rfl (Nat.le_of_ble_eq_true rfl) hl.1 hq1 hb1 rfl dX3_readBase_69 (fun H locs hR hS => ?_)
      exact (wbT_X3_readBase_72 CTX hRm hRc) _ _ _ _ _ _ _ hf (hL.tr hq1) hR hS (lv_sub hl [0, 1] rfl)
    · exact tx_callv kc_3 CTX hL hR hS (As := [.int 6]) (rest := []) hk_x0_4 (MT_X3_refuse l x hlt N _ _ _ _ _ ho) cv_X3_54 ⟨by omega, by omega⟩ rfl (Nat.le_of_ble_eq_true rfl) hl.1 (mfT_X3_refuse _ _ _ _ ho) hRc rfl dX3_readBase_69
def bT_X3_readBase_13 (N : Nat) (x0 : Nat) (K : Ka) (M : Cm) : Option ((Int32 × Ka × Cm) ⊕ (Ka × Cm)) := gd (kd K x0 == 4) (nn (cR M x0 0) fun a1 => gd (kd K a1 == 7) ((fC_X6_valueAt N K a1 (cI M x0 2) M).bind fun o21 => nn (cR o21.2 x0 1) fun a2 => gd (kd K a2 == 6) (nn (cR o21.2 x0 1) fun a3 => gd (kd K a3 == 6) (nn (cR o21.2 a2 4) fun a4 => (fC_X8_rankOf N K o21.1 a4 (cI o21.2 a3 11) o21.2).bind fun o38 => if 0 ≤ o38.1 then ((bT_X3_readBase_51 N) x0 o38.1 K o38.2) else (tb (fT_X3_refuse N x0 2 K o38.2) fun o48 => (bT_X3_readBase_51 N) x0 o38.1 o48.1 o48.2)))))
theorem mbT_X3_readBase_13 {o : (Int32 × Ka × Cm) ⊕ (Ka × Cm)} {N : Nat}  (x0 : Nat) (K : Ka) (M : Cm) (hf : bT_X3_readBase_13 N x0 K M = some o) : KLe K (oK sT o) := by
  unfold bT_X3_readBase_13 at hf
  obtain ⟨-, hf⟩ := gd_some hf
  obtain ⟨a1, -, hf⟩ := nn_some hf
  obtain ⟨-, hf⟩ := gd_some hf
  obtain ⟨o21, -, hf⟩ := bnd_some hf
  obtain ⟨a2, -, hf⟩ := nn_some hf
  obtain ⟨-, hf⟩ := gd_some hf
  obtain ⟨a3, -, hf⟩ := nn_some hf
  obtain ⟨-, hf⟩ := gd_some hf
  obtain ⟨a4, -, hf⟩ := nn_some hf
  obtain ⟨o38, -, hf⟩ := bnd_some hf
  by_cases hc : 0 ≤ o38.1
  · rw [if_pos hc] at hf
    exact mbT_X3_readBase_51 _ _ _ _ hf
  · rw [if_neg hc] at hf
    rcases tb_some hf with ⟨o48, ho, hf⟩ | ⟨q, ho, rfl⟩
    · exact KLe.tr (mfT_X3_refuse _ _ _ _ ho) (mbT_X3_readBase_51 _ _ _ _ hf)
    · exact (mfT_X3_refuse _ _ _ _ ho)
set_option maxRecDepth 100000 in
set_option maxHeartbeats 4000000 in
theorem wbT_X3_readBase_13 {p : Program} {l : Launch} {e : Env} {R : Room} {s : State} {m : MethodId} {args : Array Value} {below : List Frame} {meth : Method} {c : Code} {x : Xc} {K0 : Ka} {o : (Int32 × Ka × Cm) ⊕ (Ka × Cm)} {N : Nat} (CTX : CT p l s m args meth c x K0 RX3 "readBase" cX3_readBase 2 (some .int)) (hRm : 7 ≤ R.frames ∧ 116 ≤ R.locals) (hRc : nz sT K0 o ≤ R.cells ∧ nu sT K0 o ≤ R.slots) (x0 : Nat) (K : Ka) (M : Cm) (H : Heap) (locs : List Loc) (ls : Array Slot) (hf : bT_X3_readBase_13 N x0 K M = some o) (hL : KLe K0 K) (hR : RC x K M H) (hS : va_S (AC K0) s.heap H locs) (hl : lv_has ls 2 [(0, .ref x0)]) : W p l e R s m args below meth c H locs (kz K - kz K0) (ku K - ku K0) (TQ sT (aQI x K0) (zQV K0) "java/lang/IllegalStateException" x K0 below args s o) (F0 m 13 ls []) := by
  obtain ⟨CX, hno, hlt, hmn⟩ := id CTX
  obtain ⟨hx, hb, hml, hown, hts, hE, hB, hr, hlk⟩ := id CX
  have hcs := nz_le (mbT_X3_readBase_13  x0 K M hf) hRc
  unfold bT_X3_readBase_13 at hf
  refine lv_aload_n hx hb dX3_readBase_13 rfl (lv_at hl 0 rfl) ?_
  obtain ⟨hk_x0_4, hf⟩ := gd_some hf
  refine cr_getR kc_3 CX hR fa_X3_28 rfl hk_x0_4 dX3_readBase_14 ?_
  refine lv_aload_n hx hb dX3_readBase_17 rfl (lv_at hl 0 rfl) ?_
  refine cr_getI kc_3 CX hR fa_X3_15 rfl hk_x0_4 dX3_readBase_18 ?_
  obtain ⟨a1, ha1, hf⟩ := nn_some hf
  refine rf_1 ha1 ?_
  obtain ⟨hk_a1_7, hf⟩ := gd_some hf
  obtain ⟨o21, ho21, hf⟩ := bnd_some hf
  refine cr_callLv kc_6 CX hR hL hS (As := [.int (cI M x0 2)]) (rest := []) hk_a1_7 (MC_X6_valueAt l x N K a1 (cI M x0 2) M o21 ho21) cv_X3_88 ⟨by omega, by omega⟩ rfl rfl (Nat.le_of_ble_eq_true rfl) hl.1 dX3_readBase_21 hcs (fun H locs hR hS => ?_)
  refine lv_aload_n hx hb dX3_readBase_24 rfl (lv_at hl 0 rfl) ?_
  refine cr_getR kc_3 CX hR fa_X3_9 rfl hk_x0_4 dX3_readBase_25 ?_
  obtain ⟨a2, ha2, hf⟩ := nn_some hf
  refine rf_0 ha2 ?_
  obtain ⟨hk_a2_6, hf⟩ := gd_some hf
  refine cr_getR kc_5 CX hR fa_X3_197 rfl hk_a2_6 dX3_readBase_28 ?_
  refine lv_aload_n hx hb dX3_readBase_31 rfl (lv_at hl 0 rfl) ?_
  refine cr_getR kc_3 CX hR fa_X3_9 rfl hk_x0_4 dX3_readBase_32 ?_
  obtain ⟨a3, ha3, hf⟩ := nn_some hf
  refine rf_0 ha3 ?_
  obtain ⟨hk_a3_6, hf⟩ := gd_some hf
  refine cr_getI kc_5 CX hR fa_X3_147 rfl hk_a3_6 dX3_readBase_35 ?_
  obtain ⟨a4, ha4, hf⟩ := nn_some hf
  refine rf_1 ha4 ?_
  obtain ⟨o38, ho38, hf⟩ := bnd_some hf
  refine cr_callIs CX hR hL hS (As := [.long o21.1, .ref a4, .int (cI o21.2 a3 11)]) (rest := []) (MC_X8_rankOf l x N K o21.1 a4 (cI o21.2 a3 11) o21.2 o38 ho38) cs_X3_105 ⟨by omega, by omega⟩ rfl rfl (Nat.le_of_ble_eq_true rfl) hl.1 dX3_readBase_38 hcs (fun H locs hR hS => ?_)
  refine lv_istore_n (lv' := [(1, .int o38.1), (0, .ref x0)]) hx hb dX3_readBase_41 rfl hl (by decide) rfl (fun ls hl => ?_)
  refine lv_iload_n hx hb dX3_readBase_42 rfl (lv_at hl 0 rfl) ?_
  refine lv_if_ge (tgt := 51) hx hb dX3_readBase_43 (by decide) (fun hc => ?_) (fun hc => ?_)
  · rw [if_pos hc] at hf
    exact (wbT_X3_readBase_51 CTX hRm hRc) _ _ _ _ _ _ _ hf hL hR hS (lv_sub hl [1, 0] rfl)
  · rw [if_neg hc] at hf
    refine lv_aload_n hx hb dX3_readBase_46 rfl (lv_at hl 1 rfl) ?_
    refine lv_iconst (v := 2) hx hb dX3_readBase_47 (by decide) ?_
    rcases tb_some hf with ⟨o48, ho, hf⟩ | ⟨q, ho, rfl⟩
    · have hm1 := mbT_X3_readBase_51 _ _ _ _ hf
      have hb1 := nz_le hm1 hRc
      have hq1 := (mfT_X3_refuse _ _ _ _ ho)
      refine ta_callVv kc_3 CX hL hR hS (As := [.int 2]) (rest := []) hk_x0_4 (MT_X3_refuse l x hlt N _ _ _ _ _ ho) cv_X3_54 ⟨by omega, by omega⟩ rfl (Nat.le_of_ble_eq_true rfl) hl.1 hq1 hb1 rfl dX3_readBase_48 (fun H locs hR hS => ?_)
      exact (wbT_X3_readBase_51 CTX hRm hRc) _ _ _ _ _ _ _ hf (hL.tr hq1) hR hS (lv_sub hl [1, 0] rfl)
    · exact tx_callv kc_3 CTX hL hR hS (As := [.int 2]) (rest := []) hk_x0_4 (MT_X3_refuse l x hlt N _ _ _ _ _ ho) cv_X3_54 ⟨by omega, by omega⟩ rfl (Nat.le_of_ble_eq_true rfl) hl.1 (mfT_X3_refuse _ _ _ _ ho) hRc rfl dX3_readBase_48
def fT_X3_readBase (N : Nat) (x0 : Nat) (K : Ka) (M : Cm) : Option ((Int32 × Ka × Cm) ⊕ (Ka × Cm)) := gd (kd K x0 == 4) (if (cI M x0 3) = 2 then ((bT_X3_readBase_13 N) x0 K M) else (tb (fT_X3_refuse N x0 1 K M) fun o10 => (bT_X3_readBase_13 N) x0 o10.1 o10.2))
theorem mfT_X3_readBase {o : (Int32 × Ka × Cm) ⊕ (Ka × Cm)} {N : Nat}  (x0 : Nat) (K : Ka) (M : Cm) (hf : fT_X3_readBase N x0 K M = some o) : KLe K (oK sT o) := by
  unfold fT_X3_readBase at hf
  obtain ⟨-, hf⟩ := gd_some hf
  by_cases hc : (cI M x0 3) = 2
  · rw [if_pos hc] at hf
    exact mbT_X3_readBase_13 _ _ _ hf
  · rw [if_neg hc] at hf
    rcases tb_some hf with ⟨o10, ho, hf⟩ | ⟨q, ho, rfl⟩
    · exact KLe.tr (mfT_X3_refuse _ _ _ _ ho) (mbT_X3_readBase_13 _ _ _ hf)
    · exact (mfT_X3_refuse _ _ _ _ ho)
set_option maxRecDepth 100000 in
set_option maxHeartbeats 4000000 in
theorem wfT_X3_readBase {p : Program} {l : Launch} {e : Env} {R : Room} {s : State} {m : MethodId} {args : Array Value} {below : List Frame} {meth : Method} {c : Code} {x : Xc} {K0 : Ka} {o : (Int32 × Ka × Cm) ⊕ (Ka × Cm)} {N : Nat} (CTX : CT p l s m args meth c x K0 RX3 "readBase" cX3_readBase 2 (some .int)) (hRm : 7 ≤ R.frames ∧ 116 ≤ R.locals) (hRc : nz sT K0 o ≤ R.cells ∧ nu sT K0 o ≤ R.slots) (x0 : Nat) (K : Ka) (M : Cm) (H : Heap) (locs : List Loc) (ls : Array Slot) (hf : fT_X3_readBase N x0 K M = some o) (hL : KLe K0 K) (hR : RC x K M H) (hS : va_S (AC K0) s.heap H locs) (hl : lv_has ls 2 [(0, .ref x0)]) : W p l e R s m args below meth c H locs (kz K - kz K0) (ku K - ku K0) (TQ sT (aQI x K0) (zQV K0) "java/lang/IllegalStateException" x K0 below args s o) (F0 m 0 ls []) := by
  obtain ⟨CX, hno, hlt, hmn⟩ := id CTX
  obtain ⟨hx, hb, hml, hown, hts, hE, hB, hr, hlk⟩ := id CX
  have hcs := nz_le (mfT_X3_readBase  x0 K M hf) hRc
  unfold fT_X3_readBase at hf
  refine lv_aload_n hx hb dX3_readBase_0 rfl (lv_at hl 0 rfl) ?_
  obtain ⟨hk_x0_4, hf⟩ := gd_some hf
  refine cr_getI kc_3 CX hR fa_X3_19 rfl hk_x0_4 dX3_readBase_1 ?_
  refine lv_iconst (v := 2) hx hb dX3_readBase_4 (by decide) ?_
  refine lv_icmp_eq (tgt := 13) hx hb dX3_readBase_5 (by decide) (fun hc => ?_) (fun hc => ?_)
  · rw [if_pos hc] at hf
    exact (wbT_X3_readBase_13 CTX hRm hRc) _ _ _ _ _ _ hf hL hR hS (lv_sub hl [0] rfl)
  · rw [if_neg hc] at hf
    refine lv_aload_n hx hb dX3_readBase_8 rfl (lv_at hl 0 rfl) ?_
    refine lv_iconst (v := 1) hx hb dX3_readBase_9 (by decide) ?_
    rcases tb_some hf with ⟨o10, ho, hf⟩ | ⟨q, ho, rfl⟩
    · have hm1 := mbT_X3_readBase_13 _ _ _ hf
      have hb1 := nz_le hm1 hRc
      have hq1 := (mfT_X3_refuse _ _ _ _ ho)
      refine ta_callVv kc_3 CX hL hR hS (As := [.int 1]) (rest := []) hk_x0_4 (MT_X3_refuse l x hlt N _ _ _ _ _ ho) cv_X3_54 ⟨by omega, by omega⟩ rfl (Nat.le_of_ble_eq_true rfl) hl.1 hq1 hb1 rfl dX3_readBase_10 (fun H locs hR hS => ?_)
      exact (wbT_X3_readBase_13 CTX hRm hRc) _ _ _ _ _ _ hf (hL.tr hq1) hR hS (lv_sub hl [0] rfl)
    · exact tx_callv kc_3 CTX hL hR hS (As := [.int 1]) (rest := []) hk_x0_4 (MT_X3_refuse l x hlt N _ _ _ _ _ ho) cv_X3_54 ⟨by omega, by omega⟩ rfl (Nat.le_of_ble_eq_true rfl) hl.1 (mfT_X3_refuse _ _ _ _ ho) hRc rfl dX3_readBase_10
theorem MT_X3_readBase (l : Launch) (x : Xc) (hlt : l.stackTraces = false) (N : Nat) (x0 : Nat) (K : Ka) (M : Cm) (o : (Int32 × Ka × Cm) ⊕ (Ka × Cm)) (hf : fT_X3_readBase N x0 K M = some o) : Tc sT (aQI x K) (zQV K) "java/lang/IllegalStateException" l x yX3_readBase cX3_readBase 2 (some .int) 7 116 [.ref x0] K M o :=
  tr_met RX3 "readBase" hlt (by decide) rfl rfl (Nat.le_of_ble_eq_true rfl) (fun p e s m args below meth c ls CTX hR hl => wfT_X3_readBase CTX ⟨Nat.le_refl _, Nat.le_refl _⟩ ⟨Nat.le_refl _, Nat.le_refl _⟩ x0 K M s.heap [] ls hf (KLe.rf K) hR va_S.rf hl)
def bT_X3_readRoles_142 (N : Nat) (r7 : Nat → Nat → Int32 → Int32 → Ka → Cm → Option ((Ka × Cm) ⊕ (Ka × Cm))) (k164 : Nat → Ka → Cm → Option ((Ka × Cm) ⊕ (Ka × Cm))) (x0 : Nat) (x1 : Nat) (x2 : Int32) (x3 : Int32) (x4 : Int32) (K : Ka) (M : Cm) : Option ((Ka × Cm) ⊕ (Ka × Cm)) := gd (kd K x1 == 8) ((fC_X7_addRole N K x1 x4 M).bind fun o145 => gd (kd K x0 == 4) ((fC_X3_moveTo N K x0 ((cI o145 x0 2) + 1) o145).bind fun o155 => r7 x0 x1 x2 (x3 + 1) K o155))
theorem mbT_X3_readRoles_142 {o : (Ka × Cm) ⊕ (Ka × Cm)} {N : Nat} {r7 : Nat → Nat → Int32 → Int32 → Ka → Cm → Option ((Ka × Cm) ⊕ (Ka × Cm))} {k164 : Nat → Ka → Cm → Option ((Ka × Cm) ⊕ (Ka × Cm))} (mr7 : ∀ (x0 : Nat) (x1 : Nat) (x2 : Int32) (x3 : Int32) (K : Ka) (M : Cm) , r7 x0 x1 x2 x3 K M = some o → KLe K (oK sV o)) (mk164 : ∀ (x0 : Nat) (K : Ka) (M : Cm) , k164 x0 K M = some o → KLe K (oK sV o)) (x0 : Nat) (x1 : Nat) (x2 : Int32) (x3 : Int32) (x4 : Int32) (K : Ka) (M : Cm) (hf : bT_X3_readRoles_142 N r7 k164 x0 x1 x2 x3 x4 K M = some o) : KLe K (oK sV o) := by
  unfold bT_X3_readRoles_142 at hf
  obtain ⟨-, hf⟩ := gd_some hf
  obtain ⟨o145, -, hf⟩ := bnd_some hf
  obtain ⟨-, hf⟩ := gd_some hf
  obtain ⟨o155, -, hf⟩ := bnd_some hf
  exact mr7 _ _ _ _ _ _ hf
set_option maxRecDepth 100000 in
set_option maxHeartbeats 4000000 in
theorem wbT_X3_readRoles_142 {p : Program} {l : Launch} {e : Env} {R : Room} {s : State} {m : MethodId} {args : Array Value} {below : List Frame} {meth : Method} {c : Code} {x : Xc} {K0 : Ka} {o : (Ka × Cm) ⊕ (Ka × Cm)} {N : Nat} {r7 : Nat → Nat → Int32 → Int32 → Ka → Cm → Option ((Ka × Cm) ⊕ (Ka × Cm))} {k164 : Nat → Ka → Cm → Option ((Ka × Cm) ⊕ (Ka × Cm))} (CTX : CT p l s m args meth c x K0 RX3 "readRoles" cX3_readRoles 5 none) (hRm : 7 ≤ R.frames ∧ 116 ≤ R.locals) (hRc : nz sV K0 o ≤ R.cells ∧ nu sV K0 o ≤ R.slots) (mr7 : ∀ (x0 : Nat) (x1 : Nat) (x2 : Int32) (x3 : Int32) (K : Ka) (M : Cm) , r7 x0 x1 x2 x3 K M = some o → KLe K (oK sV o)) (mk164 : ∀ (x0 : Nat) (K : Ka) (M : Cm) , k164 x0 K M = some o → KLe K (oK sV o)) (hr7 : ∀ (x0 : Nat) (x1 : Nat) (x2 : Int32) (x3 : Int32) (K : Ka) (M : Cm) (H : Heap) (locs : List Loc) (ls : Array Slot), r7 x0 x1 x2 x3 K M = some o → KLe K0 K → RC x K M H → va_S (AC K0) s.heap H locs → lv_has ls 5 [(0, .ref x0), (1, .ref x1), (2, .int x2), (3, .int x3)] → W p l e R s m args below meth c H locs (kz K - kz K0) (ku K - ku K0) (TQ sV (aQV x K0) (zQV K0) "java/lang/IllegalStateException" x K0 below args s o) (F0 m 7 ls [])) (hk164 : ∀ (x0 : Nat) (K : Ka) (M : Cm) (H : Heap) (locs : List Loc) (ls : Array Slot), k164 x0 K M = some o → KLe K0 K → RC x K M H → va_S (AC K0) s.heap H locs → lv_has ls 5 [(0, .ref x0)] → W p l e R s m args below meth c H locs (kz K - kz K0) (ku K - ku K0) (TQ sV (aQV x K0) (zQV K0) "java/lang/IllegalStateException" x K0 below args s o) (F0 m 164 ls [])) (x0 : Nat) (x1 : Nat) (x2 : Int32) (x3 : Int32) (x4 : Int32) (K : Ka) (M : Cm) (H : Heap) (locs : List Loc) (ls : Array Slot) (hf : bT_X3_readRoles_142 N r7 k164 x0 x1 x2 x3 x4 K M = some o) (hL : KLe K0 K) (hR : RC x K M H) (hS : va_S (AC K0) s.heap H locs) (hl : lv_has ls 5 [(0, .ref x0), (1, .ref x1), (2, .int x2), (3, .int x3), (4, .int x4)]) : W p l e R s m args below meth c H locs (kz K - kz K0) (ku K - ku K0) (TQ sV (aQV x K0) (zQV K0) "java/lang/IllegalStateException" x K0 below args s o) (F0 m 142 ls []) := by
  obtain ⟨CX, hno, hlt, hmn⟩ := id CTX
  obtain ⟨hx, hb, hml, hown, hts, hE, hB, hr, hlk⟩ := id CX
  have hcs := nz_le (mbT_X3_readRoles_142 mr7 mk164 x0 x1 x2 x3 x4 K M hf) hRc
  unfold bT_X3_readRoles_142 at hf
  refine lv_aload_n hx hb dX3_readRoles_142 rfl (lv_at hl 1 rfl) ?_
  refine lv_iload hx hb dX3_readRoles_143 (lv_at hl 4 rfl) ?_
  obtain ⟨hk_x1_8, hf⟩ := gd_some hf
  obtain ⟨o145, ho145, hf⟩ := bnd_some hf
  refine cr_callVv kc_7 CX hR hL hS (As := [.int x4]) (rest := []) hk_x1_8 (MC_X7_addRole l x N K x1 x4 M o145 ho145) cv_X3_211 ⟨by omega, by omega⟩ rfl rfl (Nat.le_of_ble_eq_true rfl) hl.1 dX3_readRoles_145 hcs (fun H locs hR hS => ?_)
  refine lv_aload_n hx hb dX3_readRoles_148 rfl (lv_at hl 0 rfl) ?_
  refine lv_aload_n hx hb dX3_readRoles_149 rfl (lv_at hl 0 rfl) ?_
  obtain ⟨hk_x0_4, hf⟩ := gd_some hf
  refine cr_getI kc_3 CX hR fa_X3_15 rfl hk_x0_4 dX3_readRoles_150 ?_
  refine lv_iconst (v := 1) hx hb dX3_readRoles_153 (by decide) ?_
  refine lv_iadd hx hb dX3_readRoles_154 ?_
  obtain ⟨o155, ho155, hf⟩ := bnd_some hf
  refine cr_callVv kc_3 CX hR hL hS (As := [.int ((cI o145 x0 2) + 1)]) (rest := []) hk_x0_4 (MC_X3_moveTo l x N K x0 ((cI o145 x0 2) + 1) o145 o155 ho155) cv_X3_42 ⟨by omega, by omega⟩ rfl rfl (Nat.le_of_ble_eq_true rfl) hl.1 dX3_readRoles_155 hcs (fun H locs hR hS => ?_)
  refine lv_iinc (v := x3 + 1) (lv' := [(3, .int (x3 + 1)), (0, .ref x0), (1, .ref x1), (2, .int x2), (4, .int x4)]) hx hb dX3_readRoles_158 hl (k := 3) rfl rfl (by decide) rfl (fun ls hl => ?_)
  refine lv_goto (tgt := 7) hx hb dX3_readRoles_161 (by decide) ?_
  exact hr7 _ _ _ _ _ _ _ _ _ hf hL hR hS (lv_sub hl [1, 2, 3, 0] rfl)
def bT_X3_readRoles_120 (N : Nat) (r7 : Nat → Nat → Int32 → Int32 → Ka → Cm → Option ((Ka × Cm) ⊕ (Ka × Cm))) (k164 : Nat → Ka → Cm → Option ((Ka × Cm) ⊕ (Ka × Cm))) (x0 : Nat) (x1 : Nat) (x2 : Int32) (x3 : Int32) (x4 : Int32) (K : Ka) (M : Cm) : Option ((Ka × Cm) ⊕ (Ka × Cm)) := gd (kd K x0 == 4) (nn (cR M x0 1) fun a1 => gd (kd K a1 == 6) (nn (cR M a1 5) fun a2 => gd (kd K a2 == 26) (ck x4 (le K a2) (nn (cR M a2 (x4 : Int32).toNatClampNeg) fun a3 => gd (kd K a3 == 8) (if (cI M a3 0) = 0 then ((bT_X3_readRoles_142 N r7 k164) x0 x1 x2 x3 x4 K M) else (tb (fT_X3_refuse N x0 6 K M) fun o139 => (bT_X3_readRoles_142 N r7 k164) x0 x1 x2 x3 x4 o139.1 o139.2))))))
theorem mbT_X3_readRoles_120 {o : (Ka × Cm) ⊕ (Ka × Cm)} {N : Nat} {r7 : Nat → Nat → Int32 → Int32 → Ka → Cm → Option ((Ka × Cm) ⊕ (Ka × Cm))} {k164 : Nat → Ka → Cm → Option ((Ka × Cm) ⊕ (Ka × Cm))} (mr7 : ∀ (x0 : Nat) (x1 : Nat) (x2 : Int32) (x3 : Int32) (K : Ka) (M : Cm) , r7 x0 x1 x2 x3 K M = some o → KLe K (oK sV o)) (mk164 : ∀ (x0 : Nat) (K : Ka) (M : Cm) , k164 x0 K M = some o → KLe K (oK sV o)) (x0 : Nat) (x1 : Nat) (x2 : Int32) (x3 : Int32) (x4 : Int32) (K : Ka) (M : Cm) (hf : bT_X3_readRoles_120 N r7 k164 x0 x1 x2 x3 x4 K M = some o) : KLe K (oK sV o) := by
  unfold bT_X3_readRoles_120 at hf
  obtain ⟨-, hf⟩ := gd_some hf
  obtain ⟨a1, -, hf⟩ := nn_some hf
  obtain ⟨-, hf⟩ := gd_some hf
  obtain ⟨a2, -, hf⟩ := nn_some hf
  obtain ⟨-, hf⟩ := gd_some hf
  obtain ⟨-, hf⟩ := ck_some hf
  obtain ⟨a3, -, hf⟩ := nn_some hf
  obtain ⟨-, hf⟩ := gd_some hf
  by_cases hc : (cI M a3 0) = 0
  · rw [if_pos hc] at hf
    exact (mbT_X3_readRoles_142 mr7 mk164) _ _ _ _ _ _ _ hf
  · rw [if_neg hc] at hf
    rcases tb_some hf with ⟨o139, ho, hf⟩ | ⟨q, ho, rfl⟩
    · exact KLe.tr (mfT_X3_refuse _ _ _ _ ho) ((mbT_X3_readRoles_142 mr7 mk164) _ _ _ _ _ _ _ hf)
    · exact (mfT_X3_refuse _ _ _ _ ho)
set_option maxRecDepth 100000 in
set_option maxHeartbeats 4000000 in
theorem wbT_X3_readRoles_120 {p : Program} {l : Launch} {e : Env} {R : Room} {s : State} {m : MethodId} {args : Array Value} {below : List Frame} {meth : Method} {c : Code} {x : Xc} {K0 : Ka} {o : (Ka × Cm) ⊕ (Ka × Cm)} {N : Nat} {r7 : Nat → Nat → Int32 → Int32 → Ka → Cm → Option ((Ka × Cm) ⊕ (Ka × Cm))} {k164 : Nat → Ka → Cm → Option ((Ka × Cm) ⊕ (Ka × Cm))} (CTX : CT p l s m args meth c x K0 RX3 "readRoles" cX3_readRoles 5 none) (hRm : 7 ≤ R.frames ∧ 116 ≤ R.locals) (hRc : nz sV K0 o ≤ R.cells ∧ nu sV K0 o ≤ R.slots) (mr7 : ∀ (x0 : Nat) (x1 : Nat) (x2 : Int32) (x3 : Int32) (K : Ka) (M : Cm) , r7 x0 x1 x2 x3 K M = some o → KLe K (oK sV o)) (mk164 : ∀ (x0 : Nat) (K : Ka) (M : Cm) , k164 x0 K M = some o → KLe K (oK sV o)) (hr7 : ∀ (x0 : Nat) (x1 : Nat) (x2 : Int32) (x3 : Int32) (K : Ka) (M : Cm) (H : Heap) (locs : List Loc) (ls : Array Slot), r7 x0 x1 x2 x3 K M = some o → KLe K0 K → RC x K M H → va_S (AC K0) s.heap H locs → lv_has ls 5 [(0, .ref x0), (1, .ref x1), (2, .int x2), (3, .int x3)] → W p l e R s m args below meth c H locs (kz K - kz K0) (ku K - ku K0) (TQ sV (aQV x K0) (zQV K0) "java/lang/IllegalStateException" x K0 below args s o) (F0 m 7 ls [])) (hk164 : ∀ (x0 : Nat) (K : Ka) (M : Cm) (H : Heap) (locs : List Loc) (ls : Array Slot), k164 x0 K M = some o → KLe K0 K → RC x K M H → va_S (AC K0) s.heap H locs → lv_has ls 5 [(0, .ref x0)] → W p l e R s m args below meth c H locs (kz K - kz K0) (ku K - ku K0) (TQ sV (aQV x K0) (zQV K0) "java/lang/IllegalStateException" x K0 below args s o) (F0 m 164 ls [])) (x0 : Nat) (x1 : Nat) (x2 : Int32) (x3 : Int32) (x4 : Int32) (K : Ka) (M : Cm) (H : Heap) (locs : List Loc) (ls : Array Slot) (hf : bT_X3_readRoles_120 N r7 k164 x0 x1 x2 x3 x4 K M = some o) (hL : KLe K0 K) (hR : RC x K M H) (hS : va_S (AC K0) s.heap H locs) (hl : lv_has ls 5 [(0, .ref x0), (1, .ref x1), (2, .int x2), (3, .int x3), (4, .int x4)]) : W p l e R s m args below meth c H locs (kz K - kz K0) (ku K - ku K0) (TQ sV (aQV x K0) (zQV K0) "java/lang/IllegalStateException" x K0 below args s o) (F0 m 120 ls []) := by
  obtain ⟨CX, hno, hlt, hmn⟩ := id CTX
  obtain ⟨hx, hb, hml, hown, hts, hE, hB, hr, hlk⟩ := id CX
  have hcs := nz_le (mbT_X3_readRoles_120 mr7 mk164 x0 x1 x2 x3 x4 K M hf) hRc
  unfold bT_X3_readRoles_120 at hf
  refine lv_aload_n hx hb dX3_readRoles_120 rfl (lv_at hl 0 rfl) ?_
  obtain ⟨hk_x0_4, hf⟩ := gd_some hf
  refine cr_getR kc_3 CX hR fa_X3_9 rfl hk_x0_4 dX3_readRoles_121 ?_
  obtain ⟨a1, ha1, hf⟩ := nn_some hf
  refine rf_0 ha1 ?_
  obtain ⟨hk_a1_6, hf⟩ := gd_some hf
  refine cr_getR kc_5 CX hR fa_X3_200 rfl hk_a1_6 dX3_readRoles_124 ?_
  refine lv_iload hx hb dX3_readRoles_127 (lv_at hl 4 rfl) ?_
  obtain ⟨a2, ha2, hf⟩ := nn_some hf
  refine rf_1 ha2 ?_
  obtain ⟨hk_a2_26, hf⟩ := gd_some hf
  obtain ⟨hi, hf⟩ := ck_some hf
  refine cr_uald CX hR hk_a2_26 hi dX3_readRoles_129 ?_
  obtain ⟨a3, ha3, hf⟩ := nn_some hf
  refine rf_0 ha3 ?_
  obtain ⟨hk_a3_8, hf⟩ := gd_some hf
  refine cr_getI kc_7 CX hR fa_X3_173 rfl hk_a3_8 dX3_readRoles_130 ?_
  refine lv_if_eq (tgt := 142) hx hb dX3_readRoles_133 (by decide) (fun hc => ?_) (fun hc => ?_)
  · rw [if_pos hc] at hf
    exact (wbT_X3_readRoles_142 CTX hRm hRc mr7 mk164 hr7 hk164) _ _ _ _ _ _ _ _ _ _ hf hL hR hS (lv_sub hl [0, 1, 2, 3, 4] rfl)
  · rw [if_neg hc] at hf
    refine lv_aload_n hx hb dX3_readRoles_136 rfl (lv_at hl 0 rfl) ?_
    refine lv_bipush (v := 6) hx hb dX3_readRoles_137 (by decide) ?_
    rcases tb_some hf with ⟨o139, ho, hf⟩ | ⟨q, ho, rfl⟩
    · have hm1 := (mbT_X3_readRoles_142 mr7 mk164) _ _ _ _ _ _ _ hf
      have hb1 := nz_le hm1 hRc
      have hq1 := (mfT_X3_refuse _ _ _ _ ho)
      refine ta_callVv kc_3 CX hL hR hS (As := [.int 6]) (rest := []) hk_x0_4 (MT_X3_refuse l x hlt N _ _ _ _ _ ho) cv_X3_54 ⟨by omega, by omega⟩ rfl (Nat.le_of_ble_eq_true rfl) hl.1 hq1 hb1 rfl dX3_readRoles_139 (fun H locs hR hS => ?_)
      exact (wbT_X3_readRoles_142 CTX hRm hRc mr7 mk164 hr7 hk164) _ _ _ _ _ _ _ _ _ _ hf (hL.tr hq1) hR hS (lv_sub hl [0, 1, 2, 3, 4] rfl)
    · exact tx_callv kc_3 CTX hL hR hS (As := [.int 6]) (rest := []) hk_x0_4 (MT_X3_refuse l x hlt N _ _ _ _ _ ho) cv_X3_54 ⟨by omega, by omega⟩ rfl (Nat.le_of_ble_eq_true rfl) hl.1 (mfT_X3_refuse _ _ _ _ ho) hRc rfl dX3_readRoles_139
def bT_X3_readRoles_106 (N : Nat) (r7 : Nat → Nat → Int32 → Int32 → Ka → Cm → Option ((Ka × Cm) ⊕ (Ka × Cm))) (k164 : Nat → Ka → Cm → Option ((Ka × Cm) ⊕ (Ka × Cm))) (x0 : Nat) (x1 : Nat) (x2 : Int32) (x3 : Int32) (x4 : Int32) (K : Ka) (M : Cm) : Option ((Ka × Cm) ⊕ (Ka × Cm)) := gd (kd K x1 == 8) (if (cI M x1 7) < 6 then ((bT_X3_readRoles_120 N r7 k164) x0 x1 x2 x3 x4 K M) else (gd (kd K x0 == 4) (tb (fT_X3_refuse N x0 5 K M) fun o117 => (bT_X3_readRoles_120 N r7 k164) x0 x1 x2 x3 x4 o117.1 o117.2)))
theorem mbT_X3_readRoles_106 {o : (Ka × Cm) ⊕ (Ka × Cm)} {N : Nat} {r7 : Nat → Nat → Int32 → Int32 → Ka → Cm → Option ((Ka × Cm) ⊕ (Ka × Cm))} {k164 : Nat → Ka → Cm → Option ((Ka × Cm) ⊕ (Ka × Cm))} (mr7 : ∀ (x0 : Nat) (x1 : Nat) (x2 : Int32) (x3 : Int32) (K : Ka) (M : Cm) , r7 x0 x1 x2 x3 K M = some o → KLe K (oK sV o)) (mk164 : ∀ (x0 : Nat) (K : Ka) (M : Cm) , k164 x0 K M = some o → KLe K (oK sV o)) (x0 : Nat) (x1 : Nat) (x2 : Int32) (x3 : Int32) (x4 : Int32) (K : Ka) (M : Cm) (hf : bT_X3_readRoles_106 N r7 k164 x0 x1 x2 x3 x4 K M = some o) : KLe K (oK sV o) := by
  unfold bT_X3_readRoles_106 at hf
  obtain ⟨-, hf⟩ := gd_some hf
  by_cases hc : (cI M x1 7) < 6
  · rw [if_pos hc] at hf
    exact (mbT_X3_readRoles_120 mr7 mk164) _ _ _ _ _ _ _ hf
  · rw [if_neg hc] at hf
    obtain ⟨-, hf⟩ := gd_some hf
    rcases tb_some hf with ⟨o117, ho, hf⟩ | ⟨q, ho, rfl⟩
    · exact KLe.tr (mfT_X3_refuse _ _ _ _ ho) ((mbT_X3_readRoles_120 mr7 mk164) _ _ _ _ _ _ _ hf)
    · exact (mfT_X3_refuse _ _ _ _ ho)
set_option maxRecDepth 100000 in
set_option maxHeartbeats 4000000 in
theorem wbT_X3_readRoles_106 {p : Program} {l : Launch} {e : Env} {R : Room} {s : State} {m : MethodId} {args : Array Value} {below : List Frame} {meth : Method} {c : Code} {x : Xc} {K0 : Ka} {o : (Ka × Cm) ⊕ (Ka × Cm)} {N : Nat} {r7 : Nat → Nat → Int32 → Int32 → Ka → Cm → Option ((Ka × Cm) ⊕ (Ka × Cm))} {k164 : Nat → Ka → Cm → Option ((Ka × Cm) ⊕ (Ka × Cm))} (CTX : CT p l s m args meth c x K0 RX3 "readRoles" cX3_readRoles 5 none) (hRm : 7 ≤ R.frames ∧ 116 ≤ R.locals) (hRc : nz sV K0 o ≤ R.cells ∧ nu sV K0 o ≤ R.slots) (mr7 : ∀ (x0 : Nat) (x1 : Nat) (x2 : Int32) (x3 : Int32) (K : Ka) (M : Cm) , r7 x0 x1 x2 x3 K M = some o → KLe K (oK sV o)) (mk164 : ∀ (x0 : Nat) (K : Ka) (M : Cm) , k164 x0 K M = some o → KLe K (oK sV o)) (hr7 : ∀ (x0 : Nat) (x1 : Nat) (x2 : Int32) (x3 : Int32) (K : Ka) (M : Cm) (H : Heap) (locs : List Loc) (ls : Array Slot), r7 x0 x1 x2 x3 K M = some o → KLe K0 K → RC x K M H → va_S (AC K0) s.heap H locs → lv_has ls 5 [(0, .ref x0), (1, .ref x1), (2, .int x2), (3, .int x3)] → W p l e R s m args below meth c H locs (kz K - kz K0) (ku K - ku K0) (TQ sV (aQV x K0) (zQV K0) "java/lang/IllegalStateException" x K0 below args s o) (F0 m 7 ls [])) (hk164 : ∀ (x0 : Nat) (K : Ka) (M : Cm) (H : Heap) (locs : List Loc) (ls : Array Slot), k164 x0 K M = some o → KLe K0 K → RC x K M H → va_S (AC K0) s.heap H locs → lv_has ls 5 [(0, .ref x0)] → W p l e R s m args below meth c H locs (kz K - kz K0) (ku K - ku K0) (TQ sV (aQV x K0) (zQV K0) "java/lang/IllegalStateException" x K0 below args s o) (F0 m 164 ls [])) (x0 : Nat) (x1 : Nat) (x2 : Int32) (x3 : Int32) (x4 : Int32) (K : Ka) (M : Cm) (H : Heap) (locs : List Loc) (ls : Array Slot) (hf : bT_X3_readRoles_106 N r7 k164 x0 x1 x2 x3 x4 K M = some o) (hL : KLe K0 K) (hR : RC x K M H) (hS : va_S (AC K0) s.heap H locs) (hl : lv_has ls 5 [(0, .ref x0), (1, .ref x1), (2, .int x2), (3, .int x3), (4, .int x4)]) : W p l e R s m args below meth c H locs (kz K - kz K0) (ku K - ku K0) (TQ sV (aQV x K0) (zQV K0) "java/lang/IllegalStateException" x K0 below args s o) (F0 m 106 ls []) := by
  obtain ⟨CX, hno, hlt, hmn⟩ := id CTX
  obtain ⟨hx, hb, hml, hown, hts, hE, hB, hr, hlk⟩ := id CX
  have hcs := nz_le (mbT_X3_readRoles_106 mr7 mk164 x0 x1 x2 x3 x4 K M hf) hRc
  unfold bT_X3_readRoles_106 at hf
  refine lv_aload_n hx hb dX3_readRoles_106 rfl (lv_at hl 1 rfl) ?_
  obtain ⟨hk_x1_8, hf⟩ := gd_some hf
  refine cr_getI kc_7 CX hR fa_X3_208 rfl hk_x1_8 dX3_readRoles_107 ?_
  refine lv_bipush (v := 6) hx hb dX3_readRoles_110 (by decide) ?_
  refine lv_icmp_lt (tgt := 120) hx hb dX3_readRoles_112 (by decide) (fun hc => ?_) (fun hc => ?_)
  · rw [if_pos hc] at hf
    exact (wbT_X3_readRoles_120 CTX hRm hRc mr7 mk164 hr7 hk164) _ _ _ _ _ _ _ _ _ _ hf hL hR hS (lv_sub hl [0, 1, 2, 3, 4] rfl)
  · rw [if_neg hc] at hf
    refine lv_aload_n hx hb dX3_readRoles_115 rfl (lv_at hl 0 rfl) ?_
    refine lv_iconst (v := 5) hx hb dX3_readRoles_116 (by decide) ?_
    obtain ⟨hk_x0_4, hf⟩ := gd_some hf
    rcases tb_some hf with ⟨o117, ho, hf⟩ | ⟨q, ho, rfl⟩
    · have hm1 := (mbT_X3_readRoles_120 mr7 mk164) _ _ _ _ _ _ _ hf
      have hb1 := nz_le hm1 hRc
      have hq1 := (mfT_X3_refuse _ _ _ _ ho)
      refine ta_callVv kc_3 CX hL hR hS (As := [.int 5]) (rest := []) hk_x0_4 (MT_X3_refuse l x hlt N _ _ _ _ _ ho) cv_X3_54 ⟨by omega, by omega⟩ rfl (Nat.le_of_ble_eq_true rfl) hl.1 hq1 hb1 rfl dX3_readRoles_117 (fun H locs hR hS => ?_)
      exact (wbT_X3_readRoles_120 CTX hRm hRc mr7 mk164 hr7 hk164) _ _ _ _ _ _ _ _ _ _ hf (hL.tr hq1) hR hS (lv_sub hl [0, 1, 2, 3, 4] rfl)
    · exact tx_callv kc_3 CTX hL hR hS (As := [.int 5]) (rest := []) hk_x0_4 (MT_X3_refuse l x hlt N _ _ _ _ _ ho) cv_X3_54 ⟨by omega, by omega⟩ rfl (Nat.le_of_ble_eq_true rfl) hl.1 (mfT_X3_refuse _ _ _ _ ho) hRc rfl dX3_readRoles_117
def bT_X3_readRoles_92 (N : Nat) (r7 : Nat → Nat → Int32 → Int32 → Ka → Cm → Option ((Ka × Cm) ⊕ (Ka × Cm))) (k164 : Nat → Ka → Cm → Option ((Ka × Cm) ⊕ (Ka × Cm))) (x0 : Nat) (x1 : Nat) (x2 : Int32) (x3 : Int32) (x4 : Int32) (K : Ka) (M : Cm) : Option ((Ka × Cm) ⊕ (Ka × Cm)) := gd (kd K x1 == 8) ((fC_X7_hasRole N K x1 x4 M).bind fun o95 => if o95.1 = 0 then ((bT_X3_readRoles_106 N r7 k164) x0 x1 x2 x3 x4 K o95.2) else (gd (kd K x0 == 4) (tb (fT_X3_refuse N x0 3 K o95.2) fun o103 => (bT_X3_readRoles_106 N r7 k164) x0 x1 x2 x3 x4 o103.1 o103.2)))
theorem mbT_X3_readRoles_92 {o : (Ka × Cm) ⊕ (Ka × Cm)} {N : Nat} {r7 : Nat → Nat → Int32 → Int32 → Ka → Cm → Option ((Ka × Cm) ⊕ (Ka × Cm))} {k164 : Nat → Ka → Cm → Option ((Ka × Cm) ⊕ (Ka × Cm))} (mr7 : ∀ (x0 : Nat) (x1 : Nat) (x2 : Int32) (x3 : Int32) (K : Ka) (M : Cm) , r7 x0 x1 x2 x3 K M = some o → KLe K (oK sV o)) (mk164 : ∀ (x0 : Nat) (K : Ka) (M : Cm) , k164 x0 K M = some o → KLe K (oK sV o)) (x0 : Nat) (x1 : Nat) (x2 : Int32) (x3 : Int32) (x4 : Int32) (K : Ka) (M : Cm) (hf : bT_X3_readRoles_92 N r7 k164 x0 x1 x2 x3 x4 K M = some o) : KLe K (oK sV o) := by
  unfold bT_X3_readRoles_92 at hf
  obtain ⟨-, hf⟩ := gd_some hf
  obtain ⟨o95, -, hf⟩ := bnd_some hf
  by_cases hc : o95.1 = 0
  · rw [if_pos hc] at hf
    exact (mbT_X3_readRoles_106 mr7 mk164) _ _ _ _ _ _ _ hf
  · rw [if_neg hc] at hf
    obtain ⟨-, hf⟩ := gd_some hf
    rcases tb_some hf with ⟨o103, ho, hf⟩ | ⟨q, ho, rfl⟩
    · exact KLe.tr (mfT_X3_refuse _ _ _ _ ho) ((mbT_X3_readRoles_106 mr7 mk164) _ _ _ _ _ _ _ hf)
    · exact (mfT_X3_refuse _ _ _ _ ho)
set_option maxRecDepth 100000 in
set_option maxHeartbeats 4000000 in
theorem wbT_X3_readRoles_92 {p : Program} {l : Launch} {e : Env} {R : Room} {s : State} {m : MethodId} {args : Array Value} {below : List Frame} {meth : Method} {c : Code} {x : Xc} {K0 : Ka} {o : (Ka × Cm) ⊕ (Ka × Cm)} {N : Nat} {r7 : Nat → Nat → Int32 → Int32 → Ka → Cm → Option ((Ka × Cm) ⊕ (Ka × Cm))} {k164 : Nat → Ka → Cm → Option ((Ka × Cm) ⊕ (Ka × Cm))} (CTX : CT p l s m args meth c x K0 RX3 "readRoles" cX3_readRoles 5 none) (hRm : 7 ≤ R.frames ∧ 116 ≤ R.locals) (hRc : nz sV K0 o ≤ R.cells ∧ nu sV K0 o ≤ R.slots) (mr7 : ∀ (x0 : Nat) (x1 : Nat) (x2 : Int32) (x3 : Int32) (K : Ka) (M : Cm) , r7 x0 x1 x2 x3 K M = some o → KLe K (oK sV o)) (mk164 : ∀ (x0 : Nat) (K : Ka) (M : Cm) , k164 x0 K M = some o → KLe K (oK sV o)) (hr7 : ∀ (x0 : Nat) (x1 : Nat) (x2 : Int32) (x3 : Int32) (K : Ka) (M : Cm) (H : Heap) (locs : List Loc) (ls : Array Slot), r7 x0 x1 x2 x3 K M = some o → KLe K0 K → RC x K M H → va_S (AC K0) s.heap H locs → lv_has ls 5 [(0, .ref x0), (1, .ref x1), (2, .int x2), (3, .int x3)] → W p l e R s m args below meth c H locs (kz K - kz K0) (ku K - ku K0) (TQ sV (aQV x K0) (zQV K0) "java/lang/IllegalStateException" x K0 below args s o) (F0 m 7 ls [])) (hk164 : ∀ (x0 : Nat) (K : Ka) (M : Cm) (H : Heap) (locs : List Loc) (ls : Array Slot), k164 x0 K M = some o → KLe K0 K → RC x K M H → va_S (AC K0) s.heap H locs → lv_has ls 5 [(0, .ref x0)] → W p l e R s m args below meth c H locs (kz K - kz K0) (ku K - ku K0) (TQ sV (aQV x K0) (zQV K0) "java/lang/IllegalStateException" x K0 below args s o) (F0 m 164 ls [])) (x0 : Nat) (x1 : Nat) (x2 : Int32) (x3 : Int32) (x4 : Int32) (K : Ka) (M : Cm) (H : Heap) (locs : List Loc) (ls : Array Slot) (hf : bT_X3_readRoles_92 N r7 k164 x0 x1 x2 x3 x4 K M = some o) (hL : KLe K0 K) (hR : RC x K M H) (hS : va_S (AC K0) s.heap H locs) (hl : lv_has ls 5 [(0, .ref x0), (1, .ref x1), (2, .int x2), (3, .int x3), (4, .int x4)]) : W p l e R s m args below meth c H locs (kz K - kz K0) (ku K - ku K0) (TQ sV (aQV x K0) (zQV K0) "java/lang/IllegalStateException" x K0 below args s o) (F0 m 92 ls []) := by
  obtain ⟨CX, hno, hlt, hmn⟩ := id CTX
  obtain ⟨hx, hb, hml, hown, hts, hE, hB, hr, hlk⟩ := id CX
  have hcs := nz_le (mbT_X3_readRoles_92 mr7 mk164 x0 x1 x2 x3 x4 K M hf) hRc
  unfold bT_X3_readRoles_92 at hf
  refine lv_aload_n hx hb dX3_readRoles_92 rfl (lv_at hl 1 rfl) ?_
  refine lv_iload hx hb dX3_readRoles_93 (lv_at hl 4 rfl) ?_
  obtain ⟨hk_x1_8, hf⟩ := gd_some hf
  obtain ⟨o95, ho95, hf⟩ := bnd_some hf
  refine cr_callIv kc_7 CX hR hL hS (As := [.int x4]) (rest := []) hk_x1_8 (MC_X7_hasRole l x N K x1 x4 M o95 ho95) cv_X3_204 ⟨by omega, by omega⟩ rfl rfl (Nat.le_of_ble_eq_true rfl) hl.1 dX3_readRoles_95 hcs (fun H locs hR hS => ?_)
  refine lv_if_eq (tgt := 106) hx hb dX3_readRoles_98 (by decide) (fun hc => ?_) (fun hc => ?_)
  · rw [if_pos hc] at hf
    exact (wbT_X3_readRoles_106 CTX hRm hRc mr7 mk164 hr7 hk164) _ _ _ _ _ _ _ _ _ _ hf hL hR hS (lv_sub hl [0, 1, 2, 3, 4] rfl)
  · rw [if_neg hc] at hf
    refine lv_aload_n hx hb dX3_readRoles_101 rfl (lv_at hl 0 rfl) ?_
    refine lv_iconst (v := 3) hx hb dX3_readRoles_102 (by decide) ?_
    obtain ⟨hk_x0_4, hf⟩ := gd_some hf
    rcases tb_some hf with ⟨o103, ho, hf⟩ | ⟨q, ho, rfl⟩
    · have hm1 := (mbT_X3_readRoles_106 mr7 mk164) _ _ _ _ _ _ _ hf
      have hb1 := nz_le hm1 hRc
      have hq1 := (mfT_X3_refuse _ _ _ _ ho)
      refine ta_callVv kc_3 CX hL hR hS (As := [.int 3]) (rest := []) hk_x0_4 (MT_X3_refuse l x hlt N _ _ _ _ _ ho) cv_X3_54 ⟨by omega, by omega⟩ rfl (Nat.le_of_ble_eq_true rfl) hl.1 hq1 hb1 rfl dX3_readRoles_103 (fun H locs hR hS => ?_)
      exact (wbT_X3_readRoles_106 CTX hRm hRc mr7 mk164 hr7 hk164) _ _ _ _ _ _ _ _ _ _ hf (hL.tr hq1) hR hS (lv_sub hl [0, 1, 2, 3, 4] rfl)
    · exact tx_callv kc_3 CTX hL hR hS (As := [.int 3]) (rest := []) hk_x0_4 (MT_X3_refuse l x hlt N _ _ _ _ _ ho) cv_X3_54 ⟨by omega, by omega⟩ rfl (Nat.le_of_ble_eq_true rfl) hl.1 (mfT_X3_refuse _ _ _ _ ho) hRc rfl dX3_readRoles_103
def bT_X3_readRoles_52 (N : Nat) (r7 : Nat → Nat → Int32 → Int32 → Ka → Cm → Option ((Ka × Cm) ⊕ (Ka × Cm))) (k164 : Nat → Ka → Cm → Option ((Ka × Cm) ⊕ (Ka × Cm))) (x0 : Nat) (x1 : Nat) (x2 : Int32) (x3 : Int32) (K : Ka) (M : Cm) : Option ((Ka × Cm) ⊕ (Ka × Cm)) := gd (kd K x0 == 4) (nn (cR M x0 0) fun a1 => gd (kd K a1 == 7) ((fC_X6_valueAt N K a1 (cI M x0 2) M).bind fun o60 => nn (cR o60.2 x0 1) fun a2 => gd (kd K a2 == 6) (nn (cR o60.2 x0 1) fun a3 => gd (kd K a3 == 6) (nn (cR o60.2 a2 4) fun a4 => (fC_X8_rankOf N K o60.1 a4 (cI o60.2 a3 11) o60.2).bind fun o77 => if 0 ≤ o77.1 then ((bT_X3_readRoles_92 N r7 k164) x0 x1 x2 x3 o77.1 K o77.2) else (tb (fT_X3_refuse N x0 2 K o77.2) fun o89 => (bT_X3_readRoles_92 N r7 k164) x0 x1 x2 x3 o77.1 o89.1 o89.2)))))
theorem mbT_X3_readRoles_52 {o : (Ka × Cm) ⊕ (Ka × Cm)} {N : Nat} {r7 : Nat → Nat → Int32 → Int32 → Ka → Cm → Option ((Ka × Cm) ⊕ (Ka × Cm))} {k164 : Nat → Ka → Cm → Option ((Ka × Cm) ⊕ (Ka × Cm))} (mr7 : ∀ (x0 : Nat) (x1 : Nat) (x2 : Int32) (x3 : Int32) (K : Ka) (M : Cm) , r7 x0 x1 x2 x3 K M = some o → KLe K (oK sV o)) (mk164 : ∀ (x0 : Nat) (K : Ka) (M : Cm) , k164 x0 K M = some o → KLe K (oK sV o)) (x0 : Nat) (x1 : Nat) (x2 : Int32) (x3 : Int32) (K : Ka) (M : Cm) (hf : bT_X3_readRoles_52 N r7 k164 x0 x1 x2 x3 K M = some o) : KLe K (oK sV o) := by
  unfold bT_X3_readRoles_52 at hf
  obtain ⟨-, hf⟩ := gd_some hf
  obtain ⟨a1, -, hf⟩ := nn_some hf
  obtain ⟨-, hf⟩ := gd_some hf
  obtain ⟨o60, -, hf⟩ := bnd_some hf
  obtain ⟨a2, -, hf⟩ := nn_some hf
  obtain ⟨-, hf⟩ := gd_some hf
  obtain ⟨a3, -, hf⟩ := nn_some hf
  obtain ⟨-, hf⟩ := gd_some hf
  obtain ⟨a4, -, hf⟩ := nn_some hf
  obtain ⟨o77, -, hf⟩ := bnd_some hf
  by_cases hc : 0 ≤ o77.1
  · rw [if_pos hc] at hf
    exact (mbT_X3_readRoles_92 mr7 mk164) _ _ _ _ _ _ _ hf
  · rw [if_neg hc] at hf
    rcases tb_some hf with ⟨o89, ho, hf⟩ | ⟨q, ho, rfl⟩
    · exact KLe.tr (mfT_X3_refuse _ _ _ _ ho) ((mbT_X3_readRoles_92 mr7 mk164) _ _ _ _ _ _ _ hf)
    · exact (mfT_X3_refuse _ _ _ _ ho)
set_option maxRecDepth 100000 in
set_option maxHeartbeats 4000000 in
theorem wbT_X3_readRoles_52 {p : Program} {l : Launch} {e : Env} {R : Room} {s : State} {m : MethodId} {args : Array Value} {below : List Frame} {meth : Method} {c : Code} {x : Xc} {K0 : Ka} {o : (Ka × Cm) ⊕ (Ka × Cm)} {N : Nat} {r7 : Nat → Nat → Int32 → Int32 → Ka → Cm → Option ((Ka × Cm) ⊕ (Ka × Cm))} {k164 : Nat → Ka → Cm → Option ((Ka × Cm) ⊕ (Ka × Cm))} (CTX : CT p l s m args meth c x K0 RX3 "readRoles" cX3_readRoles 5 none) (hRm : 7 ≤ R.frames ∧ 116 ≤ R.locals) (hRc : nz sV K0 o ≤ R.cells ∧ nu sV K0 o ≤ R.slots) (mr7 : ∀ (x0 : Nat) (x1 : Nat) (x2 : Int32) (x3 : Int32) (K : Ka) (M : Cm) , r7 x0 x1 x2 x3 K M = some o → KLe K (oK sV o)) (mk164 : ∀ (x0 : Nat) (K : Ka) (M : Cm) , k164 x0 K M = some o → KLe K (oK sV o)) (hr7 : ∀ (x0 : Nat) (x1 : Nat) (x2 : Int32) (x3 : Int32) (K : Ka) (M : Cm) (H : Heap) (locs : List Loc) (ls : Array Slot), r7 x0 x1 x2 x3 K M = some o → KLe K0 K → RC x K M H → va_S (AC K0) s.heap H locs → lv_has ls 5 [(0, .ref x0), (1, .ref x1), (2, .int x2), (3, .int x3)] → W p l e R s m args below meth c H locs (kz K - kz K0) (ku K - ku K0) (TQ sV (aQV x K0) (zQV K0) "java/lang/IllegalStateException" x K0 below args s o) (F0 m 7 ls [])) (hk164 : ∀ (x0 : Nat) (K : Ka) (M : Cm) (H : Heap) (locs : List Loc) (ls : Array Slot), k164 x0 K M = some o → KLe K0 K → RC x K M H → va_S (AC K0) s.heap H locs → lv_has ls 5 [(0, .ref x0)] → W p l e R s m args below meth c H locs (kz K - kz K0) (ku K - ku K0) (TQ sV (aQV x K0) (zQV K0) "java/lang/IllegalStateException" x K0 below args s o) (F0 m 164 ls [])) (x0 : Nat) (x1 : Nat) (x2 : Int32) (x3 : Int32) (K : Ka) (M : Cm) (H : Heap) (locs : List Loc) (ls : Array Slot) (hf : bT_X3_readRoles_52 N r7 k164 x0 x1 x2 x3 K M = some o) (hL : KLe K0 K) (hR : RC x K M H) (hS : va_S (AC K0) s.heap H locs) (hl : lv_has ls 5 [(0, .ref x0), (1, .ref x1), (2, .int x2), (3, .int x3)]) : W p l e R s m args below meth c H locs (kz K - kz K0) (ku K - ku K0) (TQ sV (aQV x K0) (zQV K0) "java/lang/IllegalStateException" x K0 below args s o) (F0 m 52 ls []) := by
  obtain ⟨CX, hno, hlt, hmn⟩ := id CTX
  obtain ⟨hx, hb, hml, hown, hts, hE, hB, hr, hlk⟩ := id CX
  have hcs := nz_le (mbT_X3_readRoles_52 mr7 mk164 x0 x1 x2 x3 K M hf) hRc
  unfold bT_X3_readRoles_52 at hf
  refine lv_aload_n hx hb dX3_readRoles_52 rfl (lv_at hl 0 rfl) ?_
  obtain ⟨hk_x0_4, hf⟩ := gd_some hf
  refine cr_getR kc_3 CX hR fa_X3_28 rfl hk_x0_4 dX3_readRoles_53 ?_
  refine lv_aload_n hx hb dX3_readRoles_56 rfl (lv_at hl 0 rfl) ?_
  refine cr_getI kc_3 CX hR fa_X3_15 rfl hk_x0_4 dX3_readRoles_57 ?_
  obtain ⟨a1, ha1, hf⟩ := nn_some hf
  refine rf_1 ha1 ?_
  obtain ⟨hk_a1_7, hf⟩ := gd_some hf
  obtain ⟨o60, ho60, hf⟩ := bnd_some hf
  refine cr_callLv kc_6 CX hR hL hS (As := [.int (cI M x0 2)]) (rest := []) hk_a1_7 (MC_X6_valueAt l x N K a1 (cI M x0 2) M o60 ho60) cv_X3_88 ⟨by omega, by omega⟩ rfl rfl (Nat.le_of_ble_eq_true rfl) hl.1 dX3_readRoles_60 hcs (fun H locs hR hS => ?_)
  refine lv_aload_n hx hb dX3_readRoles_63 rfl (lv_at hl 0 rfl) ?_
  refine cr_getR kc_3 CX hR fa_X3_9 rfl hk_x0_4 dX3_readRoles_64 ?_
  obtain ⟨a2, ha2, hf⟩ := nn_some hf
  refine rf_0 ha2 ?_
  obtain ⟨hk_a2_6, hf⟩ := gd_some hf
  refine cr_getR kc_5 CX hR fa_X3_197 rfl hk_a2_6 dX3_readRoles_67 ?_
  refine lv_aload_n hx hb dX3_readRoles_70 rfl (lv_at hl 0 rfl) ?_
  refine cr_getR kc_3 CX hR fa_X3_9 rfl hk_x0_4 dX3_readRoles_71 ?_
  obtain ⟨a3, ha3, hf⟩ := nn_some hf
  refine rf_0 ha3 ?_
  obtain ⟨hk_a3_6, hf⟩ := gd_some hf
  refine cr_getI kc_5 CX hR fa_X3_147 rfl hk_a3_6 dX3_readRoles_74 ?_
  obtain ⟨a4, ha4, hf⟩ := nn_some hf
  refine rf_1 ha4 ?_
  obtain ⟨o77, ho77, hf⟩ := bnd_some hf
  refine cr_callIs CX hR hL hS (As := [.long o60.1, .ref a4, .int (cI o60.2 a3 11)]) (rest := []) (MC_X8_rankOf l x N K o60.1 a4 (cI o60.2 a3 11) o60.2 o77 ho77) cs_X3_105 ⟨by omega, by omega⟩ rfl rfl (Nat.le_of_ble_eq_true rfl) hl.1 dX3_readRoles_77 hcs (fun H locs hR hS => ?_)
  refine lv_istore (lv' := [(4, .int o77.1), (0, .ref x0), (1, .ref x1), (2, .int x2), (3, .int x3)]) hx hb dX3_readRoles_80 hl (by decide) rfl (fun ls hl => ?_)
  refine lv_iload hx hb dX3_readRoles_82 (lv_at hl 0 rfl) ?_
  refine lv_if_ge (tgt := 92) hx hb dX3_readRoles_84 (by decide) (fun hc => ?_) (fun hc => ?_)
  · rw [if_pos hc] at hf
    exact (wbT_X3_readRoles_92 CTX hRm hRc mr7 mk164 hr7 hk164) _ _ _ _ _ _ _ _ _ _ hf hL hR hS (lv_sub hl [1, 2, 3, 4, 0] rfl)
  · rw [if_neg hc] at hf
    refine lv_aload_n hx hb dX3_readRoles_87 rfl (lv_at hl 1 rfl) ?_
    refine lv_iconst (v := 2) hx hb dX3_readRoles_88 (by decide) ?_
    rcases tb_some hf with ⟨o89, ho, hf⟩ | ⟨q, ho, rfl⟩
    · have hm1 := (mbT_X3_readRoles_92 mr7 mk164) _ _ _ _ _ _ _ hf
      have hb1 := nz_le hm1 hRc
      have hq1 := (mfT_X3_refuse _ _ _ _ ho)
      refine ta_callVv kc_3 CX hL hR hS (As := [.int 2]) (rest := []) hk_x0_4 (MT_X3_refuse l x hlt N _ _ _ _ _ ho) cv_X3_54 ⟨by omega, by omega⟩ rfl (Nat.le_of_ble_eq_true rfl) hl.1 hq1 hb1 rfl dX3_readRoles_89 (fun H locs hR hS => ?_)
      exact (wbT_X3_readRoles_92 CTX hRm hRc mr7 mk164 hr7 hk164) _ _ _ _ _ _ _ _ _ _ hf (hL.tr hq1) hR hS (lv_sub hl [1, 2, 3, 4, 0] rfl)
    · exact tx_callv kc_3 CTX hL hR hS (As := [.int 2]) (rest := []) hk_x0_4 (MT_X3_refuse l x hlt N _ _ _ _ _ ho) cv_X3_54 ⟨by omega, by omega⟩ rfl (Nat.le_of_ble_eq_true rfl) hl.1 (mfT_X3_refuse _ _ _ _ ho) hRc rfl dX3_readRoles_89
def lT_X3_readRoles_7 (N : Nat) (k164 : Nat → Ka → Cm → Option ((Ka × Cm) ⊕ (Ka × Cm))) : Nat → Nat → Nat → Int32 → Int32 → Ka → Cm → Option ((Ka × Cm) ⊕ (Ka × Cm))
  | 0, _, _, _, _, _, _ => none
  | n + 1, x0, x1, x2, x3, K, M => gd (kd K x0 == 4) (nn (cR M x0 0) fun a1 => gd (kd K a1 == 7) (if (cI M a1 6) ≤ x3 then (k164 x0 K M) else (if (cI M x0 3) = x2 then ((fC_X3_moveTo N K x0 ((cI M x0 2) + 1) M).bind fun o33 => if (cI o33 x0 3) = 2 then ((bT_X3_readRoles_52 N (lT_X3_readRoles_7 N k164 n) k164) x0 x1 44 x3 K o33) else (tb (fT_X3_refuse N x0 1 K o33) fun o49 => (bT_X3_readRoles_52 N (lT_X3_readRoles_7 N k164 n) k164) x0 x1 44 x3 o49.1 o49.2)) else (k164 x0 K M))))
theorem mlT_X3_readRoles_7 {o : (Ka × Cm) ⊕ (Ka × Cm)} {N : Nat} {k164 : Nat → Ka → Cm → Option ((Ka × Cm) ⊕ (Ka × Cm))} (mk164 : ∀ (x0 : Nat) (K : Ka) (M : Cm) , k164 x0 K M = some o → KLe K (oK sV o)) : ∀ (n : Nat) (x0 : Nat) (x1 : Nat) (x2 : Int32) (x3 : Int32) (K : Ka) (M : Cm), lT_X3_readRoles_7 N k164 n x0 x1 x2 x3 K M = some o → KLe K (oK sV o) := by
  intro n
  induction n with
  | zero => intro x0 x1 x2 x3 K M hf; cases hf
  | succ n ih =>
    intro x0 x1 x2 x3 K M hf
    rw [lT_X3_readRoles_7] at hf
    obtain ⟨-, hf⟩ := gd_some hf
    obtain ⟨a1, -, hf⟩ := nn_some hf
    obtain ⟨-, hf⟩ := gd_some hf
    by_cases hc : (cI M a1 6) ≤ x3
    · rw [if_pos hc] at hf
      exact mk164 _ _ _ hf
    · rw [if_neg hc] at hf
      by_cases hc : (cI M x0 3) = x2
      · rw [if_pos hc] at hf
        obtain ⟨o33, -, hf⟩ := bnd_some hf
        by_cases hc : (cI o33 x0 3) = 2
        · rw [if_pos hc] at hf
          exact (mbT_X3_readRoles_52 ih mk164) _ _ _ _ _ _ hf
        · rw [if_neg hc] at hf
          rcases tb_some hf with ⟨o49, ho, hf⟩ | ⟨q, ho, rfl⟩
          · exact KLe.tr (mfT_X3_refuse _ _ _ _ ho) ((mbT_X3_readRoles_52 ih mk164) _ _ _ _ _ _ hf)
          · exact (mfT_X3_refuse _ _ _ _ ho)
      · rw [if_neg hc] at hf
        exact mk164 _ _ _ hf
set_option maxRecDepth 100000 in
set_option maxHeartbeats 4000000 in
theorem wlT_X3_readRoles_7 {p : Program} {l : Launch} {e : Env} {R : Room} {s : State} {m : MethodId} {args : Array Value} {below : List Frame} {meth : Method} {c : Code} {x : Xc} {K0 : Ka} {o : (Ka × Cm) ⊕ (Ka × Cm)} {N : Nat} {k164 : Nat → Ka → Cm → Option ((Ka × Cm) ⊕ (Ka × Cm))} (CTX : CT p l s m args meth c x K0 RX3 "readRoles" cX3_readRoles 5 none) (hRm : 7 ≤ R.frames ∧ 116 ≤ R.locals) (hRc : nz sV K0 o ≤ R.cells ∧ nu sV K0 o ≤ R.slots) (mk164 : ∀ (x0 : Nat) (K : Ka) (M : Cm) , k164 x0 K M = some o → KLe K (oK sV o)) (hk164 : ∀ (x0 : Nat) (K : Ka) (M : Cm) (H : Heap) (locs : List Loc) (ls : Array Slot), k164 x0 K M = some o → KLe K0 K → RC x K M H → va_S (AC K0) s.heap H locs → lv_has ls 5 [(0, .ref x0)] → W p l e R s m args below meth c H locs (kz K - kz K0) (ku K - ku K0) (TQ sV (aQV x K0) (zQV K0) "java/lang/IllegalStateException" x K0 below args s o) (F0 m 164 ls [])) : ∀ (n : Nat) (x0 : Nat) (x1 : Nat) (x2 : Int32) (x3 : Int32) (K : Ka) (M : Cm) (H : Heap) (locs : List Loc) (ls : Array Slot), lT_X3_readRoles_7 N k164 n x0 x1 x2 x3 K M = some o → KLe K0 K → RC x K M H → va_S (AC K0) s.heap H locs → lv_has ls 5 [(0, .ref x0), (1, .ref x1), (2, .int x2), (3, .int x3)] → W p l e R s m args below meth c H locs (kz K - kz K0) (ku K - ku K0) (TQ sV (aQV x K0) (zQV K0) "java/lang/IllegalStateException" x K0 below args s o) (F0 m 7 ls []) := by
  obtain ⟨CX, hno, hlt, hmn⟩ := id CTX
  obtain ⟨hx, hb, hml, hown, hts, hE, hB, hr, hlk⟩ := id CX
  intro n
  induction n with
  | zero => intro x0 x1 x2 x3 K M H locs ls hf; cases hf
  | succ n ih =>
    intro x0 x1 x2 x3 K M H locs ls hf hL hR hS hl
    have hcs := nz_le (mlT_X3_readRoles_7 mk164 (n + 1) x0 x1 x2 x3 K M hf) hRc
    rw [lT_X3_readRoles_7] at hf
    refine lv_iload_n hx hb dX3_readRoles_7 rfl (lv_at hl 3 rfl) ?_
    refine lv_aload_n hx hb dX3_readRoles_8 rfl (lv_at hl 0 rfl) ?_
    obtain ⟨hk_x0_4, hf⟩ := gd_some hf
    refine cr_getR kc_3 CX hR fa_X3_28 rfl hk_x0_4 dX3_readRoles_9 ?_
    obtain ⟨a1, ha1, hf⟩ := nn_some hf
    refine rf_0 ha1 ?_
    obtain ⟨hk_a1_7, hf⟩ := gd_some hf
    refine cr_getI kc_6 CX hR fa_X3_34 rfl hk_a1_7 dX3_readRoles_12 ?_
    refine lv_icmp_ge (tgt := 164) hx hb dX3_readRoles_15 (by decide) (fun hc => ?_) (fun hc => ?_)
    · rw [if_pos hc] at hf
      exact hk164 _ _ _ _ _ _ hf hL hR hS (lv_sub hl [0] rfl)
    · rw [if_neg hc] at hf
      refine lv_aload_n hx hb dX3_readRoles_18 rfl (lv_at hl 0 rfl) ?_
      refine cr_getI kc_3 CX hR fa_X3_19 rfl hk_x0_4 dX3_readRoles_19 ?_
      refine lv_iload_n hx hb dX3_readRoles_22 rfl (lv_at hl 2 rfl) ?_
      refine lv_icmp_ne (tgt := 164) hx hb dX3_readRoles_23 (by decide) (fun hc => ?_) (fun hc => ?_)
      · rw [if_neg hc] at hf
        exact hk164 _ _ _ _ _ _ hf hL hR hS (lv_sub hl [0] rfl)
      · rw [if_pos hc] at hf
        refine lv_aload_n hx hb dX3_readRoles_26 rfl (lv_at hl 0 rfl) ?_
        refine lv_aload_n hx hb dX3_readRoles_27 rfl (lv_at hl 0 rfl) ?_
        refine cr_getI kc_3 CX hR fa_X3_15 rfl hk_x0_4 dX3_readRoles_28 ?_
        refine lv_iconst (v := 1) hx hb dX3_readRoles_31 (by decide) ?_
        refine lv_iadd hx hb dX3_readRoles_32 ?_
        obtain ⟨o33, ho33, hf⟩ := bnd_some hf
        refine cr_callVv kc_3 CX hR hL hS (As := [.int ((cI M x0 2) + 1)]) (rest := []) hk_x0_4 (MC_X3_moveTo l x N K x0 ((cI M x0 2) + 1) M o33 ho33) cv_X3_42 ⟨by omega, by omega⟩ rfl rfl (Nat.le_of_ble_eq_true rfl) hl.1 dX3_readRoles_33 hcs (fun H locs hR hS => ?_)
        refine lv_bipush (v := 44) hx hb dX3_readRoles_36 (by decide) ?_
        refine lv_istore_n (lv' := [(2, .int 44), (0, .ref x0), (1, .ref x1), (3, .int x3)]) hx hb dX3_readRoles_38 rfl hl (by decide) rfl (fun ls hl => ?_)
        refine lv_aload_n hx hb dX3_readRoles_39 rfl (lv_at hl 1 rfl) ?_
        refine cr_getI kc_3 CX hR fa_X3_19 rfl hk_x0_4 dX3_readRoles_40 ?_
        refine lv_iconst (v := 2) hx hb dX3_readRoles_43 (by decide) ?_
        refine lv_icmp_eq (tgt := 52) hx hb dX3_readRoles_44 (by decide) (fun hc => ?_) (fun hc => ?_)
        · rw [if_pos hc] at hf
          exact (wbT_X3_readRoles_52 CTX hRm hRc (mlT_X3_readRoles_7 mk164 n) mk164 ih hk164) _ _ _ _ _ _ _ _ _ hf hL hR hS (lv_sub hl [1, 2, 0, 3] rfl)
        · rw [if_neg hc] at hf
          refine lv_aload_n hx hb dX3_readRoles_47 rfl (lv_at hl 1 rfl) ?_
          refine lv_iconst (v := 1) hx hb dX3_readRoles_48 (by decide) ?_
          rcases tb_some hf with ⟨o49, ho, hf⟩ | ⟨q, ho, rfl⟩
          · have hm1 := (mbT_X3_readRoles_52 (mlT_X3_readRoles_7 mk164 n) mk164) _ _ _ _ _ _ hf
            have hb1 := nz_le hm1 hRc
            have hq1 := (mfT_X3_refuse _ _ _ _ ho)
            refine ta_callVv kc_3 CX hL hR hS (As := [.int 1]) (rest := []) hk_x0_4 (MT_X3_refuse l x hlt N _ _ _ _ _ ho) cv_X3_54 ⟨by omega, by omega⟩ rfl (Nat.le_of_ble_eq_true rfl) hl.1 hq1 hb1 rfl dX3_readRoles_49 (fun H locs hR hS => ?_)
            exact (wbT_X3_readRoles_52 CTX hRm hRc (mlT_X3_readRoles_7 mk164 n) mk164 ih hk164) _ _ _ _ _ _ _ _ _ hf (hL.tr hq1) hR hS (lv_sub hl [1, 2, 0, 3] rfl)
          · exact tx_callv kc_3 CTX hL hR hS (As := [.int 1]) (rest := []) hk_x0_4 (MT_X3_refuse l x hlt N _ _ _ _ _ ho) cv_X3_54 ⟨by omega, by omega⟩ rfl (Nat.le_of_ble_eq_true rfl) hl.1 (mfT_X3_refuse _ _ _ _ ho) hRc rfl dX3_readRoles_49
def bT_X3_readRoles_164 (N : Nat) (x0 : Nat) (K : Ka) (M : Cm) : Option ((Ka × Cm) ⊕ (Ka × Cm)) := some (.inl (K, M))
theorem mbT_X3_readRoles_164 {o : (Ka × Cm) ⊕ (Ka × Cm)} {N : Nat}  (x0 : Nat) (K : Ka) (M : Cm) (hf : bT_X3_readRoles_164 N x0 K M = some o) : KLe K (oK sV o) := by
  unfold bT_X3_readRoles_164 at hf
  cases hf
  exact KLe.rf _
set_option maxRecDepth 100000 in
set_option maxHeartbeats 4000000 in
theorem wbT_X3_readRoles_164 {p : Program} {l : Launch} {e : Env} {R : Room} {s : State} {m : MethodId} {args : Array Value} {below : List Frame} {meth : Method} {c : Code} {x : Xc} {K0 : Ka} {o : (Ka × Cm) ⊕ (Ka × Cm)} {N : Nat} (CTX : CT p l s m args meth c x K0 RX3 "readRoles" cX3_readRoles 5 none) (hRm : 7 ≤ R.frames ∧ 116 ≤ R.locals) (hRc : nz sV K0 o ≤ R.cells ∧ nu sV K0 o ≤ R.slots) (x0 : Nat) (K : Ka) (M : Cm) (H : Heap) (locs : List Loc) (ls : Array Slot) (hf : bT_X3_readRoles_164 N x0 K M = some o) (hL : KLe K0 K) (hR : RC x K M H) (hS : va_S (AC K0) s.heap H locs) (hl : lv_has ls 5 [(0, .ref x0)]) : W p l e R s m args below meth c H locs (kz K - kz K0) (ku K - ku K0) (TQ sV (aQV x K0) (zQV K0) "java/lang/IllegalStateException" x K0 below args s o) (F0 m 164 ls []) := by
  obtain ⟨CX, hno, hlt, hmn⟩ := id CTX
  obtain ⟨hx, hb, hml, hown, hts, hE, hB, hr, hlk⟩ := id CX
  have hcs := nz_le (mbT_X3_readRoles_164  x0 K M hf) hRc
  unfold bT_X3_readRoles_164 at hf
  exact tr_vret CX hR hS hf dX3_readRoles_164
def fT_X3_readRoles (N : Nat) (x0 : Nat) (x1 : Nat) (K : Ka) (M : Cm) : Option ((Ka × Cm) ⊕ (Ka × Cm)) := gd (kd K x0 == 4) ((lT_X3_readRoles_7 N (bT_X3_readRoles_164 N) N) x0 x1 (cI M x0 3) 0 K M)
theorem mfT_X3_readRoles {o : (Ka × Cm) ⊕ (Ka × Cm)} {N : Nat}  (x0 : Nat) (x1 : Nat) (K : Ka) (M : Cm) (hf : fT_X3_readRoles N x0 x1 K M = some o) : KLe K (oK sV o) := by
  unfold fT_X3_readRoles at hf
  obtain ⟨-, hf⟩ := gd_some hf
  exact (mlT_X3_readRoles_7 mbT_X3_readRoles_164 N) _ _ _ _ _ _ hf
set_option maxRecDepth 100000 in
set_option maxHeartbeats 4000000 in
theorem wfT_X3_readRoles {p : Program} {l : Launch} {e : Env} {R : Room} {s : State} {m : MethodId} {args : Array Value} {below : List Frame} {meth : Method} {c : Code} {x : Xc} {K0 : Ka} {o : (Ka × Cm) ⊕ (Ka × Cm)} {N : Nat} (CTX : CT p l s m args meth c x K0 RX3 "readRoles" cX3_readRoles 5 none) (hRm : 7 ≤ R.frames ∧ 116 ≤ R.locals) (hRc : nz sV K0 o ≤ R.cells ∧ nu sV K0 o ≤ R.slots) (x0 : Nat) (x1 : Nat) (K : Ka) (M : Cm) (H : Heap) (locs : List Loc) (ls : Array Slot) (hf : fT_X3_readRoles N x0 x1 K M = some o) (hL : KLe K0 K) (hR : RC x K M H) (hS : va_S (AC K0) s.heap H locs) (hl : lv_has ls 5 [(0, .ref x0), (1, .ref x1)]) : W p l e R s m args below meth c H locs (kz K - kz K0) (ku K - ku K0) (TQ sV (aQV x K0) (zQV K0) "java/lang/IllegalStateException" x K0 below args s o) (F0 m 0 ls []) := by
  obtain ⟨CX, hno, hlt, hmn⟩ := id CTX
  obtain ⟨hx, hb, hml, hown, hts, hE, hB, hr, hlk⟩ := id CX
  have hcs := nz_le (mfT_X3_readRoles  x0 x1 K M hf) hRc
  unfold fT_X3_readRoles at hf
  refine lv_aload_n hx hb dX3_readRoles_0 rfl (lv_at hl 0 rfl) ?_
  obtain ⟨hk_x0_4, hf⟩ := gd_some hf
  refine cr_getI kc_3 CX hR fa_X3_19 rfl hk_x0_4 dX3_readRoles_1 ?_
  refine lv_istore_n (lv' := [(2, .int (cI M x0 3)), (0, .ref x0), (1, .ref x1)]) hx hb dX3_readRoles_4 rfl hl (by decide) rfl (fun ls hl => ?_)
  refine lv_iconst (v := 0) hx hb dX3_readRoles_5 (by decide) ?_
  refine lv_istore_n (lv' := [(3, .int 0), (2, .int (cI M x0 3)), (0, .ref x0), (1, .ref x1)]) hx hb dX3_readRoles_6 rfl hl (by decide) rfl (fun ls hl => ?_)
  exact (wlT_X3_readRoles_7 CTX hRm hRc mbT_X3_readRoles_164 (wbT_X3_readRoles_164 CTX hRm hRc) N) _ _ _ _ _ _ _ _ _ hf hL hR hS (lv_sub hl [2, 3, 1, 0] rfl)
theorem MT_X3_readRoles (l : Launch) (x : Xc) (hlt : l.stackTraces = false) (N : Nat) (x0 : Nat) (x1 : Nat) (K : Ka) (M : Cm) (o : (Ka × Cm) ⊕ (Ka × Cm)) (hf : fT_X3_readRoles N x0 x1 K M = some o) : Tc sV (aQV x K) (zQV K) "java/lang/IllegalStateException" l x yX3_readRoles cX3_readRoles 5 none 7 116 [.ref x0, .ref x1] K M o :=
  tr_met RX3 "readRoles" hlt (by decide) rfl rfl (Nat.le_of_ble_eq_true rfl) (fun p e s m args below meth c ls CTX hR hl => wfT_X3_readRoles CTX ⟨Nat.le_refl _, Nat.le_refl _⟩ ⟨Nat.le_refl _, Nat.le_refl _⟩ x0 x1 K M s.heap [] ls hf (KLe.rf K) hR va_S.rf hl)
def lT_X5_addUnit_83 (N : Nat) (k119 : Nat → Int64 → Nat → Ka → Cm → Option ((Ka × Cm) ⊕ (Ka × Cm))) : Nat → Nat → Int64 → Nat → Int32 → Ka → Cm → Option ((Ka × Cm) ⊕ (Ka × Cm))
  | 0, _, _, _, _, _, _ => none
  | n + 1, x0, x1, x3, x5, K, M => gd (kd K x3 == 8) (if (cI M x3 7) ≤ x5 then (k119 x0 x1 x3 K M) else (gd (kd K x0 == 6) (nn (cR M x0 6) fun a1 => gd (kd K a1 == 22) (ck (cI M x0 11) (le K a1) (nn (cR M x3 2) fun a2 => gd (kd K a2 == 22) (ck x5 (le K a2) (ck (cI M x0 11) (le K a1) (lT_X5_addUnit_83 N k119 n x0 x1 x3 (x5 + 1) K (wI M a1 (cI M x0 11 : Int32).toNatClampNeg ((cI M a1 (cI M x0 11 : Int32).toNatClampNeg) ||| (1 <<< ((cI M a2 (x5 : Int32).toNatClampNeg) &&& 31))))))))))))
theorem mlT_X5_addUnit_83 {o : (Ka × Cm) ⊕ (Ka × Cm)} {N : Nat} {k119 : Nat → Int64 → Nat → Ka → Cm → Option ((Ka × Cm) ⊕ (Ka × Cm))} (mk119 : ∀ (x0 : Nat) (x1 : Int64) (x3 : Nat) (K : Ka) (M : Cm) , k119 x0 x1 x3 K M = some o → KLe K (oK sV o)) : ∀ (n : Nat) (x0 : Nat) (x1 : Int64) (x3 : Nat) (x5 : Int32) (K : Ka) (M : Cm), lT_X5_addUnit_83 N k119 n x0 x1 x3 x5 K M = some o → KLe K (oK sV o) := by
  intro n
  induction n with
  | zero => intro x0 x1 x3 x5 K M hf; cases hf
  | succ n ih =>
    intro x0 x1 x3 x5 K M hf
    rw [lT_X5_addUnit_83] at hf
    obtain ⟨-, hf⟩ := gd_some hf
    by_cases hc : (cI M x3 7) ≤ x5
    · rw [if_pos hc] at hf
      exact mk119 _ _ _ _ _ hf
    · rw [if_neg hc] at hf
      obtain ⟨-, hf⟩ := gd_some hf
      obtain ⟨a1, -, hf⟩ := nn_some hf
      obtain ⟨-, hf⟩ := gd_some hf
      obtain ⟨-, hf⟩ := ck_some hf
      obtain ⟨a2, -, hf⟩ := nn_some hf
      obtain ⟨-, hf⟩ := gd_some hf
      obtain ⟨-, hf⟩ := ck_some hf
      obtain ⟨-, hf⟩ := ck_some hf
      exact ih _ _ _ _ _ _ hf
set_option maxRecDepth 100000 in
set_option maxHeartbeats 4000000 in
theorem wlT_X5_addUnit_83 {p : Program} {l : Launch} {e : Env} {R : Room} {s : State} {m : MethodId} {args : Array Value} {below : List Frame} {meth : Method} {c : Code} {x : Xc} {K0 : Ka} {o : (Ka × Cm) ⊕ (Ka × Cm)} {N : Nat} {k119 : Nat → Int64 → Nat → Ka → Cm → Option ((Ka × Cm) ⊕ (Ka × Cm))} (CTX : CT p l s m args meth c x K0 RX5 "addUnit" cX5_addUnit 6 none) (hRm : 7 ≤ R.frames ∧ 117 ≤ R.locals) (hRc : nz sV K0 o ≤ R.cells ∧ nu sV K0 o ≤ R.slots) (mk119 : ∀ (x0 : Nat) (x1 : Int64) (x3 : Nat) (K : Ka) (M : Cm) , k119 x0 x1 x3 K M = some o → KLe K (oK sV o)) (hk119 : ∀ (x0 : Nat) (x1 : Int64) (x3 : Nat) (K : Ka) (M : Cm) (H : Heap) (locs : List Loc) (ls : Array Slot), k119 x0 x1 x3 K M = some o → KLe K0 K → RC x K M H → va_S (AC K0) s.heap H locs → lv_has ls 6 [(0, .ref x0), (1, .long x1), (3, .ref x3)] → W p l e R s m args below meth c H locs (kz K - kz K0) (ku K - ku K0) (TQ sV (aQV x K0) (zQV K0) "java/lang/IllegalStateException" x K0 below args s o) (F0 m 119 ls [])) : ∀ (n : Nat) (x0 : Nat) (x1 : Int64) (x3 : Nat) (x5 : Int32) (K : Ka) (M : Cm) (H : Heap) (locs : List Loc) (ls : Array Slot), lT_X5_addUnit_83 N k119 n x0 x1 x3 x5 K M = some o → KLe K0 K → RC x K M H → va_S (AC K0) s.heap H locs → lv_has ls 6 [(0, .ref x0), (1, .long x1), (3, .ref x3), (5, .int x5)] → W p l e R s m args below meth c H locs (kz K - kz K0) (ku K - ku K0) (TQ sV (aQV x K0) (zQV K0) "java/lang/IllegalStateException" x K0 below args s o) (F0 m 83 ls []) := by
  obtain ⟨CX, hno, hlt, hmn⟩ := id CTX
  obtain ⟨hx, hb, hml, hown, hts, hE, hB, hr, hlk⟩ := id CX
  intro n
  induction n with
  | zero => intro x0 x1 x3 x5 K M H locs ls hf; cases hf
  | succ n ih =>
    intro x0 x1 x3 x5 K M H locs ls hf hL hR hS hl
    have hcs := nz_le (mlT_X5_addUnit_83 mk119 (n + 1) x0 x1 x3 x5 K M hf) hRc
    rw [lT_X5_addUnit_83] at hf
    refine lv_iload hx hb dX5_addUnit_83 (lv_at hl 3 rfl) ?_
    refine lv_aload_n hx hb dX5_addUnit_85 rfl (lv_at hl 2 rfl) ?_
    obtain ⟨hk_x3_8, hf⟩ := gd_some hf
    refine cr_getI kc_7 CX hR fa_X5_87 rfl hk_x3_8 dX5_addUnit_86 ?_
    refine lv_icmp_ge (tgt := 119) hx hb dX5_addUnit_89 (by decide) (fun hc => ?_) (fun hc => ?_)
    · rw [if_pos hc] at hf
      exact hk119 _ _ _ _ _ _ _ _ hf hL hR hS (lv_sub hl [0, 1, 2] rfl)
    · rw [if_neg hc] at hf
      refine lv_aload_n hx hb dX5_addUnit_92 rfl (lv_at hl 0 rfl) ?_
      obtain ⟨hk_x0_6, hf⟩ := gd_some hf
      refine cr_getR kc_5 CX hR fa_X5_53 rfl hk_x0_6 dX5_addUnit_93 ?_
      refine lv_aload_n hx hb dX5_addUnit_96 rfl (lv_at hl 0 rfl) ?_
      refine cr_getI kc_5 CX hR fa_X5_15 rfl hk_x0_6 dX5_addUnit_97 ?_
      obtain ⟨a1, ha1, hf⟩ := nn_some hf
      refine rf_1 ha1 ?_
      refine lv_dup2_11 hx hb dX5_addUnit_100 rfl rfl ?_
      obtain ⟨hk_a1_22, hf⟩ := gd_some hf
      obtain ⟨hi, hf⟩ := ck_some hf
      refine cr_iald CX hR hk_a1_22 hi dX5_addUnit_101 ?_
      refine lv_iconst (v := 1) hx hb dX5_addUnit_102 (by decide) ?_
      refine lv_aload_n hx hb dX5_addUnit_103 rfl (lv_at hl 2 rfl) ?_
      refine cr_getR kc_7 CX hR fa_X5_90 rfl hk_x3_8 dX5_addUnit_104 ?_
      refine lv_iload hx hb dX5_addUnit_107 (lv_at hl 3 rfl) ?_
      obtain ⟨a2, ha2, hf⟩ := nn_some hf
      refine rf_1 ha2 ?_
      obtain ⟨hk_a2_22, hf⟩ := gd_some hf
      obtain ⟨hi, hf⟩ := ck_some hf
      refine cr_iald CX hR hk_a2_22 hi dX5_addUnit_109 ?_
      refine lv_ishl hx hb dX5_addUnit_110 ?_
      refine lv_ior hx hb dX5_addUnit_111 ?_
      obtain ⟨hi, hf⟩ := ck_some hf
      refine cr_iast CX hR hL hS hk_a1_22 hi dX5_addUnit_112 (fun H locs hR hS => ?_)
      refine lv_iinc (v := x5 + 1) (lv' := [(5, .int (x5 + 1)), (0, .ref x0), (1, .long x1), (3, .ref x3)]) hx hb dX5_addUnit_113 hl (k := 3) rfl rfl (by decide) rfl (fun ls hl => ?_)
      refine lv_goto (tgt := 83) hx hb dX5_addUnit_116 (by decide) ?_
      exact ih _ _ _ _ _ _ _ _ _ hf hL hR hS (lv_sub hl [1, 2, 3, 0] rfl)
def bT_X5_addUnit_119 (N : Nat) (x0 : Nat) (x1 : Int64) (x3 : Nat) (K : Ka) (M : Cm) : Option ((Ka × Cm) ⊕ (Ka × Cm)) := gd (kd K x0 == 6) (nn (cR M x0 4) fun a1 => gd (kd K a1 == 23) (ck (cI M x0 11) (le K a1) (nn (cR (wL M a1 (cI M x0 11 : Int32).toNatClampNeg x1) x0 5) fun a2 => gd (kd K a2 == 26) (gd (kd K x3 == 8) (ck (cI (wL M a1 (cI M x0 11 : Int32).toNatClampNeg x1) x0 11) (le K a2) (some (.inl (K, wI (wR (wL M a1 (cI M x0 11 : Int32).toNatClampNeg x1) a2 (cI (wL M a1 (cI M x0 11 : Int32).toNatClampNeg x1) x0 11 : Int32).toNatClampNeg (some x3)) x0 11 ((cI (wR (wL M a1 (cI M x0 11 : Int32).toNatClampNeg x1) a2 (cI (wL M a1 (cI M x0 11 : Int32).toNatClampNeg x1) x0 11 : Int32).toNatClampNeg (some x3)) x0 11) + 1)))))))))
theorem mbT_X5_addUnit_119 {o : (Ka × Cm) ⊕ (Ka × Cm)} {N : Nat}  (x0 : Nat) (x1 : Int64) (x3 : Nat) (K : Ka) (M : Cm) (hf : bT_X5_addUnit_119 N x0 x1 x3 K M = some o) : KLe K (oK sV o) := by
  unfold bT_X5_addUnit_119 at hf
  obtain ⟨-, hf⟩ := gd_some hf
  obtain ⟨a1, -, hf⟩ := nn_some hf
  obtain ⟨-, hf⟩ := gd_some hf
  obtain ⟨-, hf⟩ := ck_some hf
  obtain ⟨a2, -, hf⟩ := nn_some hf
  obtain ⟨-, hf⟩ := gd_some hf
  obtain ⟨-, hf⟩ := gd_some hf
  obtain ⟨-, hf⟩ := ck_some hf
  cases hf
  exact KLe.rf _
set_option maxRecDepth 100000 in
set_option maxHeartbeats 4000000 in
theorem wbT_X5_addUnit_119 {p : Program} {l : Launch} {e : Env} {R : Room} {s : State} {m : MethodId} {args : Array Value} {below : List Frame} {meth : Method} {c : Code} {x : Xc} {K0 : Ka} {o : (Ka × Cm) ⊕ (Ka × Cm)} {N : Nat} (CTX : CT p l s m args meth c x K0 RX5 "addUnit" cX5_addUnit 6 none) (hRm : 7 ≤ R.frames ∧ 117 ≤ R.locals) (hRc : nz sV K0 o ≤ R.cells ∧ nu sV K0 o ≤ R.slots) (x0 : Nat) (x1 : Int64) (x3 : Nat) (K : Ka) (M : Cm) (H : Heap) (locs : List Loc) (ls : Array Slot) (hf : bT_X5_addUnit_119 N x0 x1 x3 K M = some o) (hL : KLe K0 K) (hR : RC x K M H) (hS : va_S (AC K0) s.heap H locs) (hl : lv_has ls 6 [(0, .ref x0), (1, .long x1), (3, .ref x3)]) : W p l e R s m args below meth c H locs (kz K - kz K0) (ku K - ku K0) (TQ sV (aQV x K0) (zQV K0) "java/lang/IllegalStateException" x K0 below args s o) (F0 m 119 ls []) := by
  obtain ⟨CX, hno, hlt, hmn⟩ := id CTX
  obtain ⟨hx, hb, hml, hown, hts, hE, hB, hr, hlk⟩ := id CX
  have hcs := nz_le (mbT_X5_addUnit_119  x0 x1 x3 K M hf) hRc
  unfold bT_X5_addUnit_119 at hf
  refine lv_aload_n hx hb dX5_addUnit_119 rfl (lv_at hl 0 rfl) ?_
  obtain ⟨hk_x0_6, hf⟩ := gd_some hf
  refine cr_getR kc_5 CX hR fa_X5_44 rfl hk_x0_6 dX5_addUnit_120 ?_
  refine lv_aload_n hx hb dX5_addUnit_123 rfl (lv_at hl 0 rfl) ?_
  refine cr_getI kc_5 CX hR fa_X5_15 rfl hk_x0_6 dX5_addUnit_124 ?_
  refine lv_lload_n hx hb dX5_addUnit_127 rfl (lv_at hl 1 rfl) ?_
  obtain ⟨a1, ha1, hf⟩ := nn_some hf
  refine rf_2 ha1 ?_
  obtain ⟨hk_a1_23, hf⟩ := gd_some hf
  obtain ⟨hi, hf⟩ := ck_some hf
  refine cr_last CX hR hL hS hk_a1_23 hi dX5_addUnit_128 (fun H locs hR hS => ?_)
  refine lv_aload_n hx hb dX5_addUnit_129 rfl (lv_at hl 0 rfl) ?_
  refine cr_getR kc_5 CX hR fa_X5_49 rfl hk_x0_6 dX5_addUnit_130 ?_
  refine lv_aload_n hx hb dX5_addUnit_133 rfl (lv_at hl 0 rfl) ?_
  refine cr_getI kc_5 CX hR fa_X5_15 rfl hk_x0_6 dX5_addUnit_134 ?_
  refine lv_aload_n hx hb dX5_addUnit_137 rfl (lv_at hl 2 rfl) ?_
  obtain ⟨a2, ha2, hf⟩ := nn_some hf
  refine rf_2 ha2 ?_
  obtain ⟨hk_a2_26, hf⟩ := gd_some hf
  obtain ⟨hk_x3_8, hf⟩ := gd_some hf
  obtain ⟨hi, hf⟩ := ck_some hf
  refine tr_aastu CX hR hL hS hk_a2_26 hk_x3_8 hi dX5_addUnit_138 (fun H locs hR hS => ?_)
  refine lv_aload_n hx hb dX5_addUnit_139 rfl (lv_at hl 0 rfl) ?_
  refine lv_dup hx hb dX5_addUnit_140 rfl ?_
  refine cr_getI kc_5 CX hR fa_X5_15 rfl hk_x0_6 dX5_addUnit_141 ?_
  refine lv_iconst (v := 1) hx hb dX5_addUnit_144 (by decide) ?_
  refine lv_iadd hx hb dX5_addUnit_145 ?_
  refine cr_putI kc_5 CX hR hL hS fa_X5_15 ⟨rfl, rfl, rfl⟩ hk_x0_6 dX5_addUnit_146 (fun H locs hR hS => ?_)
  exact tr_vret CX hR hS hf dX5_addUnit_149
def bT_X5_addUnit_80 (N : Nat) (x0 : Nat) (x1 : Int64) (x3 : Nat) (K : Ka) (M : Cm) : Option ((Ka × Cm) ⊕ (Ka × Cm)) := (lT_X5_addUnit_83 N (bT_X5_addUnit_119 N) N) x0 x1 x3 0 K M
theorem mbT_X5_addUnit_80 {o : (Ka × Cm) ⊕ (Ka × Cm)} {N : Nat}  (x0 : Nat) (x1 : Int64) (x3 : Nat) (K : Ka) (M : Cm) (hf : bT_X5_addUnit_80 N x0 x1 x3 K M = some o) : KLe K (oK sV o) := by
  unfold bT_X5_addUnit_80 at hf
  exact (mlT_X5_addUnit_83 mbT_X5_addUnit_119 N) _ _ _ _ _ _ hf
set_option maxRecDepth 100000 in
set_option maxHeartbeats 4000000 in
theorem wbT_X5_addUnit_80 {p : Program} {l : Launch} {e : Env} {R : Room} {s : State} {m : MethodId} {args : Array Value} {below : List Frame} {meth : Method} {c : Code} {x : Xc} {K0 : Ka} {o : (Ka × Cm) ⊕ (Ka × Cm)} {N : Nat} (CTX : CT p l s m args meth c x K0 RX5 "addUnit" cX5_addUnit 6 none) (hRm : 7 ≤ R.frames ∧ 117 ≤ R.locals) (hRc : nz sV K0 o ≤ R.cells ∧ nu sV K0 o ≤ R.slots) (x0 : Nat) (x1 : Int64) (x3 : Nat) (K : Ka) (M : Cm) (H : Heap) (locs : List Loc) (ls : Array Slot) (hf : bT_X5_addUnit_80 N x0 x1 x3 K M = some o) (hL : KLe K0 K) (hR : RC x K M H) (hS : va_S (AC K0) s.heap H locs) (hl : lv_has ls 6 [(0, .ref x0), (1, .long x1), (3, .ref x3)]) : W p l e R s m args below meth c H locs (kz K - kz K0) (ku K - ku K0) (TQ sV (aQV x K0) (zQV K0) "java/lang/IllegalStateException" x K0 below args s o) (F0 m 80 ls []) := by
  obtain ⟨CX, hno, hlt, hmn⟩ := id CTX
  obtain ⟨hx, hb, hml, hown, hts, hE, hB, hr, hlk⟩ := id CX
  have hcs := nz_le (mbT_X5_addUnit_80  x0 x1 x3 K M hf) hRc
  unfold bT_X5_addUnit_80 at hf
  refine lv_iconst (v := 0) hx hb dX5_addUnit_80 (by decide) ?_
  refine lv_istore (lv' := [(5, .int 0), (0, .ref x0), (1, .long x1), (3, .ref x3)]) hx hb dX5_addUnit_81 hl (by decide) rfl (fun ls hl => ?_)
  exact (wlT_X5_addUnit_83 CTX hRm hRc mbT_X5_addUnit_119 (wbT_X5_addUnit_119 CTX hRm hRc) N) _ _ _ _ _ _ _ _ _ hf hL hR hS (lv_sub hl [1, 2, 3, 0] rfl)
def bT_X5_addUnit_52 (N : Nat) (x0 : Nat) (x1 : Int64) (x3 : Nat) (s0 : Nat) (s1 : Nat) (K : Ka) (M : Cm) : Option ((Ka × Cm) ⊕ (Ka × Cm)) := gd (kd K s0 == 8) (gd (kd K x3 == 8) (if (cI (wR M s0 11 (some s1)) x3 6) < 0 then ((bT_X5_addUnit_80 N) x0 x1 x3 K (wR M s0 11 (some s1))) else (gd (kd K x0 == 6) (nn (cR (wR M s0 11 (some s1)) x0 6) fun a1 => gd (kd K a1 == 22) (ck (cI (wR M s0 11 (some s1)) x0 11) (le K a1) (ck (cI (wR M s0 11 (some s1)) x0 11) (le K a1) ((bT_X5_addUnit_80 N) x0 x1 x3 K (wI (wR M s0 11 (some s1)) a1 (cI (wR M s0 11 (some s1)) x0 11 : Int32).toNatClampNeg ((cI (wR M s0 11 (some s1)) a1 (cI (wR M s0 11 (some s1)) x0 11 : Int32).toNatClampNeg) ||| (1 <<< ((cI (wR M s0 11 (some s1)) x3 6) &&& 31)))))))))))
theorem mbT_X5_addUnit_52 {o : (Ka × Cm) ⊕ (Ka × Cm)} {N : Nat}  (x0 : Nat) (x1 : Int64) (x3 : Nat) (s0 : Nat) (s1 : Nat) (K : Ka) (M : Cm) (hf : bT_X5_addUnit_52 N x0 x1 x3 s0 s1 K M = some o) : KLe K (oK sV o) := by
  unfold bT_X5_addUnit_52 at hf
  obtain ⟨-, hf⟩ := gd_some hf
  obtain ⟨-, hf⟩ := gd_some hf
  by_cases hc : (cI (wR M s0 11 (some s1)) x3 6) < 0
  · rw [if_pos hc] at hf
    exact mbT_X5_addUnit_80 _ _ _ _ _ hf
  · rw [if_neg hc] at hf
    obtain ⟨-, hf⟩ := gd_some hf
    obtain ⟨a1, -, hf⟩ := nn_some hf
    obtain ⟨-, hf⟩ := gd_some hf
    obtain ⟨-, hf⟩ := ck_some hf
    obtain ⟨-, hf⟩ := ck_some hf
    exact mbT_X5_addUnit_80 _ _ _ _ _ hf
set_option maxRecDepth 100000 in
set_option maxHeartbeats 4000000 in
theorem wbT_X5_addUnit_52 {p : Program} {l : Launch} {e : Env} {R : Room} {s : State} {m : MethodId} {args : Array Value} {below : List Frame} {meth : Method} {c : Code} {x : Xc} {K0 : Ka} {o : (Ka × Cm) ⊕ (Ka × Cm)} {N : Nat} (CTX : CT p l s m args meth c x K0 RX5 "addUnit" cX5_addUnit 6 none) (hRm : 7 ≤ R.frames ∧ 117 ≤ R.locals) (hRc : nz sV K0 o ≤ R.cells ∧ nu sV K0 o ≤ R.slots) (x0 : Nat) (x1 : Int64) (x3 : Nat) (s0 : Nat) (s1 : Nat) (K : Ka) (M : Cm) (H : Heap) (locs : List Loc) (ls : Array Slot) (hf : bT_X5_addUnit_52 N x0 x1 x3 s0 s1 K M = some o) (hL : KLe K0 K) (hR : RC x K M H) (hS : va_S (AC K0) s.heap H locs) (hl : lv_has ls 6 [(0, .ref x0), (1, .long x1), (3, .ref x3)]) : W p l e R s m args below meth c H locs (kz K - kz K0) (ku K - ku K0) (TQ sV (aQV x K0) (zQV K0) "java/lang/IllegalStateException" x K0 below args s o) (F0 m 52 ls [.ref s1, .ref s0]) := by
  obtain ⟨CX, hno, hlt, hmn⟩ := id CTX
  obtain ⟨hx, hb, hml, hown, hts, hE, hB, hr, hlk⟩ := id CX
  have hcs := nz_le (mbT_X5_addUnit_52  x0 x1 x3 s0 s1 K M hf) hRc
  unfold bT_X5_addUnit_52 at hf
  obtain ⟨hk_s0_8, hf⟩ := gd_some hf
  refine cr_putR kc_7 CX hR hL hS (v := some s1) fa_X5_81 ⟨rfl, rfl, .inr ⟨_, rfl⟩⟩ hk_s0_8 dX5_addUnit_52 (fun H locs hR hS => ?_)
  refine lv_aload_n hx hb dX5_addUnit_55 rfl (lv_at hl 2 rfl) ?_
  obtain ⟨hk_x3_8, hf⟩ := gd_some hf
  refine cr_getI kc_7 CX hR fa_X5_84 rfl hk_x3_8 dX5_addUnit_56 ?_
  refine lv_if_lt (tgt := 80) hx hb dX5_addUnit_59 (by decide) (fun hc => ?_) (fun hc => ?_)
  · rw [if_pos hc] at hf
    exact (wbT_X5_addUnit_80 CTX hRm hRc) _ _ _ _ _ _ _ _ hf hL hR hS (lv_sub hl [0, 1, 2] rfl)
  · rw [if_neg hc] at hf
    refine lv_aload_n hx hb dX5_addUnit_62 rfl (lv_at hl 0 rfl) ?_
    obtain ⟨hk_x0_6, hf⟩ := gd_some hf
    refine cr_getR kc_5 CX hR fa_X5_53 rfl hk_x0_6 dX5_addUnit_63 ?_
    refine lv_aload_n hx hb dX5_addUnit_66 rfl (lv_at hl 0 rfl) ?_
    refine cr_getI kc_5 CX hR fa_X5_15 rfl hk_x0_6 dX5_addUnit_67 ?_
    obtain ⟨a1, ha1, hf⟩ := nn_some hf
    refine rf_1 ha1 ?_
    refine lv_dup2_11 hx hb dX5_addUnit_70 rfl rfl ?_
    obtain ⟨hk_a1_22, hf⟩ := gd_some hf
    obtain ⟨hi, hf⟩ := ck_some hf
    refine cr_iald CX hR hk_a1_22 hi dX5_addUnit_71 ?_
    refine lv_iconst (v := 1) hx hb dX5_addUnit_72 (by decide) ?_
    refine lv_aload_n hx hb dX5_addUnit_73 rfl (lv_at hl 2 rfl) ?_
    refine cr_getI kc_7 CX hR fa_X5_84 rfl hk_x3_8 dX5_addUnit_74 ?_
    refine lv_ishl hx hb dX5_addUnit_77 ?_
    refine lv_ior hx hb dX5_addUnit_78 ?_
    obtain ⟨hi, hf⟩ := ck_some hf
    refine cr_iast CX hR hL hS hk_a1_22 hi dX5_addUnit_79 (fun H locs hR hS => ?_)
    exact (wbT_X5_addUnit_80 CTX hRm hRc) _ _ _ _ _ _ _ _ hf hL hR hS (lv_sub hl [0, 1, 2] rfl)
def bT_X5_addUnit_36 (N : Nat) (x0 : Nat) (x1 : Int64) (x3 : Nat) (x4 : Nat) (s0 : Nat) (s1 : Nat) (K : Ka) (M : Cm) : Option ((Ka × Cm) ⊕ (Ka × Cm)) := gd (kd K s0 == 8) (gd (kd K x0 == 6) ((fC_X5_fillClimb N K x0 x3 x4 (wR M s0 10 (some s1))).bind fun o46 => ta (fT_J7_copyOf_59c91 N x4 o46.1 K o46.2) fun o49 => (bT_X5_addUnit_52 N) x0 x1 x3 x3 o49.1 o49.2.1 o49.2.2))
theorem mbT_X5_addUnit_36 {o : (Ka × Cm) ⊕ (Ka × Cm)} {N : Nat}  (x0 : Nat) (x1 : Int64) (x3 : Nat) (x4 : Nat) (s0 : Nat) (s1 : Nat) (K : Ka) (M : Cm) (hf : bT_X5_addUnit_36 N x0 x1 x3 x4 s0 s1 K M = some o) : KLe K (oK sV o) := by
  unfold bT_X5_addUnit_36 at hf
  obtain ⟨-, hf⟩ := gd_some hf
  obtain ⟨-, hf⟩ := gd_some hf
  obtain ⟨o46, -, hf⟩ := bnd_some hf
  obtain ⟨o49, ho, hf⟩ := ta_some hf
  exact KLe.tr (mfT_J7_copyOf_59c91 _ _ _ _ ho) (mbT_X5_addUnit_52 _ _ _ _ _ _ _ hf)
set_option maxRecDepth 100000 in
set_option maxHeartbeats 4000000 in
theorem wbT_X5_addUnit_36 {p : Program} {l : Launch} {e : Env} {R : Room} {s : State} {m : MethodId} {args : Array Value} {below : List Frame} {meth : Method} {c : Code} {x : Xc} {K0 : Ka} {o : (Ka × Cm) ⊕ (Ka × Cm)} {N : Nat} (CTX : CT p l s m args meth c x K0 RX5 "addUnit" cX5_addUnit 6 none) (hRm : 7 ≤ R.frames ∧ 117 ≤ R.locals) (hRc : nz sV K0 o ≤ R.cells ∧ nu sV K0 o ≤ R.slots) (x0 : Nat) (x1 : Int64) (x3 : Nat) (x4 : Nat) (s0 : Nat) (s1 : Nat) (K : Ka) (M : Cm) (H : Heap) (locs : List Loc) (ls : Array Slot) (hf : bT_X5_addUnit_36 N x0 x1 x3 x4 s0 s1 K M = some o) (hL : KLe K0 K) (hR : RC x K M H) (hS : va_S (AC K0) s.heap H locs) (hl : lv_has ls 6 [(0, .ref x0), (1, .long x1), (3, .ref x3), (4, .ref x4)]) : W p l e R s m args below meth c H locs (kz K - kz K0) (ku K - ku K0) (TQ sV (aQV x K0) (zQV K0) "java/lang/IllegalStateException" x K0 below args s o) (F0 m 36 ls [.ref s1, .ref s0]) := by
  obtain ⟨CX, hno, hlt, hmn⟩ := id CTX
  obtain ⟨hx, hb, hml, hown, hts, hE, hB, hr, hlk⟩ := id CX
  have hcs := nz_le (mbT_X5_addUnit_36  x0 x1 x3 x4 s0 s1 K M hf) hRc
  unfold bT_X5_addUnit_36 at hf
  obtain ⟨hk_s0_8, hf⟩ := gd_some hf
  refine cr_putR kc_7 CX hR hL hS (v := some s1) fa_X5_75 ⟨rfl, rfl, .inr ⟨_, rfl⟩⟩ hk_s0_8 dX5_addUnit_36 (fun H locs hR hS => ?_)
  refine lv_aload_n hx hb dX5_addUnit_39 rfl (lv_at hl 2 rfl) ?_
  refine lv_aload hx hb dX5_addUnit_40 (lv_at hl 3 rfl) ?_
  refine lv_aload_n hx hb dX5_addUnit_42 rfl (lv_at hl 0 rfl) ?_
  refine lv_aload_n hx hb dX5_addUnit_43 rfl (lv_at hl 2 rfl) ?_
  refine lv_aload hx hb dX5_addUnit_44 (lv_at hl 3 rfl) ?_
  obtain ⟨hk_x0_6, hf⟩ := gd_some hf
  obtain ⟨o46, ho46, hf⟩ := bnd_some hf
  refine cr_callIv kc_5 CX hR hL hS (As := [.ref x3, .ref x4]) (rest := [.ref x4, .ref x3]) hk_x0_6 (MC_X5_fillClimb l x N K x0 x3 x4 (wR M s0 10 (some s1)) o46 ho46) cv_X5_78 ⟨by omega, by omega⟩ rfl rfl (Nat.le_of_ble_eq_true rfl) hl.1 dX5_addUnit_46 hcs (fun H locs hR hS => ?_)
  obtain ⟨o49, ho, hf⟩ := ta_some hf
  have hm1 := mbT_X5_addUnit_52 _ _ _ _ _ _ _ hf
  have hb1 := nz_le hm1 hRc
  have hq1 := (mfT_J7_copyOf_59c91 _ _ _ _ ho)
  refine ta_callAs CX hL hR hS (As := [.ref x4, .int o46.1]) (rest := [.ref x3]) (MT_J7_copyOf_59c91 l x hlt N _ _ _ _ _ ho) cs_X5_69 ⟨by omega, by omega⟩ rfl (Nat.le_of_ble_eq_true rfl) hl.1 hq1 hb1 rfl dX5_addUnit_49 (fun H locs hR hS => ?_)
  exact (wbT_X5_addUnit_52 CTX hRm hRc) _ _ _ _ _ _ _ _ _ _ hf (hL.tr hq1) hR hS (lv_sub hl [0, 1, 2] rfl)
def bT_X5_addUnit_21 (N : Nat) (x0 : Nat) (x1 : Int64) (x3 : Nat) (s0 : Nat) (K : Ka) (M : Cm) : Option ((Ka × Cm) ⊕ (Ka × Cm)) := gd (kd K x0 == 6) ((fC_X5_fillSearch N K x0 x3 s0 M).bind fun o30 => ta (fT_J7_copyOf_59c91 N s0 o30.1 K o30.2) fun o33 => (bT_X5_addUnit_36 N) x0 x1 x3 s0 x3 o33.1 o33.2.1 o33.2.2)
theorem mbT_X5_addUnit_21 {o : (Ka × Cm) ⊕ (Ka × Cm)} {N : Nat}  (x0 : Nat) (x1 : Int64) (x3 : Nat) (s0 : Nat) (K : Ka) (M : Cm) (hf : bT_X5_addUnit_21 N x0 x1 x3 s0 K M = some o) : KLe K (oK sV o) := by
  unfold bT_X5_addUnit_21 at hf
  obtain ⟨-, hf⟩ := gd_some hf
  obtain ⟨o30, -, hf⟩ := bnd_some hf
  obtain ⟨o33, ho, hf⟩ := ta_some hf
  exact KLe.tr (mfT_J7_copyOf_59c91 _ _ _ _ ho) (mbT_X5_addUnit_36 _ _ _ _ _ _ _ _ hf)
set_option maxRecDepth 100000 in
set_option maxHeartbeats 4000000 in
theorem wbT_X5_addUnit_21 {p : Program} {l : Launch} {e : Env} {R : Room} {s : State} {m : MethodId} {args : Array Value} {below : List Frame} {meth : Method} {c : Code} {x : Xc} {K0 : Ka} {o : (Ka × Cm) ⊕ (Ka × Cm)} {N : Nat} (CTX : CT p l s m args meth c x K0 RX5 "addUnit" cX5_addUnit 6 none) (hRm : 7 ≤ R.frames ∧ 117 ≤ R.locals) (hRc : nz sV K0 o ≤ R.cells ∧ nu sV K0 o ≤ R.slots) (x0 : Nat) (x1 : Int64) (x3 : Nat) (s0 : Nat) (K : Ka) (M : Cm) (H : Heap) (locs : List Loc) (ls : Array Slot) (hf : bT_X5_addUnit_21 N x0 x1 x3 s0 K M = some o) (hL : KLe K0 K) (hR : RC x K M H) (hS : va_S (AC K0) s.heap H locs) (hl : lv_has ls 6 [(0, .ref x0), (1, .long x1), (3, .ref x3)]) : W p l e R s m args below meth c H locs (kz K - kz K0) (ku K - ku K0) (TQ sV (aQV x K0) (zQV K0) "java/lang/IllegalStateException" x K0 below args s o) (F0 m 21 ls [.ref s0]) := by
  obtain ⟨CX, hno, hlt, hmn⟩ := id CTX
  obtain ⟨hx, hb, hml, hown, hts, hE, hB, hr, hlk⟩ := id CX
  have hcs := nz_le (mbT_X5_addUnit_21  x0 x1 x3 s0 K M hf) hRc
  unfold bT_X5_addUnit_21 at hf
  refine lv_astore (lv' := [(4, .ref s0), (0, .ref x0), (1, .long x1), (3, .ref x3)]) hx hb dX5_addUnit_21 hl (by decide) rfl (fun ls hl => ?_)
  refine lv_aload_n hx hb dX5_addUnit_23 rfl (lv_at hl 3 rfl) ?_
  refine lv_aload hx hb dX5_addUnit_24 (lv_at hl 0 rfl) ?_
  refine lv_aload_n hx hb dX5_addUnit_26 rfl (lv_at hl 1 rfl) ?_
  refine lv_aload_n hx hb dX5_addUnit_27 rfl (lv_at hl 3 rfl) ?_
  refine lv_aload hx hb dX5_addUnit_28 (lv_at hl 0 rfl) ?_
  obtain ⟨hk_x0_6, hf⟩ := gd_some hf
  obtain ⟨o30, ho30, hf⟩ := bnd_some hf
  refine cr_callIv kc_5 CX hR hL hS (As := [.ref x3, .ref s0]) (rest := [.ref s0, .ref x3]) hk_x0_6 (MC_X5_fillSearch l x N K x0 x3 s0 M o30 ho30) cv_X5_65 ⟨by omega, by omega⟩ rfl rfl (Nat.le_of_ble_eq_true rfl) hl.1 dX5_addUnit_30 hcs (fun H locs hR hS => ?_)
  obtain ⟨o33, ho, hf⟩ := ta_some hf
  have hm1 := mbT_X5_addUnit_36 _ _ _ _ _ _ _ _ hf
  have hb1 := nz_le hm1 hRc
  have hq1 := (mfT_J7_copyOf_59c91 _ _ _ _ ho)
  refine ta_callAs CX hL hR hS (As := [.ref s0, .int o30.1]) (rest := [.ref x3]) (MT_J7_copyOf_59c91 l x hlt N _ _ _ _ _ ho) cs_X5_69 ⟨by omega, by omega⟩ rfl (Nat.le_of_ble_eq_true rfl) hl.1 hq1 hb1 rfl dX5_addUnit_33 (fun H locs hR hS => ?_)
  exact (wbT_X5_addUnit_36 CTX hRm hRc) _ _ _ _ _ _ _ _ _ _ _ hf (hL.tr hq1) hR hS (lv_sub hl [1, 2, 3, 0] rfl)
def fT_X5_addUnit (N : Nat) (x0 : Nat) (x1 : Int64) (x3 : Nat) (K : Ka) (M : Cm) : Option ((Ka × Cm) ⊕ (Ka × Cm)) := gd (kd K x0 == 6) (nn (cR M x0 5) fun a1 => gd (kd K a1 == 26) (if (cI M x0 11) < (nI (le K a1)) then (gd (decide (¬ ((cI M x0 11) + 1 : Int32) < 0 ∧ ((cI M x0 11) + 1 : Int32).toNatClampNeg ≤ 1000000)) ((bT_X5_addUnit_21 N) x0 x1 x3 (kz K) (kNew K 22 ((cI M x0 11) + 1 : Int32).toNatClampNeg ((cI M x0 11) + 1 : Int32).toNatClampNeg) (mZ M (kz K)))) else (some (.inl (K, M)))))
theorem mfT_X5_addUnit {o : (Ka × Cm) ⊕ (Ka × Cm)} {N : Nat}  (x0 : Nat) (x1 : Int64) (x3 : Nat) (K : Ka) (M : Cm) (hf : fT_X5_addUnit N x0 x1 x3 K M = some o) : KLe K (oK sV o) := by
  unfold fT_X5_addUnit at hf
  obtain ⟨-, hf⟩ := gd_some hf
  obtain ⟨a1, -, hf⟩ := nn_some hf
  obtain ⟨-, hf⟩ := gd_some hf
  by_cases hc : (cI M x0 11) < (nI (le K a1))
  · rw [if_pos hc] at hf
    obtain ⟨-, hf⟩ := gd_some hf
    exact (kNew_le _ _ _ _).tr (mbT_X5_addUnit_21 _ _ _ _ _ _ hf)
  · rw [if_neg hc] at hf
    cases hf
    exact KLe.rf _
set_option maxRecDepth 100000 in
set_option maxHeartbeats 4000000 in
theorem wfT_X5_addUnit {p : Program} {l : Launch} {e : Env} {R : Room} {s : State} {m : MethodId} {args : Array Value} {below : List Frame} {meth : Method} {c : Code} {x : Xc} {K0 : Ka} {o : (Ka × Cm) ⊕ (Ka × Cm)} {N : Nat} (CTX : CT p l s m args meth c x K0 RX5 "addUnit" cX5_addUnit 6 none) (hRm : 7 ≤ R.frames ∧ 117 ≤ R.locals) (hRc : nz sV K0 o ≤ R.cells ∧ nu sV K0 o ≤ R.slots) (x0 : Nat) (x1 : Int64) (x3 : Nat) (K : Ka) (M : Cm) (H : Heap) (locs : List Loc) (ls : Array Slot) (hf : fT_X5_addUnit N x0 x1 x3 K M = some o) (hL : KLe K0 K) (hR : RC x K M H) (hS : va_S (AC K0) s.heap H locs) (hl : lv_has ls 6 [(0, .ref x0), (1, .long x1), (3, .ref x3)]) : W p l e R s m args below meth c H locs (kz K - kz K0) (ku K - ku K0) (TQ sV (aQV x K0) (zQV K0) "java/lang/IllegalStateException" x K0 below args s o) (F0 m 0 ls []) := by
  obtain ⟨CX, hno, hlt, hmn⟩ := id CTX
  obtain ⟨hx, hb, hml, hown, hts, hE, hB, hr, hlk⟩ := id CX
  have hcs := nz_le (mfT_X5_addUnit  x0 x1 x3 K M hf) hRc
  unfold fT_X5_addUnit at hf
  refine lv_aload_n hx hb dX5_addUnit_0 rfl (lv_at hl 0 rfl) ?_
  obtain ⟨hk_x0_6, hf⟩ := gd_some hf
  refine cr_getI kc_5 CX hR fa_X5_15 rfl hk_x0_6 dX5_addUnit_1 ?_
  refine lv_aload_n hx hb dX5_addUnit_4 rfl (lv_at hl 0 rfl) ?_
  refine cr_getR kc_5 CX hR fa_X5_49 rfl hk_x0_6 dX5_addUnit_5 ?_
  obtain ⟨a1, ha1, hf⟩ := nn_some hf
  refine rf_0 ha1 ?_
  obtain ⟨hk_a1_26, hf⟩ := gd_some hf
  refine cr_ulen CX hR hk_a1_26 dX5_addUnit_8 ?_
  refine lv_icmp_lt (tgt := 13) hx hb dX5_addUnit_9 (by decide) (fun hc => ?_) (fun hc => ?_)
  · rw [if_pos hc] at hf
    refine lv_aload_n hx hb dX5_addUnit_13 rfl (lv_at hl 0 rfl) ?_
    refine cr_getI kc_5 CX hR fa_X5_15 rfl hk_x0_6 dX5_addUnit_14 ?_
    refine lv_iconst (v := 1) hx hb dX5_addUnit_17 (by decide) ?_
    refine lv_iadd hx hb dX5_addUnit_18 ?_
    obtain ⟨hq, hf⟩ := gd_some hf
    have hm1 := mbT_X5_addUnit_21 _ _ _ _ _ _ hf
    have hb1 := nz_le hm1 hRc
    refine tr_newai CX hL hR hS hq hb1 dX5_addUnit_19 (fun H hR hS => ?_)
    exact (wbT_X5_addUnit_21 CTX hRm hRc) _ _ _ _ _ _ _ _ _ hf (hL.tr (kNew_le _ _ _ _)) hR hS (lv_sub hl [0, 1, 2] rfl)
  · rw [if_neg hc] at hf
    exact tr_vret CX hR hS hf dX5_addUnit_12
theorem MT_X5_addUnit (l : Launch) (x : Xc) (hlt : l.stackTraces = false) (N : Nat) (x0 : Nat) (x1 : Int64) (x3 : Nat) (K : Ka) (M : Cm) (o : (Ka × Cm) ⊕ (Ka × Cm)) (hf : fT_X5_addUnit N x0 x1 x3 K M = some o) : Tc sV (aQV x K) (zQV K) "java/lang/IllegalStateException" l x yX5_addUnit cX5_addUnit 6 none 7 117 [.ref x0, .long x1, .ref x3] K M o :=
  tr_met RX5 "addUnit" hlt (by decide) rfl rfl (Nat.le_of_ble_eq_true rfl) (fun p e s m args below meth c ls CTX hR hl => wfT_X5_addUnit CTX ⟨Nat.le_refl _, Nat.le_refl _⟩ ⟨Nat.le_refl _, Nat.le_refl _⟩ x0 x1 x3 K M s.heap [] ls hf (KLe.rf K) hR va_S.rf hl)
