def bT_X3_readTouch_37 (N : Nat) (x0 : Nat) (s0 : Int32) (K : Ka) (M : Cm) : Option ((Ka × Cm) ⊕ (Ka × Cm)) := some (.inl (K, M))
theorem mbT_X3_readTouch_37 {o : (Ka × Cm) ⊕ (Ka × Cm)} {N : Nat}  (x0 : Nat) (s0 : Int32) (K : Ka) (M : Cm) (hf : bT_X3_readTouch_37 N x0 s0 K M = some o) : KLe K (oK sV o) := by
  unfold bT_X3_readTouch_37 at hf
  cases hf
  exact KLe.rf _
set_option maxRecDepth 100000 in
set_option maxHeartbeats 4000000 in
theorem wbT_X3_readTouch_37 {p : Program} {l : Launch} {e : Env} {R : Room} {s : State} {m : MethodId} {args : Array Value} {below : List Frame} {meth : Method} {c : Code} {x : Xc} {K0 : Ka} {o : (Ka × Cm) ⊕ (Ka × Cm)} {N : Nat} (CTX : CT p l s m args meth c x K0 RX3 "readTouch" cX3_readTouch 2 none) (hRm : 9 ≤ R.frames ∧ 162 ≤ R.locals) (hRc : nz sV K0 o ≤ R.cells ∧ nu sV K0 o ≤ R.slots) (x0 : Nat) (s0 : Int32) (K : Ka) (M : Cm) (H : Heap) (locs : List Loc) (ls : Array Slot) (hf : bT_X3_readTouch_37 N x0 s0 K M = some o) (hL : KLe K0 K) (hR : RC x K M H) (hS : va_S (AC K0) s.heap H locs) (hl : lv_has ls 2 [(0, .ref x0)]) : W p l e R s m args below meth c H locs (kz K - kz K0) (ku K - ku K0) (TQ sV (aQV x K0) (zQV K0) "java/lang/IllegalStateException" x K0 below args s o) (F0 m 37 ls [.int s0]) := by
  obtain ⟨CX, hno, hlt, hmn⟩ := id CTX
  obtain ⟨hx, hb, hml, hown, hts, hE, hB, hr, hlk⟩ := id CX
  have hcs := nz_le (mbT_X3_readTouch_37  x0 s0 K M hf) hRc
  unfold bT_X3_readTouch_37 at hf
  refine lv_pop hx hb dX3_readTouch_37 rfl ?_
  exact tr_vret CX hR hS hf dX3_readTouch_38
def bT_X3_readTouch_26 (N : Nat) (x0 : Nat) (x1 : Int32) (K : Ka) (M : Cm) : Option ((Ka × Cm) ⊕ (Ka × Cm)) := gd (kd K x0 == 4) (ta (fT_X3_emit N x0 23 x1 (cI M x0 4) K M) fun o34 => (bT_X3_readTouch_37 N) x0 o34.1 o34.2.1 o34.2.2)
theorem mbT_X3_readTouch_26 {o : (Ka × Cm) ⊕ (Ka × Cm)} {N : Nat}  (x0 : Nat) (x1 : Int32) (K : Ka) (M : Cm) (hf : bT_X3_readTouch_26 N x0 x1 K M = some o) : KLe K (oK sV o) := by
  unfold bT_X3_readTouch_26 at hf
  obtain ⟨-, hf⟩ := gd_some hf
  obtain ⟨o34, ho, hf⟩ := ta_some hf
  exact KLe.tr (mfT_X3_emit _ _ _ _ _ _ ho) (mbT_X3_readTouch_37 _ _ _ _ hf)
set_option maxRecDepth 100000 in
set_option maxHeartbeats 4000000 in
theorem wbT_X3_readTouch_26 {p : Program} {l : Launch} {e : Env} {R : Room} {s : State} {m : MethodId} {args : Array Value} {below : List Frame} {meth : Method} {c : Code} {x : Xc} {K0 : Ka} {o : (Ka × Cm) ⊕ (Ka × Cm)} {N : Nat} (CTX : CT p l s m args meth c x K0 RX3 "readTouch" cX3_readTouch 2 none) (hRm : 9 ≤ R.frames ∧ 162 ≤ R.locals) (hRc : nz sV K0 o ≤ R.cells ∧ nu sV K0 o ≤ R.slots) (x0 : Nat) (x1 : Int32) (K : Ka) (M : Cm) (H : Heap) (locs : List Loc) (ls : Array Slot) (hf : bT_X3_readTouch_26 N x0 x1 K M = some o) (hL : KLe K0 K) (hR : RC x K M H) (hS : va_S (AC K0) s.heap H locs) (hl : lv_has ls 2 [(0, .ref x0), (1, .int x1)]) : W p l e R s m args below meth c H locs (kz K - kz K0) (ku K - ku K0) (TQ sV (aQV x K0) (zQV K0) "java/lang/IllegalStateException" x K0 below args s o) (F0 m 26 ls []) := by
  obtain ⟨CX, hno, hlt, hmn⟩ := id CTX
  obtain ⟨hx, hb, hml, hown, hts, hE, hB, hr, hlk⟩ := id CX
  have hcs := nz_le (mbT_X3_readTouch_26  x0 x1 K M hf) hRc
  unfold bT_X3_readTouch_26 at hf
  refine lv_aload_n hx hb dX3_readTouch_26 rfl (lv_at hl 0 rfl) ?_
  refine lv_bipush (v := 23) hx hb dX3_readTouch_27 (by decide) ?_
  refine lv_iload_n hx hb dX3_readTouch_29 rfl (lv_at hl 1 rfl) ?_
  refine lv_aload_n hx hb dX3_readTouch_30 rfl (lv_at hl 0 rfl) ?_
  obtain ⟨hk_x0_4, hf⟩ := gd_some hf
  refine cr_getI kc_3 CX hR fa_X3_22 rfl hk_x0_4 dX3_readTouch_31 ?_
  obtain ⟨o34, ho, hf⟩ := ta_some hf
  have hm1 := mbT_X3_readTouch_37 _ _ _ _ hf
  have hb1 := nz_le hm1 hRc
  have hq1 := (mfT_X3_emit _ _ _ _ _ _ ho)
  refine ta_callIv kc_3 CX hL hR hS (As := [.int 23, .int x1, .int (cI M x0 4)]) (rest := []) hk_x0_4 (MT_X3_emit l x hlt N _ _ _ _ _ _ _ ho) cv_X3_144 ⟨by omega, by omega⟩ rfl (Nat.le_of_ble_eq_true rfl) hl.1 hq1 hb1 rfl dX3_readTouch_34 (fun H locs hR hS => ?_)
  exact (wbT_X3_readTouch_37 CTX hRm hRc) _ _ _ _ _ _ _ hf (hL.tr hq1) hR hS (lv_sub hl [0] rfl)
def bT_X3_readTouch_20 (N : Nat) (x0 : Nat) (x1 : Int32) (K : Ka) (M : Cm) : Option ((Ka × Cm) ⊕ (Ka × Cm)) := gd (kd K x0 == 4) (tb (fT_X3_take N x0 59 K M) fun o23 => (bT_X3_readTouch_26 N) x0 x1 o23.1 o23.2)
theorem mbT_X3_readTouch_20 {o : (Ka × Cm) ⊕ (Ka × Cm)} {N : Nat}  (x0 : Nat) (x1 : Int32) (K : Ka) (M : Cm) (hf : bT_X3_readTouch_20 N x0 x1 K M = some o) : KLe K (oK sV o) := by
  unfold bT_X3_readTouch_20 at hf
  obtain ⟨-, hf⟩ := gd_some hf
  rcases tb_some hf with ⟨o23, ho, hf⟩ | ⟨q, ho, rfl⟩
  · exact KLe.tr (mfT_X3_take _ _ _ _ ho) (mbT_X3_readTouch_26 _ _ _ _ hf)
  · exact (mfT_X3_take _ _ _ _ ho)
set_option maxRecDepth 100000 in
set_option maxHeartbeats 4000000 in
theorem wbT_X3_readTouch_20 {p : Program} {l : Launch} {e : Env} {R : Room} {s : State} {m : MethodId} {args : Array Value} {below : List Frame} {meth : Method} {c : Code} {x : Xc} {K0 : Ka} {o : (Ka × Cm) ⊕ (Ka × Cm)} {N : Nat} (CTX : CT p l s m args meth c x K0 RX3 "readTouch" cX3_readTouch 2 none) (hRm : 9 ≤ R.frames ∧ 162 ≤ R.locals) (hRc : nz sV K0 o ≤ R.cells ∧ nu sV K0 o ≤ R.slots) (x0 : Nat) (x1 : Int32) (K : Ka) (M : Cm) (H : Heap) (locs : List Loc) (ls : Array Slot) (hf : bT_X3_readTouch_20 N x0 x1 K M = some o) (hL : KLe K0 K) (hR : RC x K M H) (hS : va_S (AC K0) s.heap H locs) (hl : lv_has ls 2 [(0, .ref x0), (1, .int x1)]) : W p l e R s m args below meth c H locs (kz K - kz K0) (ku K - ku K0) (TQ sV (aQV x K0) (zQV K0) "java/lang/IllegalStateException" x K0 below args s o) (F0 m 20 ls []) := by
  obtain ⟨CX, hno, hlt, hmn⟩ := id CTX
  obtain ⟨hx, hb, hml, hown, hts, hE, hB, hr, hlk⟩ := id CX
  have hcs := nz_le (mbT_X3_readTouch_20  x0 x1 K M hf) hRc
  unfold bT_X3_readTouch_20 at hf
  refine lv_aload_n hx hb dX3_readTouch_20 rfl (lv_at hl 0 rfl) ?_
  refine lv_bipush (v := 59) hx hb dX3_readTouch_21 (by decide) ?_
  obtain ⟨hk_x0_4, hf⟩ := gd_some hf
  rcases tb_some hf with ⟨o23, ho, hf⟩ | ⟨q, ho, rfl⟩
  · have hm1 := mbT_X3_readTouch_26 _ _ _ _ hf
    have hb1 := nz_le hm1 hRc
    have hq1 := (mfT_X3_take _ _ _ _ ho)
    refine ta_callVv kc_3 CX hL hR hS (As := [.int 59]) (rest := []) hk_x0_4 (MT_X3_take l x hlt N _ _ _ _ _ ho) cv_X3_119 ⟨by omega, by omega⟩ rfl (Nat.le_of_ble_eq_true rfl) hl.1 hq1 hb1 rfl dX3_readTouch_23 (fun H locs hR hS => ?_)
    exact (wbT_X3_readTouch_26 CTX hRm hRc) _ _ _ _ _ _ _ hf (hL.tr hq1) hR hS (lv_sub hl [0, 1] rfl)
  · exact tx_callv kc_3 CTX hL hR hS (As := [.int 59]) (rest := []) hk_x0_4 (MT_X3_take l x hlt N _ _ _ _ _ ho) cv_X3_119 ⟨by omega, by omega⟩ rfl (Nat.le_of_ble_eq_true rfl) hl.1 (mfT_X3_take _ _ _ _ ho) hRc rfl dX3_readTouch_23
def fT_X3_readTouch (N : Nat) (x0 : Nat) (K : Ka) (M : Cm) : Option ((Ka × Cm) ⊕ (Ka × Cm)) := gd (kd K x0 == 4) ((fC_X3_moveTo N K x0 ((cI M x0 2) + 1) M).bind fun o7 => tb (fT_X3_take N x0 2 K o7) fun o17 => (bT_X3_readTouch_20 N) x0 (cI o7 x0 2) o17.1 o17.2)
theorem mfT_X3_readTouch {o : (Ka × Cm) ⊕ (Ka × Cm)} {N : Nat}  (x0 : Nat) (K : Ka) (M : Cm) (hf : fT_X3_readTouch N x0 K M = some o) : KLe K (oK sV o) := by
  unfold fT_X3_readTouch at hf
  obtain ⟨-, hf⟩ := gd_some hf
  obtain ⟨o7, -, hf⟩ := bnd_some hf
  rcases tb_some hf with ⟨o17, ho, hf⟩ | ⟨q, ho, rfl⟩
  · exact KLe.tr (mfT_X3_take _ _ _ _ ho) (mbT_X3_readTouch_20 _ _ _ _ hf)
  · exact (mfT_X3_take _ _ _ _ ho)
set_option maxRecDepth 100000 in
set_option maxHeartbeats 4000000 in
theorem wfT_X3_readTouch {p : Program} {l : Launch} {e : Env} {R : Room} {s : State} {m : MethodId} {args : Array Value} {below : List Frame} {meth : Method} {c : Code} {x : Xc} {K0 : Ka} {o : (Ka × Cm) ⊕ (Ka × Cm)} {N : Nat} (CTX : CT p l s m args meth c x K0 RX3 "readTouch" cX3_readTouch 2 none) (hRm : 9 ≤ R.frames ∧ 162 ≤ R.locals) (hRc : nz sV K0 o ≤ R.cells ∧ nu sV K0 o ≤ R.slots) (x0 : Nat) (K : Ka) (M : Cm) (H : Heap) (locs : List Loc) (ls : Array Slot) (hf : fT_X3_readTouch N x0 K M = some o) (hL : KLe K0 K) (hR : RC x K M H) (hS : va_S (AC K0) s.heap H locs) (hl : lv_has ls 2 [(0, .ref x0)]) : W p l e R s m args below meth c H locs (kz K - kz K0) (ku K - ku K0) (TQ sV (aQV x K0) (zQV K0) "java/lang/IllegalStateException" x K0 below args s o) (F0 m 0 ls []) := by
  obtain ⟨CX, hno, hlt, hmn⟩ := id CTX
  obtain ⟨hx, hb, hml, hown, hts, hE, hB, hr, hlk⟩ := id CX
  have hcs := nz_le (mfT_X3_readTouch  x0 K M hf) hRc
  unfold fT_X3_readTouch at hf
  refine lv_aload_n hx hb dX3_readTouch_0 rfl (lv_at hl 0 rfl) ?_
  refine lv_aload_n hx hb dX3_readTouch_1 rfl (lv_at hl 0 rfl) ?_
  obtain ⟨hk_x0_4, hf⟩ := gd_some hf
  refine cr_getI kc_3 CX hR fa_X3_15 rfl hk_x0_4 dX3_readTouch_2 ?_
  refine lv_iconst (v := 1) hx hb dX3_readTouch_5 (by decide) ?_
  refine lv_iadd hx hb dX3_readTouch_6 ?_
  obtain ⟨o7, ho7, hf⟩ := bnd_some hf
  refine cr_callVv kc_3 CX hR hL hS (As := [.int ((cI M x0 2) + 1)]) (rest := []) hk_x0_4 (MC_X3_moveTo l x N K x0 ((cI M x0 2) + 1) M o7 ho7) cv_X3_42 ⟨by omega, by omega⟩ rfl rfl (Nat.le_of_ble_eq_true rfl) hl.1 dX3_readTouch_7 hcs (fun H locs hR hS => ?_)
  refine lv_aload_n hx hb dX3_readTouch_10 rfl (lv_at hl 0 rfl) ?_
  refine cr_getI kc_3 CX hR fa_X3_15 rfl hk_x0_4 dX3_readTouch_11 ?_
  refine lv_istore_n (lv' := [(1, .int (cI o7 x0 2)), (0, .ref x0)]) hx hb dX3_readTouch_14 rfl hl (by decide) rfl (fun ls hl => ?_)
  refine lv_aload_n hx hb dX3_readTouch_15 rfl (lv_at hl 1 rfl) ?_
  refine lv_iconst (v := 2) hx hb dX3_readTouch_16 (by decide) ?_
  rcases tb_some hf with ⟨o17, ho, hf⟩ | ⟨q, ho, rfl⟩
  · have hm1 := mbT_X3_readTouch_20 _ _ _ _ hf
    have hb1 := nz_le hm1 hRc
    have hq1 := (mfT_X3_take _ _ _ _ ho)
    refine ta_callVv kc_3 CX hL hR hS (As := [.int 2]) (rest := []) hk_x0_4 (MT_X3_take l x hlt N _ _ _ _ _ ho) cv_X3_119 ⟨by omega, by omega⟩ rfl (Nat.le_of_ble_eq_true rfl) hl.1 hq1 hb1 rfl dX3_readTouch_17 (fun H locs hR hS => ?_)
    exact (wbT_X3_readTouch_20 CTX hRm hRc) _ _ _ _ _ _ _ hf (hL.tr hq1) hR hS (lv_sub hl [1, 0] rfl)
  · exact tx_callv kc_3 CTX hL hR hS (As := [.int 2]) (rest := []) hk_x0_4 (MT_X3_take l x hlt N _ _ _ _ _ ho) cv_X3_119 ⟨by omega, by omega⟩ rfl (Nat.le_of_ble_eq_true rfl) hl.1 (mfT_X3_take _ _ _ _ ho) hRc rfl dX3_readTouch_17
theorem MT_X3_readTouch (l : Launch) (x : Xc) (hlt : l.stackTraces = false) (N : Nat) (x0 : Nat) (K : Ka) (M : Cm) (o : (Ka × Cm) ⊕ (Ka × Cm)) (hf : fT_X3_readTouch N x0 K M = some o) : Tc sV (aQV x K) (zQV K) "java/lang/IllegalStateException" l x yX3_readTouch cX3_readTouch 2 none 9 162 [.ref x0] K M o :=
  tr_met RX3 "readTouch" hlt (by decide) rfl rfl (Nat.le_of_ble_eq_true rfl) (fun p e s m args below meth c ls CTX hR hl => wfT_X3_readTouch CTX ⟨Nat.le_refl _, Nat.le_refl _⟩ ⟨Nat.le_refl _, Nat.le_refl _⟩ x0 K M s.heap [] ls hf (KLe.rf K) hR va_S.rf hl)
def bT_X3_takeDevice_51 (N : Nat) (x0 : Nat) (x1 : Int32) (K : Ka) (M : Cm) : Option ((Int32 × Ka × Cm) ⊕ (Ka × Cm)) := gd (kd K x0 == 4) ((fC_X3_moveTo N K x0 ((cI M x0 2) + 1) M).bind fun o58 => some (.inl (x1, K, o58)))
theorem mbT_X3_takeDevice_51 {o : (Int32 × Ka × Cm) ⊕ (Ka × Cm)} {N : Nat}  (x0 : Nat) (x1 : Int32) (K : Ka) (M : Cm) (hf : bT_X3_takeDevice_51 N x0 x1 K M = some o) : KLe K (oK sT o) := by
  unfold bT_X3_takeDevice_51 at hf
  obtain ⟨-, hf⟩ := gd_some hf
  obtain ⟨o58, -, hf⟩ := bnd_some hf
  cases hf
  exact KLe.rf _
set_option maxRecDepth 100000 in
set_option maxHeartbeats 4000000 in
theorem wbT_X3_takeDevice_51 {p : Program} {l : Launch} {e : Env} {R : Room} {s : State} {m : MethodId} {args : Array Value} {below : List Frame} {meth : Method} {c : Code} {x : Xc} {K0 : Ka} {o : (Int32 × Ka × Cm) ⊕ (Ka × Cm)} {N : Nat} (CTX : CT p l s m args meth c x K0 RX3 "takeDevice" cX3_takeDevice 2 (some .int)) (hRm : 7 ≤ R.frames ∧ 116 ≤ R.locals) (hRc : nz sT K0 o ≤ R.cells ∧ nu sT K0 o ≤ R.slots) (x0 : Nat) (x1 : Int32) (K : Ka) (M : Cm) (H : Heap) (locs : List Loc) (ls : Array Slot) (hf : bT_X3_takeDevice_51 N x0 x1 K M = some o) (hL : KLe K0 K) (hR : RC x K M H) (hS : va_S (AC K0) s.heap H locs) (hl : lv_has ls 2 [(0, .ref x0), (1, .int x1)]) : W p l e R s m args below meth c H locs (kz K - kz K0) (ku K - ku K0) (TQ sT (aQI x K0) (zQV K0) "java/lang/IllegalStateException" x K0 below args s o) (F0 m 51 ls []) := by
  obtain ⟨CX, hno, hlt, hmn⟩ := id CTX
  obtain ⟨hx, hb, hml, hown, hts, hE, hB, hr, hlk⟩ := id CX
  have hcs := nz_le (mbT_X3_takeDevice_51  x0 x1 K M hf) hRc
  unfold bT_X3_takeDevice_51 at hf
  refine lv_aload_n hx hb dX3_takeDevice_51 rfl (lv_at hl 0 rfl) ?_
  refine lv_aload_n hx hb dX3_takeDevice_52 rfl (lv_at hl 0 rfl) ?_
  obtain ⟨hk_x0_4, hf⟩ := gd_some hf
  refine cr_getI kc_3 CX hR fa_X3_15 rfl hk_x0_4 dX3_takeDevice_53 ?_
  refine lv_iconst (v := 1) hx hb dX3_takeDevice_56 (by decide) ?_
  refine lv_iadd hx hb dX3_takeDevice_57 ?_
  obtain ⟨o58, ho58, hf⟩ := bnd_some hf
  refine cr_callVv kc_3 CX hR hL hS (As := [.int ((cI M x0 2) + 1)]) (rest := []) hk_x0_4 (MC_X3_moveTo l x N K x0 ((cI M x0 2) + 1) M o58 ho58) cv_X3_42 ⟨by omega, by omega⟩ rfl rfl (Nat.le_of_ble_eq_true rfl) hl.1 dX3_takeDevice_58 hcs (fun H locs hR hS => ?_)
  refine lv_iload_n hx hb dX3_takeDevice_61 rfl (lv_at hl 1 rfl) ?_
  exact tr_iret CX hR hS hf dX3_takeDevice_62
def bT_X3_takeDevice_13 (N : Nat) (x0 : Nat) (K : Ka) (M : Cm) : Option ((Int32 × Ka × Cm) ⊕ (Ka × Cm)) := gd (kd K x0 == 4) (nn (cR M x0 0) fun a1 => gd (kd K a1 == 7) ((fC_X6_valueAt N K a1 (cI M x0 2) M).bind fun o21 => nn (cR o21.2 x0 1) fun a2 => gd (kd K a2 == 6) (nn (cR o21.2 x0 1) fun a3 => gd (kd K a3 == 6) (nn (cR o21.2 a2 0) fun a4 => (fC_X8_rankOf N K o21.1 a4 (cI o21.2 a3 10) o21.2).bind fun o38 => if 0 ≤ o38.1 then ((bT_X3_takeDevice_51 N) x0 o38.1 K o38.2) else (tb (fT_X3_refuse N x0 2 K o38.2) fun o48 => (bT_X3_takeDevice_51 N) x0 o38.1 o48.1 o48.2)))))
theorem mbT_X3_takeDevice_13 {o : (Int32 × Ka × Cm) ⊕ (Ka × Cm)} {N : Nat}  (x0 : Nat) (K : Ka) (M : Cm) (hf : bT_X3_takeDevice_13 N x0 K M = some o) : KLe K (oK sT o) := by
  unfold bT_X3_takeDevice_13 at hf
  obtain ⟨-, hf⟩ := gd_some hf
  obtain ⟨a1, -, hf⟩ := nn_some hf
  obtain ⟨-, hf⟩ := gd_some hf
  obtain ⟨o21, -, hf⟩ := bnd_some hf
  obtain ⟨a2, -, hf⟩ := nn_some hf
  obtain ⟨-, hf⟩ := gd_some hf
  obtain ⟨a3, -, hf⟩ := nn_some hf
  obtain ⟨-, hf⟩ := gd_some hf
  obtain ⟨a4, -, hf⟩ := nn_some hf
  obtain ⟨o38, -, hf⟩ := bnd_some hf
  by_cases hc : 0 ≤ o38.1
  · rw [if_pos hc] at hf
    exact mbT_X3_takeDevice_51 _ _ _ _ hf
  · rw [if_neg hc] at hf
    rcases tb_some hf with ⟨o48, ho, hf⟩ | ⟨q, ho, rfl⟩
    · exact KLe.tr (mfT_X3_refuse _ _ _ _ ho) (mbT_X3_takeDevice_51 _ _ _ _ hf)
    · exact (mfT_X3_refuse _ _ _ _ ho)
set_option maxRecDepth 100000 in
set_option maxHeartbeats 4000000 in
theorem wbT_X3_takeDevice_13 {p : Program} {l : Launch} {e : Env} {R : Room} {s : State} {m : MethodId} {args : Array Value} {below : List Frame} {meth : Method} {c : Code} {x : Xc} {K0 : Ka} {o : (Int32 × Ka × Cm) ⊕ (Ka × Cm)} {N : Nat} (CTX : CT p l s m args meth c x K0 RX3 "takeDevice" cX3_takeDevice 2 (some .int)) (hRm : 7 ≤ R.frames ∧ 116 ≤ R.locals) (hRc : nz sT K0 o ≤ R.cells ∧ nu sT K0 o ≤ R.slots) (x0 : Nat) (K : Ka) (M : Cm) (H : Heap) (locs : List Loc) (ls : Array Slot) (hf : bT_X3_takeDevice_13 N x0 K M = some o) (hL : KLe K0 K) (hR : RC x K M H) (hS : va_S (AC K0) s.heap H locs) (hl : lv_has ls 2 [(0, .ref x0)]) : W p l e R s m args below meth c H locs (kz K - kz K0) (ku K - ku K0) (TQ sT (aQI x K0) (zQV K0) "java/lang/IllegalStateException" x K0 below args s o) (F0 m 13 ls []) := by
  obtain ⟨CX, hno, hlt, hmn⟩ := id CTX
  obtain ⟨hx, hb, hml, hown, hts, hE, hB, hr, hlk⟩ := id CX
  have hcs := nz_le (mbT_X3_takeDevice_13  x0 K M hf) hRc
  unfold bT_X3_takeDevice_13 at hf
  refine lv_aload_n hx hb dX3_takeDevice_13 rfl (lv_at hl 0 rfl) ?_
  obtain ⟨hk_x0_4, hf⟩ := gd_some hf
  refine cr_getR kc_3 CX hR fa_X3_28 rfl hk_x0_4 dX3_takeDevice_14 ?_
  refine lv_aload_n hx hb dX3_takeDevice_17 rfl (lv_at hl 0 rfl) ?_
  refine cr_getI kc_3 CX hR fa_X3_15 rfl hk_x0_4 dX3_takeDevice_18 ?_
  obtain ⟨a1, ha1, hf⟩ := nn_some hf
  refine rf_1 ha1 ?_
  obtain ⟨hk_a1_7, hf⟩ := gd_some hf
  obtain ⟨o21, ho21, hf⟩ := bnd_some hf
  refine cr_callLv kc_6 CX hR hL hS (As := [.int (cI M x0 2)]) (rest := []) hk_a1_7 (MC_X6_valueAt l x N K a1 (cI M x0 2) M o21 ho21) cv_X3_88 ⟨by omega, by omega⟩ rfl rfl (Nat.le_of_ble_eq_true rfl) hl.1 dX3_takeDevice_21 hcs (fun H locs hR hS => ?_)
  refine lv_aload_n hx hb dX3_takeDevice_24 rfl (lv_at hl 0 rfl) ?_
  refine cr_getR kc_3 CX hR fa_X3_9 rfl hk_x0_4 dX3_takeDevice_25 ?_
  obtain ⟨a2, ha2, hf⟩ := nn_some hf
  refine rf_0 ha2 ?_
  obtain ⟨hk_a2_6, hf⟩ := gd_some hf
  refine cr_getR kc_5 CX hR fa_X3_109 rfl hk_a2_6 dX3_takeDevice_28 ?_
  refine lv_aload_n hx hb dX3_takeDevice_31 rfl (lv_at hl 0 rfl) ?_
  refine cr_getR kc_3 CX hR fa_X3_9 rfl hk_x0_4 dX3_takeDevice_32 ?_
  obtain ⟨a3, ha3, hf⟩ := nn_some hf
  refine rf_0 ha3 ?_
  obtain ⟨hk_a3_6, hf⟩ := gd_some hf
  refine cr_getI kc_5 CX hR fa_X3_112 rfl hk_a3_6 dX3_takeDevice_35 ?_
  obtain ⟨a4, ha4, hf⟩ := nn_some hf
  refine rf_1 ha4 ?_
  obtain ⟨o38, ho38, hf⟩ := bnd_some hf
  refine cr_callIs CX hR hL hS (As := [.long o21.1, .ref a4, .int (cI o21.2 a3 10)]) (rest := []) (MC_X8_rankOf l x N K o21.1 a4 (cI o21.2 a3 10) o21.2 o38 ho38) cs_X3_105 ⟨by omega, by omega⟩ rfl rfl (Nat.le_of_ble_eq_true rfl) hl.1 dX3_takeDevice_38 hcs (fun H locs hR hS => ?_)
  refine lv_istore_n (lv' := [(1, .int o38.1), (0, .ref x0)]) hx hb dX3_takeDevice_41 rfl hl (by decide) rfl (fun ls hl => ?_)
  refine lv_iload_n hx hb dX3_takeDevice_42 rfl (lv_at hl 0 rfl) ?_
  refine lv_if_ge (tgt := 51) hx hb dX3_takeDevice_43 (by decide) (fun hc => ?_) (fun hc => ?_)
  · rw [if_pos hc] at hf
    exact (wbT_X3_takeDevice_51 CTX hRm hRc) _ _ _ _ _ _ _ hf hL hR hS (lv_sub hl [1, 0] rfl)
  · rw [if_neg hc] at hf
    refine lv_aload_n hx hb dX3_takeDevice_46 rfl (lv_at hl 1 rfl) ?_
    refine lv_iconst (v := 2) hx hb dX3_takeDevice_47 (by decide) ?_
    rcases tb_some hf with ⟨o48, ho, hf⟩ | ⟨q, ho, rfl⟩
    · have hm1 := mbT_X3_takeDevice_51 _ _ _ _ hf
      have hb1 := nz_le hm1 hRc
      have hq1 := (mfT_X3_refuse _ _ _ _ ho)
      refine ta_callVv kc_3 CX hL hR hS (As := [.int 2]) (rest := []) hk_x0_4 (MT_X3_refuse l x hlt N _ _ _ _ _ ho) cv_X3_54 ⟨by omega, by omega⟩ rfl (Nat.le_of_ble_eq_true rfl) hl.1 hq1 hb1 rfl dX3_takeDevice_48 (fun H locs hR hS => ?_)
      exact (wbT_X3_takeDevice_51 CTX hRm hRc) _ _ _ _ _ _ _ hf (hL.tr hq1) hR hS (lv_sub hl [1, 0] rfl)
    · exact tx_callv kc_3 CTX hL hR hS (As := [.int 2]) (rest := []) hk_x0_4 (MT_X3_refuse l x hlt N _ _ _ _ _ ho) cv_X3_54 ⟨by omega, by omega⟩ rfl (Nat.le_of_ble_eq_true rfl) hl.1 (mfT_X3_refuse _ _ _ _ ho) hRc rfl dX3_takeDevice_48
def fT_X3_takeDevice (N : Nat) (x0 : Nat) (K : Ka) (M : Cm) : Option ((Int32 × Ka × Cm) ⊕ (Ka × Cm)) := gd (kd K x0 == 4) (if (cI M x0 3) = 2 then ((bT_X3_takeDevice_13 N) x0 K M) else (tb (fT_X3_refuse N x0 1 K M) fun o10 => (bT_X3_takeDevice_13 N) x0 o10.1 o10.2))
theorem mfT_X3_takeDevice {o : (Int32 × Ka × Cm) ⊕ (Ka × Cm)} {N : Nat}  (x0 : Nat) (K : Ka) (M : Cm) (hf : fT_X3_takeDevice N x0 K M = some o) : KLe K (oK sT o) := by
  unfold fT_X3_takeDevice at hf
  obtain ⟨-, hf⟩ := gd_some hf
  by_cases hc : (cI M x0 3) = 2
  · rw [if_pos hc] at hf
    exact mbT_X3_takeDevice_13 _ _ _ hf
  · rw [if_neg hc] at hf
    rcases tb_some hf with ⟨o10, ho, hf⟩ | ⟨q, ho, rfl⟩
    · exact KLe.tr (mfT_X3_refuse _ _ _ _ ho) (mbT_X3_takeDevice_13 _ _ _ hf)
    · exact (mfT_X3_refuse _ _ _ _ ho)
set_option maxRecDepth 100000 in
set_option maxHeartbeats 4000000 in
theorem wfT_X3_takeDevice {p : Program} {l : Launch} {e : Env} {R : Room} {s : State} {m : MethodId} {args : Array Value} {below : List Frame} {meth : Method} {c : Code} {x : Xc} {K0 : Ka} {o : (Int32 × Ka × Cm) ⊕ (Ka × Cm)} {N : Nat} (CTX : CT p l s m args meth c x K0 RX3 "takeDevice" cX3_takeDevice 2 (some .int)) (hRm : 7 ≤ R.frames ∧ 116 ≤ R.locals) (hRc : nz sT K0 o ≤ R.cells ∧ nu sT K0 o ≤ R.slots) (x0 : Nat) (K : Ka) (M : Cm) (H : Heap) (locs : List Loc) (ls : Array Slot) (hf : fT_X3_takeDevice N x0 K M = some o) (hL : KLe K0 K) (hR : RC x K M H) (hS : va_S (AC K0) s.heap H locs) (hl : lv_has ls 2 [(0, .ref x0)]) : W p l e R s m args below meth c H locs (kz K - kz K0) (ku K - ku K0) (TQ sT (aQI x K0) (zQV K0) "java/lang/IllegalStateException" x K0 below args s o) (F0 m 0 ls []) := by
  obtain ⟨CX, hno, hlt, hmn⟩ := id CTX
  obtain ⟨hx, hb, hml, hown, hts, hE, hB, hr, hlk⟩ := id CX
  have hcs := nz_le (mfT_X3_takeDevice  x0 K M hf) hRc
  unfold fT_X3_takeDevice at hf
  refine lv_aload_n hx hb dX3_takeDevice_0 rfl (lv_at hl 0 rfl) ?_
  obtain ⟨hk_x0_4, hf⟩ := gd_some hf
  refine cr_getI kc_3 CX hR fa_X3_19 rfl hk_x0_4 dX3_takeDevice_1 ?_
  refine lv_iconst (v := 2) hx hb dX3_takeDevice_4 (by decide) ?_
  refine lv_icmp_eq (tgt := 13) hx hb dX3_takeDevice_5 (by decide) (fun hc => ?_) (fun hc => ?_)
  · rw [if_pos hc] at hf
    exact (wbT_X3_takeDevice_13 CTX hRm hRc) _ _ _ _ _ _ hf hL hR hS (lv_sub hl [0] rfl)
  · rw [if_neg hc] at hf
    refine lv_aload_n hx hb dX3_takeDevice_8 rfl (lv_at hl 0 rfl) ?_
    refine lv_iconst (v := 1) hx hb dX3_takeDevice_9 (by decide) ?_
    rcases tb_some hf with ⟨o10, ho, hf⟩ | ⟨q, ho, rfl⟩
    · have hm1 := mbT_X3_takeDevice_13 _ _ _ hf
      have hb1 := nz_le hm1 hRc
      have hq1 := (mfT_X3_refuse _ _ _ _ ho)
      refine ta_callVv kc_3 CX hL hR hS (As := [.int 1]) (rest := []) hk_x0_4 (MT_X3_refuse l x hlt N _ _ _ _ _ ho) cv_X3_54 ⟨by omega, by omega⟩ rfl (Nat.le_of_ble_eq_true rfl) hl.1 hq1 hb1 rfl dX3_takeDevice_10 (fun H locs hR hS => ?_)
      exact (wbT_X3_takeDevice_13 CTX hRm hRc) _ _ _ _ _ _ hf (hL.tr hq1) hR hS (lv_sub hl [0] rfl)
    · exact tx_callv kc_3 CTX hL hR hS (As := [.int 1]) (rest := []) hk_x0_4 (MT_X3_refuse l x hlt N _ _ _ _ _ ho) cv_X3_54 ⟨by omega, by omega⟩ rfl (Nat.le_of_ble_eq_true rfl) hl.1 (mfT_X3_refuse _ _ _ _ ho) hRc rfl dX3_takeDevice_10
theorem MT_X3_takeDevice (l : Launch) (x : Xc) (hlt : l.stackTraces = false) (N : Nat) (x0 : Nat) (K : Ka) (M : Cm) (o : (Int32 × Ka × Cm) ⊕ (Ka × Cm)) (hf : fT_X3_takeDevice N x0 K M = some o) : Tc sT (aQI x K) (zQV K) "java/lang/IllegalStateException" l x yX3_takeDevice cX3_takeDevice 2 (some .int) 7 116 [.ref x0] K M o :=
  tr_met RX3 "takeDevice" hlt (by decide) rfl rfl (Nat.le_of_ble_eq_true rfl) (fun p e s m args below meth c ls CTX hR hl => wfT_X3_takeDevice CTX ⟨Nat.le_refl _, Nat.le_refl _⟩ ⟨Nat.le_refl _, Nat.le_refl _⟩ x0 K M s.heap [] ls hf (KLe.rf K) hR va_S.rf hl)
def bT_X3_takeNumber_44 (N : Nat) (x0 : Nat) (x3 : Int64) (K : Ka) (M : Cm) : Option ((Int32 × Ka × Cm) ⊕ (Ka × Cm)) := gd (kd K x0 == 4) ((fC_X3_moveTo N K x0 ((cI M x0 2) + 1) M).bind fun o51 => some (.inl ((x3 : Int64).toInt32, K, o51)))
theorem mbT_X3_takeNumber_44 {o : (Int32 × Ka × Cm) ⊕ (Ka × Cm)} {N : Nat}  (x0 : Nat) (x3 : Int64) (K : Ka) (M : Cm) (hf : bT_X3_takeNumber_44 N x0 x3 K M = some o) : KLe K (oK sT o) := by
  unfold bT_X3_takeNumber_44 at hf
  obtain ⟨-, hf⟩ := gd_some hf
  obtain ⟨o51, -, hf⟩ := bnd_some hf
  cases hf
  exact KLe.rf _
set_option maxRecDepth 100000 in
set_option maxHeartbeats 4000000 in
theorem wbT_X3_takeNumber_44 {p : Program} {l : Launch} {e : Env} {R : Room} {s : State} {m : MethodId} {args : Array Value} {below : List Frame} {meth : Method} {c : Code} {x : Xc} {K0 : Ka} {o : (Int32 × Ka × Cm) ⊕ (Ka × Cm)} {N : Nat} (CTX : CT p l s m args meth c x K0 RX3 "takeNumber" cX3_takeNumber 5 (some .int)) (hRm : 7 ≤ R.frames ∧ 116 ≤ R.locals) (hRc : nz sT K0 o ≤ R.cells ∧ nu sT K0 o ≤ R.slots) (x0 : Nat) (x3 : Int64) (K : Ka) (M : Cm) (H : Heap) (locs : List Loc) (ls : Array Slot) (hf : bT_X3_takeNumber_44 N x0 x3 K M = some o) (hL : KLe K0 K) (hR : RC x K M H) (hS : va_S (AC K0) s.heap H locs) (hl : lv_has ls 5 [(0, .ref x0), (3, .long x3)]) : W p l e R s m args below meth c H locs (kz K - kz K0) (ku K - ku K0) (TQ sT (aQI x K0) (zQV K0) "java/lang/IllegalStateException" x K0 below args s o) (F0 m 44 ls []) := by
  obtain ⟨CX, hno, hlt, hmn⟩ := id CTX
  obtain ⟨hx, hb, hml, hown, hts, hE, hB, hr, hlk⟩ := id CX
  have hcs := nz_le (mbT_X3_takeNumber_44  x0 x3 K M hf) hRc
  unfold bT_X3_takeNumber_44 at hf
  refine lv_aload_n hx hb dX3_takeNumber_44 rfl (lv_at hl 0 rfl) ?_
  refine lv_aload_n hx hb dX3_takeNumber_45 rfl (lv_at hl 0 rfl) ?_
  obtain ⟨hk_x0_4, hf⟩ := gd_some hf
  refine cr_getI kc_3 CX hR fa_X3_15 rfl hk_x0_4 dX3_takeNumber_46 ?_
  refine lv_iconst (v := 1) hx hb dX3_takeNumber_49 (by decide) ?_
  refine lv_iadd hx hb dX3_takeNumber_50 ?_
  obtain ⟨o51, ho51, hf⟩ := bnd_some hf
  refine cr_callVv kc_3 CX hR hL hS (As := [.int ((cI M x0 2) + 1)]) (rest := []) hk_x0_4 (MC_X3_moveTo l x N K x0 ((cI M x0 2) + 1) M o51 ho51) cv_X3_42 ⟨by omega, by omega⟩ rfl rfl (Nat.le_of_ble_eq_true rfl) hl.1 dX3_takeNumber_51 hcs (fun H locs hR hS => ?_)
  refine lv_lload_n hx hb dX3_takeNumber_54 rfl (lv_at hl 1 rfl) ?_
  refine lv_l2i (v := (x3 : Int64).toInt32) hx hb dX3_takeNumber_55 rfl ?_
  exact tr_iret CX hR hS hf dX3_takeNumber_56
def bT_X3_takeNumber_39 (N : Nat) (x0 : Nat) (x3 : Int64) (K : Ka) (M : Cm) : Option ((Int32 × Ka × Cm) ⊕ (Ka × Cm)) := gd (kd K x0 == 4) (tb (fT_X3_refuse N x0 4 K M) fun o41 => (bT_X3_takeNumber_44 N) x0 x3 o41.1 o41.2)
theorem mbT_X3_takeNumber_39 {o : (Int32 × Ka × Cm) ⊕ (Ka × Cm)} {N : Nat}  (x0 : Nat) (x3 : Int64) (K : Ka) (M : Cm) (hf : bT_X3_takeNumber_39 N x0 x3 K M = some o) : KLe K (oK sT o) := by
  unfold bT_X3_takeNumber_39 at hf
  obtain ⟨-, hf⟩ := gd_some hf
  rcases tb_some hf with ⟨o41, ho, hf⟩ | ⟨q, ho, rfl⟩
  · exact KLe.tr (mfT_X3_refuse _ _ _ _ ho) (mbT_X3_takeNumber_44 _ _ _ _ hf)
  · exact (mfT_X3_refuse _ _ _ _ ho)
set_option maxRecDepth 100000 in
set_option maxHeartbeats 4000000 in
theorem wbT_X3_takeNumber_39 {p : Program} {l : Launch} {e : Env} {R : Room} {s : State} {m : MethodId} {args : Array Value} {below : List Frame} {meth : Method} {c : Code} {x : Xc} {K0 : Ka} {o : (Int32 × Ka × Cm) ⊕ (Ka × Cm)} {N : Nat} (CTX : CT p l s m args meth c x K0 RX3 "takeNumber" cX3_takeNumber 5 (some .int)) (hRm : 7 ≤ R.frames ∧ 116 ≤ R.locals) (hRc : nz sT K0 o ≤ R.cells ∧ nu sT K0 o ≤ R.slots) (x0 : Nat) (x3 : Int64) (K : Ka) (M : Cm) (H : Heap) (locs : List Loc) (ls : Array Slot) (hf : bT_X3_takeNumber_39 N x0 x3 K M = some o) (hL : KLe K0 K) (hR : RC x K M H) (hS : va_S (AC K0) s.heap H locs) (hl : lv_has ls 5 [(0, .ref x0), (3, .long x3)]) : W p l e R s m args below meth c H locs (kz K - kz K0) (ku K - ku K0) (TQ sT (aQI x K0) (zQV K0) "java/lang/IllegalStateException" x K0 below args s o) (F0 m 39 ls []) := by
  obtain ⟨CX, hno, hlt, hmn⟩ := id CTX
  obtain ⟨hx, hb, hml, hown, hts, hE, hB, hr, hlk⟩ := id CX
  have hcs := nz_le (mbT_X3_takeNumber_39  x0 x3 K M hf) hRc
  unfold bT_X3_takeNumber_39 at hf
  refine lv_aload_n hx hb dX3_takeNumber_39 rfl (lv_at hl 0 rfl) ?_
  refine lv_iconst (v := 4) hx hb dX3_takeNumber_40 (by decide) ?_
  obtain ⟨hk_x0_4, hf⟩ := gd_some hf
  rcases tb_some hf with ⟨o41, ho, hf⟩ | ⟨q, ho, rfl⟩
  · have hm1 := mbT_X3_takeNumber_44 _ _ _ _ hf
    have hb1 := nz_le hm1 hRc
    have hq1 := (mfT_X3_refuse _ _ _ _ ho)
    refine ta_callVv kc_3 CX hL hR hS (As := [.int 4]) (rest := []) hk_x0_4 (MT_X3_refuse l x hlt N _ _ _ _ _ ho) cv_X3_54 ⟨by omega, by omega⟩ rfl (Nat.le_of_ble_eq_true rfl) hl.1 hq1 hb1 rfl dX3_takeNumber_41 (fun H locs hR hS => ?_)
    exact (wbT_X3_takeNumber_44 CTX hRm hRc) _ _ _ _ _ _ _ hf (hL.tr hq1) hR hS (lv_sub hl [0, 1] rfl)
  · exact tx_callv kc_3 CTX hL hR hS (As := [.int 4]) (rest := []) hk_x0_4 (MT_X3_refuse l x hlt N _ _ _ _ _ ho) cv_X3_54 ⟨by omega, by omega⟩ rfl (Nat.le_of_ble_eq_true rfl) hl.1 (mfT_X3_refuse _ _ _ _ ho) hRc rfl dX3_takeNumber_41
def bT_X3_takeNumber_13 (N : Nat) (x0 : Nat) (x1 : Int32) (x2 : Int32) (K : Ka) (M : Cm) : Option ((Int32 × Ka × Cm) ⊕ (Ka × Cm)) := gd (kd K x0 == 4) (nn (cR M x0 0) fun a1 => gd (kd K a1 == 7) ((fC_X6_valueAt N K a1 (cI M x0 2) M).bind fun o21 => if (lg_cmp o21.1 ((x1 : Int32).toInt64)) < 0 then ((bT_X3_takeNumber_39 N) x0 o21.1 K o21.2) else (if (lg_cmp o21.1 ((x2 : Int32).toInt64)) ≤ 0 then ((bT_X3_takeNumber_44 N) x0 o21.1 K o21.2) else ((bT_X3_takeNumber_39 N) x0 o21.1 K o21.2))))
theorem mbT_X3_takeNumber_13 {o : (Int32 × Ka × Cm) ⊕ (Ka × Cm)} {N : Nat}  (x0 : Nat) (x1 : Int32) (x2 : Int32) (K : Ka) (M : Cm) (hf : bT_X3_takeNumber_13 N x0 x1 x2 K M = some o) : KLe K (oK sT o) := by
  unfold bT_X3_takeNumber_13 at hf
  obtain ⟨-, hf⟩ := gd_some hf
  obtain ⟨a1, -, hf⟩ := nn_some hf
  obtain ⟨-, hf⟩ := gd_some hf
  obtain ⟨o21, -, hf⟩ := bnd_some hf
  by_cases hc : (lg_cmp o21.1 ((x1 : Int32).toInt64)) < 0
  · rw [if_pos hc] at hf
    exact mbT_X3_takeNumber_39 _ _ _ _ hf
  · rw [if_neg hc] at hf
    by_cases hc : (lg_cmp o21.1 ((x2 : Int32).toInt64)) ≤ 0
    · rw [if_pos hc] at hf
      exact mbT_X3_takeNumber_44 _ _ _ _ hf
    · rw [if_neg hc] at hf
      exact mbT_X3_takeNumber_39 _ _ _ _ hf
set_option maxRecDepth 100000 in
set_option maxHeartbeats 4000000 in
theorem wbT_X3_takeNumber_13 {p : Program} {l : Launch} {e : Env} {R : Room} {s : State} {m : MethodId} {args : Array Value} {below : List Frame} {meth : Method} {c : Code} {x : Xc} {K0 : Ka} {o : (Int32 × Ka × Cm) ⊕ (Ka × Cm)} {N : Nat} (CTX : CT p l s m args meth c x K0 RX3 "takeNumber" cX3_takeNumber 5 (some .int)) (hRm : 7 ≤ R.frames ∧ 116 ≤ R.locals) (hRc : nz sT K0 o ≤ R.cells ∧ nu sT K0 o ≤ R.slots) (x0 : Nat) (x1 : Int32) (x2 : Int32) (K : Ka) (M : Cm) (H : Heap) (locs : List Loc) (ls : Array Slot) (hf : bT_X3_takeNumber_13 N x0 x1 x2 K M = some o) (hL : KLe K0 K) (hR : RC x K M H) (hS : va_S (AC K0) s.heap H locs) (hl : lv_has ls 5 [(0, .ref x0), (1, .int x1), (2, .int x2)]) : W p l e R s m args below meth c H locs (kz K - kz K0) (ku K - ku K0) (TQ sT (aQI x K0) (zQV K0) "java/lang/IllegalStateException" x K0 below args s o) (F0 m 13 ls []) := by
  obtain ⟨CX, hno, hlt, hmn⟩ := id CTX
  obtain ⟨hx, hb, hml, hown, hts, hE, hB, hr, hlk⟩ := id CX
  have hcs := nz_le (mbT_X3_takeNumber_13  x0 x1 x2 K M hf) hRc
  unfold bT_X3_takeNumber_13 at hf
  refine lv_aload_n hx hb dX3_takeNumber_13 rfl (lv_at hl 0 rfl) ?_
  obtain ⟨hk_x0_4, hf⟩ := gd_some hf
  refine cr_getR kc_3 CX hR fa_X3_28 rfl hk_x0_4 dX3_takeNumber_14 ?_
  refine lv_aload_n hx hb dX3_takeNumber_17 rfl (lv_at hl 0 rfl) ?_
  refine cr_getI kc_3 CX hR fa_X3_15 rfl hk_x0_4 dX3_takeNumber_18 ?_
  obtain ⟨a1, ha1, hf⟩ := nn_some hf
  refine rf_1 ha1 ?_
  obtain ⟨hk_a1_7, hf⟩ := gd_some hf
  obtain ⟨o21, ho21, hf⟩ := bnd_some hf
  refine cr_callLv kc_6 CX hR hL hS (As := [.int (cI M x0 2)]) (rest := []) hk_a1_7 (MC_X6_valueAt l x N K a1 (cI M x0 2) M o21 ho21) cv_X3_88 ⟨by omega, by omega⟩ rfl rfl (Nat.le_of_ble_eq_true rfl) hl.1 dX3_takeNumber_21 hcs (fun H locs hR hS => ?_)
  refine lv_lstore_n (lv' := [(3, .long o21.1), (0, .ref x0), (1, .int x1), (2, .int x2)]) hx hb dX3_takeNumber_24 rfl hl (by decide) rfl (fun ls hl => ?_)
  refine lv_lload_n hx hb dX3_takeNumber_25 rfl (lv_at hl 0 rfl) ?_
  refine lv_iload_n hx hb dX3_takeNumber_26 rfl (lv_at hl 2 rfl) ?_
  refine lv_i2l (v := (x1 : Int32).toInt64) hx hb dX3_takeNumber_27 rfl ?_
  refine W.lcmp hx hb dX3_takeNumber_28 ?_
  refine lv_if_lt (tgt := 39) hx hb dX3_takeNumber_29 (by decide) (fun hc => ?_) (fun hc => ?_)
  · rw [if_pos hc] at hf
    exact (wbT_X3_takeNumber_39 CTX hRm hRc) _ _ _ _ _ _ _ hf hL hR hS (lv_sub hl [1, 0] rfl)
  · rw [if_neg hc] at hf
    refine lv_lload_n hx hb dX3_takeNumber_32 rfl (lv_at hl 0 rfl) ?_
    refine lv_iload_n hx hb dX3_takeNumber_33 rfl (lv_at hl 3 rfl) ?_
    refine lv_i2l (v := (x2 : Int32).toInt64) hx hb dX3_takeNumber_34 rfl ?_
    refine W.lcmp hx hb dX3_takeNumber_35 ?_
    refine lv_if_le (tgt := 44) hx hb dX3_takeNumber_36 (by decide) (fun hc => ?_) (fun hc => ?_)
    · rw [if_pos hc] at hf
      exact (wbT_X3_takeNumber_44 CTX hRm hRc) _ _ _ _ _ _ _ hf hL hR hS (lv_sub hl [1, 0] rfl)
    · rw [if_neg hc] at hf
      exact (wbT_X3_takeNumber_39 CTX hRm hRc) _ _ _ _ _ _ _ hf hL hR hS (lv_sub hl [1, 0] rfl)
def fT_X3_takeNumber (N : Nat) (x0 : Nat) (x1 : Int32) (x2 : Int32) (K : Ka) (M : Cm) : Option ((Int32 × Ka × Cm) ⊕ (Ka × Cm)) := gd (kd K x0 == 4) (if (cI M x0 3) = 3 then ((bT_X3_takeNumber_13 N) x0 x1 x2 K M) else (tb (fT_X3_refuse N x0 1 K M) fun o10 => (bT_X3_takeNumber_13 N) x0 x1 x2 o10.1 o10.2))
theorem mfT_X3_takeNumber {o : (Int32 × Ka × Cm) ⊕ (Ka × Cm)} {N : Nat}  (x0 : Nat) (x1 : Int32) (x2 : Int32) (K : Ka) (M : Cm) (hf : fT_X3_takeNumber N x0 x1 x2 K M = some o) : KLe K (oK sT o) := by
  unfold fT_X3_takeNumber at hf
  obtain ⟨-, hf⟩ := gd_some hf
  by_cases hc : (cI M x0 3) = 3
  · rw [if_pos hc] at hf
    exact mbT_X3_takeNumber_13 _ _ _ _ _ hf
  · rw [if_neg hc] at hf
    rcases tb_some hf with ⟨o10, ho, hf⟩ | ⟨q, ho, rfl⟩
    · exact KLe.tr (mfT_X3_refuse _ _ _ _ ho) (mbT_X3_takeNumber_13 _ _ _ _ _ hf)
    · exact (mfT_X3_refuse _ _ _ _ ho)
set_option maxRecDepth 100000 in
set_option maxHeartbeats 4000000 in
theorem wfT_X3_takeNumber {p : Program} {l : Launch} {e : Env} {R : Room} {s : State} {m : MethodId} {args : Array Value} {below : List Frame} {meth : Method} {c : Code} {x : Xc} {K0 : Ka} {o : (Int32 × Ka × Cm) ⊕ (Ka × Cm)} {N : Nat} (CTX : CT p l s m args meth c x K0 RX3 "takeNumber" cX3_takeNumber 5 (some .int)) (hRm : 7 ≤ R.frames ∧ 116 ≤ R.locals) (hRc : nz sT K0 o ≤ R.cells ∧ nu sT K0 o ≤ R.slots) (x0 : Nat) (x1 : Int32) (x2 : Int32) (K : Ka) (M : Cm) (H : Heap) (locs : List Loc) (ls : Array Slot) (hf : fT_X3_takeNumber N x0 x1 x2 K M = some o) (hL : KLe K0 K) (hR : RC x K M H) (hS : va_S (AC K0) s.heap H locs) (hl : lv_has ls 5 [(0, .ref x0), (1, .int x1), (2, .int x2)]) : W p l e R s m args below meth c H locs (kz K - kz K0) (ku K - ku K0) (TQ sT (aQI x K0) (zQV K0) "java/lang/IllegalStateException" x K0 below args s o) (F0 m 0 ls []) := by
  obtain ⟨CX, hno, hlt, hmn⟩ := id CTX
  obtain ⟨hx, hb, hml, hown, hts, hE, hB, hr, hlk⟩ := id CX
  have hcs := nz_le (mfT_X3_takeNumber  x0 x1 x2 K M hf) hRc
  unfold fT_X3_takeNumber at hf
  refine lv_aload_n hx hb dX3_takeNumber_0 rfl (lv_at hl 0 rfl) ?_
  obtain ⟨hk_x0_4, hf⟩ := gd_some hf
  refine cr_getI kc_3 CX hR fa_X3_19 rfl hk_x0_4 dX3_takeNumber_1 ?_
  refine lv_iconst (v := 3) hx hb dX3_takeNumber_4 (by decide) ?_
  refine lv_icmp_eq (tgt := 13) hx hb dX3_takeNumber_5 (by decide) (fun hc => ?_) (fun hc => ?_)
  · rw [if_pos hc] at hf
    exact (wbT_X3_takeNumber_13 CTX hRm hRc) _ _ _ _ _ _ _ _ hf hL hR hS (lv_sub hl [0, 1, 2] rfl)
  · rw [if_neg hc] at hf
    refine lv_aload_n hx hb dX3_takeNumber_8 rfl (lv_at hl 0 rfl) ?_
    refine lv_iconst (v := 1) hx hb dX3_takeNumber_9 (by decide) ?_
    rcases tb_some hf with ⟨o10, ho, hf⟩ | ⟨q, ho, rfl⟩
    · have hm1 := mbT_X3_takeNumber_13 _ _ _ _ _ hf
      have hb1 := nz_le hm1 hRc
      have hq1 := (mfT_X3_refuse _ _ _ _ ho)
      refine ta_callVv kc_3 CX hL hR hS (As := [.int 1]) (rest := []) hk_x0_4 (MT_X3_refuse l x hlt N _ _ _ _ _ ho) cv_X3_54 ⟨by omega, by omega⟩ rfl (Nat.le_of_ble_eq_true rfl) hl.1 hq1 hb1 rfl dX3_takeNumber_10 (fun H locs hR hS => ?_)
      exact (wbT_X3_takeNumber_13 CTX hRm hRc) _ _ _ _ _ _ _ _ hf (hL.tr hq1) hR hS (lv_sub hl [0, 1, 2] rfl)
    · exact tx_callv kc_3 CTX hL hR hS (As := [.int 1]) (rest := []) hk_x0_4 (MT_X3_refuse l x hlt N _ _ _ _ _ ho) cv_X3_54 ⟨by omega, by omega⟩ rfl (Nat.le_of_ble_eq_true rfl) hl.1 (mfT_X3_refuse _ _ _ _ ho) hRc rfl dX3_takeNumber_10
theorem MT_X3_takeNumber (l : Launch) (x : Xc) (hlt : l.stackTraces = false) (N : Nat) (x0 : Nat) (x1 : Int32) (x2 : Int32) (K : Ka) (M : Cm) (o : (Int32 × Ka × Cm) ⊕ (Ka × Cm)) (hf : fT_X3_takeNumber N x0 x1 x2 K M = some o) : Tc sT (aQI x K) (zQV K) "java/lang/IllegalStateException" l x yX3_takeNumber cX3_takeNumber 5 (some .int) 7 116 [.ref x0, .int x1, .int x2] K M o :=
  tr_met RX3 "takeNumber" hlt (by decide) rfl rfl (Nat.le_of_ble_eq_true rfl) (fun p e s m args below meth c ls CTX hR hl => wfT_X3_takeNumber CTX ⟨Nat.le_refl _, Nat.le_refl _⟩ ⟨Nat.le_refl _, Nat.le_refl _⟩ x0 x1 x2 K M s.heap [] ls hf (KLe.rf K) hR va_S.rf hl)
def bT_X3_refuseNoPart_156 (N : Nat) (x0 : Nat) (K : Ka) (M : Cm) : Option ((Ka × Cm) ⊕ (Ka × Cm)) := some (.inl (K, M))
theorem mbT_X3_refuseNoPart_156 {o : (Ka × Cm) ⊕ (Ka × Cm)} {N : Nat}  (x0 : Nat) (K : Ka) (M : Cm) (hf : bT_X3_refuseNoPart_156 N x0 K M = some o) : KLe K (oK sV o) := by
  unfold bT_X3_refuseNoPart_156 at hf
  cases hf
  exact KLe.rf _
set_option maxRecDepth 100000 in
set_option maxHeartbeats 4000000 in
theorem wbT_X3_refuseNoPart_156 {p : Program} {l : Launch} {e : Env} {R : Room} {s : State} {m : MethodId} {args : Array Value} {below : List Frame} {meth : Method} {c : Code} {x : Xc} {K0 : Ka} {o : (Ka × Cm) ⊕ (Ka × Cm)} {N : Nat} (CTX : CT p l s m args meth c x K0 RX3 "refuseNoPart" cX3_refuseNoPart 4 none) (hRm : 7 ≤ R.frames ∧ 116 ≤ R.locals) (hRc : nz sV K0 o ≤ R.cells ∧ nu sV K0 o ≤ R.slots) (x0 : Nat) (K : Ka) (M : Cm) (H : Heap) (locs : List Loc) (ls : Array Slot) (hf : bT_X3_refuseNoPart_156 N x0 K M = some o) (hL : KLe K0 K) (hR : RC x K M H) (hS : va_S (AC K0) s.heap H locs) (hl : lv_has ls 4 [(0, .ref x0)]) : W p l e R s m args below meth c H locs (kz K - kz K0) (ku K - ku K0) (TQ sV (aQV x K0) (zQV K0) "java/lang/IllegalStateException" x K0 below args s o) (F0 m 156 ls []) := by
  obtain ⟨CX, hno, hlt, hmn⟩ := id CTX
  obtain ⟨hx, hb, hml, hown, hts, hE, hB, hr, hlk⟩ := id CX
  have hcs := nz_le (mbT_X3_refuseNoPart_156  x0 K M hf) hRc
  unfold bT_X3_refuseNoPart_156 at hf
  exact tr_vret CX hR hS hf dX3_refuseNoPart_156
def bT_X3_refuseNoPart_145 (N : Nat) (x0 : Nat) (x1 : Int32) (K : Ka) (M : Cm) : Option ((Ka × Cm) ⊕ (Ka × Cm)) := if x1 < 10 then ((bT_X3_refuseNoPart_156 N) x0 K M) else (gd (kd K x0 == 4) (tb (fT_X3_refuse N x0 5 K M) fun o153 => (bT_X3_refuseNoPart_156 N) x0 o153.1 o153.2))
theorem mbT_X3_refuseNoPart_145 {o : (Ka × Cm) ⊕ (Ka × Cm)} {N : Nat}  (x0 : Nat) (x1 : Int32) (K : Ka) (M : Cm) (hf : bT_X3_refuseNoPart_145 N x0 x1 K M = some o) : KLe K (oK sV o) := by
  unfold bT_X3_refuseNoPart_145 at hf
  by_cases hc : x1 < 10
  · rw [if_pos hc] at hf
    exact mbT_X3_refuseNoPart_156 _ _ _ hf
  · rw [if_neg hc] at hf
    obtain ⟨-, hf⟩ := gd_some hf
    rcases tb_some hf with ⟨o153, ho, hf⟩ | ⟨q, ho, rfl⟩
    · exact KLe.tr (mfT_X3_refuse _ _ _ _ ho) (mbT_X3_refuseNoPart_156 _ _ _ hf)
    · exact (mfT_X3_refuse _ _ _ _ ho)
set_option maxRecDepth 100000 in
set_option maxHeartbeats 4000000 in
theorem wbT_X3_refuseNoPart_145 {p : Program} {l : Launch} {e : Env} {R : Room} {s : State} {m : MethodId} {args : Array Value} {below : List Frame} {meth : Method} {c : Code} {x : Xc} {K0 : Ka} {o : (Ka × Cm) ⊕ (Ka × Cm)} {N : Nat} (CTX : CT p l s m args meth c x K0 RX3 "refuseNoPart" cX3_refuseNoPart 4 none) (hRm : 7 ≤ R.frames ∧ 116 ≤ R.locals) (hRc : nz sV K0 o ≤ R.cells ∧ nu sV K0 o ≤ R.slots) (x0 : Nat) (x1 : Int32) (K : Ka) (M : Cm) (H : Heap) (locs : List Loc) (ls : Array Slot) (hf : bT_X3_refuseNoPart_145 N x0 x1 K M = some o) (hL : KLe K0 K) (hR : RC x K M H) (hS : va_S (AC K0) s.heap H locs) (hl : lv_has ls 4 [(0, .ref x0), (1, .int x1)]) : W p l e R s m args below meth c H locs (kz K - kz K0) (ku K - ku K0) (TQ sV (aQV x K0) (zQV K0) "java/lang/IllegalStateException" x K0 below args s o) (F0 m 145 ls []) := by
  obtain ⟨CX, hno, hlt, hmn⟩ := id CTX
  obtain ⟨hx, hb, hml, hown, hts, hE, hB, hr, hlk⟩ := id CX
  have hcs := nz_le (mbT_X3_refuseNoPart_145  x0 x1 K M hf) hRc
  unfold bT_X3_refuseNoPart_145 at hf
  refine lv_iload_n hx hb dX3_refuseNoPart_145 rfl (lv_at hl 1 rfl) ?_
  refine lv_bipush (v := 10) hx hb dX3_refuseNoPart_146 (by decide) ?_
  refine lv_icmp_lt (tgt := 156) hx hb dX3_refuseNoPart_148 (by decide) (fun hc => ?_) (fun hc => ?_)
  · rw [if_pos hc] at hf
    exact (wbT_X3_refuseNoPart_156 CTX hRm hRc) _ _ _ _ _ _ hf hL hR hS (lv_sub hl [0] rfl)
  · rw [if_neg hc] at hf
    refine lv_aload_n hx hb dX3_refuseNoPart_151 rfl (lv_at hl 0 rfl) ?_
    refine lv_iconst (v := 5) hx hb dX3_refuseNoPart_152 (by decide) ?_
    obtain ⟨hk_x0_4, hf⟩ := gd_some hf
    rcases tb_some hf with ⟨o153, ho, hf⟩ | ⟨q, ho, rfl⟩
    · have hm1 := mbT_X3_refuseNoPart_156 _ _ _ hf
      have hb1 := nz_le hm1 hRc
      have hq1 := (mfT_X3_refuse _ _ _ _ ho)
      refine ta_callVv kc_3 CX hL hR hS (As := [.int 5]) (rest := []) hk_x0_4 (MT_X3_refuse l x hlt N _ _ _ _ _ ho) cv_X3_54 ⟨by omega, by omega⟩ rfl (Nat.le_of_ble_eq_true rfl) hl.1 hq1 hb1 rfl dX3_refuseNoPart_153 (fun H locs hR hS => ?_)
      exact (wbT_X3_refuseNoPart_156 CTX hRm hRc) _ _ _ _ _ _ hf (hL.tr hq1) hR hS (lv_sub hl [0] rfl)
    · exact tx_callv kc_3 CTX hL hR hS (As := [.int 5]) (rest := []) hk_x0_4 (MT_X3_refuse l x hlt N _ _ _ _ _ ho) cv_X3_54 ⟨by omega, by omega⟩ rfl (Nat.le_of_ble_eq_true rfl) hl.1 (mfT_X3_refuse _ _ _ _ ho) hRc rfl dX3_refuseNoPart_153
def bT_X3_refuseNoPart_110 (N : Nat) (x0 : Nat) (x1 : Int32) (s0 : Int32) (K : Ka) (M : Cm) : Option ((Ka × Cm) ⊕ (Ka × Cm)) := if s0 = 0 then ((bT_X3_refuseNoPart_145 N) x0 x1 K M) else (gd (kd K x0 == 4) (nn (cR M x0 0) fun a1 => nn (cR M x0 1) fun a2 => gd (kd K a1 == 7) ((fC_X6_valueAt N K a1 (cI M x0 2) M).bind fun o131 => gd (kd K a2 == 6) ((fC_X5_find N K a2 (cI M x0 4) o131.1 o131.2).bind fun o134 => if 0 ≤ o134.1 then ((bT_X3_refuseNoPart_145 N) x0 x1 K o134.2) else (tb (fT_X3_refuse N x0 2 K o134.2) fun o142 => (bT_X3_refuseNoPart_145 N) x0 x1 o142.1 o142.2)))))
theorem mbT_X3_refuseNoPart_110 {o : (Ka × Cm) ⊕ (Ka × Cm)} {N : Nat}  (x0 : Nat) (x1 : Int32) (s0 : Int32) (K : Ka) (M : Cm) (hf : bT_X3_refuseNoPart_110 N x0 x1 s0 K M = some o) : KLe K (oK sV o) := by
  unfold bT_X3_refuseNoPart_110 at hf
  by_cases hc : s0 = 0
  · rw [if_pos hc] at hf
    exact mbT_X3_refuseNoPart_145 _ _ _ _ hf
  · rw [if_neg hc] at hf
    obtain ⟨-, hf⟩ := gd_some hf
    obtain ⟨a1, -, hf⟩ := nn_some hf
    obtain ⟨a2, -, hf⟩ := nn_some hf
    obtain ⟨-, hf⟩ := gd_some hf
    obtain ⟨o131, -, hf⟩ := bnd_some hf
    obtain ⟨-, hf⟩ := gd_some hf
    obtain ⟨o134, -, hf⟩ := bnd_some hf
    by_cases hc : 0 ≤ o134.1
    · rw [if_pos hc] at hf
      exact mbT_X3_refuseNoPart_145 _ _ _ _ hf
    · rw [if_neg hc] at hf
      rcases tb_some hf with ⟨o142, ho, hf⟩ | ⟨q, ho, rfl⟩
      · exact KLe.tr (mfT_X3_refuse _ _ _ _ ho) (mbT_X3_refuseNoPart_145 _ _ _ _ hf)
      · exact (mfT_X3_refuse _ _ _ _ ho)
set_option maxRecDepth 100000 in
set_option maxHeartbeats 4000000 in
theorem wbT_X3_refuseNoPart_110 {p : Program} {l : Launch} {e : Env} {R : Room} {s : State} {m : MethodId} {args : Array Value} {below : List Frame} {meth : Method} {c : Code} {x : Xc} {K0 : Ka} {o : (Ka × Cm) ⊕ (Ka × Cm)} {N : Nat} (CTX : CT p l s m args meth c x K0 RX3 "refuseNoPart" cX3_refuseNoPart 4 none) (hRm : 7 ≤ R.frames ∧ 116 ≤ R.locals) (hRc : nz sV K0 o ≤ R.cells ∧ nu sV K0 o ≤ R.slots) (x0 : Nat) (x1 : Int32) (s0 : Int32) (K : Ka) (M : Cm) (H : Heap) (locs : List Loc) (ls : Array Slot) (hf : bT_X3_refuseNoPart_110 N x0 x1 s0 K M = some o) (hL : KLe K0 K) (hR : RC x K M H) (hS : va_S (AC K0) s.heap H locs) (hl : lv_has ls 4 [(0, .ref x0), (1, .int x1)]) : W p l e R s m args below meth c H locs (kz K - kz K0) (ku K - ku K0) (TQ sV (aQV x K0) (zQV K0) "java/lang/IllegalStateException" x K0 below args s o) (F0 m 110 ls [.int s0]) := by
  obtain ⟨CX, hno, hlt, hmn⟩ := id CTX
  obtain ⟨hx, hb, hml, hown, hts, hE, hB, hr, hlk⟩ := id CX
  have hcs := nz_le (mbT_X3_refuseNoPart_110  x0 x1 s0 K M hf) hRc
  unfold bT_X3_refuseNoPart_110 at hf
  refine lv_istore_n (lv' := [(3, .int s0), (0, .ref x0), (1, .int x1)]) hx hb dX3_refuseNoPart_110 rfl hl (by decide) rfl (fun ls hl => ?_)
  refine lv_iload_n hx hb dX3_refuseNoPart_111 rfl (lv_at hl 0 rfl) ?_
  refine lv_if_eq (tgt := 145) hx hb dX3_refuseNoPart_112 (by decide) (fun hc => ?_) (fun hc => ?_)
  · rw [if_pos hc] at hf
    exact (wbT_X3_refuseNoPart_145 CTX hRm hRc) _ _ _ _ _ _ _ hf hL hR hS (lv_sub hl [1, 2] rfl)
  · rw [if_neg hc] at hf
    refine lv_aload_n hx hb dX3_refuseNoPart_115 rfl (lv_at hl 1 rfl) ?_
    obtain ⟨hk_x0_4, hf⟩ := gd_some hf
    refine cr_getR kc_3 CX hR fa_X3_9 rfl hk_x0_4 dX3_refuseNoPart_116 ?_
    refine lv_aload_n hx hb dX3_refuseNoPart_119 rfl (lv_at hl 1 rfl) ?_
    refine cr_getI kc_3 CX hR fa_X3_22 rfl hk_x0_4 dX3_refuseNoPart_120 ?_
    refine lv_aload_n hx hb dX3_refuseNoPart_123 rfl (lv_at hl 1 rfl) ?_
    refine cr_getR kc_3 CX hR fa_X3_28 rfl hk_x0_4 dX3_refuseNoPart_124 ?_
    refine lv_aload_n hx hb dX3_refuseNoPart_127 rfl (lv_at hl 1 rfl) ?_
    refine cr_getI kc_3 CX hR fa_X3_15 rfl hk_x0_4 dX3_refuseNoPart_128 ?_
    obtain ⟨a1, ha1, hf⟩ := nn_some hf
    refine rf_1 ha1 ?_
    obtain ⟨a2, ha2, hf⟩ := nn_some hf
    refine rf_3 ha2 ?_
    obtain ⟨hk_a1_7, hf⟩ := gd_some hf
    obtain ⟨o131, ho131, hf⟩ := bnd_some hf
    refine cr_callLv kc_6 CX hR hL hS (As := [.int (cI M x0 2)]) (rest := [.int (cI M x0 4), .ref a2]) hk_a1_7 (MC_X6_valueAt l x N K a1 (cI M x0 2) M o131 ho131) cv_X3_88 ⟨by omega, by omega⟩ rfl rfl (Nat.le_of_ble_eq_true rfl) hl.1 dX3_refuseNoPart_131 hcs (fun H locs hR hS => ?_)
    obtain ⟨hk_a2_6, hf⟩ := gd_some hf
    obtain ⟨o134, ho134, hf⟩ := bnd_some hf
    refine cr_callIv kc_5 CX hR hL hS (As := [.int (cI M x0 4), .long o131.1]) (rest := []) hk_a2_6 (MC_X5_find l x N K a2 (cI M x0 4) o131.1 o131.2 o134 ho134) cv_X3_260 ⟨by omega, by omega⟩ rfl rfl (Nat.le_of_ble_eq_true rfl) hl.1 dX3_refuseNoPart_134 hcs (fun H locs hR hS => ?_)
    refine lv_if_ge (tgt := 145) hx hb dX3_refuseNoPart_137 (by decide) (fun hc => ?_) (fun hc => ?_)
    · rw [if_pos hc] at hf
      exact (wbT_X3_refuseNoPart_145 CTX hRm hRc) _ _ _ _ _ _ _ hf hL hR hS (lv_sub hl [1, 2] rfl)
    · rw [if_neg hc] at hf
      refine lv_aload_n hx hb dX3_refuseNoPart_140 rfl (lv_at hl 1 rfl) ?_
      refine lv_iconst (v := 2) hx hb dX3_refuseNoPart_141 (by decide) ?_
      rcases tb_some hf with ⟨o142, ho, hf⟩ | ⟨q, ho, rfl⟩
      · have hm1 := mbT_X3_refuseNoPart_145 _ _ _ _ hf
        have hb1 := nz_le hm1 hRc
        have hq1 := (mfT_X3_refuse _ _ _ _ ho)
        refine ta_callVv kc_3 CX hL hR hS (As := [.int 2]) (rest := []) hk_x0_4 (MT_X3_refuse l x hlt N _ _ _ _ _ ho) cv_X3_54 ⟨by omega, by omega⟩ rfl (Nat.le_of_ble_eq_true rfl) hl.1 hq1 hb1 rfl dX3_refuseNoPart_142 (fun H locs hR hS => ?_)
        exact (wbT_X3_refuseNoPart_145 CTX hRm hRc) _ _ _ _ _ _ _ hf (hL.tr hq1) hR hS (lv_sub hl [1, 2] rfl)
      · exact tx_callv kc_3 CTX hL hR hS (As := [.int 2]) (rest := []) hk_x0_4 (MT_X3_refuse l x hlt N _ _ _ _ _ ho) cv_X3_54 ⟨by omega, by omega⟩ rfl (Nat.le_of_ble_eq_true rfl) hl.1 (mfT_X3_refuse _ _ _ _ ho) hRc rfl dX3_refuseNoPart_142
def bT_X3_refuseNoPart_109 (N : Nat) (x0 : Nat) (x1 : Int32) (K : Ka) (M : Cm) : Option ((Ka × Cm) ⊕ (Ka × Cm)) := (bT_X3_refuseNoPart_110 N) x0 x1 0 K M
theorem mbT_X3_refuseNoPart_109 {o : (Ka × Cm) ⊕ (Ka × Cm)} {N : Nat}  (x0 : Nat) (x1 : Int32) (K : Ka) (M : Cm) (hf : bT_X3_refuseNoPart_109 N x0 x1 K M = some o) : KLe K (oK sV o) := by
  unfold bT_X3_refuseNoPart_109 at hf
  exact mbT_X3_refuseNoPart_110 _ _ _ _ _ hf
set_option maxRecDepth 100000 in
set_option maxHeartbeats 4000000 in
theorem wbT_X3_refuseNoPart_109 {p : Program} {l : Launch} {e : Env} {R : Room} {s : State} {m : MethodId} {args : Array Value} {below : List Frame} {meth : Method} {c : Code} {x : Xc} {K0 : Ka} {o : (Ka × Cm) ⊕ (Ka × Cm)} {N : Nat} (CTX : CT p l s m args meth c x K0 RX3 "refuseNoPart" cX3_refuseNoPart 4 none) (hRm : 7 ≤ R.frames ∧ 116 ≤ R.locals) (hRc : nz sV K0 o ≤ R.cells ∧ nu sV K0 o ≤ R.slots) (x0 : Nat) (x1 : Int32) (K : Ka) (M : Cm) (H : Heap) (locs : List Loc) (ls : Array Slot) (hf : bT_X3_refuseNoPart_109 N x0 x1 K M = some o) (hL : KLe K0 K) (hR : RC x K M H) (hS : va_S (AC K0) s.heap H locs) (hl : lv_has ls 4 [(0, .ref x0), (1, .int x1)]) : W p l e R s m args below meth c H locs (kz K - kz K0) (ku K - ku K0) (TQ sV (aQV x K0) (zQV K0) "java/lang/IllegalStateException" x K0 below args s o) (F0 m 109 ls []) := by
  obtain ⟨CX, hno, hlt, hmn⟩ := id CTX
  obtain ⟨hx, hb, hml, hown, hts, hE, hB, hr, hlk⟩ := id CX
  have hcs := nz_le (mbT_X3_refuseNoPart_109  x0 x1 K M hf) hRc
  unfold bT_X3_refuseNoPart_109 at hf
  refine lv_iconst (v := 0) hx hb dX3_refuseNoPart_109 (by decide) ?_
  exact (wbT_X3_refuseNoPart_110 CTX hRm hRc) _ _ _ _ _ _ _ _ hf hL hR hS (lv_sub hl [0, 1] rfl)
def bT_X3_refuseNoPart_79 (N : Nat) (x0 : Nat) (x1 : Int32) (K : Ka) (M : Cm) : Option ((Ka × Cm) ⊕ (Ka × Cm)) := gd (kd K x0 == 4) (if (cI M x0 3) = 2 then (nn (cR M x0 0) fun a1 => gd (kd K a1 == 7) ((fC_X6_kindAt N K a1 ((cI M x0 2) + 1) M).bind fun o97 => if o97.1 = 46 then ((bT_X3_refuseNoPart_109 N) x0 x1 K o97.2) else ((bT_X3_refuseNoPart_110 N) x0 x1 1 K o97.2))) else ((bT_X3_refuseNoPart_109 N) x0 x1 K M))
theorem mbT_X3_refuseNoPart_79 {o : (Ka × Cm) ⊕ (Ka × Cm)} {N : Nat}  (x0 : Nat) (x1 : Int32) (K : Ka) (M : Cm) (hf : bT_X3_refuseNoPart_79 N x0 x1 K M = some o) : KLe K (oK sV o) := by
  unfold bT_X3_refuseNoPart_79 at hf
  obtain ⟨-, hf⟩ := gd_some hf
  by_cases hc : (cI M x0 3) = 2
  · rw [if_pos hc] at hf
    obtain ⟨a1, -, hf⟩ := nn_some hf
    obtain ⟨-, hf⟩ := gd_some hf
    obtain ⟨o97, -, hf⟩ := bnd_some hf
    by_cases hc : o97.1 = 46
    · rw [if_pos hc] at hf
      exact mbT_X3_refuseNoPart_109 _ _ _ _ hf
    · rw [if_neg hc] at hf
      exact mbT_X3_refuseNoPart_110 _ _ _ _ _ hf
  · rw [if_neg hc] at hf
    exact mbT_X3_refuseNoPart_109 _ _ _ _ hf
set_option maxRecDepth 100000 in
set_option maxHeartbeats 4000000 in
theorem wbT_X3_refuseNoPart_79 {p : Program} {l : Launch} {e : Env} {R : Room} {s : State} {m : MethodId} {args : Array Value} {below : List Frame} {meth : Method} {c : Code} {x : Xc} {K0 : Ka} {o : (Ka × Cm) ⊕ (Ka × Cm)} {N : Nat} (CTX : CT p l s m args meth c x K0 RX3 "refuseNoPart" cX3_refuseNoPart 4 none) (hRm : 7 ≤ R.frames ∧ 116 ≤ R.locals) (hRc : nz sV K0 o ≤ R.cells ∧ nu sV K0 o ≤ R.slots) (x0 : Nat) (x1 : Int32) (K : Ka) (M : Cm) (H : Heap) (locs : List Loc) (ls : Array Slot) (hf : bT_X3_refuseNoPart_79 N x0 x1 K M = some o) (hL : KLe K0 K) (hR : RC x K M H) (hS : va_S (AC K0) s.heap H locs) (hl : lv_has ls 4 [(0, .ref x0), (1, .int x1)]) : W p l e R s m args below meth c H locs (kz K - kz K0) (ku K - ku K0) (TQ sV (aQV x K0) (zQV K0) "java/lang/IllegalStateException" x K0 below args s o) (F0 m 79 ls []) := by
  obtain ⟨CX, hno, hlt, hmn⟩ := id CTX
  obtain ⟨hx, hb, hml, hown, hts, hE, hB, hr, hlk⟩ := id CX
  have hcs := nz_le (mbT_X3_refuseNoPart_79  x0 x1 K M hf) hRc
  unfold bT_X3_refuseNoPart_79 at hf
  refine lv_aload_n hx hb dX3_refuseNoPart_79 rfl (lv_at hl 0 rfl) ?_
  obtain ⟨hk_x0_4, hf⟩ := gd_some hf
  refine cr_getI kc_3 CX hR fa_X3_19 rfl hk_x0_4 dX3_refuseNoPart_80 ?_
  refine lv_iconst (v := 2) hx hb dX3_refuseNoPart_83 (by decide) ?_
  refine lv_icmp_ne (tgt := 109) hx hb dX3_refuseNoPart_84 (by decide) (fun hc => ?_) (fun hc => ?_)
  · rw [if_neg hc] at hf
    exact (wbT_X3_refuseNoPart_109 CTX hRm hRc) _ _ _ _ _ _ _ hf hL hR hS (lv_sub hl [0, 1] rfl)
  · rw [if_pos hc] at hf
    refine lv_aload_n hx hb dX3_refuseNoPart_87 rfl (lv_at hl 0 rfl) ?_
    refine cr_getR kc_3 CX hR fa_X3_28 rfl hk_x0_4 dX3_refuseNoPart_88 ?_
    refine lv_aload_n hx hb dX3_refuseNoPart_91 rfl (lv_at hl 0 rfl) ?_
    refine cr_getI kc_3 CX hR fa_X3_15 rfl hk_x0_4 dX3_refuseNoPart_92 ?_
    refine lv_iconst (v := 1) hx hb dX3_refuseNoPart_95 (by decide) ?_
    refine lv_iadd hx hb dX3_refuseNoPart_96 ?_
    obtain ⟨a1, ha1, hf⟩ := nn_some hf
    refine rf_1 ha1 ?_
    obtain ⟨hk_a1_7, hf⟩ := gd_some hf
    obtain ⟨o97, ho97, hf⟩ := bnd_some hf
    refine cr_callIv kc_6 CX hR hL hS (As := [.int ((cI M x0 2) + 1)]) (rest := []) hk_a1_7 (MC_X6_kindAt l x N K a1 ((cI M x0 2) + 1) M o97 ho97) cv_X3_256 ⟨by omega, by omega⟩ rfl rfl (Nat.le_of_ble_eq_true rfl) hl.1 dX3_refuseNoPart_97 hcs (fun H locs hR hS => ?_)
    refine lv_bipush (v := 46) hx hb dX3_refuseNoPart_100 (by decide) ?_
    refine lv_icmp_eq (tgt := 109) hx hb dX3_refuseNoPart_102 (by decide) (fun hc => ?_) (fun hc => ?_)
    · rw [if_pos hc] at hf
      exact (wbT_X3_refuseNoPart_109 CTX hRm hRc) _ _ _ _ _ _ _ hf hL hR hS (lv_sub hl [0, 1] rfl)
    · rw [if_neg hc] at hf
      refine lv_iconst (v := 1) hx hb dX3_refuseNoPart_105 (by decide) ?_
      refine lv_goto (tgt := 110) hx hb dX3_refuseNoPart_106 (by decide) ?_
      exact (wbT_X3_refuseNoPart_110 CTX hRm hRc) _ _ _ _ _ _ _ _ hf hL hR hS (lv_sub hl [0, 1] rfl)
def bT_X3_refuseNoPart_69 (N : Nat) (x0 : Nat) (x1 : Int32) (s0 : Int32) (K : Ka) (M : Cm) : Option ((Ka × Cm) ⊕ (Ka × Cm)) := if s0 = 0 then (gd (kd K x0 == 4) (tb (fT_X3_refuse N x0 1 K M) fun o76 => (bT_X3_refuseNoPart_79 N) x0 x1 o76.1 o76.2)) else ((bT_X3_refuseNoPart_79 N) x0 x1 K M)
theorem mbT_X3_refuseNoPart_69 {o : (Ka × Cm) ⊕ (Ka × Cm)} {N : Nat}  (x0 : Nat) (x1 : Int32) (s0 : Int32) (K : Ka) (M : Cm) (hf : bT_X3_refuseNoPart_69 N x0 x1 s0 K M = some o) : KLe K (oK sV o) := by
  unfold bT_X3_refuseNoPart_69 at hf
  by_cases hc : s0 = 0
  · rw [if_pos hc] at hf
    obtain ⟨-, hf⟩ := gd_some hf
    rcases tb_some hf with ⟨o76, ho, hf⟩ | ⟨q, ho, rfl⟩
    · exact KLe.tr (mfT_X3_refuse _ _ _ _ ho) (mbT_X3_refuseNoPart_79 _ _ _ _ hf)
    · exact (mfT_X3_refuse _ _ _ _ ho)
  · rw [if_neg hc] at hf
    exact mbT_X3_refuseNoPart_79 _ _ _ _ hf
set_option maxRecDepth 100000 in
set_option maxHeartbeats 4000000 in
theorem wbT_X3_refuseNoPart_69 {p : Program} {l : Launch} {e : Env} {R : Room} {s : State} {m : MethodId} {args : Array Value} {below : List Frame} {meth : Method} {c : Code} {x : Xc} {K0 : Ka} {o : (Ka × Cm) ⊕ (Ka × Cm)} {N : Nat} (CTX : CT p l s m args meth c x K0 RX3 "refuseNoPart" cX3_refuseNoPart 4 none) (hRm : 7 ≤ R.frames ∧ 116 ≤ R.locals) (hRc : nz sV K0 o ≤ R.cells ∧ nu sV K0 o ≤ R.slots) (x0 : Nat) (x1 : Int32) (s0 : Int32) (K : Ka) (M : Cm) (H : Heap) (locs : List Loc) (ls : Array Slot) (hf : bT_X3_refuseNoPart_69 N x0 x1 s0 K M = some o) (hL : KLe K0 K) (hR : RC x K M H) (hS : va_S (AC K0) s.heap H locs) (hl : lv_has ls 4 [(0, .ref x0), (1, .int x1)]) : W p l e R s m args below meth c H locs (kz K - kz K0) (ku K - ku K0) (TQ sV (aQV x K0) (zQV K0) "java/lang/IllegalStateException" x K0 below args s o) (F0 m 69 ls [.int s0]) := by
  obtain ⟨CX, hno, hlt, hmn⟩ := id CTX
  obtain ⟨hx, hb, hml, hown, hts, hE, hB, hr, hlk⟩ := id CX
  have hcs := nz_le (mbT_X3_refuseNoPart_69  x0 x1 s0 K M hf) hRc
  unfold bT_X3_refuseNoPart_69 at hf
  refine lv_istore_n (lv' := [(2, .int s0), (0, .ref x0), (1, .int x1)]) hx hb dX3_refuseNoPart_69 rfl hl (by decide) rfl (fun ls hl => ?_)
  refine lv_iload_n hx hb dX3_refuseNoPart_70 rfl (lv_at hl 0 rfl) ?_
  refine lv_if_ne (tgt := 79) hx hb dX3_refuseNoPart_71 (by decide) (fun hc => ?_) (fun hc => ?_)
  · rw [if_neg hc] at hf
    exact (wbT_X3_refuseNoPart_79 CTX hRm hRc) _ _ _ _ _ _ _ hf hL hR hS (lv_sub hl [1, 2] rfl)
  · rw [if_pos hc] at hf
    refine lv_aload_n hx hb dX3_refuseNoPart_74 rfl (lv_at hl 1 rfl) ?_
    refine lv_iconst (v := 1) hx hb dX3_refuseNoPart_75 (by decide) ?_
    obtain ⟨hk_x0_4, hf⟩ := gd_some hf
    rcases tb_some hf with ⟨o76, ho, hf⟩ | ⟨q, ho, rfl⟩
    · have hm1 := mbT_X3_refuseNoPart_79 _ _ _ _ hf
      have hb1 := nz_le hm1 hRc
      have hq1 := (mfT_X3_refuse _ _ _ _ ho)
      refine ta_callVv kc_3 CX hL hR hS (As := [.int 1]) (rest := []) hk_x0_4 (MT_X3_refuse l x hlt N _ _ _ _ _ ho) cv_X3_54 ⟨by omega, by omega⟩ rfl (Nat.le_of_ble_eq_true rfl) hl.1 hq1 hb1 rfl dX3_refuseNoPart_76 (fun H locs hR hS => ?_)
      exact (wbT_X3_refuseNoPart_79 CTX hRm hRc) _ _ _ _ _ _ _ hf (hL.tr hq1) hR hS (lv_sub hl [1, 2] rfl)
    · exact tx_callv kc_3 CTX hL hR hS (As := [.int 1]) (rest := []) hk_x0_4 (MT_X3_refuse l x hlt N _ _ _ _ _ ho) cv_X3_54 ⟨by omega, by omega⟩ rfl (Nat.le_of_ble_eq_true rfl) hl.1 (mfT_X3_refuse _ _ _ _ ho) hRc rfl dX3_refuseNoPart_76
def bT_X3_refuseNoPart_64 (N : Nat) (x0 : Nat) (x1 : Int32) (K : Ka) (M : Cm) : Option ((Ka × Cm) ⊕ (Ka × Cm)) := (bT_X3_refuseNoPart_69 N) x0 x1 1 K M
theorem mbT_X3_refuseNoPart_64 {o : (Ka × Cm) ⊕ (Ka × Cm)} {N : Nat}  (x0 : Nat) (x1 : Int32) (K : Ka) (M : Cm) (hf : bT_X3_refuseNoPart_64 N x0 x1 K M = some o) : KLe K (oK sV o) := by
  unfold bT_X3_refuseNoPart_64 at hf
  exact mbT_X3_refuseNoPart_69 _ _ _ _ _ hf
set_option maxRecDepth 100000 in
set_option maxHeartbeats 4000000 in
theorem wbT_X3_refuseNoPart_64 {p : Program} {l : Launch} {e : Env} {R : Room} {s : State} {m : MethodId} {args : Array Value} {below : List Frame} {meth : Method} {c : Code} {x : Xc} {K0 : Ka} {o : (Ka × Cm) ⊕ (Ka × Cm)} {N : Nat} (CTX : CT p l s m args meth c x K0 RX3 "refuseNoPart" cX3_refuseNoPart 4 none) (hRm : 7 ≤ R.frames ∧ 116 ≤ R.locals) (hRc : nz sV K0 o ≤ R.cells ∧ nu sV K0 o ≤ R.slots) (x0 : Nat) (x1 : Int32) (K : Ka) (M : Cm) (H : Heap) (locs : List Loc) (ls : Array Slot) (hf : bT_X3_refuseNoPart_64 N x0 x1 K M = some o) (hL : KLe K0 K) (hR : RC x K M H) (hS : va_S (AC K0) s.heap H locs) (hl : lv_has ls 4 [(0, .ref x0), (1, .int x1)]) : W p l e R s m args below meth c H locs (kz K - kz K0) (ku K - ku K0) (TQ sV (aQV x K0) (zQV K0) "java/lang/IllegalStateException" x K0 below args s o) (F0 m 64 ls []) := by
  obtain ⟨CX, hno, hlt, hmn⟩ := id CTX
  obtain ⟨hx, hb, hml, hown, hts, hE, hB, hr, hlk⟩ := id CX
  have hcs := nz_le (mbT_X3_refuseNoPart_64  x0 x1 K M hf) hRc
  unfold bT_X3_refuseNoPart_64 at hf
  refine lv_iconst (v := 1) hx hb dX3_refuseNoPart_64 (by decide) ?_
  refine lv_goto (tgt := 69) hx hb dX3_refuseNoPart_65 (by decide) ?_
  exact (wbT_X3_refuseNoPart_69 CTX hRm hRc) _ _ _ _ _ _ _ _ hf hL hR hS (lv_sub hl [0, 1] rfl)
def fT_X3_refuseNoPart (N : Nat) (x0 : Nat) (x1 : Int32) (K : Ka) (M : Cm) : Option ((Ka × Cm) ⊕ (Ka × Cm)) := gd (kd K x0 == 4) (if (cI M x0 3) = 2 then ((bT_X3_refuseNoPart_64 N) x0 x1 K M) else (if (cI M x0 3) = 3 then ((bT_X3_refuseNoPart_64 N) x0 x1 K M) else (if (cI M x0 3) = 40 then ((bT_X3_refuseNoPart_64 N) x0 x1 K M) else (if (cI M x0 3) = 45 then ((bT_X3_refuseNoPart_64 N) x0 x1 K M) else (if (cI M x0 3) = 150 then ((bT_X3_refuseNoPart_64 N) x0 x1 K M) else (if (cI M x0 3) = 151 then ((bT_X3_refuseNoPart_64 N) x0 x1 K M) else (if (cI M x0 3) = 152 then ((bT_X3_refuseNoPart_64 N) x0 x1 K M) else ((bT_X3_refuseNoPart_69 N) x0 x1 0 K M))))))))
theorem mfT_X3_refuseNoPart {o : (Ka × Cm) ⊕ (Ka × Cm)} {N : Nat}  (x0 : Nat) (x1 : Int32) (K : Ka) (M : Cm) (hf : fT_X3_refuseNoPart N x0 x1 K M = some o) : KLe K (oK sV o) := by
  unfold fT_X3_refuseNoPart at hf
  obtain ⟨-, hf⟩ := gd_some hf
  by_cases hc : (cI M x0 3) = 2
  · rw [if_pos hc] at hf
    exact mbT_X3_refuseNoPart_64 _ _ _ _ hf
  · rw [if_neg hc] at hf
    by_cases hc : (cI M x0 3) = 3
    · rw [if_pos hc] at hf
      exact mbT_X3_refuseNoPart_64 _ _ _ _ hf
    · rw [if_neg hc] at hf
      by_cases hc : (cI M x0 3) = 40
      · rw [if_pos hc] at hf
        exact mbT_X3_refuseNoPart_64 _ _ _ _ hf
      · rw [if_neg hc] at hf
        by_cases hc : (cI M x0 3) = 45
        · rw [if_pos hc] at hf
          exact mbT_X3_refuseNoPart_64 _ _ _ _ hf
        · rw [if_neg hc] at hf
          by_cases hc : (cI M x0 3) = 150
          · rw [if_pos hc] at hf
            exact mbT_X3_refuseNoPart_64 _ _ _ _ hf
          · rw [if_neg hc] at hf
            by_cases hc : (cI M x0 3) = 151
            · rw [if_pos hc] at hf
              exact mbT_X3_refuseNoPart_64 _ _ _ _ hf
            · rw [if_neg hc] at hf
              by_cases hc : (cI M x0 3) = 152
              · rw [if_pos hc] at hf
                exact mbT_X3_refuseNoPart_64 _ _ _ _ hf
              · rw [if_neg hc] at hf
                exact mbT_X3_refuseNoPart_69 _ _ _ _ _ hf
set_option maxRecDepth 100000 in
set_option maxHeartbeats 4000000 in
theorem wfT_X3_refuseNoPart {p : Program} {l : Launch} {e : Env} {R : Room} {s : State} {m : MethodId} {args : Array Value} {below : List Frame} {meth : Method} {c : Code} {x : Xc} {K0 : Ka} {o : (Ka × Cm) ⊕ (Ka × Cm)} {N : Nat} (CTX : CT p l s m args meth c x K0 RX3 "refuseNoPart" cX3_refuseNoPart 4 none) (hRm : 7 ≤ R.frames ∧ 116 ≤ R.locals) (hRc : nz sV K0 o ≤ R.cells ∧ nu sV K0 o ≤ R.slots) (x0 : Nat) (x1 : Int32) (K : Ka) (M : Cm) (H : Heap) (locs : List Loc) (ls : Array Slot) (hf : fT_X3_refuseNoPart N x0 x1 K M = some o) (hL : KLe K0 K) (hR : RC x K M H) (hS : va_S (AC K0) s.heap H locs) (hl : lv_has ls 4 [(0, .ref x0), (1, .int x1)]) : W p l e R s m args below meth c H locs (kz K - kz K0) (ku K - ku K0) (TQ sV (aQV x K0) (zQV K0) "java/lang/IllegalStateException" x K0 below args s o) (F0 m 0 ls []) := by
  obtain ⟨CX, hno, hlt, hmn⟩ := id CTX
  obtain ⟨hx, hb, hml, hown, hts, hE, hB, hr, hlk⟩ := id CX
  have hcs := nz_le (mfT_X3_refuseNoPart  x0 x1 K M hf) hRc
  unfold fT_X3_refuseNoPart at hf
  refine lv_aload_n hx hb dX3_refuseNoPart_0 rfl (lv_at hl 0 rfl) ?_
  obtain ⟨hk_x0_4, hf⟩ := gd_some hf
  refine cr_getI kc_3 CX hR fa_X3_19 rfl hk_x0_4 dX3_refuseNoPart_1 ?_
  refine lv_iconst (v := 2) hx hb dX3_refuseNoPart_4 (by decide) ?_
  refine lv_icmp_eq (tgt := 64) hx hb dX3_refuseNoPart_5 (by decide) (fun hc => ?_) (fun hc => ?_)
  · rw [if_pos hc] at hf
    exact (wbT_X3_refuseNoPart_64 CTX hRm hRc) _ _ _ _ _ _ _ hf hL hR hS (lv_sub hl [0, 1] rfl)
  · rw [if_neg hc] at hf
    refine lv_aload_n hx hb dX3_refuseNoPart_8 rfl (lv_at hl 0 rfl) ?_
    refine cr_getI kc_3 CX hR fa_X3_19 rfl hk_x0_4 dX3_refuseNoPart_9 ?_
    refine lv_iconst (v := 3) hx hb dX3_refuseNoPart_12 (by decide) ?_
    refine lv_icmp_eq (tgt := 64) hx hb dX3_refuseNoPart_13 (by decide) (fun hc => ?_) (fun hc => ?_)
    · rw [if_pos hc] at hf
      exact (wbT_X3_refuseNoPart_64 CTX hRm hRc) _ _ _ _ _ _ _ hf hL hR hS (lv_sub hl [0, 1] rfl)
    · rw [if_neg hc] at hf
      refine lv_aload_n hx hb dX3_refuseNoPart_16 rfl (lv_at hl 0 rfl) ?_
      refine cr_getI kc_3 CX hR fa_X3_19 rfl hk_x0_4 dX3_refuseNoPart_17 ?_
      refine lv_bipush (v := 40) hx hb dX3_refuseNoPart_20 (by decide) ?_
      refine lv_icmp_eq (tgt := 64) hx hb dX3_refuseNoPart_22 (by decide) (fun hc => ?_) (fun hc => ?_)
      · rw [if_pos hc] at hf
        exact (wbT_X3_refuseNoPart_64 CTX hRm hRc) _ _ _ _ _ _ _ hf hL hR hS (lv_sub hl [0, 1] rfl)
      · rw [if_neg hc] at hf
        refine lv_aload_n hx hb dX3_refuseNoPart_25 rfl (lv_at hl 0 rfl) ?_
        refine cr_getI kc_3 CX hR fa_X3_19 rfl hk_x0_4 dX3_refuseNoPart_26 ?_
        refine lv_bipush (v := 45) hx hb dX3_refuseNoPart_29 (by decide) ?_
        refine lv_icmp_eq (tgt := 64) hx hb dX3_refuseNoPart_31 (by decide) (fun hc => ?_) (fun hc => ?_)
        · rw [if_pos hc] at hf
          exact (wbT_X3_refuseNoPart_64 CTX hRm hRc) _ _ _ _ _ _ _ hf hL hR hS (lv_sub hl [0, 1] rfl)
        · rw [if_neg hc] at hf
          refine lv_aload_n hx hb dX3_refuseNoPart_34 rfl (lv_at hl 0 rfl) ?_
          refine cr_getI kc_3 CX hR fa_X3_19 rfl hk_x0_4 dX3_refuseNoPart_35 ?_
          refine lv_sipush (v := 150) hx hb dX3_refuseNoPart_38 (by decide) ?_
          refine lv_icmp_eq (tgt := 64) hx hb dX3_refuseNoPart_41 (by decide) (fun hc => ?_) (fun hc => ?_)
          · rw [if_pos hc] at hf
            exact (wbT_X3_refuseNoPart_64 CTX hRm hRc) _ _ _ _ _ _ _ hf hL hR hS (lv_sub hl [0, 1] rfl)
          · rw [if_neg hc] at hf
            refine lv_aload_n hx hb dX3_refuseNoPart_44 rfl (lv_at hl 0 rfl) ?_
            refine cr_getI kc_3 CX hR fa_X3_19 rfl hk_x0_4 dX3_refuseNoPart_45 ?_
            refine lv_sipush (v := 151) hx hb dX3_refuseNoPart_48 (by decide) ?_
            refine lv_icmp_eq (tgt := 64) hx hb dX3_refuseNoPart_51 (by decide) (fun hc => ?_) (fun hc => ?_)
            · rw [if_pos hc] at hf
              exact (wbT_X3_refuseNoPart_64 CTX hRm hRc) _ _ _ _ _ _ _ hf hL hR hS (lv_sub hl [0, 1] rfl)
            · rw [if_neg hc] at hf
              refine lv_aload_n hx hb dX3_refuseNoPart_54 rfl (lv_at hl 0 rfl) ?_
              refine cr_getI kc_3 CX hR fa_X3_19 rfl hk_x0_4 dX3_refuseNoPart_55 ?_
              refine lv_sipush (v := 152) hx hb dX3_refuseNoPart_58 (by decide) ?_
              refine lv_icmp_ne (tgt := 68) hx hb dX3_refuseNoPart_61 (by decide) (fun hc => ?_) (fun hc => ?_)
              · rw [if_neg hc] at hf
                refine lv_iconst (v := 0) hx hb dX3_refuseNoPart_68 (by decide) ?_
                exact (wbT_X3_refuseNoPart_69 CTX hRm hRc) _ _ _ _ _ _ _ _ hf hL hR hS (lv_sub hl [0, 1] rfl)
              · rw [if_pos hc] at hf
                exact (wbT_X3_refuseNoPart_64 CTX hRm hRc) _ _ _ _ _ _ _ hf hL hR hS (lv_sub hl [0, 1] rfl)
theorem MT_X3_refuseNoPart (l : Launch) (x : Xc) (hlt : l.stackTraces = false) (N : Nat) (x0 : Nat) (x1 : Int32) (K : Ka) (M : Cm) (o : (Ka × Cm) ⊕ (Ka × Cm)) (hf : fT_X3_refuseNoPart N x0 x1 K M = some o) : Tc sV (aQV x K) (zQV K) "java/lang/IllegalStateException" l x yX3_refuseNoPart cX3_refuseNoPart 4 none 7 116 [.ref x0, .int x1] K M o :=
  tr_met RX3 "refuseNoPart" hlt (by decide) rfl rfl (Nat.le_of_ble_eq_true rfl) (fun p e s m args below meth c ls CTX hR hl => wfT_X3_refuseNoPart CTX ⟨Nat.le_refl _, Nat.le_refl _⟩ ⟨Nat.le_refl _, Nat.le_refl _⟩ x0 x1 K M s.heap [] ls hf (KLe.rf K) hR va_S.rf hl)
