def GMono (G : Nat → Nat → Int32 → Int32 → Ka → Cm → Option ((Ka × Cm) ⊕ (Ka × Cm))) : Prop := ∀ (t a : Nat) (b c : Int32) (K : Ka) (M : Cm) (o : (Ka × Cm) ⊕ (Ka × Cm)), G t a b c K M = some o → KLe K (oK sV o)
def GMet (l : Launch) (x : Xc) (G : Nat → Nat → Int32 → Int32 → Ka → Cm → Option ((Ka × Cm) ⊕ (Ka × Cm))) (fr lo : Nat) : Prop := (∀ (x0 : Nat) (x1 : Int32) (K : Ka) (M : Cm) (o : (Ka × Cm) ⊕ (Ka × Cm)), G 0 x0 x1 0 K M = some o → Tc sV (aQV x K) (zQV K) "java/lang/IllegalStateException" l x yX3_readBlock cX3_readBlock 3 none fr lo [.ref x0, .int x1] K M o) ∧ (∀ (x0 : Nat) (x1 : Int32) (K : Ka) (M : Cm) (o : (Ka × Cm) ⊕ (Ka × Cm)), G 1 x0 x1 0 K M = some o → Tc sV (aQV x K) (zQV K) "java/lang/IllegalStateException" l x yX3_readStatement cX3_readStatement 6 none fr lo [.ref x0, .int x1] K M o) ∧ (∀ (x0 : Nat) (x1 : Int32) (K : Ka) (M : Cm) (o : (Ka × Cm) ⊕ (Ka × Cm)), G 2 x0 x1 0 K M = some o → Tc sV (aQV x K) (zQV K) "java/lang/IllegalStateException" l x yX3_readIf cX3_readIf 4 none fr lo [.ref x0, .int x1] K M o) ∧ (∀ (x0 : Nat) (x1 : Int32) (x2 : Int32) (K : Ka) (M : Cm) (o : (Ka × Cm) ⊕ (Ka × Cm)), G 3 x0 x1 x2 K M = some o → Tc sV (aQV x K) (zQV K) "java/lang/IllegalStateException" l x yX3_readWhile cX3_readWhile 4 none fr lo [.ref x0, .int x1, .int x2] K M o) ∧ (∀ (x0 : Nat) (x1 : Int32) (K : Ka) (M : Cm) (o : (Ka × Cm) ⊕ (Ka × Cm)), G 4 x0 x1 0 K M = some o → Tc sV (aQV x K) (zQV K) "java/lang/IllegalStateException" l x yX3_readTry cX3_readTry 4 none fr lo [.ref x0, .int x1] K M o) ∧ (∀ (x0 : Nat) (x1 : Int32) (x2 : Int32) (K : Ka) (M : Cm) (o : (Ka × Cm) ⊕ (Ka × Cm)), G 5 x0 x1 x2 K M = some o → Tc sV (aQV x K) (zQV K) "java/lang/IllegalStateException" l x yX3_readExpression cX3_readExpression 6 none fr lo [.ref x0, .int x1, .int x2] K M o) ∧ (∀ (x0 : Nat) (x1 : Int32) (K : Ka) (M : Cm) (o : (Ka × Cm) ⊕ (Ka × Cm)), G 6 x0 x1 0 K M = some o → Tc sV (aQV x K) (zQV K) "java/lang/IllegalStateException" l x yX3_readPart cX3_readPart 3 none fr lo [.ref x0, .int x1] K M o)
def bT_X3_readBlock_64 (N : Nat) (G : Nat → Nat → Int32 → Int32 → Ka → Cm → Option ((Ka × Cm) ⊕ (Ka × Cm))) (r37 : Nat → Int32 → Int32 → Ka → Cm → Option ((Ka × Cm) ⊕ (Ka × Cm))) (k70 : Nat → Ka → Cm → Option ((Ka × Cm) ⊕ (Ka × Cm))) (x0 : Nat) (x1 : Int32) (x2 : Int32) (K : Ka) (M : Cm) : Option ((Ka × Cm) ⊕ (Ka × Cm)) := r37 x0 x1 (x2 + 1) K M
theorem mbT_X3_readBlock_64 {o : (Ka × Cm) ⊕ (Ka × Cm)} {N : Nat} {G : Nat → Nat → Int32 → Int32 → Ka → Cm → Option ((Ka × Cm) ⊕ (Ka × Cm))} {r37 : Nat → Int32 → Int32 → Ka → Cm → Option ((Ka × Cm) ⊕ (Ka × Cm))} {k70 : Nat → Ka → Cm → Option ((Ka × Cm) ⊕ (Ka × Cm))} (hGm : GMono G) (mr37 : ∀ (x0 : Nat) (x1 : Int32) (x2 : Int32) (K : Ka) (M : Cm) , r37 x0 x1 x2 K M = some o → KLe K (oK sV o)) (mk70 : ∀ (x0 : Nat) (K : Ka) (M : Cm) , k70 x0 K M = some o → KLe K (oK sV o)) (x0 : Nat) (x1 : Int32) (x2 : Int32) (K : Ka) (M : Cm) (hf : bT_X3_readBlock_64 N G r37 k70 x0 x1 x2 K M = some o) : KLe K (oK sV o) := by
  unfold bT_X3_readBlock_64 at hf
  exact mr37 _ _ _ _ _ hf
set_option maxRecDepth 100000 in
set_option maxHeartbeats 4000000 in
theorem wbT_X3_readBlock_64 {p : Program} {l : Launch} {e : Env} {R : Room} {s : State} {m : MethodId} {args : Array Value} {below : List Frame} {meth : Method} {c : Code} {x : Xc} {K0 : Ka} {o : (Ka × Cm) ⊕ (Ka × Cm)} {fr lo : Nat} {N : Nat} {G : Nat → Nat → Int32 → Int32 → Ka → Cm → Option ((Ka × Cm) ⊕ (Ka × Cm))} {r37 : Nat → Int32 → Int32 → Ka → Cm → Option ((Ka × Cm) ⊕ (Ka × Cm))} {k70 : Nat → Ka → Cm → Option ((Ka × Cm) ⊕ (Ka × Cm))} (CTX : CT p l s m args meth c x K0 RX3 "readBlock" cX3_readBlock 3 none) (hRm : (fr + 1) ≤ R.frames ∧ (lo + 60) ≤ R.locals) (hRc : nz sV K0 o ≤ R.cells ∧ nu sV K0 o ≤ R.slots) (hG : GMet l x G fr lo) (hB0 : 10 ≤ fr ∧ 183 ≤ lo) (hGm : GMono G) (mr37 : ∀ (x0 : Nat) (x1 : Int32) (x2 : Int32) (K : Ka) (M : Cm) , r37 x0 x1 x2 K M = some o → KLe K (oK sV o)) (mk70 : ∀ (x0 : Nat) (K : Ka) (M : Cm) , k70 x0 K M = some o → KLe K (oK sV o)) (hr37 : ∀ (x0 : Nat) (x1 : Int32) (x2 : Int32) (K : Ka) (M : Cm) (H : Heap) (locs : List Loc) (ls : Array Slot), r37 x0 x1 x2 K M = some o → KLe K0 K → RC x K M H → va_S (AC K0) s.heap H locs → lv_has ls 3 [(0, .ref x0), (1, .int x1), (2, .int x2)] → W p l e R s m args below meth c H locs (kz K - kz K0) (ku K - ku K0) (TQ sV (aQV x K0) (zQV K0) "java/lang/IllegalStateException" x K0 below args s o) (F0 m 37 ls [])) (hk70 : ∀ (x0 : Nat) (K : Ka) (M : Cm) (H : Heap) (locs : List Loc) (ls : Array Slot), k70 x0 K M = some o → KLe K0 K → RC x K M H → va_S (AC K0) s.heap H locs → lv_has ls 3 [(0, .ref x0)] → W p l e R s m args below meth c H locs (kz K - kz K0) (ku K - ku K0) (TQ sV (aQV x K0) (zQV K0) "java/lang/IllegalStateException" x K0 below args s o) (F0 m 70 ls [])) (x0 : Nat) (x1 : Int32) (x2 : Int32) (K : Ka) (M : Cm) (H : Heap) (locs : List Loc) (ls : Array Slot) (hf : bT_X3_readBlock_64 N G r37 k70 x0 x1 x2 K M = some o) (hL : KLe K0 K) (hR : RC x K M H) (hS : va_S (AC K0) s.heap H locs) (hl : lv_has ls 3 [(0, .ref x0), (1, .int x1), (2, .int x2)]) : W p l e R s m args below meth c H locs (kz K - kz K0) (ku K - ku K0) (TQ sV (aQV x K0) (zQV K0) "java/lang/IllegalStateException" x K0 below args s o) (F0 m 64 ls []) := by
  obtain ⟨CX, hno, hlt, hmn⟩ := id CTX
  obtain ⟨hx, hb, hml, hown, hts, hE, hB, hr, hlk⟩ := id CX
  have hcs := nz_le (mbT_X3_readBlock_64 hGm mr37 mk70 x0 x1 x2 K M hf) hRc
  unfold bT_X3_readBlock_64 at hf
  refine lv_iinc (v := x2 + 1) (lv' := [(2, .int (x2 + 1)), (0, .ref x0), (1, .int x1)]) hx hb dX3_readBlock_64 hl (k := 2) rfl rfl (by decide) rfl (fun ls hl => ?_)
  refine lv_goto (tgt := 37) hx hb dX3_readBlock_67 (by decide) ?_
  exact hr37 _ _ _ _ _ _ _ _ hf hL hR hS (lv_sub hl [1, 2, 0] rfl)
def lT_X3_readBlock_37 (N : Nat) (G : Nat → Nat → Int32 → Int32 → Ka → Cm → Option ((Ka × Cm) ⊕ (Ka × Cm))) (k70 : Nat → Ka → Cm → Option ((Ka × Cm) ⊕ (Ka × Cm))) : Nat → Nat → Int32 → Int32 → Ka → Cm → Option ((Ka × Cm) ⊕ (Ka × Cm))
  | 0, _, _, _, _, _ => none
  | n + 1, x0, x1, x2, K, M => gd (kd K x0 == 4) (nn (cR M x0 0) fun a1 => gd (kd K a1 == 7) (if (cI M a1 6) ≤ x2 then (k70 x0 K M) else (if (cI M x0 3) = 125 then (k70 x0 K M) else (tb (G 1 x0 (x1 + 1) 0 K M) fun o61 => (bT_X3_readBlock_64 N G (lT_X3_readBlock_37 N G k70 n) k70) x0 x1 x2 o61.1 o61.2))))
theorem mlT_X3_readBlock_37 {o : (Ka × Cm) ⊕ (Ka × Cm)} {N : Nat} {G : Nat → Nat → Int32 → Int32 → Ka → Cm → Option ((Ka × Cm) ⊕ (Ka × Cm))} {k70 : Nat → Ka → Cm → Option ((Ka × Cm) ⊕ (Ka × Cm))} (hGm : GMono G) (mk70 : ∀ (x0 : Nat) (K : Ka) (M : Cm) , k70 x0 K M = some o → KLe K (oK sV o)) : ∀ (n : Nat) (x0 : Nat) (x1 : Int32) (x2 : Int32) (K : Ka) (M : Cm), lT_X3_readBlock_37 N G k70 n x0 x1 x2 K M = some o → KLe K (oK sV o) := by
  intro n
  induction n with
  | zero => intro x0 x1 x2 K M hf; cases hf
  | succ n ih =>
    intro x0 x1 x2 K M hf
    rw [lT_X3_readBlock_37] at hf
    obtain ⟨-, hf⟩ := gd_some hf
    obtain ⟨a1, -, hf⟩ := nn_some hf
    obtain ⟨-, hf⟩ := gd_some hf
    by_cases hc : (cI M a1 6) ≤ x2
    · rw [if_pos hc] at hf
      exact mk70 _ _ _ hf
    · rw [if_neg hc] at hf
      by_cases hc : (cI M x0 3) = 125
      · rw [if_pos hc] at hf
        exact mk70 _ _ _ hf
      · rw [if_neg hc] at hf
        rcases tb_some hf with ⟨o61, ho, hf⟩ | ⟨q, ho, rfl⟩
        · exact KLe.tr (hGm _ _ _ _ _ _ _ ho) ((mbT_X3_readBlock_64 hGm ih mk70) _ _ _ _ _ hf)
        · exact (hGm _ _ _ _ _ _ _ ho)
set_option maxRecDepth 100000 in
set_option maxHeartbeats 4000000 in
theorem wlT_X3_readBlock_37 {p : Program} {l : Launch} {e : Env} {R : Room} {s : State} {m : MethodId} {args : Array Value} {below : List Frame} {meth : Method} {c : Code} {x : Xc} {K0 : Ka} {o : (Ka × Cm) ⊕ (Ka × Cm)} {fr lo : Nat} {N : Nat} {G : Nat → Nat → Int32 → Int32 → Ka → Cm → Option ((Ka × Cm) ⊕ (Ka × Cm))} {k70 : Nat → Ka → Cm → Option ((Ka × Cm) ⊕ (Ka × Cm))} (CTX : CT p l s m args meth c x K0 RX3 "readBlock" cX3_readBlock 3 none) (hRm : (fr + 1) ≤ R.frames ∧ (lo + 60) ≤ R.locals) (hRc : nz sV K0 o ≤ R.cells ∧ nu sV K0 o ≤ R.slots) (hG : GMet l x G fr lo) (hB0 : 10 ≤ fr ∧ 183 ≤ lo) (hGm : GMono G) (mk70 : ∀ (x0 : Nat) (K : Ka) (M : Cm) , k70 x0 K M = some o → KLe K (oK sV o)) (hk70 : ∀ (x0 : Nat) (K : Ka) (M : Cm) (H : Heap) (locs : List Loc) (ls : Array Slot), k70 x0 K M = some o → KLe K0 K → RC x K M H → va_S (AC K0) s.heap H locs → lv_has ls 3 [(0, .ref x0)] → W p l e R s m args below meth c H locs (kz K - kz K0) (ku K - ku K0) (TQ sV (aQV x K0) (zQV K0) "java/lang/IllegalStateException" x K0 below args s o) (F0 m 70 ls [])) : ∀ (n : Nat) (x0 : Nat) (x1 : Int32) (x2 : Int32) (K : Ka) (M : Cm) (H : Heap) (locs : List Loc) (ls : Array Slot), lT_X3_readBlock_37 N G k70 n x0 x1 x2 K M = some o → KLe K0 K → RC x K M H → va_S (AC K0) s.heap H locs → lv_has ls 3 [(0, .ref x0), (1, .int x1), (2, .int x2)] → W p l e R s m args below meth c H locs (kz K - kz K0) (ku K - ku K0) (TQ sV (aQV x K0) (zQV K0) "java/lang/IllegalStateException" x K0 below args s o) (F0 m 37 ls []) := by
  obtain ⟨CX, hno, hlt, hmn⟩ := id CTX
  obtain ⟨hx, hb, hml, hown, hts, hE, hB, hr, hlk⟩ := id CX
  intro n
  induction n with
  | zero => intro x0 x1 x2 K M H locs ls hf; cases hf
  | succ n ih =>
    intro x0 x1 x2 K M H locs ls hf hL hR hS hl
    have hcs := nz_le (mlT_X3_readBlock_37 hGm mk70 (n + 1) x0 x1 x2 K M hf) hRc
    rw [lT_X3_readBlock_37] at hf
    refine lv_iload_n hx hb dX3_readBlock_37 rfl (lv_at hl 2 rfl) ?_
    refine lv_aload_n hx hb dX3_readBlock_38 rfl (lv_at hl 0 rfl) ?_
    obtain ⟨hk_x0_4, hf⟩ := gd_some hf
    refine cr_getR kc_3 CX hR fa_X3_28 rfl hk_x0_4 dX3_readBlock_39 ?_
    obtain ⟨a1, ha1, hf⟩ := nn_some hf
    refine rf_0 ha1 ?_
    obtain ⟨hk_a1_7, hf⟩ := gd_some hf
    refine cr_getI kc_6 CX hR fa_X3_34 rfl hk_a1_7 dX3_readBlock_42 ?_
    refine lv_icmp_ge (tgt := 70) hx hb dX3_readBlock_45 (by decide) (fun hc => ?_) (fun hc => ?_)
    · rw [if_pos hc] at hf
      exact hk70 _ _ _ _ _ _ hf hL hR hS (lv_sub hl [0] rfl)
    · rw [if_neg hc] at hf
      refine lv_aload_n hx hb dX3_readBlock_48 rfl (lv_at hl 0 rfl) ?_
      refine cr_getI kc_3 CX hR fa_X3_19 rfl hk_x0_4 dX3_readBlock_49 ?_
      refine lv_bipush (v := 125) hx hb dX3_readBlock_52 (by decide) ?_
      refine lv_icmp_eq (tgt := 70) hx hb dX3_readBlock_54 (by decide) (fun hc => ?_) (fun hc => ?_)
      · rw [if_pos hc] at hf
        exact hk70 _ _ _ _ _ _ hf hL hR hS (lv_sub hl [0] rfl)
      · rw [if_neg hc] at hf
        refine lv_aload_n hx hb dX3_readBlock_57 rfl (lv_at hl 0 rfl) ?_
        refine lv_iload_n hx hb dX3_readBlock_58 rfl (lv_at hl 1 rfl) ?_
        refine lv_iconst (v := 1) hx hb dX3_readBlock_59 (by decide) ?_
        refine lv_iadd hx hb dX3_readBlock_60 ?_
        rcases tb_some hf with ⟨o61, ho, hf⟩ | ⟨q, ho, rfl⟩
        · have hm1 := (mbT_X3_readBlock_64 hGm (mlT_X3_readBlock_37 hGm mk70 n) mk70) _ _ _ _ _ hf
          have hb1 := nz_le hm1 hRc
          have hq1 := (hGm _ _ _ _ _ _ _ ho)
          refine ta_callVv kc_3 CX hL hR hS (As := [.int (x1 + 1)]) (rest := []) hk_x0_4 (hG.2.1 _ _ _ _ _ ho) cv_X3_170 ⟨by omega, by omega⟩ rfl (Nat.le_of_ble_eq_true rfl) hl.1 hq1 hb1 rfl dX3_readBlock_61 (fun H locs hR hS => ?_)
          exact (wbT_X3_readBlock_64 CTX hRm hRc hG hB0 hGm (mlT_X3_readBlock_37 hGm mk70 n) mk70 ih hk70) _ _ _ _ _ _ _ _ hf (hL.tr hq1) hR hS (lv_sub hl [0, 1, 2] rfl)
        · exact tx_callv kc_3 CTX hL hR hS (As := [.int (x1 + 1)]) (rest := []) hk_x0_4 (hG.2.1 _ _ _ _ _ ho) cv_X3_170 ⟨by omega, by omega⟩ rfl (Nat.le_of_ble_eq_true rfl) hl.1 (hGm _ _ _ _ _ _ _ ho) hRc rfl dX3_readBlock_61
def bT_X3_readBlock_76 (N : Nat) (G : Nat → Nat → Int32 → Int32 → Ka → Cm → Option ((Ka × Cm) ⊕ (Ka × Cm))) (x0 : Nat) (K : Ka) (M : Cm) : Option ((Ka × Cm) ⊕ (Ka × Cm)) := some (.inl (K, M))
theorem mbT_X3_readBlock_76 {o : (Ka × Cm) ⊕ (Ka × Cm)} {N : Nat} {G : Nat → Nat → Int32 → Int32 → Ka → Cm → Option ((Ka × Cm) ⊕ (Ka × Cm))} (hGm : GMono G) (x0 : Nat) (K : Ka) (M : Cm) (hf : bT_X3_readBlock_76 N G x0 K M = some o) : KLe K (oK sV o) := by
  unfold bT_X3_readBlock_76 at hf
  cases hf
  exact KLe.rf _
set_option maxRecDepth 100000 in
set_option maxHeartbeats 4000000 in
theorem wbT_X3_readBlock_76 {p : Program} {l : Launch} {e : Env} {R : Room} {s : State} {m : MethodId} {args : Array Value} {below : List Frame} {meth : Method} {c : Code} {x : Xc} {K0 : Ka} {o : (Ka × Cm) ⊕ (Ka × Cm)} {fr lo : Nat} {N : Nat} {G : Nat → Nat → Int32 → Int32 → Ka → Cm → Option ((Ka × Cm) ⊕ (Ka × Cm))} (CTX : CT p l s m args meth c x K0 RX3 "readBlock" cX3_readBlock 3 none) (hRm : (fr + 1) ≤ R.frames ∧ (lo + 60) ≤ R.locals) (hRc : nz sV K0 o ≤ R.cells ∧ nu sV K0 o ≤ R.slots) (hG : GMet l x G fr lo) (hB0 : 10 ≤ fr ∧ 183 ≤ lo) (hGm : GMono G) (x0 : Nat) (K : Ka) (M : Cm) (H : Heap) (locs : List Loc) (ls : Array Slot) (hf : bT_X3_readBlock_76 N G x0 K M = some o) (hL : KLe K0 K) (hR : RC x K M H) (hS : va_S (AC K0) s.heap H locs) (hl : lv_has ls 3 [(0, .ref x0)]) : W p l e R s m args below meth c H locs (kz K - kz K0) (ku K - ku K0) (TQ sV (aQV x K0) (zQV K0) "java/lang/IllegalStateException" x K0 below args s o) (F0 m 76 ls []) := by
  obtain ⟨CX, hno, hlt, hmn⟩ := id CTX
  obtain ⟨hx, hb, hml, hown, hts, hE, hB, hr, hlk⟩ := id CX
  have hcs := nz_le (mbT_X3_readBlock_76 hGm x0 K M hf) hRc
  unfold bT_X3_readBlock_76 at hf
  exact tr_vret CX hR hS hf dX3_readBlock_76
def bT_X3_readBlock_70 (N : Nat) (G : Nat → Nat → Int32 → Int32 → Ka → Cm → Option ((Ka × Cm) ⊕ (Ka × Cm))) (x0 : Nat) (K : Ka) (M : Cm) : Option ((Ka × Cm) ⊕ (Ka × Cm)) := gd (kd K x0 == 4) (tb (fT_X3_take N x0 125 K M) fun o73 => (bT_X3_readBlock_76 N G) x0 o73.1 o73.2)
theorem mbT_X3_readBlock_70 {o : (Ka × Cm) ⊕ (Ka × Cm)} {N : Nat} {G : Nat → Nat → Int32 → Int32 → Ka → Cm → Option ((Ka × Cm) ⊕ (Ka × Cm))} (hGm : GMono G) (x0 : Nat) (K : Ka) (M : Cm) (hf : bT_X3_readBlock_70 N G x0 K M = some o) : KLe K (oK sV o) := by
  unfold bT_X3_readBlock_70 at hf
  obtain ⟨-, hf⟩ := gd_some hf
  rcases tb_some hf with ⟨o73, ho, hf⟩ | ⟨q, ho, rfl⟩
  · exact KLe.tr (mfT_X3_take _ _ _ _ ho) ((mbT_X3_readBlock_76 hGm) _ _ _ hf)
  · exact (mfT_X3_take _ _ _ _ ho)
set_option maxRecDepth 100000 in
set_option maxHeartbeats 4000000 in
theorem wbT_X3_readBlock_70 {p : Program} {l : Launch} {e : Env} {R : Room} {s : State} {m : MethodId} {args : Array Value} {below : List Frame} {meth : Method} {c : Code} {x : Xc} {K0 : Ka} {o : (Ka × Cm) ⊕ (Ka × Cm)} {fr lo : Nat} {N : Nat} {G : Nat → Nat → Int32 → Int32 → Ka → Cm → Option ((Ka × Cm) ⊕ (Ka × Cm))} (CTX : CT p l s m args meth c x K0 RX3 "readBlock" cX3_readBlock 3 none) (hRm : (fr + 1) ≤ R.frames ∧ (lo + 60) ≤ R.locals) (hRc : nz sV K0 o ≤ R.cells ∧ nu sV K0 o ≤ R.slots) (hG : GMet l x G fr lo) (hB0 : 10 ≤ fr ∧ 183 ≤ lo) (hGm : GMono G) (x0 : Nat) (K : Ka) (M : Cm) (H : Heap) (locs : List Loc) (ls : Array Slot) (hf : bT_X3_readBlock_70 N G x0 K M = some o) (hL : KLe K0 K) (hR : RC x K M H) (hS : va_S (AC K0) s.heap H locs) (hl : lv_has ls 3 [(0, .ref x0)]) : W p l e R s m args below meth c H locs (kz K - kz K0) (ku K - ku K0) (TQ sV (aQV x K0) (zQV K0) "java/lang/IllegalStateException" x K0 below args s o) (F0 m 70 ls []) := by
  obtain ⟨CX, hno, hlt, hmn⟩ := id CTX
  obtain ⟨hx, hb, hml, hown, hts, hE, hB, hr, hlk⟩ := id CX
  have hcs := nz_le (mbT_X3_readBlock_70 hGm x0 K M hf) hRc
  unfold bT_X3_readBlock_70 at hf
  refine lv_aload_n hx hb dX3_readBlock_70 rfl (lv_at hl 0 rfl) ?_
  refine lv_bipush (v := 125) hx hb dX3_readBlock_71 (by decide) ?_
  obtain ⟨hk_x0_4, hf⟩ := gd_some hf
  rcases tb_some hf with ⟨o73, ho, hf⟩ | ⟨q, ho, rfl⟩
  · have hm1 := (mbT_X3_readBlock_76 hGm) _ _ _ hf
    have hb1 := nz_le hm1 hRc
    have hq1 := (mfT_X3_take _ _ _ _ ho)
    refine ta_callVv kc_3 CX hL hR hS (As := [.int 125]) (rest := []) hk_x0_4 (MT_X3_take l x hlt N _ _ _ _ _ ho) cv_X3_119 ⟨by omega, by omega⟩ rfl (Nat.le_of_ble_eq_true rfl) hl.1 hq1 hb1 rfl dX3_readBlock_73 (fun H locs hR hS => ?_)
    exact (wbT_X3_readBlock_76 CTX hRm hRc hG hB0 hGm) _ _ _ _ _ _ hf (hL.tr hq1) hR hS (lv_sub hl [0] rfl)
  · exact tx_callv kc_3 CTX hL hR hS (As := [.int 125]) (rest := []) hk_x0_4 (MT_X3_take l x hlt N _ _ _ _ _ ho) cv_X3_119 ⟨by omega, by omega⟩ rfl (Nat.le_of_ble_eq_true rfl) hl.1 (mfT_X3_take _ _ _ _ ho) hRc rfl dX3_readBlock_73
def bT_X3_readBlock_25 (N : Nat) (G : Nat → Nat → Int32 → Int32 → Ka → Cm → Option ((Ka × Cm) ⊕ (Ka × Cm))) (x0 : Nat) (x1 : Int32) (K : Ka) (M : Cm) : Option ((Ka × Cm) ⊕ (Ka × Cm)) := gd (kd K x0 == 4) ((fC_X3_moveTo N K x0 ((cI M x0 2) + 1) M).bind fun o32 => (lT_X3_readBlock_37 N G (bT_X3_readBlock_70 N G) N) x0 x1 0 K o32)
theorem mbT_X3_readBlock_25 {o : (Ka × Cm) ⊕ (Ka × Cm)} {N : Nat} {G : Nat → Nat → Int32 → Int32 → Ka → Cm → Option ((Ka × Cm) ⊕ (Ka × Cm))} (hGm : GMono G) (x0 : Nat) (x1 : Int32) (K : Ka) (M : Cm) (hf : bT_X3_readBlock_25 N G x0 x1 K M = some o) : KLe K (oK sV o) := by
  unfold bT_X3_readBlock_25 at hf
  obtain ⟨-, hf⟩ := gd_some hf
  obtain ⟨o32, -, hf⟩ := bnd_some hf
  exact (mlT_X3_readBlock_37 hGm (mbT_X3_readBlock_70 hGm) N) _ _ _ _ _ hf
set_option maxRecDepth 100000 in
set_option maxHeartbeats 4000000 in
theorem wbT_X3_readBlock_25 {p : Program} {l : Launch} {e : Env} {R : Room} {s : State} {m : MethodId} {args : Array Value} {below : List Frame} {meth : Method} {c : Code} {x : Xc} {K0 : Ka} {o : (Ka × Cm) ⊕ (Ka × Cm)} {fr lo : Nat} {N : Nat} {G : Nat → Nat → Int32 → Int32 → Ka → Cm → Option ((Ka × Cm) ⊕ (Ka × Cm))} (CTX : CT p l s m args meth c x K0 RX3 "readBlock" cX3_readBlock 3 none) (hRm : (fr + 1) ≤ R.frames ∧ (lo + 60) ≤ R.locals) (hRc : nz sV K0 o ≤ R.cells ∧ nu sV K0 o ≤ R.slots) (hG : GMet l x G fr lo) (hB0 : 10 ≤ fr ∧ 183 ≤ lo) (hGm : GMono G) (x0 : Nat) (x1 : Int32) (K : Ka) (M : Cm) (H : Heap) (locs : List Loc) (ls : Array Slot) (hf : bT_X3_readBlock_25 N G x0 x1 K M = some o) (hL : KLe K0 K) (hR : RC x K M H) (hS : va_S (AC K0) s.heap H locs) (hl : lv_has ls 3 [(0, .ref x0), (1, .int x1)]) : W p l e R s m args below meth c H locs (kz K - kz K0) (ku K - ku K0) (TQ sV (aQV x K0) (zQV K0) "java/lang/IllegalStateException" x K0 below args s o) (F0 m 25 ls []) := by
  obtain ⟨CX, hno, hlt, hmn⟩ := id CTX
  obtain ⟨hx, hb, hml, hown, hts, hE, hB, hr, hlk⟩ := id CX
  have hcs := nz_le (mbT_X3_readBlock_25 hGm x0 x1 K M hf) hRc
  unfold bT_X3_readBlock_25 at hf
  refine lv_aload_n hx hb dX3_readBlock_25 rfl (lv_at hl 0 rfl) ?_
  refine lv_aload_n hx hb dX3_readBlock_26 rfl (lv_at hl 0 rfl) ?_
  obtain ⟨hk_x0_4, hf⟩ := gd_some hf
  refine cr_getI kc_3 CX hR fa_X3_15 rfl hk_x0_4 dX3_readBlock_27 ?_
  refine lv_iconst (v := 1) hx hb dX3_readBlock_30 (by decide) ?_
  refine lv_iadd hx hb dX3_readBlock_31 ?_
  obtain ⟨o32, ho32, hf⟩ := bnd_some hf
  refine cr_callVv kc_3 CX hR hL hS (As := [.int ((cI M x0 2) + 1)]) (rest := []) hk_x0_4 (MC_X3_moveTo l x N K x0 ((cI M x0 2) + 1) M o32 ho32) cv_X3_42 ⟨by omega, by omega⟩ rfl rfl (Nat.le_of_ble_eq_true rfl) hl.1 dX3_readBlock_32 hcs (fun H locs hR hS => ?_)
  refine lv_iconst (v := 0) hx hb dX3_readBlock_35 (by decide) ?_
  refine lv_istore_n (lv' := [(2, .int 0), (0, .ref x0), (1, .int x1)]) hx hb dX3_readBlock_36 rfl hl (by decide) rfl (fun ls hl => ?_)
  exact (wlT_X3_readBlock_37 CTX hRm hRc hG hB0 hGm (mbT_X3_readBlock_70 hGm) (wbT_X3_readBlock_70 CTX hRm hRc hG hB0 hGm) N) _ _ _ _ _ _ _ _ hf hL hR hS (lv_sub hl [1, 2, 0] rfl)
def bT_X3_readBlock_14 (N : Nat) (G : Nat → Nat → Int32 → Int32 → Ka → Cm → Option ((Ka × Cm) ⊕ (Ka × Cm))) (x0 : Nat) (x1 : Int32) (K : Ka) (M : Cm) : Option ((Ka × Cm) ⊕ (Ka × Cm)) := if x1 < 10 then ((bT_X3_readBlock_25 N G) x0 x1 K M) else (gd (kd K x0 == 4) (tb (fT_X3_refuse N x0 5 K M) fun o22 => (bT_X3_readBlock_25 N G) x0 x1 o22.1 o22.2))
theorem mbT_X3_readBlock_14 {o : (Ka × Cm) ⊕ (Ka × Cm)} {N : Nat} {G : Nat → Nat → Int32 → Int32 → Ka → Cm → Option ((Ka × Cm) ⊕ (Ka × Cm))} (hGm : GMono G) (x0 : Nat) (x1 : Int32) (K : Ka) (M : Cm) (hf : bT_X3_readBlock_14 N G x0 x1 K M = some o) : KLe K (oK sV o) := by
  unfold bT_X3_readBlock_14 at hf
  by_cases hc : x1 < 10
  · rw [if_pos hc] at hf
    exact (mbT_X3_readBlock_25 hGm) _ _ _ _ hf
  · rw [if_neg hc] at hf
    obtain ⟨-, hf⟩ := gd_some hf
    rcases tb_some hf with ⟨o22, ho, hf⟩ | ⟨q, ho, rfl⟩
    · exact KLe.tr (mfT_X3_refuse _ _ _ _ ho) ((mbT_X3_readBlock_25 hGm) _ _ _ _ hf)
    · exact (mfT_X3_refuse _ _ _ _ ho)
set_option maxRecDepth 100000 in
set_option maxHeartbeats 4000000 in
theorem wbT_X3_readBlock_14 {p : Program} {l : Launch} {e : Env} {R : Room} {s : State} {m : MethodId} {args : Array Value} {below : List Frame} {meth : Method} {c : Code} {x : Xc} {K0 : Ka} {o : (Ka × Cm) ⊕ (Ka × Cm)} {fr lo : Nat} {N : Nat} {G : Nat → Nat → Int32 → Int32 → Ka → Cm → Option ((Ka × Cm) ⊕ (Ka × Cm))} (CTX : CT p l s m args meth c x K0 RX3 "readBlock" cX3_readBlock 3 none) (hRm : (fr + 1) ≤ R.frames ∧ (lo + 60) ≤ R.locals) (hRc : nz sV K0 o ≤ R.cells ∧ nu sV K0 o ≤ R.slots) (hG : GMet l x G fr lo) (hB0 : 10 ≤ fr ∧ 183 ≤ lo) (hGm : GMono G) (x0 : Nat) (x1 : Int32) (K : Ka) (M : Cm) (H : Heap) (locs : List Loc) (ls : Array Slot) (hf : bT_X3_readBlock_14 N G x0 x1 K M = some o) (hL : KLe K0 K) (hR : RC x K M H) (hS : va_S (AC K0) s.heap H locs) (hl : lv_has ls 3 [(0, .ref x0), (1, .int x1)]) : W p l e R s m args below meth c H locs (kz K - kz K0) (ku K - ku K0) (TQ sV (aQV x K0) (zQV K0) "java/lang/IllegalStateException" x K0 below args s o) (F0 m 14 ls []) := by
  obtain ⟨CX, hno, hlt, hmn⟩ := id CTX
  obtain ⟨hx, hb, hml, hown, hts, hE, hB, hr, hlk⟩ := id CX
  have hcs := nz_le (mbT_X3_readBlock_14 hGm x0 x1 K M hf) hRc
  unfold bT_X3_readBlock_14 at hf
  refine lv_iload_n hx hb dX3_readBlock_14 rfl (lv_at hl 1 rfl) ?_
  refine lv_bipush (v := 10) hx hb dX3_readBlock_15 (by decide) ?_
  refine lv_icmp_lt (tgt := 25) hx hb dX3_readBlock_17 (by decide) (fun hc => ?_) (fun hc => ?_)
  · rw [if_pos hc] at hf
    exact (wbT_X3_readBlock_25 CTX hRm hRc hG hB0 hGm) _ _ _ _ _ _ _ hf hL hR hS (lv_sub hl [0, 1] rfl)
  · rw [if_neg hc] at hf
    refine lv_aload_n hx hb dX3_readBlock_20 rfl (lv_at hl 0 rfl) ?_
    refine lv_iconst (v := 5) hx hb dX3_readBlock_21 (by decide) ?_
    obtain ⟨hk_x0_4, hf⟩ := gd_some hf
    rcases tb_some hf with ⟨o22, ho, hf⟩ | ⟨q, ho, rfl⟩
    · have hm1 := (mbT_X3_readBlock_25 hGm) _ _ _ _ hf
      have hb1 := nz_le hm1 hRc
      have hq1 := (mfT_X3_refuse _ _ _ _ ho)
      refine ta_callVv kc_3 CX hL hR hS (As := [.int 5]) (rest := []) hk_x0_4 (MT_X3_refuse l x hlt N _ _ _ _ _ ho) cv_X3_54 ⟨by omega, by omega⟩ rfl (Nat.le_of_ble_eq_true rfl) hl.1 hq1 hb1 rfl dX3_readBlock_22 (fun H locs hR hS => ?_)
      exact (wbT_X3_readBlock_25 CTX hRm hRc hG hB0 hGm) _ _ _ _ _ _ _ hf (hL.tr hq1) hR hS (lv_sub hl [0, 1] rfl)
    · exact tx_callv kc_3 CTX hL hR hS (As := [.int 5]) (rest := []) hk_x0_4 (MT_X3_refuse l x hlt N _ _ _ _ _ ho) cv_X3_54 ⟨by omega, by omega⟩ rfl (Nat.le_of_ble_eq_true rfl) hl.1 (mfT_X3_refuse _ _ _ _ ho) hRc rfl dX3_readBlock_22
def fT_X3_readBlock (N : Nat) (G : Nat → Nat → Int32 → Int32 → Ka → Cm → Option ((Ka × Cm) ⊕ (Ka × Cm))) (x0 : Nat) (x1 : Int32) (K : Ka) (M : Cm) : Option ((Ka × Cm) ⊕ (Ka × Cm)) := gd (kd K x0 == 4) (if (cI M x0 3) = 123 then ((bT_X3_readBlock_14 N G) x0 x1 K M) else (tb (fT_X3_refuse N x0 1 K M) fun o11 => (bT_X3_readBlock_14 N G) x0 x1 o11.1 o11.2))
theorem mfT_X3_readBlock {o : (Ka × Cm) ⊕ (Ka × Cm)} {N : Nat} {G : Nat → Nat → Int32 → Int32 → Ka → Cm → Option ((Ka × Cm) ⊕ (Ka × Cm))} (hGm : GMono G) (x0 : Nat) (x1 : Int32) (K : Ka) (M : Cm) (hf : fT_X3_readBlock N G x0 x1 K M = some o) : KLe K (oK sV o) := by
  unfold fT_X3_readBlock at hf
  obtain ⟨-, hf⟩ := gd_some hf
  by_cases hc : (cI M x0 3) = 123
  · rw [if_pos hc] at hf
    exact (mbT_X3_readBlock_14 hGm) _ _ _ _ hf
  · rw [if_neg hc] at hf
    rcases tb_some hf with ⟨o11, ho, hf⟩ | ⟨q, ho, rfl⟩
    · exact KLe.tr (mfT_X3_refuse _ _ _ _ ho) ((mbT_X3_readBlock_14 hGm) _ _ _ _ hf)
    · exact (mfT_X3_refuse _ _ _ _ ho)
set_option maxRecDepth 100000 in
set_option maxHeartbeats 4000000 in
theorem wfT_X3_readBlock {p : Program} {l : Launch} {e : Env} {R : Room} {s : State} {m : MethodId} {args : Array Value} {below : List Frame} {meth : Method} {c : Code} {x : Xc} {K0 : Ka} {o : (Ka × Cm) ⊕ (Ka × Cm)} {fr lo : Nat} {N : Nat} {G : Nat → Nat → Int32 → Int32 → Ka → Cm → Option ((Ka × Cm) ⊕ (Ka × Cm))} (CTX : CT p l s m args meth c x K0 RX3 "readBlock" cX3_readBlock 3 none) (hRm : (fr + 1) ≤ R.frames ∧ (lo + 60) ≤ R.locals) (hRc : nz sV K0 o ≤ R.cells ∧ nu sV K0 o ≤ R.slots) (hG : GMet l x G fr lo) (hB0 : 10 ≤ fr ∧ 183 ≤ lo) (hGm : GMono G) (x0 : Nat) (x1 : Int32) (K : Ka) (M : Cm) (H : Heap) (locs : List Loc) (ls : Array Slot) (hf : fT_X3_readBlock N G x0 x1 K M = some o) (hL : KLe K0 K) (hR : RC x K M H) (hS : va_S (AC K0) s.heap H locs) (hl : lv_has ls 3 [(0, .ref x0), (1, .int x1)]) : W p l e R s m args below meth c H locs (kz K - kz K0) (ku K - ku K0) (TQ sV (aQV x K0) (zQV K0) "java/lang/IllegalStateException" x K0 below args s o) (F0 m 0 ls []) := by
  obtain ⟨CX, hno, hlt, hmn⟩ := id CTX
  obtain ⟨hx, hb, hml, hown, hts, hE, hB, hr, hlk⟩ := id CX
  have hcs := nz_le (mfT_X3_readBlock hGm x0 x1 K M hf) hRc
  unfold fT_X3_readBlock at hf
  refine lv_aload_n hx hb dX3_readBlock_0 rfl (lv_at hl 0 rfl) ?_
  obtain ⟨hk_x0_4, hf⟩ := gd_some hf
  refine cr_getI kc_3 CX hR fa_X3_19 rfl hk_x0_4 dX3_readBlock_1 ?_
  refine lv_bipush (v := 123) hx hb dX3_readBlock_4 (by decide) ?_
  refine lv_icmp_eq (tgt := 14) hx hb dX3_readBlock_6 (by decide) (fun hc => ?_) (fun hc => ?_)
  · rw [if_pos hc] at hf
    exact (wbT_X3_readBlock_14 CTX hRm hRc hG hB0 hGm) _ _ _ _ _ _ _ hf hL hR hS (lv_sub hl [0, 1] rfl)
  · rw [if_neg hc] at hf
    refine lv_aload_n hx hb dX3_readBlock_9 rfl (lv_at hl 0 rfl) ?_
    refine lv_iconst (v := 1) hx hb dX3_readBlock_10 (by decide) ?_
    rcases tb_some hf with ⟨o11, ho, hf⟩ | ⟨q, ho, rfl⟩
    · have hm1 := (mbT_X3_readBlock_14 hGm) _ _ _ _ hf
      have hb1 := nz_le hm1 hRc
      have hq1 := (mfT_X3_refuse _ _ _ _ ho)
      refine ta_callVv kc_3 CX hL hR hS (As := [.int 1]) (rest := []) hk_x0_4 (MT_X3_refuse l x hlt N _ _ _ _ _ ho) cv_X3_54 ⟨by omega, by omega⟩ rfl (Nat.le_of_ble_eq_true rfl) hl.1 hq1 hb1 rfl dX3_readBlock_11 (fun H locs hR hS => ?_)
      exact (wbT_X3_readBlock_14 CTX hRm hRc hG hB0 hGm) _ _ _ _ _ _ _ hf (hL.tr hq1) hR hS (lv_sub hl [0, 1] rfl)
    · exact tx_callv kc_3 CTX hL hR hS (As := [.int 1]) (rest := []) hk_x0_4 (MT_X3_refuse l x hlt N _ _ _ _ _ ho) cv_X3_54 ⟨by omega, by omega⟩ rfl (Nat.le_of_ble_eq_true rfl) hl.1 (mfT_X3_refuse _ _ _ _ ho) hRc rfl dX3_readBlock_11
def bT_X3_readStatement_270 (N : Nat) (G : Nat → Nat → Int32 → Int32 → Ka → Cm → Option ((Ka × Cm) ⊕ (Ka × Cm))) (x0 : Nat) (K : Ka) (M : Cm) : Option ((Ka × Cm) ⊕ (Ka × Cm)) := some (.inl (K, M))
theorem mbT_X3_readStatement_270 {o : (Ka × Cm) ⊕ (Ka × Cm)} {N : Nat} {G : Nat → Nat → Int32 → Int32 → Ka → Cm → Option ((Ka × Cm) ⊕ (Ka × Cm))} (hGm : GMono G) (x0 : Nat) (K : Ka) (M : Cm) (hf : bT_X3_readStatement_270 N G x0 K M = some o) : KLe K (oK sV o) := by
  unfold bT_X3_readStatement_270 at hf
  cases hf
  exact KLe.rf _
set_option maxRecDepth 100000 in
set_option maxHeartbeats 4000000 in
theorem wbT_X3_readStatement_270 {p : Program} {l : Launch} {e : Env} {R : Room} {s : State} {m : MethodId} {args : Array Value} {below : List Frame} {meth : Method} {c : Code} {x : Xc} {K0 : Ka} {o : (Ka × Cm) ⊕ (Ka × Cm)} {fr lo : Nat} {N : Nat} {G : Nat → Nat → Int32 → Int32 → Ka → Cm → Option ((Ka × Cm) ⊕ (Ka × Cm))} (CTX : CT p l s m args meth c x K0 RX3 "readStatement" cX3_readStatement 6 none) (hRm : (fr + 1) ≤ R.frames ∧ (lo + 60) ≤ R.locals) (hRc : nz sV K0 o ≤ R.cells ∧ nu sV K0 o ≤ R.slots) (hG : GMet l x G fr lo) (hB0 : 10 ≤ fr ∧ 183 ≤ lo) (hGm : GMono G) (x0 : Nat) (K : Ka) (M : Cm) (H : Heap) (locs : List Loc) (ls : Array Slot) (hf : bT_X3_readStatement_270 N G x0 K M = some o) (hL : KLe K0 K) (hR : RC x K M H) (hS : va_S (AC K0) s.heap H locs) (hl : lv_has ls 6 [(0, .ref x0)]) : W p l e R s m args below meth c H locs (kz K - kz K0) (ku K - ku K0) (TQ sV (aQV x K0) (zQV K0) "java/lang/IllegalStateException" x K0 below args s o) (F0 m 270 ls []) := by
  obtain ⟨CX, hno, hlt, hmn⟩ := id CTX
  obtain ⟨hx, hb, hml, hown, hts, hE, hB, hr, hlk⟩ := id CX
  have hcs := nz_le (mbT_X3_readStatement_270 hGm x0 K M hf) hRc
  unfold bT_X3_readStatement_270 at hf
  exact tr_vret CX hR hS hf dX3_readStatement_270
def bT_X3_readStatement_120 (N : Nat) (G : Nat → Nat → Int32 → Int32 → Ka → Cm → Option ((Ka × Cm) ⊕ (Ka × Cm))) (x0 : Nat) (s0 : Int32) (K : Ka) (M : Cm) : Option ((Ka × Cm) ⊕ (Ka × Cm)) := (bT_X3_readStatement_270 N G) x0 K M
theorem mbT_X3_readStatement_120 {o : (Ka × Cm) ⊕ (Ka × Cm)} {N : Nat} {G : Nat → Nat → Int32 → Int32 → Ka → Cm → Option ((Ka × Cm) ⊕ (Ka × Cm))} (hGm : GMono G) (x0 : Nat) (s0 : Int32) (K : Ka) (M : Cm) (hf : bT_X3_readStatement_120 N G x0 s0 K M = some o) : KLe K (oK sV o) := by
  unfold bT_X3_readStatement_120 at hf
  exact (mbT_X3_readStatement_270 hGm) _ _ _ hf
set_option maxRecDepth 100000 in
set_option maxHeartbeats 4000000 in
theorem wbT_X3_readStatement_120 {p : Program} {l : Launch} {e : Env} {R : Room} {s : State} {m : MethodId} {args : Array Value} {below : List Frame} {meth : Method} {c : Code} {x : Xc} {K0 : Ka} {o : (Ka × Cm) ⊕ (Ka × Cm)} {fr lo : Nat} {N : Nat} {G : Nat → Nat → Int32 → Int32 → Ka → Cm → Option ((Ka × Cm) ⊕ (Ka × Cm))} (CTX : CT p l s m args meth c x K0 RX3 "readStatement" cX3_readStatement 6 none) (hRm : (fr + 1) ≤ R.frames ∧ (lo + 60) ≤ R.locals) (hRc : nz sV K0 o ≤ R.cells ∧ nu sV K0 o ≤ R.slots) (hG : GMet l x G fr lo) (hB0 : 10 ≤ fr ∧ 183 ≤ lo) (hGm : GMono G) (x0 : Nat) (s0 : Int32) (K : Ka) (M : Cm) (H : Heap) (locs : List Loc) (ls : Array Slot) (hf : bT_X3_readStatement_120 N G x0 s0 K M = some o) (hL : KLe K0 K) (hR : RC x K M H) (hS : va_S (AC K0) s.heap H locs) (hl : lv_has ls 6 [(0, .ref x0)]) : W p l e R s m args below meth c H locs (kz K - kz K0) (ku K - ku K0) (TQ sV (aQV x K0) (zQV K0) "java/lang/IllegalStateException" x K0 below args s o) (F0 m 120 ls [.int s0]) := by
  obtain ⟨CX, hno, hlt, hmn⟩ := id CTX
  obtain ⟨hx, hb, hml, hown, hts, hE, hB, hr, hlk⟩ := id CX
  have hcs := nz_le (mbT_X3_readStatement_120 hGm x0 s0 K M hf) hRc
  unfold bT_X3_readStatement_120 at hf
  refine lv_pop hx hb dX3_readStatement_120 rfl ?_
  refine lv_goto (tgt := 270) hx hb dX3_readStatement_121 (by decide) ?_
  exact (wbT_X3_readStatement_270 CTX hRm hRc hG hB0 hGm) _ _ _ _ _ _ hf hL hR hS (lv_sub hl [0] rfl)
def bT_X3_readStatement_112 (N : Nat) (G : Nat → Nat → Int32 → Int32 → Ka → Cm → Option ((Ka × Cm) ⊕ (Ka × Cm))) (x0 : Nat) (x3 : Int64) (K : Ka) (M : Cm) : Option ((Ka × Cm) ⊕ (Ka × Cm)) := gd (kd K x0 == 4) (nn (cR M x0 1) fun a1 => gd (kd K a1 == 6) (ta (fT_X5_emit N a1 x3 K M) fun o117 => (bT_X3_readStatement_120 N G) x0 o117.1 o117.2.1 o117.2.2))
theorem mbT_X3_readStatement_112 {o : (Ka × Cm) ⊕ (Ka × Cm)} {N : Nat} {G : Nat → Nat → Int32 → Int32 → Ka → Cm → Option ((Ka × Cm) ⊕ (Ka × Cm))} (hGm : GMono G) (x0 : Nat) (x3 : Int64) (K : Ka) (M : Cm) (hf : bT_X3_readStatement_112 N G x0 x3 K M = some o) : KLe K (oK sV o) := by
  unfold bT_X3_readStatement_112 at hf
  obtain ⟨-, hf⟩ := gd_some hf
  obtain ⟨a1, -, hf⟩ := nn_some hf
  obtain ⟨-, hf⟩ := gd_some hf
  obtain ⟨o117, ho, hf⟩ := ta_some hf
  exact KLe.tr (mfT_X5_emit _ _ _ _ ho) ((mbT_X3_readStatement_120 hGm) _ _ _ _ hf)
set_option maxRecDepth 100000 in
set_option maxHeartbeats 4000000 in
theorem wbT_X3_readStatement_112 {p : Program} {l : Launch} {e : Env} {R : Room} {s : State} {m : MethodId} {args : Array Value} {below : List Frame} {meth : Method} {c : Code} {x : Xc} {K0 : Ka} {o : (Ka × Cm) ⊕ (Ka × Cm)} {fr lo : Nat} {N : Nat} {G : Nat → Nat → Int32 → Int32 → Ka → Cm → Option ((Ka × Cm) ⊕ (Ka × Cm))} (CTX : CT p l s m args meth c x K0 RX3 "readStatement" cX3_readStatement 6 none) (hRm : (fr + 1) ≤ R.frames ∧ (lo + 60) ≤ R.locals) (hRc : nz sV K0 o ≤ R.cells ∧ nu sV K0 o ≤ R.slots) (hG : GMet l x G fr lo) (hB0 : 10 ≤ fr ∧ 183 ≤ lo) (hGm : GMono G) (x0 : Nat) (x3 : Int64) (K : Ka) (M : Cm) (H : Heap) (locs : List Loc) (ls : Array Slot) (hf : bT_X3_readStatement_112 N G x0 x3 K M = some o) (hL : KLe K0 K) (hR : RC x K M H) (hS : va_S (AC K0) s.heap H locs) (hl : lv_has ls 6 [(0, .ref x0), (3, .long x3)]) : W p l e R s m args below meth c H locs (kz K - kz K0) (ku K - ku K0) (TQ sV (aQV x K0) (zQV K0) "java/lang/IllegalStateException" x K0 below args s o) (F0 m 112 ls []) := by
  obtain ⟨CX, hno, hlt, hmn⟩ := id CTX
  obtain ⟨hx, hb, hml, hown, hts, hE, hB, hr, hlk⟩ := id CX
  have hcs := nz_le (mbT_X3_readStatement_112 hGm x0 x3 K M hf) hRc
  unfold bT_X3_readStatement_112 at hf
  refine lv_aload_n hx hb dX3_readStatement_112 rfl (lv_at hl 0 rfl) ?_
  obtain ⟨hk_x0_4, hf⟩ := gd_some hf
  refine cr_getR kc_3 CX hR fa_X3_9 rfl hk_x0_4 dX3_readStatement_113 ?_
  refine lv_lload_n hx hb dX3_readStatement_116 rfl (lv_at hl 1 rfl) ?_
  obtain ⟨a1, ha1, hf⟩ := nn_some hf
  refine rf_1 ha1 ?_
  obtain ⟨hk_a1_6, hf⟩ := gd_some hf
  obtain ⟨o117, ho, hf⟩ := ta_some hf
  have hm1 := (mbT_X3_readStatement_120 hGm) _ _ _ _ hf
  have hb1 := nz_le hm1 hRc
  have hq1 := (mfT_X5_emit _ _ _ _ ho)
  refine ta_callIv kc_5 CX hL hR hS (As := [.long x3]) (rest := []) hk_a1_6 (MT_X5_emit l x hlt N _ _ _ _ _ ho) cv_X3_84 ⟨by omega, by omega⟩ rfl (Nat.le_of_ble_eq_true rfl) hl.1 hq1 hb1 rfl dX3_readStatement_117 (fun H locs hR hS => ?_)
  exact (wbT_X3_readStatement_120 CTX hRm hRc hG hB0 hGm) _ _ _ _ _ _ _ hf (hL.tr hq1) hR hS (lv_sub hl [0] rfl)
def bT_X3_readStatement_106 (N : Nat) (G : Nat → Nat → Int32 → Int32 → Ka → Cm → Option ((Ka × Cm) ⊕ (Ka × Cm))) (x0 : Nat) (x3 : Int64) (K : Ka) (M : Cm) : Option ((Ka × Cm) ⊕ (Ka × Cm)) := gd (kd K x0 == 4) (tb (fT_X3_take N x0 59 K M) fun o109 => (bT_X3_readStatement_112 N G) x0 x3 o109.1 o109.2)
theorem mbT_X3_readStatement_106 {o : (Ka × Cm) ⊕ (Ka × Cm)} {N : Nat} {G : Nat → Nat → Int32 → Int32 → Ka → Cm → Option ((Ka × Cm) ⊕ (Ka × Cm))} (hGm : GMono G) (x0 : Nat) (x3 : Int64) (K : Ka) (M : Cm) (hf : bT_X3_readStatement_106 N G x0 x3 K M = some o) : KLe K (oK sV o) := by
  unfold bT_X3_readStatement_106 at hf
  obtain ⟨-, hf⟩ := gd_some hf
  rcases tb_some hf with ⟨o109, ho, hf⟩ | ⟨q, ho, rfl⟩
  · exact KLe.tr (mfT_X3_take _ _ _ _ ho) ((mbT_X3_readStatement_112 hGm) _ _ _ _ hf)
  · exact (mfT_X3_take _ _ _ _ ho)
set_option maxRecDepth 100000 in
set_option maxHeartbeats 4000000 in
theorem wbT_X3_readStatement_106 {p : Program} {l : Launch} {e : Env} {R : Room} {s : State} {m : MethodId} {args : Array Value} {below : List Frame} {meth : Method} {c : Code} {x : Xc} {K0 : Ka} {o : (Ka × Cm) ⊕ (Ka × Cm)} {fr lo : Nat} {N : Nat} {G : Nat → Nat → Int32 → Int32 → Ka → Cm → Option ((Ka × Cm) ⊕ (Ka × Cm))} (CTX : CT p l s m args meth c x K0 RX3 "readStatement" cX3_readStatement 6 none) (hRm : (fr + 1) ≤ R.frames ∧ (lo + 60) ≤ R.locals) (hRc : nz sV K0 o ≤ R.cells ∧ nu sV K0 o ≤ R.slots) (hG : GMet l x G fr lo) (hB0 : 10 ≤ fr ∧ 183 ≤ lo) (hGm : GMono G) (x0 : Nat) (x3 : Int64) (K : Ka) (M : Cm) (H : Heap) (locs : List Loc) (ls : Array Slot) (hf : bT_X3_readStatement_106 N G x0 x3 K M = some o) (hL : KLe K0 K) (hR : RC x K M H) (hS : va_S (AC K0) s.heap H locs) (hl : lv_has ls 6 [(0, .ref x0), (3, .long x3)]) : W p l e R s m args below meth c H locs (kz K - kz K0) (ku K - ku K0) (TQ sV (aQV x K0) (zQV K0) "java/lang/IllegalStateException" x K0 below args s o) (F0 m 106 ls []) := by
  obtain ⟨CX, hno, hlt, hmn⟩ := id CTX
  obtain ⟨hx, hb, hml, hown, hts, hE, hB, hr, hlk⟩ := id CX
  have hcs := nz_le (mbT_X3_readStatement_106 hGm x0 x3 K M hf) hRc
  unfold bT_X3_readStatement_106 at hf
  refine lv_aload_n hx hb dX3_readStatement_106 rfl (lv_at hl 0 rfl) ?_
  refine lv_bipush (v := 59) hx hb dX3_readStatement_107 (by decide) ?_
  obtain ⟨hk_x0_4, hf⟩ := gd_some hf
  rcases tb_some hf with ⟨o109, ho, hf⟩ | ⟨q, ho, rfl⟩
  · have hm1 := (mbT_X3_readStatement_112 hGm) _ _ _ _ hf
    have hb1 := nz_le hm1 hRc
    have hq1 := (mfT_X3_take _ _ _ _ ho)
    refine ta_callVv kc_3 CX hL hR hS (As := [.int 59]) (rest := []) hk_x0_4 (MT_X3_take l x hlt N _ _ _ _ _ ho) cv_X3_119 ⟨by omega, by omega⟩ rfl (Nat.le_of_ble_eq_true rfl) hl.1 hq1 hb1 rfl dX3_readStatement_109 (fun H locs hR hS => ?_)
    exact (wbT_X3_readStatement_112 CTX hRm hRc hG hB0 hGm) _ _ _ _ _ _ _ hf (hL.tr hq1) hR hS (lv_sub hl [0, 1] rfl)
  · exact tx_callv kc_3 CTX hL hR hS (As := [.int 59]) (rest := []) hk_x0_4 (MT_X3_take l x hlt N _ _ _ _ _ ho) cv_X3_119 ⟨by omega, by omega⟩ rfl (Nat.le_of_ble_eq_true rfl) hl.1 (mfT_X3_take _ _ _ _ ho) hRc rfl dX3_readStatement_109
def bT_X3_readStatement_100 (N : Nat) (G : Nat → Nat → Int32 → Int32 → Ka → Cm → Option ((Ka × Cm) ⊕ (Ka × Cm))) (x0 : Nat) (x1 : Int32) (x3 : Int64) (K : Ka) (M : Cm) : Option ((Ka × Cm) ⊕ (Ka × Cm)) := gd (kd K x0 == 4) (tb (G 5 x0 0 x1 K M) fun o103 => (bT_X3_readStatement_106 N G) x0 x3 o103.1 o103.2)
theorem mbT_X3_readStatement_100 {o : (Ka × Cm) ⊕ (Ka × Cm)} {N : Nat} {G : Nat → Nat → Int32 → Int32 → Ka → Cm → Option ((Ka × Cm) ⊕ (Ka × Cm))} (hGm : GMono G) (x0 : Nat) (x1 : Int32) (x3 : Int64) (K : Ka) (M : Cm) (hf : bT_X3_readStatement_100 N G x0 x1 x3 K M = some o) : KLe K (oK sV o) := by
  unfold bT_X3_readStatement_100 at hf
  obtain ⟨-, hf⟩ := gd_some hf
  rcases tb_some hf with ⟨o103, ho, hf⟩ | ⟨q, ho, rfl⟩
  · exact KLe.tr (hGm _ _ _ _ _ _ _ ho) ((mbT_X3_readStatement_106 hGm) _ _ _ _ hf)
  · exact (hGm _ _ _ _ _ _ _ ho)
set_option maxRecDepth 100000 in
set_option maxHeartbeats 4000000 in
theorem wbT_X3_readStatement_100 {p : Program} {l : Launch} {e : Env} {R : Room} {s : State} {m : MethodId} {args : Array Value} {below : List Frame} {meth : Method} {c : Code} {x : Xc} {K0 : Ka} {o : (Ka × Cm) ⊕ (Ka × Cm)} {fr lo : Nat} {N : Nat} {G : Nat → Nat → Int32 → Int32 → Ka → Cm → Option ((Ka × Cm) ⊕ (Ka × Cm))} (CTX : CT p l s m args meth c x K0 RX3 "readStatement" cX3_readStatement 6 none) (hRm : (fr + 1) ≤ R.frames ∧ (lo + 60) ≤ R.locals) (hRc : nz sV K0 o ≤ R.cells ∧ nu sV K0 o ≤ R.slots) (hG : GMet l x G fr lo) (hB0 : 10 ≤ fr ∧ 183 ≤ lo) (hGm : GMono G) (x0 : Nat) (x1 : Int32) (x3 : Int64) (K : Ka) (M : Cm) (H : Heap) (locs : List Loc) (ls : Array Slot) (hf : bT_X3_readStatement_100 N G x0 x1 x3 K M = some o) (hL : KLe K0 K) (hR : RC x K M H) (hS : va_S (AC K0) s.heap H locs) (hl : lv_has ls 6 [(0, .ref x0), (1, .int x1), (3, .long x3)]) : W p l e R s m args below meth c H locs (kz K - kz K0) (ku K - ku K0) (TQ sV (aQV x K0) (zQV K0) "java/lang/IllegalStateException" x K0 below args s o) (F0 m 100 ls []) := by
  obtain ⟨CX, hno, hlt, hmn⟩ := id CTX
  obtain ⟨hx, hb, hml, hown, hts, hE, hB, hr, hlk⟩ := id CX
  have hcs := nz_le (mbT_X3_readStatement_100 hGm x0 x1 x3 K M hf) hRc
  unfold bT_X3_readStatement_100 at hf
  refine lv_aload_n hx hb dX3_readStatement_100 rfl (lv_at hl 0 rfl) ?_
  refine lv_iconst (v := 0) hx hb dX3_readStatement_101 (by decide) ?_
  refine lv_iload_n hx hb dX3_readStatement_102 rfl (lv_at hl 1 rfl) ?_
  obtain ⟨hk_x0_4, hf⟩ := gd_some hf
  rcases tb_some hf with ⟨o103, ho, hf⟩ | ⟨q, ho, rfl⟩
  · have hm1 := (mbT_X3_readStatement_106 hGm) _ _ _ _ hf
    have hb1 := nz_le hm1 hRc
    have hq1 := (hGm _ _ _ _ _ _ _ ho)
    refine ta_callVv kc_3 CX hL hR hS (As := [.int 0, .int x1]) (rest := []) hk_x0_4 (hG.2.2.2.2.2.1 _ _ _ _ _ _ ho) cv_X3_227 ⟨by omega, by omega⟩ rfl (Nat.le_of_ble_eq_true rfl) hl.1 hq1 hb1 rfl dX3_readStatement_103 (fun H locs hR hS => ?_)
    exact (wbT_X3_readStatement_106 CTX hRm hRc hG hB0 hGm) _ _ _ _ _ _ _ hf (hL.tr hq1) hR hS (lv_sub hl [0, 2] rfl)
  · exact tx_callv kc_3 CTX hL hR hS (As := [.int 0, .int x1]) (rest := []) hk_x0_4 (hG.2.2.2.2.2.1 _ _ _ _ _ _ ho) cv_X3_227 ⟨by omega, by omega⟩ rfl (Nat.le_of_ble_eq_true rfl) hl.1 (hGm _ _ _ _ _ _ _ ho) hRc rfl dX3_readStatement_103
def bT_X3_readStatement_93 (N : Nat) (G : Nat → Nat → Int32 → Int32 → Ka → Cm → Option ((Ka × Cm) ⊕ (Ka × Cm))) (x0 : Nat) (x1 : Int32) (s0 : Int64) (K : Ka) (M : Cm) : Option ((Ka × Cm) ⊕ (Ka × Cm)) := gd (kd K x0 == 4) (tb (fT_X3_take N x0 61 K M) fun o97 => (bT_X3_readStatement_100 N G) x0 x1 s0 o97.1 o97.2)
theorem mbT_X3_readStatement_93 {o : (Ka × Cm) ⊕ (Ka × Cm)} {N : Nat} {G : Nat → Nat → Int32 → Int32 → Ka → Cm → Option ((Ka × Cm) ⊕ (Ka × Cm))} (hGm : GMono G) (x0 : Nat) (x1 : Int32) (s0 : Int64) (K : Ka) (M : Cm) (hf : bT_X3_readStatement_93 N G x0 x1 s0 K M = some o) : KLe K (oK sV o) := by
  unfold bT_X3_readStatement_93 at hf
  obtain ⟨-, hf⟩ := gd_some hf
  rcases tb_some hf with ⟨o97, ho, hf⟩ | ⟨q, ho, rfl⟩
  · exact KLe.tr (mfT_X3_take _ _ _ _ ho) ((mbT_X3_readStatement_100 hGm) _ _ _ _ _ hf)
  · exact (mfT_X3_take _ _ _ _ ho)
set_option maxRecDepth 100000 in
set_option maxHeartbeats 4000000 in
theorem wbT_X3_readStatement_93 {p : Program} {l : Launch} {e : Env} {R : Room} {s : State} {m : MethodId} {args : Array Value} {below : List Frame} {meth : Method} {c : Code} {x : Xc} {K0 : Ka} {o : (Ka × Cm) ⊕ (Ka × Cm)} {fr lo : Nat} {N : Nat} {G : Nat → Nat → Int32 → Int32 → Ka → Cm → Option ((Ka × Cm) ⊕ (Ka × Cm))} (CTX : CT p l s m args meth c x K0 RX3 "readStatement" cX3_readStatement 6 none) (hRm : (fr + 1) ≤ R.frames ∧ (lo + 60) ≤ R.locals) (hRc : nz sV K0 o ≤ R.cells ∧ nu sV K0 o ≤ R.slots) (hG : GMet l x G fr lo) (hB0 : 10 ≤ fr ∧ 183 ≤ lo) (hGm : GMono G) (x0 : Nat) (x1 : Int32) (s0 : Int64) (K : Ka) (M : Cm) (H : Heap) (locs : List Loc) (ls : Array Slot) (hf : bT_X3_readStatement_93 N G x0 x1 s0 K M = some o) (hL : KLe K0 K) (hR : RC x K M H) (hS : va_S (AC K0) s.heap H locs) (hl : lv_has ls 6 [(0, .ref x0), (1, .int x1)]) : W p l e R s m args below meth c H locs (kz K - kz K0) (ku K - ku K0) (TQ sV (aQV x K0) (zQV K0) "java/lang/IllegalStateException" x K0 below args s o) (F0 m 93 ls [.long s0]) := by
  obtain ⟨CX, hno, hlt, hmn⟩ := id CTX
  obtain ⟨hx, hb, hml, hown, hts, hE, hB, hr, hlk⟩ := id CX
  have hcs := nz_le (mbT_X3_readStatement_93 hGm x0 x1 s0 K M hf) hRc
  unfold bT_X3_readStatement_93 at hf
  refine lv_lstore_n (lv' := [(3, .long s0), (0, .ref x0), (1, .int x1)]) hx hb dX3_readStatement_93 rfl hl (by decide) rfl (fun ls hl => ?_)
  refine lv_aload_n hx hb dX3_readStatement_94 rfl (lv_at hl 1 rfl) ?_
  refine lv_bipush (v := 61) hx hb dX3_readStatement_95 (by decide) ?_
  obtain ⟨hk_x0_4, hf⟩ := gd_some hf
  rcases tb_some hf with ⟨o97, ho, hf⟩ | ⟨q, ho, rfl⟩
  · have hm1 := (mbT_X3_readStatement_100 hGm) _ _ _ _ _ hf
    have hb1 := nz_le hm1 hRc
    have hq1 := (mfT_X3_take _ _ _ _ ho)
    refine ta_callVv kc_3 CX hL hR hS (As := [.int 61]) (rest := []) hk_x0_4 (MT_X3_take l x hlt N _ _ _ _ _ ho) cv_X3_119 ⟨by omega, by omega⟩ rfl (Nat.le_of_ble_eq_true rfl) hl.1 hq1 hb1 rfl dX3_readStatement_97 (fun H locs hR hS => ?_)
    exact (wbT_X3_readStatement_100 CTX hRm hRc hG hB0 hGm) _ _ _ _ _ _ _ _ hf (hL.tr hq1) hR hS (lv_sub hl [1, 2, 0] rfl)
  · exact tx_callv kc_3 CTX hL hR hS (As := [.int 61]) (rest := []) hk_x0_4 (MT_X3_take l x hlt N _ _ _ _ _ ho) cv_X3_119 ⟨by omega, by omega⟩ rfl (Nat.le_of_ble_eq_true rfl) hl.1 (mfT_X3_take _ _ _ _ ho) hRc rfl dX3_readStatement_97
def bT_X3_readStatement_128 (N : Nat) (G : Nat → Nat → Int32 → Int32 → Ka → Cm → Option ((Ka × Cm) ⊕ (Ka × Cm))) (x0 : Nat) (K : Ka) (M : Cm) : Option ((Ka × Cm) ⊕ (Ka × Cm)) := (bT_X3_readStatement_270 N G) x0 K M
theorem mbT_X3_readStatement_128 {o : (Ka × Cm) ⊕ (Ka × Cm)} {N : Nat} {G : Nat → Nat → Int32 → Int32 → Ka → Cm → Option ((Ka × Cm) ⊕ (Ka × Cm))} (hGm : GMono G) (x0 : Nat) (K : Ka) (M : Cm) (hf : bT_X3_readStatement_128 N G x0 K M = some o) : KLe K (oK sV o) := by
  unfold bT_X3_readStatement_128 at hf
  exact (mbT_X3_readStatement_270 hGm) _ _ _ hf
set_option maxRecDepth 100000 in
set_option maxHeartbeats 4000000 in
theorem wbT_X3_readStatement_128 {p : Program} {l : Launch} {e : Env} {R : Room} {s : State} {m : MethodId} {args : Array Value} {below : List Frame} {meth : Method} {c : Code} {x : Xc} {K0 : Ka} {o : (Ka × Cm) ⊕ (Ka × Cm)} {fr lo : Nat} {N : Nat} {G : Nat → Nat → Int32 → Int32 → Ka → Cm → Option ((Ka × Cm) ⊕ (Ka × Cm))} (CTX : CT p l s m args meth c x K0 RX3 "readStatement" cX3_readStatement 6 none) (hRm : (fr + 1) ≤ R.frames ∧ (lo + 60) ≤ R.locals) (hRc : nz sV K0 o ≤ R.cells ∧ nu sV K0 o ≤ R.slots) (hG : GMet l x G fr lo) (hB0 : 10 ≤ fr ∧ 183 ≤ lo) (hGm : GMono G) (x0 : Nat) (K : Ka) (M : Cm) (H : Heap) (locs : List Loc) (ls : Array Slot) (hf : bT_X3_readStatement_128 N G x0 K M = some o) (hL : KLe K0 K) (hR : RC x K M H) (hS : va_S (AC K0) s.heap H locs) (hl : lv_has ls 6 [(0, .ref x0)]) : W p l e R s m args below meth c H locs (kz K - kz K0) (ku K - ku K0) (TQ sV (aQV x K0) (zQV K0) "java/lang/IllegalStateException" x K0 below args s o) (F0 m 128 ls []) := by
  obtain ⟨CX, hno, hlt, hmn⟩ := id CTX
  obtain ⟨hx, hb, hml, hown, hts, hE, hB, hr, hlk⟩ := id CX
  have hcs := nz_le (mbT_X3_readStatement_128 hGm x0 K M hf) hRc
  unfold bT_X3_readStatement_128 at hf
  refine lv_goto (tgt := 270) hx hb dX3_readStatement_128 (by decide) ?_
  exact (wbT_X3_readStatement_270 CTX hRm hRc hG hB0 hGm) _ _ _ _ _ _ hf hL hR hS (lv_sub hl [0] rfl)
def bT_X3_readStatement_168 (N : Nat) (G : Nat → Nat → Int32 → Int32 → Ka → Cm → Option ((Ka × Cm) ⊕ (Ka × Cm))) (x0 : Nat) (s0 : Int32) (K : Ka) (M : Cm) : Option ((Ka × Cm) ⊕ (Ka × Cm)) := (bT_X3_readStatement_270 N G) x0 K M
theorem mbT_X3_readStatement_168 {o : (Ka × Cm) ⊕ (Ka × Cm)} {N : Nat} {G : Nat → Nat → Int32 → Int32 → Ka → Cm → Option ((Ka × Cm) ⊕ (Ka × Cm))} (hGm : GMono G) (x0 : Nat) (s0 : Int32) (K : Ka) (M : Cm) (hf : bT_X3_readStatement_168 N G x0 s0 K M = some o) : KLe K (oK sV o) := by
  unfold bT_X3_readStatement_168 at hf
  exact (mbT_X3_readStatement_270 hGm) _ _ _ hf
set_option maxRecDepth 100000 in
set_option maxHeartbeats 4000000 in
theorem wbT_X3_readStatement_168 {p : Program} {l : Launch} {e : Env} {R : Room} {s : State} {m : MethodId} {args : Array Value} {below : List Frame} {meth : Method} {c : Code} {x : Xc} {K0 : Ka} {o : (Ka × Cm) ⊕ (Ka × Cm)} {fr lo : Nat} {N : Nat} {G : Nat → Nat → Int32 → Int32 → Ka → Cm → Option ((Ka × Cm) ⊕ (Ka × Cm))} (CTX : CT p l s m args meth c x K0 RX3 "readStatement" cX3_readStatement 6 none) (hRm : (fr + 1) ≤ R.frames ∧ (lo + 60) ≤ R.locals) (hRc : nz sV K0 o ≤ R.cells ∧ nu sV K0 o ≤ R.slots) (hG : GMet l x G fr lo) (hB0 : 10 ≤ fr ∧ 183 ≤ lo) (hGm : GMono G) (x0 : Nat) (s0 : Int32) (K : Ka) (M : Cm) (H : Heap) (locs : List Loc) (ls : Array Slot) (hf : bT_X3_readStatement_168 N G x0 s0 K M = some o) (hL : KLe K0 K) (hR : RC x K M H) (hS : va_S (AC K0) s.heap H locs) (hl : lv_has ls 6 [(0, .ref x0)]) : W p l e R s m args below meth c H locs (kz K - kz K0) (ku K - ku K0) (TQ sV (aQV x K0) (zQV K0) "java/lang/IllegalStateException" x K0 below args s o) (F0 m 168 ls [.int s0]) := by
  obtain ⟨CX, hno, hlt, hmn⟩ := id CTX
  obtain ⟨hx, hb, hml, hown, hts, hE, hB, hr, hlk⟩ := id CX
  have hcs := nz_le (mbT_X3_readStatement_168 hGm x0 s0 K M hf) hRc
  unfold bT_X3_readStatement_168 at hf
  refine lv_pop hx hb dX3_readStatement_168 rfl ?_
  refine lv_goto (tgt := 270) hx hb dX3_readStatement_169 (by decide) ?_
  exact (wbT_X3_readStatement_270 CTX hRm hRc hG hB0 hGm) _ _ _ _ _ _ hf hL hR hS (lv_sub hl [0] rfl)
def bT_X3_readStatement_159 (N : Nat) (G : Nat → Nat → Int32 → Int32 → Ka → Cm → Option ((Ka × Cm) ⊕ (Ka × Cm))) (x0 : Nat) (x5 : Int32) (K : Ka) (M : Cm) : Option ((Ka × Cm) ⊕ (Ka × Cm)) := gd (kd K x0 == 4) (ta (fT_X3_emit N x0 13 x5 0 K M) fun o165 => (bT_X3_readStatement_168 N G) x0 o165.1 o165.2.1 o165.2.2)
theorem mbT_X3_readStatement_159 {o : (Ka × Cm) ⊕ (Ka × Cm)} {N : Nat} {G : Nat → Nat → Int32 → Int32 → Ka → Cm → Option ((Ka × Cm) ⊕ (Ka × Cm))} (hGm : GMono G) (x0 : Nat) (x5 : Int32) (K : Ka) (M : Cm) (hf : bT_X3_readStatement_159 N G x0 x5 K M = some o) : KLe K (oK sV o) := by
  unfold bT_X3_readStatement_159 at hf
  obtain ⟨-, hf⟩ := gd_some hf
  obtain ⟨o165, ho, hf⟩ := ta_some hf
  exact KLe.tr (mfT_X3_emit _ _ _ _ _ _ ho) ((mbT_X3_readStatement_168 hGm) _ _ _ _ hf)
set_option maxRecDepth 100000 in
set_option maxHeartbeats 4000000 in
theorem wbT_X3_readStatement_159 {p : Program} {l : Launch} {e : Env} {R : Room} {s : State} {m : MethodId} {args : Array Value} {below : List Frame} {meth : Method} {c : Code} {x : Xc} {K0 : Ka} {o : (Ka × Cm) ⊕ (Ka × Cm)} {fr lo : Nat} {N : Nat} {G : Nat → Nat → Int32 → Int32 → Ka → Cm → Option ((Ka × Cm) ⊕ (Ka × Cm))} (CTX : CT p l s m args meth c x K0 RX3 "readStatement" cX3_readStatement 6 none) (hRm : (fr + 1) ≤ R.frames ∧ (lo + 60) ≤ R.locals) (hRc : nz sV K0 o ≤ R.cells ∧ nu sV K0 o ≤ R.slots) (hG : GMet l x G fr lo) (hB0 : 10 ≤ fr ∧ 183 ≤ lo) (hGm : GMono G) (x0 : Nat) (x5 : Int32) (K : Ka) (M : Cm) (H : Heap) (locs : List Loc) (ls : Array Slot) (hf : bT_X3_readStatement_159 N G x0 x5 K M = some o) (hL : KLe K0 K) (hR : RC x K M H) (hS : va_S (AC K0) s.heap H locs) (hl : lv_has ls 6 [(0, .ref x0), (5, .int x5)]) : W p l e R s m args below meth c H locs (kz K - kz K0) (ku K - ku K0) (TQ sV (aQV x K0) (zQV K0) "java/lang/IllegalStateException" x K0 below args s o) (F0 m 159 ls []) := by
  obtain ⟨CX, hno, hlt, hmn⟩ := id CTX
  obtain ⟨hx, hb, hml, hown, hts, hE, hB, hr, hlk⟩ := id CX
  have hcs := nz_le (mbT_X3_readStatement_159 hGm x0 x5 K M hf) hRc
  unfold bT_X3_readStatement_159 at hf
  refine lv_aload_n hx hb dX3_readStatement_159 rfl (lv_at hl 0 rfl) ?_
  refine lv_bipush (v := 13) hx hb dX3_readStatement_160 (by decide) ?_
  refine lv_iload hx hb dX3_readStatement_162 (lv_at hl 1 rfl) ?_
  refine lv_iconst (v := 0) hx hb dX3_readStatement_164 (by decide) ?_
  obtain ⟨hk_x0_4, hf⟩ := gd_some hf
  obtain ⟨o165, ho, hf⟩ := ta_some hf
  have hm1 := (mbT_X3_readStatement_168 hGm) _ _ _ _ hf
  have hb1 := nz_le hm1 hRc
  have hq1 := (mfT_X3_emit _ _ _ _ _ _ ho)
  refine ta_callIv kc_3 CX hL hR hS (As := [.int 13, .int x5, .int 0]) (rest := []) hk_x0_4 (MT_X3_emit l x hlt N _ _ _ _ _ _ _ ho) cv_X3_144 ⟨by omega, by omega⟩ rfl (Nat.le_of_ble_eq_true rfl) hl.1 hq1 hb1 rfl dX3_readStatement_165 (fun H locs hR hS => ?_)
  exact (wbT_X3_readStatement_168 CTX hRm hRc hG hB0 hGm) _ _ _ _ _ _ _ hf (hL.tr hq1) hR hS (lv_sub hl [0] rfl)
def bT_X3_readStatement_153 (N : Nat) (G : Nat → Nat → Int32 → Int32 → Ka → Cm → Option ((Ka × Cm) ⊕ (Ka × Cm))) (x0 : Nat) (x5 : Int32) (K : Ka) (M : Cm) : Option ((Ka × Cm) ⊕ (Ka × Cm)) := gd (kd K x0 == 4) (tb (fT_X3_take N x0 59 K M) fun o156 => (bT_X3_readStatement_159 N G) x0 x5 o156.1 o156.2)
theorem mbT_X3_readStatement_153 {o : (Ka × Cm) ⊕ (Ka × Cm)} {N : Nat} {G : Nat → Nat → Int32 → Int32 → Ka → Cm → Option ((Ka × Cm) ⊕ (Ka × Cm))} (hGm : GMono G) (x0 : Nat) (x5 : Int32) (K : Ka) (M : Cm) (hf : bT_X3_readStatement_153 N G x0 x5 K M = some o) : KLe K (oK sV o) := by
  unfold bT_X3_readStatement_153 at hf
  obtain ⟨-, hf⟩ := gd_some hf
  rcases tb_some hf with ⟨o156, ho, hf⟩ | ⟨q, ho, rfl⟩
  · exact KLe.tr (mfT_X3_take _ _ _ _ ho) ((mbT_X3_readStatement_159 hGm) _ _ _ _ hf)
  · exact (mfT_X3_take _ _ _ _ ho)
set_option maxRecDepth 100000 in
set_option maxHeartbeats 4000000 in
theorem wbT_X3_readStatement_153 {p : Program} {l : Launch} {e : Env} {R : Room} {s : State} {m : MethodId} {args : Array Value} {below : List Frame} {meth : Method} {c : Code} {x : Xc} {K0 : Ka} {o : (Ka × Cm) ⊕ (Ka × Cm)} {fr lo : Nat} {N : Nat} {G : Nat → Nat → Int32 → Int32 → Ka → Cm → Option ((Ka × Cm) ⊕ (Ka × Cm))} (CTX : CT p l s m args meth c x K0 RX3 "readStatement" cX3_readStatement 6 none) (hRm : (fr + 1) ≤ R.frames ∧ (lo + 60) ≤ R.locals) (hRc : nz sV K0 o ≤ R.cells ∧ nu sV K0 o ≤ R.slots) (hG : GMet l x G fr lo) (hB0 : 10 ≤ fr ∧ 183 ≤ lo) (hGm : GMono G) (x0 : Nat) (x5 : Int32) (K : Ka) (M : Cm) (H : Heap) (locs : List Loc) (ls : Array Slot) (hf : bT_X3_readStatement_153 N G x0 x5 K M = some o) (hL : KLe K0 K) (hR : RC x K M H) (hS : va_S (AC K0) s.heap H locs) (hl : lv_has ls 6 [(0, .ref x0), (5, .int x5)]) : W p l e R s m args below meth c H locs (kz K - kz K0) (ku K - ku K0) (TQ sV (aQV x K0) (zQV K0) "java/lang/IllegalStateException" x K0 below args s o) (F0 m 153 ls []) := by
  obtain ⟨CX, hno, hlt, hmn⟩ := id CTX
  obtain ⟨hx, hb, hml, hown, hts, hE, hB, hr, hlk⟩ := id CX
  have hcs := nz_le (mbT_X3_readStatement_153 hGm x0 x5 K M hf) hRc
  unfold bT_X3_readStatement_153 at hf
  refine lv_aload_n hx hb dX3_readStatement_153 rfl (lv_at hl 0 rfl) ?_
  refine lv_bipush (v := 59) hx hb dX3_readStatement_154 (by decide) ?_
  obtain ⟨hk_x0_4, hf⟩ := gd_some hf
  rcases tb_some hf with ⟨o156, ho, hf⟩ | ⟨q, ho, rfl⟩
  · have hm1 := (mbT_X3_readStatement_159 hGm) _ _ _ _ hf
    have hb1 := nz_le hm1 hRc
    have hq1 := (mfT_X3_take _ _ _ _ ho)
    refine ta_callVv kc_3 CX hL hR hS (As := [.int 59]) (rest := []) hk_x0_4 (MT_X3_take l x hlt N _ _ _ _ _ ho) cv_X3_119 ⟨by omega, by omega⟩ rfl (Nat.le_of_ble_eq_true rfl) hl.1 hq1 hb1 rfl dX3_readStatement_156 (fun H locs hR hS => ?_)
    exact (wbT_X3_readStatement_159 CTX hRm hRc hG hB0 hGm) _ _ _ _ _ _ _ hf (hL.tr hq1) hR hS (lv_sub hl [0, 1] rfl)
  · exact tx_callv kc_3 CTX hL hR hS (As := [.int 59]) (rest := []) hk_x0_4 (MT_X3_take l x hlt N _ _ _ _ _ ho) cv_X3_119 ⟨by omega, by omega⟩ rfl (Nat.le_of_ble_eq_true rfl) hl.1 (mfT_X3_take _ _ _ _ ho) hRc rfl dX3_readStatement_156
def bT_X3_readStatement_145 (N : Nat) (G : Nat → Nat → Int32 → Int32 → Ka → Cm → Option ((Ka × Cm) ⊕ (Ka × Cm))) (x0 : Nat) (x1 : Int32) (s0 : Int32) (K : Ka) (M : Cm) : Option ((Ka × Cm) ⊕ (Ka × Cm)) := gd (kd K x0 == 4) (tb (G 5 x0 0 x1 K M) fun o150 => (bT_X3_readStatement_153 N G) x0 s0 o150.1 o150.2)
theorem mbT_X3_readStatement_145 {o : (Ka × Cm) ⊕ (Ka × Cm)} {N : Nat} {G : Nat → Nat → Int32 → Int32 → Ka → Cm → Option ((Ka × Cm) ⊕ (Ka × Cm))} (hGm : GMono G) (x0 : Nat) (x1 : Int32) (s0 : Int32) (K : Ka) (M : Cm) (hf : bT_X3_readStatement_145 N G x0 x1 s0 K M = some o) : KLe K (oK sV o) := by
  unfold bT_X3_readStatement_145 at hf
  obtain ⟨-, hf⟩ := gd_some hf
  rcases tb_some hf with ⟨o150, ho, hf⟩ | ⟨q, ho, rfl⟩
  · exact KLe.tr (hGm _ _ _ _ _ _ _ ho) ((mbT_X3_readStatement_153 hGm) _ _ _ _ hf)
  · exact (hGm _ _ _ _ _ _ _ ho)
set_option maxRecDepth 100000 in
set_option maxHeartbeats 4000000 in
theorem wbT_X3_readStatement_145 {p : Program} {l : Launch} {e : Env} {R : Room} {s : State} {m : MethodId} {args : Array Value} {below : List Frame} {meth : Method} {c : Code} {x : Xc} {K0 : Ka} {o : (Ka × Cm) ⊕ (Ka × Cm)} {fr lo : Nat} {N : Nat} {G : Nat → Nat → Int32 → Int32 → Ka → Cm → Option ((Ka × Cm) ⊕ (Ka × Cm))} (CTX : CT p l s m args meth c x K0 RX3 "readStatement" cX3_readStatement 6 none) (hRm : (fr + 1) ≤ R.frames ∧ (lo + 60) ≤ R.locals) (hRc : nz sV K0 o ≤ R.cells ∧ nu sV K0 o ≤ R.slots) (hG : GMet l x G fr lo) (hB0 : 10 ≤ fr ∧ 183 ≤ lo) (hGm : GMono G) (x0 : Nat) (x1 : Int32) (s0 : Int32) (K : Ka) (M : Cm) (H : Heap) (locs : List Loc) (ls : Array Slot) (hf : bT_X3_readStatement_145 N G x0 x1 s0 K M = some o) (hL : KLe K0 K) (hR : RC x K M H) (hS : va_S (AC K0) s.heap H locs) (hl : lv_has ls 6 [(0, .ref x0), (1, .int x1)]) : W p l e R s m args below meth c H locs (kz K - kz K0) (ku K - ku K0) (TQ sV (aQV x K0) (zQV K0) "java/lang/IllegalStateException" x K0 below args s o) (F0 m 145 ls [.int s0]) := by
  obtain ⟨CX, hno, hlt, hmn⟩ := id CTX
  obtain ⟨hx, hb, hml, hown, hts, hE, hB, hr, hlk⟩ := id CX
  have hcs := nz_le (mbT_X3_readStatement_145 hGm x0 x1 s0 K M hf) hRc
  unfold bT_X3_readStatement_145 at hf
  refine lv_istore (lv' := [(5, .int s0), (0, .ref x0), (1, .int x1)]) hx hb dX3_readStatement_145 hl (by decide) rfl (fun ls hl => ?_)
  refine lv_aload_n hx hb dX3_readStatement_147 rfl (lv_at hl 1 rfl) ?_
  refine lv_iconst (v := 0) hx hb dX3_readStatement_148 (by decide) ?_
  refine lv_iload_n hx hb dX3_readStatement_149 rfl (lv_at hl 2 rfl) ?_
  obtain ⟨hk_x0_4, hf⟩ := gd_some hf
  rcases tb_some hf with ⟨o150, ho, hf⟩ | ⟨q, ho, rfl⟩
  · have hm1 := (mbT_X3_readStatement_153 hGm) _ _ _ _ hf
    have hb1 := nz_le hm1 hRc
    have hq1 := (hGm _ _ _ _ _ _ _ ho)
    refine ta_callVv kc_3 CX hL hR hS (As := [.int 0, .int x1]) (rest := []) hk_x0_4 (hG.2.2.2.2.2.1 _ _ _ _ _ _ ho) cv_X3_227 ⟨by omega, by omega⟩ rfl (Nat.le_of_ble_eq_true rfl) hl.1 hq1 hb1 rfl dX3_readStatement_150 (fun H locs hR hS => ?_)
    exact (wbT_X3_readStatement_153 CTX hRm hRc hG hB0 hGm) _ _ _ _ _ _ _ hf (hL.tr hq1) hR hS (lv_sub hl [1, 0] rfl)
  · exact tx_callv kc_3 CTX hL hR hS (As := [.int 0, .int x1]) (rest := []) hk_x0_4 (hG.2.2.2.2.2.1 _ _ _ _ _ _ ho) cv_X3_227 ⟨by omega, by omega⟩ rfl (Nat.le_of_ble_eq_true rfl) hl.1 (hGm _ _ _ _ _ _ _ ho) hRc rfl dX3_readStatement_150
def bT_X3_readStatement_202 (N : Nat) (G : Nat → Nat → Int32 → Int32 → Ka → Cm → Option ((Ka × Cm) ⊕ (Ka × Cm))) (x0 : Nat) (s0 : Int32) (K : Ka) (M : Cm) : Option ((Ka × Cm) ⊕ (Ka × Cm)) := (bT_X3_readStatement_270 N G) x0 K M
theorem mbT_X3_readStatement_202 {o : (Ka × Cm) ⊕ (Ka × Cm)} {N : Nat} {G : Nat → Nat → Int32 → Int32 → Ka → Cm → Option ((Ka × Cm) ⊕ (Ka × Cm))} (hGm : GMono G) (x0 : Nat) (s0 : Int32) (K : Ka) (M : Cm) (hf : bT_X3_readStatement_202 N G x0 s0 K M = some o) : KLe K (oK sV o) := by
  unfold bT_X3_readStatement_202 at hf
  exact (mbT_X3_readStatement_270 hGm) _ _ _ hf
set_option maxRecDepth 100000 in
set_option maxHeartbeats 4000000 in
theorem wbT_X3_readStatement_202 {p : Program} {l : Launch} {e : Env} {R : Room} {s : State} {m : MethodId} {args : Array Value} {below : List Frame} {meth : Method} {c : Code} {x : Xc} {K0 : Ka} {o : (Ka × Cm) ⊕ (Ka × Cm)} {fr lo : Nat} {N : Nat} {G : Nat → Nat → Int32 → Int32 → Ka → Cm → Option ((Ka × Cm) ⊕ (Ka × Cm))} (CTX : CT p l s m args meth c x K0 RX3 "readStatement" cX3_readStatement 6 none) (hRm : (fr + 1) ≤ R.frames ∧ (lo + 60) ≤ R.locals) (hRc : nz sV K0 o ≤ R.cells ∧ nu sV K0 o ≤ R.slots) (hG : GMet l x G fr lo) (hB0 : 10 ≤ fr ∧ 183 ≤ lo) (hGm : GMono G) (x0 : Nat) (s0 : Int32) (K : Ka) (M : Cm) (H : Heap) (locs : List Loc) (ls : Array Slot) (hf : bT_X3_readStatement_202 N G x0 s0 K M = some o) (hL : KLe K0 K) (hR : RC x K M H) (hS : va_S (AC K0) s.heap H locs) (hl : lv_has ls 6 [(0, .ref x0)]) : W p l e R s m args below meth c H locs (kz K - kz K0) (ku K - ku K0) (TQ sV (aQV x K0) (zQV K0) "java/lang/IllegalStateException" x K0 below args s o) (F0 m 202 ls [.int s0]) := by
  obtain ⟨CX, hno, hlt, hmn⟩ := id CTX
  obtain ⟨hx, hb, hml, hown, hts, hE, hB, hr, hlk⟩ := id CX
  have hcs := nz_le (mbT_X3_readStatement_202 hGm x0 s0 K M hf) hRc
  unfold bT_X3_readStatement_202 at hf
  refine lv_pop hx hb dX3_readStatement_202 rfl ?_
  refine lv_goto (tgt := 270) hx hb dX3_readStatement_203 (by decide) ?_
  exact (wbT_X3_readStatement_270 CTX hRm hRc hG hB0 hGm) _ _ _ _ _ _ hf hL hR hS (lv_sub hl [0] rfl)
def bT_X3_readStatement_194 (N : Nat) (G : Nat → Nat → Int32 → Int32 → Ka → Cm → Option ((Ka × Cm) ⊕ (Ka × Cm))) (x0 : Nat) (K : Ka) (M : Cm) : Option ((Ka × Cm) ⊕ (Ka × Cm)) := gd (kd K x0 == 4) (ta (fT_X3_emit N x0 14 0 0 K M) fun o199 => (bT_X3_readStatement_202 N G) x0 o199.1 o199.2.1 o199.2.2)
theorem mbT_X3_readStatement_194 {o : (Ka × Cm) ⊕ (Ka × Cm)} {N : Nat} {G : Nat → Nat → Int32 → Int32 → Ka → Cm → Option ((Ka × Cm) ⊕ (Ka × Cm))} (hGm : GMono G) (x0 : Nat) (K : Ka) (M : Cm) (hf : bT_X3_readStatement_194 N G x0 K M = some o) : KLe K (oK sV o) := by
  unfold bT_X3_readStatement_194 at hf
  obtain ⟨-, hf⟩ := gd_some hf
  obtain ⟨o199, ho, hf⟩ := ta_some hf
  exact KLe.tr (mfT_X3_emit _ _ _ _ _ _ ho) ((mbT_X3_readStatement_202 hGm) _ _ _ _ hf)
set_option maxRecDepth 100000 in
set_option maxHeartbeats 4000000 in
theorem wbT_X3_readStatement_194 {p : Program} {l : Launch} {e : Env} {R : Room} {s : State} {m : MethodId} {args : Array Value} {below : List Frame} {meth : Method} {c : Code} {x : Xc} {K0 : Ka} {o : (Ka × Cm) ⊕ (Ka × Cm)} {fr lo : Nat} {N : Nat} {G : Nat → Nat → Int32 → Int32 → Ka → Cm → Option ((Ka × Cm) ⊕ (Ka × Cm))} (CTX : CT p l s m args meth c x K0 RX3 "readStatement" cX3_readStatement 6 none) (hRm : (fr + 1) ≤ R.frames ∧ (lo + 60) ≤ R.locals) (hRc : nz sV K0 o ≤ R.cells ∧ nu sV K0 o ≤ R.slots) (hG : GMet l x G fr lo) (hB0 : 10 ≤ fr ∧ 183 ≤ lo) (hGm : GMono G) (x0 : Nat) (K : Ka) (M : Cm) (H : Heap) (locs : List Loc) (ls : Array Slot) (hf : bT_X3_readStatement_194 N G x0 K M = some o) (hL : KLe K0 K) (hR : RC x K M H) (hS : va_S (AC K0) s.heap H locs) (hl : lv_has ls 6 [(0, .ref x0)]) : W p l e R s m args below meth c H locs (kz K - kz K0) (ku K - ku K0) (TQ sV (aQV x K0) (zQV K0) "java/lang/IllegalStateException" x K0 below args s o) (F0 m 194 ls []) := by
  obtain ⟨CX, hno, hlt, hmn⟩ := id CTX
  obtain ⟨hx, hb, hml, hown, hts, hE, hB, hr, hlk⟩ := id CX
  have hcs := nz_le (mbT_X3_readStatement_194 hGm x0 K M hf) hRc
  unfold bT_X3_readStatement_194 at hf
  refine lv_aload_n hx hb dX3_readStatement_194 rfl (lv_at hl 0 rfl) ?_
  refine lv_bipush (v := 14) hx hb dX3_readStatement_195 (by decide) ?_
  refine lv_iconst (v := 0) hx hb dX3_readStatement_197 (by decide) ?_
  refine lv_iconst (v := 0) hx hb dX3_readStatement_198 (by decide) ?_
  obtain ⟨hk_x0_4, hf⟩ := gd_some hf
  obtain ⟨o199, ho, hf⟩ := ta_some hf
  have hm1 := (mbT_X3_readStatement_202 hGm) _ _ _ _ hf
  have hb1 := nz_le hm1 hRc
  have hq1 := (mfT_X3_emit _ _ _ _ _ _ ho)
  refine ta_callIv kc_3 CX hL hR hS (As := [.int 14, .int 0, .int 0]) (rest := []) hk_x0_4 (MT_X3_emit l x hlt N _ _ _ _ _ _ _ ho) cv_X3_144 ⟨by omega, by omega⟩ rfl (Nat.le_of_ble_eq_true rfl) hl.1 hq1 hb1 rfl dX3_readStatement_199 (fun H locs hR hS => ?_)
  exact (wbT_X3_readStatement_202 CTX hRm hRc hG hB0 hGm) _ _ _ _ _ _ _ hf (hL.tr hq1) hR hS (lv_sub hl [0] rfl)
def bT_X3_readStatement_188 (N : Nat) (G : Nat → Nat → Int32 → Int32 → Ka → Cm → Option ((Ka × Cm) ⊕ (Ka × Cm))) (x0 : Nat) (K : Ka) (M : Cm) : Option ((Ka × Cm) ⊕ (Ka × Cm)) := gd (kd K x0 == 4) (tb (fT_X3_take N x0 59 K M) fun o191 => (bT_X3_readStatement_194 N G) x0 o191.1 o191.2)
theorem mbT_X3_readStatement_188 {o : (Ka × Cm) ⊕ (Ka × Cm)} {N : Nat} {G : Nat → Nat → Int32 → Int32 → Ka → Cm → Option ((Ka × Cm) ⊕ (Ka × Cm))} (hGm : GMono G) (x0 : Nat) (K : Ka) (M : Cm) (hf : bT_X3_readStatement_188 N G x0 K M = some o) : KLe K (oK sV o) := by
  unfold bT_X3_readStatement_188 at hf
  obtain ⟨-, hf⟩ := gd_some hf
  rcases tb_some hf with ⟨o191, ho, hf⟩ | ⟨q, ho, rfl⟩
  · exact KLe.tr (mfT_X3_take _ _ _ _ ho) ((mbT_X3_readStatement_194 hGm) _ _ _ hf)
  · exact (mfT_X3_take _ _ _ _ ho)
set_option maxRecDepth 100000 in
set_option maxHeartbeats 4000000 in
theorem wbT_X3_readStatement_188 {p : Program} {l : Launch} {e : Env} {R : Room} {s : State} {m : MethodId} {args : Array Value} {below : List Frame} {meth : Method} {c : Code} {x : Xc} {K0 : Ka} {o : (Ka × Cm) ⊕ (Ka × Cm)} {fr lo : Nat} {N : Nat} {G : Nat → Nat → Int32 → Int32 → Ka → Cm → Option ((Ka × Cm) ⊕ (Ka × Cm))} (CTX : CT p l s m args meth c x K0 RX3 "readStatement" cX3_readStatement 6 none) (hRm : (fr + 1) ≤ R.frames ∧ (lo + 60) ≤ R.locals) (hRc : nz sV K0 o ≤ R.cells ∧ nu sV K0 o ≤ R.slots) (hG : GMet l x G fr lo) (hB0 : 10 ≤ fr ∧ 183 ≤ lo) (hGm : GMono G) (x0 : Nat) (K : Ka) (M : Cm) (H : Heap) (locs : List Loc) (ls : Array Slot) (hf : bT_X3_readStatement_188 N G x0 K M = some o) (hL : KLe K0 K) (hR : RC x K M H) (hS : va_S (AC K0) s.heap H locs) (hl : lv_has ls 6 [(0, .ref x0)]) : W p l e R s m args below meth c H locs (kz K - kz K0) (ku K - ku K0) (TQ sV (aQV x K0) (zQV K0) "java/lang/IllegalStateException" x K0 below args s o) (F0 m 188 ls []) := by
  obtain ⟨CX, hno, hlt, hmn⟩ := id CTX
  obtain ⟨hx, hb, hml, hown, hts, hE, hB, hr, hlk⟩ := id CX
  have hcs := nz_le (mbT_X3_readStatement_188 hGm x0 K M hf) hRc
  unfold bT_X3_readStatement_188 at hf
  refine lv_aload_n hx hb dX3_readStatement_188 rfl (lv_at hl 0 rfl) ?_
  refine lv_bipush (v := 59) hx hb dX3_readStatement_189 (by decide) ?_
  obtain ⟨hk_x0_4, hf⟩ := gd_some hf
  rcases tb_some hf with ⟨o191, ho, hf⟩ | ⟨q, ho, rfl⟩
  · have hm1 := (mbT_X3_readStatement_194 hGm) _ _ _ hf
    have hb1 := nz_le hm1 hRc
    have hq1 := (mfT_X3_take _ _ _ _ ho)
    refine ta_callVv kc_3 CX hL hR hS (As := [.int 59]) (rest := []) hk_x0_4 (MT_X3_take l x hlt N _ _ _ _ _ ho) cv_X3_119 ⟨by omega, by omega⟩ rfl (Nat.le_of_ble_eq_true rfl) hl.1 hq1 hb1 rfl dX3_readStatement_191 (fun H locs hR hS => ?_)
    exact (wbT_X3_readStatement_194 CTX hRm hRc hG hB0 hGm) _ _ _ _ _ _ hf (hL.tr hq1) hR hS (lv_sub hl [0] rfl)
  · exact tx_callv kc_3 CTX hL hR hS (As := [.int 59]) (rest := []) hk_x0_4 (MT_X3_take l x hlt N _ _ _ _ _ ho) cv_X3_119 ⟨by omega, by omega⟩ rfl (Nat.le_of_ble_eq_true rfl) hl.1 (mfT_X3_take _ _ _ _ ho) hRc rfl dX3_readStatement_191
def bT_X3_readStatement_237 (N : Nat) (G : Nat → Nat → Int32 → Int32 → Ka → Cm → Option ((Ka × Cm) ⊕ (Ka × Cm))) (x0 : Nat) (K : Ka) (M : Cm) : Option ((Ka × Cm) ⊕ (Ka × Cm)) := (bT_X3_readStatement_270 N G) x0 K M
theorem mbT_X3_readStatement_237 {o : (Ka × Cm) ⊕ (Ka × Cm)} {N : Nat} {G : Nat → Nat → Int32 → Int32 → Ka → Cm → Option ((Ka × Cm) ⊕ (Ka × Cm))} (hGm : GMono G) (x0 : Nat) (K : Ka) (M : Cm) (hf : bT_X3_readStatement_237 N G x0 K M = some o) : KLe K (oK sV o) := by
  unfold bT_X3_readStatement_237 at hf
  exact (mbT_X3_readStatement_270 hGm) _ _ _ hf
set_option maxRecDepth 100000 in
set_option maxHeartbeats 4000000 in
theorem wbT_X3_readStatement_237 {p : Program} {l : Launch} {e : Env} {R : Room} {s : State} {m : MethodId} {args : Array Value} {below : List Frame} {meth : Method} {c : Code} {x : Xc} {K0 : Ka} {o : (Ka × Cm) ⊕ (Ka × Cm)} {fr lo : Nat} {N : Nat} {G : Nat → Nat → Int32 → Int32 → Ka → Cm → Option ((Ka × Cm) ⊕ (Ka × Cm))} (CTX : CT p l s m args meth c x K0 RX3 "readStatement" cX3_readStatement 6 none) (hRm : (fr + 1) ≤ R.frames ∧ (lo + 60) ≤ R.locals) (hRc : nz sV K0 o ≤ R.cells ∧ nu sV K0 o ≤ R.slots) (hG : GMet l x G fr lo) (hB0 : 10 ≤ fr ∧ 183 ≤ lo) (hGm : GMono G) (x0 : Nat) (K : Ka) (M : Cm) (H : Heap) (locs : List Loc) (ls : Array Slot) (hf : bT_X3_readStatement_237 N G x0 K M = some o) (hL : KLe K0 K) (hR : RC x K M H) (hS : va_S (AC K0) s.heap H locs) (hl : lv_has ls 6 [(0, .ref x0)]) : W p l e R s m args below meth c H locs (kz K - kz K0) (ku K - ku K0) (TQ sV (aQV x K0) (zQV K0) "java/lang/IllegalStateException" x K0 below args s o) (F0 m 237 ls []) := by
  obtain ⟨CX, hno, hlt, hmn⟩ := id CTX
  obtain ⟨hx, hb, hml, hown, hts, hE, hB, hr, hlk⟩ := id CX
  have hcs := nz_le (mbT_X3_readStatement_237 hGm x0 K M hf) hRc
  unfold bT_X3_readStatement_237 at hf
  refine lv_goto (tgt := 270) hx hb dX3_readStatement_237 (by decide) ?_
  exact (wbT_X3_readStatement_270 CTX hRm hRc hG hB0 hGm) _ _ _ _ _ _ hf hL hR hS (lv_sub hl [0] rfl)
def bT_X3_readStatement_230 (N : Nat) (G : Nat → Nat → Int32 → Int32 → Ka → Cm → Option ((Ka × Cm) ⊕ (Ka × Cm))) (x0 : Nat) (s0 : Int32) (K : Ka) (M : Cm) : Option ((Ka × Cm) ⊕ (Ka × Cm)) := gd (kd K x0 == 4) (tb (fT_X3_take N x0 59 K M) fun o234 => (bT_X3_readStatement_237 N G) x0 o234.1 o234.2)
theorem mbT_X3_readStatement_230 {o : (Ka × Cm) ⊕ (Ka × Cm)} {N : Nat} {G : Nat → Nat → Int32 → Int32 → Ka → Cm → Option ((Ka × Cm) ⊕ (Ka × Cm))} (hGm : GMono G) (x0 : Nat) (s0 : Int32) (K : Ka) (M : Cm) (hf : bT_X3_readStatement_230 N G x0 s0 K M = some o) : KLe K (oK sV o) := by
  unfold bT_X3_readStatement_230 at hf
  obtain ⟨-, hf⟩ := gd_some hf
  rcases tb_some hf with ⟨o234, ho, hf⟩ | ⟨q, ho, rfl⟩
  · exact KLe.tr (mfT_X3_take _ _ _ _ ho) ((mbT_X3_readStatement_237 hGm) _ _ _ hf)
  · exact (mfT_X3_take _ _ _ _ ho)
set_option maxRecDepth 100000 in
set_option maxHeartbeats 4000000 in
theorem wbT_X3_readStatement_230 {p : Program} {l : Launch} {e : Env} {R : Room} {s : State} {m : MethodId} {args : Array Value} {below : List Frame} {meth : Method} {c : Code} {x : Xc} {K0 : Ka} {o : (Ka × Cm) ⊕ (Ka × Cm)} {fr lo : Nat} {N : Nat} {G : Nat → Nat → Int32 → Int32 → Ka → Cm → Option ((Ka × Cm) ⊕ (Ka × Cm))} (CTX : CT p l s m args meth c x K0 RX3 "readStatement" cX3_readStatement 6 none) (hRm : (fr + 1) ≤ R.frames ∧ (lo + 60) ≤ R.locals) (hRc : nz sV K0 o ≤ R.cells ∧ nu sV K0 o ≤ R.slots) (hG : GMet l x G fr lo) (hB0 : 10 ≤ fr ∧ 183 ≤ lo) (hGm : GMono G) (x0 : Nat) (s0 : Int32) (K : Ka) (M : Cm) (H : Heap) (locs : List Loc) (ls : Array Slot) (hf : bT_X3_readStatement_230 N G x0 s0 K M = some o) (hL : KLe K0 K) (hR : RC x K M H) (hS : va_S (AC K0) s.heap H locs) (hl : lv_has ls 6 [(0, .ref x0)]) : W p l e R s m args below meth c H locs (kz K - kz K0) (ku K - ku K0) (TQ sV (aQV x K0) (zQV K0) "java/lang/IllegalStateException" x K0 below args s o) (F0 m 230 ls [.int s0]) := by
  obtain ⟨CX, hno, hlt, hmn⟩ := id CTX
  obtain ⟨hx, hb, hml, hown, hts, hE, hB, hr, hlk⟩ := id CX
  have hcs := nz_le (mbT_X3_readStatement_230 hGm x0 s0 K M hf) hRc
  unfold bT_X3_readStatement_230 at hf
  refine lv_pop hx hb dX3_readStatement_230 rfl ?_
  refine lv_aload_n hx hb dX3_readStatement_231 rfl (lv_at hl 0 rfl) ?_
  refine lv_bipush (v := 59) hx hb dX3_readStatement_232 (by decide) ?_
  obtain ⟨hk_x0_4, hf⟩ := gd_some hf
  rcases tb_some hf with ⟨o234, ho, hf⟩ | ⟨q, ho, rfl⟩
  · have hm1 := (mbT_X3_readStatement_237 hGm) _ _ _ hf
    have hb1 := nz_le hm1 hRc
    have hq1 := (mfT_X3_take _ _ _ _ ho)
    refine ta_callVv kc_3 CX hL hR hS (As := [.int 59]) (rest := []) hk_x0_4 (MT_X3_take l x hlt N _ _ _ _ _ ho) cv_X3_119 ⟨by omega, by omega⟩ rfl (Nat.le_of_ble_eq_true rfl) hl.1 hq1 hb1 rfl dX3_readStatement_234 (fun H locs hR hS => ?_)
    exact (wbT_X3_readStatement_237 CTX hRm hRc hG hB0 hGm) _ _ _ _ _ _ hf (hL.tr hq1) hR hS (lv_sub hl [0] rfl)
  · exact tx_callv kc_3 CTX hL hR hS (As := [.int 59]) (rest := []) hk_x0_4 (MT_X3_take l x hlt N _ _ _ _ _ ho) cv_X3_119 ⟨by omega, by omega⟩ rfl (Nat.le_of_ble_eq_true rfl) hl.1 (mfT_X3_take _ _ _ _ ho) hRc rfl dX3_readStatement_234
def bT_X3_readStatement_226 (N : Nat) (G : Nat → Nat → Int32 → Int32 → Ka → Cm → Option ((Ka × Cm) ⊕ (Ka × Cm))) (x0 : Nat) (s0 : Nat) (s1 : Int32) (s2 : Int32) (K : Ka) (M : Cm) : Option ((Ka × Cm) ⊕ (Ka × Cm)) := gd (kd K s0 == 4) (ta (fT_X3_emit N s0 s1 s2 0 K M) fun o227 => (bT_X3_readStatement_230 N G) x0 o227.1 o227.2.1 o227.2.2)
theorem mbT_X3_readStatement_226 {o : (Ka × Cm) ⊕ (Ka × Cm)} {N : Nat} {G : Nat → Nat → Int32 → Int32 → Ka → Cm → Option ((Ka × Cm) ⊕ (Ka × Cm))} (hGm : GMono G) (x0 : Nat) (s0 : Nat) (s1 : Int32) (s2 : Int32) (K : Ka) (M : Cm) (hf : bT_X3_readStatement_226 N G x0 s0 s1 s2 K M = some o) : KLe K (oK sV o) := by
  unfold bT_X3_readStatement_226 at hf
  obtain ⟨-, hf⟩ := gd_some hf
  obtain ⟨o227, ho, hf⟩ := ta_some hf
  exact KLe.tr (mfT_X3_emit _ _ _ _ _ _ ho) ((mbT_X3_readStatement_230 hGm) _ _ _ _ hf)
set_option maxRecDepth 100000 in
set_option maxHeartbeats 4000000 in
theorem wbT_X3_readStatement_226 {p : Program} {l : Launch} {e : Env} {R : Room} {s : State} {m : MethodId} {args : Array Value} {below : List Frame} {meth : Method} {c : Code} {x : Xc} {K0 : Ka} {o : (Ka × Cm) ⊕ (Ka × Cm)} {fr lo : Nat} {N : Nat} {G : Nat → Nat → Int32 → Int32 → Ka → Cm → Option ((Ka × Cm) ⊕ (Ka × Cm))} (CTX : CT p l s m args meth c x K0 RX3 "readStatement" cX3_readStatement 6 none) (hRm : (fr + 1) ≤ R.frames ∧ (lo + 60) ≤ R.locals) (hRc : nz sV K0 o ≤ R.cells ∧ nu sV K0 o ≤ R.slots) (hG : GMet l x G fr lo) (hB0 : 10 ≤ fr ∧ 183 ≤ lo) (hGm : GMono G) (x0 : Nat) (s0 : Nat) (s1 : Int32) (s2 : Int32) (K : Ka) (M : Cm) (H : Heap) (locs : List Loc) (ls : Array Slot) (hf : bT_X3_readStatement_226 N G x0 s0 s1 s2 K M = some o) (hL : KLe K0 K) (hR : RC x K M H) (hS : va_S (AC K0) s.heap H locs) (hl : lv_has ls 6 [(0, .ref x0)]) : W p l e R s m args below meth c H locs (kz K - kz K0) (ku K - ku K0) (TQ sV (aQV x K0) (zQV K0) "java/lang/IllegalStateException" x K0 below args s o) (F0 m 226 ls [.int s2, .int s1, .ref s0]) := by
  obtain ⟨CX, hno, hlt, hmn⟩ := id CTX
  obtain ⟨hx, hb, hml, hown, hts, hE, hB, hr, hlk⟩ := id CX
  have hcs := nz_le (mbT_X3_readStatement_226 hGm x0 s0 s1 s2 K M hf) hRc
  unfold bT_X3_readStatement_226 at hf
  refine lv_iconst (v := 0) hx hb dX3_readStatement_226 (by decide) ?_
  obtain ⟨hk_s0_4, hf⟩ := gd_some hf
  obtain ⟨o227, ho, hf⟩ := ta_some hf
  have hm1 := (mbT_X3_readStatement_230 hGm) _ _ _ _ hf
  have hb1 := nz_le hm1 hRc
  have hq1 := (mfT_X3_emit _ _ _ _ _ _ ho)
  refine ta_callIv kc_3 CX hL hR hS (As := [.int s1, .int s2, .int 0]) (rest := []) hk_s0_4 (MT_X3_emit l x hlt N _ _ _ _ _ _ _ ho) cv_X3_144 ⟨by omega, by omega⟩ rfl (Nat.le_of_ble_eq_true rfl) hl.1 hq1 hb1 rfl dX3_readStatement_227 (fun H locs hR hS => ?_)
  exact (wbT_X3_readStatement_230 CTX hRm hRc hG hB0 hGm) _ _ _ _ _ _ _ hf (hL.tr hq1) hR hS (lv_sub hl [0] rfl)
def bT_X3_readStatement_245 (N : Nat) (G : Nat → Nat → Int32 → Int32 → Ka → Cm → Option ((Ka × Cm) ⊕ (Ka × Cm))) (x0 : Nat) (K : Ka) (M : Cm) : Option ((Ka × Cm) ⊕ (Ka × Cm)) := (bT_X3_readStatement_270 N G) x0 K M
theorem mbT_X3_readStatement_245 {o : (Ka × Cm) ⊕ (Ka × Cm)} {N : Nat} {G : Nat → Nat → Int32 → Int32 → Ka → Cm → Option ((Ka × Cm) ⊕ (Ka × Cm))} (hGm : GMono G) (x0 : Nat) (K : Ka) (M : Cm) (hf : bT_X3_readStatement_245 N G x0 K M = some o) : KLe K (oK sV o) := by
  unfold bT_X3_readStatement_245 at hf
  exact (mbT_X3_readStatement_270 hGm) _ _ _ hf
set_option maxRecDepth 100000 in
set_option maxHeartbeats 4000000 in
theorem wbT_X3_readStatement_245 {p : Program} {l : Launch} {e : Env} {R : Room} {s : State} {m : MethodId} {args : Array Value} {below : List Frame} {meth : Method} {c : Code} {x : Xc} {K0 : Ka} {o : (Ka × Cm) ⊕ (Ka × Cm)} {fr lo : Nat} {N : Nat} {G : Nat → Nat → Int32 → Int32 → Ka → Cm → Option ((Ka × Cm) ⊕ (Ka × Cm))} (CTX : CT p l s m args meth c x K0 RX3 "readStatement" cX3_readStatement 6 none) (hRm : (fr + 1) ≤ R.frames ∧ (lo + 60) ≤ R.locals) (hRc : nz sV K0 o ≤ R.cells ∧ nu sV K0 o ≤ R.slots) (hG : GMet l x G fr lo) (hB0 : 10 ≤ fr ∧ 183 ≤ lo) (hGm : GMono G) (x0 : Nat) (K : Ka) (M : Cm) (H : Heap) (locs : List Loc) (ls : Array Slot) (hf : bT_X3_readStatement_245 N G x0 K M = some o) (hL : KLe K0 K) (hR : RC x K M H) (hS : va_S (AC K0) s.heap H locs) (hl : lv_has ls 6 [(0, .ref x0)]) : W p l e R s m args below meth c H locs (kz K - kz K0) (ku K - ku K0) (TQ sV (aQV x K0) (zQV K0) "java/lang/IllegalStateException" x K0 below args s o) (F0 m 245 ls []) := by
  obtain ⟨CX, hno, hlt, hmn⟩ := id CTX
  obtain ⟨hx, hb, hml, hown, hts, hE, hB, hr, hlk⟩ := id CX
  have hcs := nz_le (mbT_X3_readStatement_245 hGm x0 K M hf) hRc
  unfold bT_X3_readStatement_245 at hf
  refine lv_goto (tgt := 270) hx hb dX3_readStatement_245 (by decide) ?_
  exact (wbT_X3_readStatement_270 CTX hRm hRc hG hB0 hGm) _ _ _ _ _ _ hf hL hR hS (lv_sub hl [0] rfl)
def bT_X3_readStatement_254 (N : Nat) (G : Nat → Nat → Int32 → Int32 → Ka → Cm → Option ((Ka × Cm) ⊕ (Ka × Cm))) (x0 : Nat) (K : Ka) (M : Cm) : Option ((Ka × Cm) ⊕ (Ka × Cm)) := (bT_X3_readStatement_270 N G) x0 K M
theorem mbT_X3_readStatement_254 {o : (Ka × Cm) ⊕ (Ka × Cm)} {N : Nat} {G : Nat → Nat → Int32 → Int32 → Ka → Cm → Option ((Ka × Cm) ⊕ (Ka × Cm))} (hGm : GMono G) (x0 : Nat) (K : Ka) (M : Cm) (hf : bT_X3_readStatement_254 N G x0 K M = some o) : KLe K (oK sV o) := by
  unfold bT_X3_readStatement_254 at hf
  exact (mbT_X3_readStatement_270 hGm) _ _ _ hf
set_option maxRecDepth 100000 in
set_option maxHeartbeats 4000000 in
theorem wbT_X3_readStatement_254 {p : Program} {l : Launch} {e : Env} {R : Room} {s : State} {m : MethodId} {args : Array Value} {below : List Frame} {meth : Method} {c : Code} {x : Xc} {K0 : Ka} {o : (Ka × Cm) ⊕ (Ka × Cm)} {fr lo : Nat} {N : Nat} {G : Nat → Nat → Int32 → Int32 → Ka → Cm → Option ((Ka × Cm) ⊕ (Ka × Cm))} (CTX : CT p l s m args meth c x K0 RX3 "readStatement" cX3_readStatement 6 none) (hRm : (fr + 1) ≤ R.frames ∧ (lo + 60) ≤ R.locals) (hRc : nz sV K0 o ≤ R.cells ∧ nu sV K0 o ≤ R.slots) (hG : GMet l x G fr lo) (hB0 : 10 ≤ fr ∧ 183 ≤ lo) (hGm : GMono G) (x0 : Nat) (K : Ka) (M : Cm) (H : Heap) (locs : List Loc) (ls : Array Slot) (hf : bT_X3_readStatement_254 N G x0 K M = some o) (hL : KLe K0 K) (hR : RC x K M H) (hS : va_S (AC K0) s.heap H locs) (hl : lv_has ls 6 [(0, .ref x0)]) : W p l e R s m args below meth c H locs (kz K - kz K0) (ku K - ku K0) (TQ sV (aQV x K0) (zQV K0) "java/lang/IllegalStateException" x K0 below args s o) (F0 m 254 ls []) := by
  obtain ⟨CX, hno, hlt, hmn⟩ := id CTX
  obtain ⟨hx, hb, hml, hown, hts, hE, hB, hr, hlk⟩ := id CX
  have hcs := nz_le (mbT_X3_readStatement_254 hGm x0 K M hf) hRc
  unfold bT_X3_readStatement_254 at hf
  refine lv_goto (tgt := 270) hx hb dX3_readStatement_254 (by decide) ?_
  exact (wbT_X3_readStatement_270 CTX hRm hRc hG hB0 hGm) _ _ _ _ _ _ hf hL hR hS (lv_sub hl [0] rfl)
def bT_X3_readStatement_262 (N : Nat) (G : Nat → Nat → Int32 → Int32 → Ka → Cm → Option ((Ka × Cm) ⊕ (Ka × Cm))) (x0 : Nat) (K : Ka) (M : Cm) : Option ((Ka × Cm) ⊕ (Ka × Cm)) := (bT_X3_readStatement_270 N G) x0 K M
theorem mbT_X3_readStatement_262 {o : (Ka × Cm) ⊕ (Ka × Cm)} {N : Nat} {G : Nat → Nat → Int32 → Int32 → Ka → Cm → Option ((Ka × Cm) ⊕ (Ka × Cm))} (hGm : GMono G) (x0 : Nat) (K : Ka) (M : Cm) (hf : bT_X3_readStatement_262 N G x0 K M = some o) : KLe K (oK sV o) := by
  unfold bT_X3_readStatement_262 at hf
  exact (mbT_X3_readStatement_270 hGm) _ _ _ hf
set_option maxRecDepth 100000 in
set_option maxHeartbeats 4000000 in
theorem wbT_X3_readStatement_262 {p : Program} {l : Launch} {e : Env} {R : Room} {s : State} {m : MethodId} {args : Array Value} {below : List Frame} {meth : Method} {c : Code} {x : Xc} {K0 : Ka} {o : (Ka × Cm) ⊕ (Ka × Cm)} {fr lo : Nat} {N : Nat} {G : Nat → Nat → Int32 → Int32 → Ka → Cm → Option ((Ka × Cm) ⊕ (Ka × Cm))} (CTX : CT p l s m args meth c x K0 RX3 "readStatement" cX3_readStatement 6 none) (hRm : (fr + 1) ≤ R.frames ∧ (lo + 60) ≤ R.locals) (hRc : nz sV K0 o ≤ R.cells ∧ nu sV K0 o ≤ R.slots) (hG : GMet l x G fr lo) (hB0 : 10 ≤ fr ∧ 183 ≤ lo) (hGm : GMono G) (x0 : Nat) (K : Ka) (M : Cm) (H : Heap) (locs : List Loc) (ls : Array Slot) (hf : bT_X3_readStatement_262 N G x0 K M = some o) (hL : KLe K0 K) (hR : RC x K M H) (hS : va_S (AC K0) s.heap H locs) (hl : lv_has ls 6 [(0, .ref x0)]) : W p l e R s m args below meth c H locs (kz K - kz K0) (ku K - ku K0) (TQ sV (aQV x K0) (zQV K0) "java/lang/IllegalStateException" x K0 below args s o) (F0 m 262 ls []) := by
  obtain ⟨CX, hno, hlt, hmn⟩ := id CTX
  obtain ⟨hx, hb, hml, hown, hts, hE, hB, hr, hlk⟩ := id CX
  have hcs := nz_le (mbT_X3_readStatement_262 hGm x0 K M hf) hRc
  unfold bT_X3_readStatement_262 at hf
  refine lv_goto (tgt := 270) hx hb dX3_readStatement_262 (by decide) ?_
  exact (wbT_X3_readStatement_270 CTX hRm hRc hG hB0 hGm) _ _ _ _ _ _ hf hL hR hS (lv_sub hl [0] rfl)
def bT_X3_readStatement_7 (N : Nat) (G : Nat → Nat → Int32 → Int32 → Ka → Cm → Option ((Ka × Cm) ⊕ (Ka × Cm))) (x0 : Nat) (x1 : Int32) (s0 : Int32) (K : Ka) (M : Cm) : Option ((Ka × Cm) ⊕ (Ka × Cm)) := gd (kd K x0 == 4) (if (cI M x0 3) = 2 then (tb (fT_X3_readPlace N x0 1 K M) fun o90 => (bT_X3_readStatement_93 N G) x0 x1 o90.1 o90.2.1 o90.2.2) else if (cI M x0 3) = 142 then (tb (fT_X3_readTouch N x0 K M) fun o125 => (bT_X3_readStatement_128 N G) x0 o125.1 o125.2) else if (cI M x0 3) = 143 then ((fC_X3_moveTo N K x0 ((cI M x0 2) + 1) M).bind fun o138 => tb (fT_X3_takeDevice N x0 K o138) fun o142 => (bT_X3_readStatement_145 N G) x0 x1 o142.1 o142.2.1 o142.2.2) else if (cI M x0 3) = 144 then ((fC_X3_moveTo N K x0 ((cI M x0 2) + 1) M).bind fun o179 => tb (G 5 x0 0 x1 K o179) fun o185 => (bT_X3_readStatement_188 N G) x0 o185.1 o185.2) else if (cI M x0 3) = 145 then ((fC_X3_moveTo N K x0 ((cI M x0 2) + 1) M).bind fun o213 => tb (fT_X3_takeNumber N x0 1 9 K o213) fun o223 => (bT_X3_readStatement_226 N G) x0 x0 15 o223.1 o223.2.1 o223.2.2) else if (cI M x0 3) = 146 then (tb (G 2 x0 x1 0 K M) fun o242 => (bT_X3_readStatement_245 N G) x0 o242.1 o242.2) else if (cI M x0 3) = 148 then (tb (G 3 x0 x1 s0 K M) fun o251 => (bT_X3_readStatement_254 N G) x0 o251.1 o251.2) else if (cI M x0 3) = 149 then (tb (G 4 x0 x1 0 K M) fun o259 => (bT_X3_readStatement_262 N G) x0 o259.1 o259.2) else (tb (fT_X3_refuse N x0 1 K M) fun o267 => (bT_X3_readStatement_270 N G) x0 o267.1 o267.2))
theorem mbT_X3_readStatement_7 {o : (Ka × Cm) ⊕ (Ka × Cm)} {N : Nat} {G : Nat → Nat → Int32 → Int32 → Ka → Cm → Option ((Ka × Cm) ⊕ (Ka × Cm))} (hGm : GMono G) (x0 : Nat) (x1 : Int32) (s0 : Int32) (K : Ka) (M : Cm) (hf : bT_X3_readStatement_7 N G x0 x1 s0 K M = some o) : KLe K (oK sV o) := by
  unfold bT_X3_readStatement_7 at hf
  obtain ⟨-, hf⟩ := gd_some hf
  by_cases hc0 : (cI M x0 3) = 2
  · rw [if_pos hc0] at hf
    rcases tb_some hf with ⟨o90, ho, hf⟩ | ⟨q, ho, rfl⟩
    · exact KLe.tr (mfT_X3_readPlace _ _ _ _ ho) ((mbT_X3_readStatement_93 hGm) _ _ _ _ _ hf)
    · exact (mfT_X3_readPlace _ _ _ _ ho)
  · rw [if_neg hc0] at hf
    by_cases hc1 : (cI M x0 3) = 142
    · rw [if_pos hc1] at hf
      rcases tb_some hf with ⟨o125, ho, hf⟩ | ⟨q, ho, rfl⟩
      · exact KLe.tr (mfT_X3_readTouch _ _ _ ho) ((mbT_X3_readStatement_128 hGm) _ _ _ hf)
      · exact (mfT_X3_readTouch _ _ _ ho)
    · rw [if_neg hc1] at hf
      by_cases hc2 : (cI M x0 3) = 143
      · rw [if_pos hc2] at hf
        obtain ⟨o138, -, hf⟩ := bnd_some hf
        rcases tb_some hf with ⟨o142, ho, hf⟩ | ⟨q, ho, rfl⟩
        · exact KLe.tr (mfT_X3_takeDevice _ _ _ ho) ((mbT_X3_readStatement_145 hGm) _ _ _ _ _ hf)
        · exact (mfT_X3_takeDevice _ _ _ ho)
      · rw [if_neg hc2] at hf
        by_cases hc3 : (cI M x0 3) = 144
        · rw [if_pos hc3] at hf
          obtain ⟨o179, -, hf⟩ := bnd_some hf
          rcases tb_some hf with ⟨o185, ho, hf⟩ | ⟨q, ho, rfl⟩
          · exact KLe.tr (hGm _ _ _ _ _ _ _ ho) ((mbT_X3_readStatement_188 hGm) _ _ _ hf)
          · exact (hGm _ _ _ _ _ _ _ ho)
        · rw [if_neg hc3] at hf
          by_cases hc4 : (cI M x0 3) = 145
          · rw [if_pos hc4] at hf
            obtain ⟨o213, -, hf⟩ := bnd_some hf
            rcases tb_some hf with ⟨o223, ho, hf⟩ | ⟨q, ho, rfl⟩
            · exact KLe.tr (mfT_X3_takeNumber _ _ _ _ _ ho) ((mbT_X3_readStatement_226 hGm) _ _ _ _ _ _ hf)
            · exact (mfT_X3_takeNumber _ _ _ _ _ ho)
          · rw [if_neg hc4] at hf
            by_cases hc5 : (cI M x0 3) = 146
            · rw [if_pos hc5] at hf
              rcases tb_some hf with ⟨o242, ho, hf⟩ | ⟨q, ho, rfl⟩
              · exact KLe.tr (hGm _ _ _ _ _ _ _ ho) ((mbT_X3_readStatement_245 hGm) _ _ _ hf)
              · exact (hGm _ _ _ _ _ _ _ ho)
            · rw [if_neg hc5] at hf
              by_cases hc6 : (cI M x0 3) = 148
              · rw [if_pos hc6] at hf
                rcases tb_some hf with ⟨o251, ho, hf⟩ | ⟨q, ho, rfl⟩
                · exact KLe.tr (hGm _ _ _ _ _ _ _ ho) ((mbT_X3_readStatement_254 hGm) _ _ _ hf)
                · exact (hGm _ _ _ _ _ _ _ ho)
              · rw [if_neg hc6] at hf
                by_cases hc7 : (cI M x0 3) = 149
                · rw [if_pos hc7] at hf
                  rcases tb_some hf with ⟨o259, ho, hf⟩ | ⟨q, ho, rfl⟩
                  · exact KLe.tr (hGm _ _ _ _ _ _ _ ho) ((mbT_X3_readStatement_262 hGm) _ _ _ hf)
                  · exact (hGm _ _ _ _ _ _ _ ho)
                · rw [if_neg hc7] at hf
                  rcases tb_some hf with ⟨o267, ho, hf⟩ | ⟨q, ho, rfl⟩
                  · exact KLe.tr (mfT_X3_refuse _ _ _ _ ho) ((mbT_X3_readStatement_270 hGm) _ _ _ hf)
                  · exact (mfT_X3_refuse _ _ _ _ ho)
set_option maxRecDepth 100000 in
set_option maxHeartbeats 4000000 in
theorem wbT_X3_readStatement_7 {p : Program} {l : Launch} {e : Env} {R : Room} {s : State} {m : MethodId} {args : Array Value} {below : List Frame} {meth : Method} {c : Code} {x : Xc} {K0 : Ka} {o : (Ka × Cm) ⊕ (Ka × Cm)} {fr lo : Nat} {N : Nat} {G : Nat → Nat → Int32 → Int32 → Ka → Cm → Option ((Ka × Cm) ⊕ (Ka × Cm))} (CTX : CT p l s m args meth c x K0 RX3 "readStatement" cX3_readStatement 6 none) (hRm : (fr + 1) ≤ R.frames ∧ (lo + 60) ≤ R.locals) (hRc : nz sV K0 o ≤ R.cells ∧ nu sV K0 o ≤ R.slots) (hG : GMet l x G fr lo) (hB0 : 10 ≤ fr ∧ 183 ≤ lo) (hGm : GMono G) (x0 : Nat) (x1 : Int32) (s0 : Int32) (K : Ka) (M : Cm) (H : Heap) (locs : List Loc) (ls : Array Slot) (hf : bT_X3_readStatement_7 N G x0 x1 s0 K M = some o) (hL : KLe K0 K) (hR : RC x K M H) (hS : va_S (AC K0) s.heap H locs) (hl : lv_has ls 6 [(0, .ref x0), (1, .int x1)]) : W p l e R s m args below meth c H locs (kz K - kz K0) (ku K - ku K0) (TQ sV (aQV x K0) (zQV K0) "java/lang/IllegalStateException" x K0 below args s o) (F0 m 7 ls [.int s0]) := by
  obtain ⟨CX, hno, hlt, hmn⟩ := id CTX
  obtain ⟨hx, hb, hml, hown, hts, hE, hB, hr, hlk⟩ := id CX
  have hcs := nz_le (mbT_X3_readStatement_7 hGm x0 x1 s0 K M hf) hRc
  unfold bT_X3_readStatement_7 at hf
  refine lv_istore_n (lv' := [(2, .int s0), (0, .ref x0), (1, .int x1)]) hx hb dX3_readStatement_7 rfl hl (by decide) rfl (fun ls hl => ?_)
  refine lv_aload_n hx hb dX3_readStatement_8 rfl (lv_at hl 1 rfl) ?_
  obtain ⟨hk_x0_4, hf⟩ := gd_some hf
  refine cr_getI kc_3 CX hR fa_X3_19 rfl hk_x0_4 dX3_readStatement_9 ?_
  by_cases hc0 : (cI M x0 3) = 2
  · rw [if_pos hc0] at hf
    refine lv_lookup (off := 76) (tgt := 88) hx hb dX3_readStatement_12 (by decide) (by rw [hc0]; decide) (by decide) ?_
    refine lv_aload_n hx hb dX3_readStatement_88 rfl (lv_at hl 1 rfl) ?_
    refine lv_iconst (v := 1) hx hb dX3_readStatement_89 (by decide) ?_
    rcases tb_some hf with ⟨o90, ho, hf⟩ | ⟨q, ho, rfl⟩
    · have hm1 := (mbT_X3_readStatement_93 hGm) _ _ _ _ _ hf
      have hb1 := nz_le hm1 hRc
      have hq1 := (mfT_X3_readPlace _ _ _ _ ho)
      refine ta_callLv kc_3 CX hL hR hS (As := [.int 1]) (rest := []) hk_x0_4 (MT_X3_readPlace l x hlt N _ _ _ _ _ ho) cv_X3_234 ⟨by omega, by omega⟩ rfl (Nat.le_of_ble_eq_true rfl) hl.1 hq1 hb1 rfl dX3_readStatement_90 (fun H locs hR hS => ?_)
      exact (wbT_X3_readStatement_93 CTX hRm hRc hG hB0 hGm) _ _ _ _ _ _ _ _ hf (hL.tr hq1) hR hS (lv_sub hl [1, 2] rfl)
    · exact tx_callv kc_3 CTX hL hR hS (As := [.int 1]) (rest := []) hk_x0_4 (MT_X3_readPlace l x hlt N _ _ _ _ _ ho) cv_X3_234 ⟨by omega, by omega⟩ rfl (Nat.le_of_ble_eq_true rfl) hl.1 (mfT_X3_readPlace _ _ _ _ ho) hRc rfl dX3_readStatement_90
  · rw [if_neg hc0] at hf
    by_cases hc1 : (cI M x0 3) = 142
    · rw [if_pos hc1] at hf
      refine lv_lookup (off := 112) (tgt := 124) hx hb dX3_readStatement_12 (by decide) (by rw [hc1]; decide) (by decide) ?_
      refine lv_aload_n hx hb dX3_readStatement_124 rfl (lv_at hl 1 rfl) ?_
      rcases tb_some hf with ⟨o125, ho, hf⟩ | ⟨q, ho, rfl⟩
      · have hm1 := (mbT_X3_readStatement_128 hGm) _ _ _ hf
        have hb1 := nz_le hm1 hRc
        have hq1 := (mfT_X3_readTouch _ _ _ ho)
        refine ta_callVv kc_3 CX hL hR hS (As := []) (rest := []) hk_x0_4 (MT_X3_readTouch l x hlt N _ _ _ _ ho) cv_X3_238 ⟨by omega, by omega⟩ rfl (Nat.le_of_ble_eq_true rfl) hl.1 hq1 hb1 rfl dX3_readStatement_125 (fun H locs hR hS => ?_)
        exact (wbT_X3_readStatement_128 CTX hRm hRc hG hB0 hGm) _ _ _ _ _ _ hf (hL.tr hq1) hR hS (lv_sub hl [1] rfl)
      · exact tx_callv kc_3 CTX hL hR hS (As := []) (rest := []) hk_x0_4 (MT_X3_readTouch l x hlt N _ _ _ _ ho) cv_X3_238 ⟨by omega, by omega⟩ rfl (Nat.le_of_ble_eq_true rfl) hl.1 (mfT_X3_readTouch _ _ _ ho) hRc rfl dX3_readStatement_125
    · rw [if_neg hc1] at hf
      by_cases hc2 : (cI M x0 3) = 143
      · rw [if_pos hc2] at hf
        refine lv_lookup (off := 119) (tgt := 131) hx hb dX3_readStatement_12 (by decide) (by rw [hc2]; decide) (by decide) ?_
        refine lv_aload_n hx hb dX3_readStatement_131 rfl (lv_at hl 1 rfl) ?_
        refine lv_aload_n hx hb dX3_readStatement_132 rfl (lv_at hl 1 rfl) ?_
        refine cr_getI kc_3 CX hR fa_X3_15 rfl hk_x0_4 dX3_readStatement_133 ?_
        refine lv_iconst (v := 1) hx hb dX3_readStatement_136 (by decide) ?_
        refine lv_iadd hx hb dX3_readStatement_137 ?_
        obtain ⟨o138, ho138, hf⟩ := bnd_some hf
        refine cr_callVv kc_3 CX hR hL hS (As := [.int ((cI M x0 2) + 1)]) (rest := []) hk_x0_4 (MC_X3_moveTo l x N K x0 ((cI M x0 2) + 1) M o138 ho138) cv_X3_42 ⟨by omega, by omega⟩ rfl rfl (Nat.le_of_ble_eq_true rfl) hl.1 dX3_readStatement_138 hcs (fun H locs hR hS => ?_)
        refine lv_aload_n hx hb dX3_readStatement_141 rfl (lv_at hl 1 rfl) ?_
        rcases tb_some hf with ⟨o142, ho, hf⟩ | ⟨q, ho, rfl⟩
        · have hm1 := (mbT_X3_readStatement_145 hGm) _ _ _ _ _ hf
          have hb1 := nz_le hm1 hRc
          have hq1 := (mfT_X3_takeDevice _ _ _ ho)
          refine ta_callIv kc_3 CX hL hR hS (As := []) (rest := []) hk_x0_4 (MT_X3_takeDevice l x hlt N _ _ _ _ ho) cv_X3_241 ⟨by omega, by omega⟩ rfl (Nat.le_of_ble_eq_true rfl) hl.1 hq1 hb1 rfl dX3_readStatement_142 (fun H locs hR hS => ?_)
          exact (wbT_X3_readStatement_145 CTX hRm hRc hG hB0 hGm) _ _ _ _ _ _ _ _ hf (hL.tr hq1) hR hS (lv_sub hl [1, 2] rfl)
        · exact tx_callv kc_3 CTX hL hR hS (As := []) (rest := []) hk_x0_4 (MT_X3_takeDevice l x hlt N _ _ _ _ ho) cv_X3_241 ⟨by omega, by omega⟩ rfl (Nat.le_of_ble_eq_true rfl) hl.1 (mfT_X3_takeDevice _ _ _ ho) hRc rfl dX3_readStatement_142
      · rw [if_neg hc2] at hf
        by_cases hc3 : (cI M x0 3) = 144
        · rw [if_pos hc3] at hf
          refine lv_lookup (off := 160) (tgt := 172) hx hb dX3_readStatement_12 (by decide) (by rw [hc3]; decide) (by decide) ?_
          refine lv_aload_n hx hb dX3_readStatement_172 rfl (lv_at hl 1 rfl) ?_
          refine lv_aload_n hx hb dX3_readStatement_173 rfl (lv_at hl 1 rfl) ?_
          refine cr_getI kc_3 CX hR fa_X3_15 rfl hk_x0_4 dX3_readStatement_174 ?_
          refine lv_iconst (v := 1) hx hb dX3_readStatement_177 (by decide) ?_
          refine lv_iadd hx hb dX3_readStatement_178 ?_
          obtain ⟨o179, ho179, hf⟩ := bnd_some hf
          refine cr_callVv kc_3 CX hR hL hS (As := [.int ((cI M x0 2) + 1)]) (rest := []) hk_x0_4 (MC_X3_moveTo l x N K x0 ((cI M x0 2) + 1) M o179 ho179) cv_X3_42 ⟨by omega, by omega⟩ rfl rfl (Nat.le_of_ble_eq_true rfl) hl.1 dX3_readStatement_179 hcs (fun H locs hR hS => ?_)
          refine lv_aload_n hx hb dX3_readStatement_182 rfl (lv_at hl 1 rfl) ?_
          refine lv_iconst (v := 0) hx hb dX3_readStatement_183 (by decide) ?_
          refine lv_iload_n hx hb dX3_readStatement_184 rfl (lv_at hl 2 rfl) ?_
          rcases tb_some hf with ⟨o185, ho, hf⟩ | ⟨q, ho, rfl⟩
          · have hm1 := (mbT_X3_readStatement_188 hGm) _ _ _ hf
            have hb1 := nz_le hm1 hRc
            have hq1 := (hGm _ _ _ _ _ _ _ ho)
            refine ta_callVv kc_3 CX hL hR hS (As := [.int 0, .int x1]) (rest := []) hk_x0_4 (hG.2.2.2.2.2.1 _ _ _ _ _ _ ho) cv_X3_227 ⟨by omega, by omega⟩ rfl (Nat.le_of_ble_eq_true rfl) hl.1 hq1 hb1 rfl dX3_readStatement_185 (fun H locs hR hS => ?_)
            exact (wbT_X3_readStatement_188 CTX hRm hRc hG hB0 hGm) _ _ _ _ _ _ hf (hL.tr hq1) hR hS (lv_sub hl [1] rfl)
          · exact tx_callv kc_3 CTX hL hR hS (As := [.int 0, .int x1]) (rest := []) hk_x0_4 (hG.2.2.2.2.2.1 _ _ _ _ _ _ ho) cv_X3_227 ⟨by omega, by omega⟩ rfl (Nat.le_of_ble_eq_true rfl) hl.1 (hGm _ _ _ _ _ _ _ ho) hRc rfl dX3_readStatement_185
        · rw [if_neg hc3] at hf
          by_cases hc4 : (cI M x0 3) = 145
          · rw [if_pos hc4] at hf
            refine lv_lookup (off := 194) (tgt := 206) hx hb dX3_readStatement_12 (by decide) (by rw [hc4]; decide) (by decide) ?_
            refine lv_aload_n hx hb dX3_readStatement_206 rfl (lv_at hl 1 rfl) ?_
            refine lv_aload_n hx hb dX3_readStatement_207 rfl (lv_at hl 1 rfl) ?_
            refine cr_getI kc_3 CX hR fa_X3_15 rfl hk_x0_4 dX3_readStatement_208 ?_
            refine lv_iconst (v := 1) hx hb dX3_readStatement_211 (by decide) ?_
            refine lv_iadd hx hb dX3_readStatement_212 ?_
            obtain ⟨o213, ho213, hf⟩ := bnd_some hf
            refine cr_callVv kc_3 CX hR hL hS (As := [.int ((cI M x0 2) + 1)]) (rest := []) hk_x0_4 (MC_X3_moveTo l x N K x0 ((cI M x0 2) + 1) M o213 ho213) cv_X3_42 ⟨by omega, by omega⟩ rfl rfl (Nat.le_of_ble_eq_true rfl) hl.1 dX3_readStatement_213 hcs (fun H locs hR hS => ?_)
            refine lv_aload_n hx hb dX3_readStatement_216 rfl (lv_at hl 1 rfl) ?_
            refine lv_bipush (v := 15) hx hb dX3_readStatement_217 (by decide) ?_
            refine lv_aload_n hx hb dX3_readStatement_219 rfl (lv_at hl 1 rfl) ?_
            refine lv_iconst (v := 1) hx hb dX3_readStatement_220 (by decide) ?_
            refine lv_bipush (v := 9) hx hb dX3_readStatement_221 (by decide) ?_
            rcases tb_some hf with ⟨o223, ho, hf⟩ | ⟨q, ho, rfl⟩
            · have hm1 := (mbT_X3_readStatement_226 hGm) _ _ _ _ _ _ hf
              have hb1 := nz_le hm1 hRc
              have hq1 := (mfT_X3_takeNumber _ _ _ _ _ ho)
              refine ta_callIv kc_3 CX hL hR hS (As := [.int 1, .int 9]) (rest := [.int 15, .ref x0]) hk_x0_4 (MT_X3_takeNumber l x hlt N _ _ _ _ _ _ ho) cv_X3_123 ⟨by omega, by omega⟩ rfl (Nat.le_of_ble_eq_true rfl) hl.1 hq1 hb1 rfl dX3_readStatement_223 (fun H locs hR hS => ?_)
              exact (wbT_X3_readStatement_226 CTX hRm hRc hG hB0 hGm) _ _ _ _ _ _ _ _ _ hf (hL.tr hq1) hR hS (lv_sub hl [1] rfl)
            · exact tx_callv kc_3 CTX hL hR hS (As := [.int 1, .int 9]) (rest := [.int 15, .ref x0]) hk_x0_4 (MT_X3_takeNumber l x hlt N _ _ _ _ _ _ ho) cv_X3_123 ⟨by omega, by omega⟩ rfl (Nat.le_of_ble_eq_true rfl) hl.1 (mfT_X3_takeNumber _ _ _ _ _ ho) hRc rfl dX3_readStatement_223
          · rw [if_neg hc4] at hf
            by_cases hc5 : (cI M x0 3) = 146
            · rw [if_pos hc5] at hf
              refine lv_lookup (off := 228) (tgt := 240) hx hb dX3_readStatement_12 (by decide) (by rw [hc5]; decide) (by decide) ?_
              refine lv_aload_n hx hb dX3_readStatement_240 rfl (lv_at hl 1 rfl) ?_
              refine lv_iload_n hx hb dX3_readStatement_241 rfl (lv_at hl 2 rfl) ?_
              rcases tb_some hf with ⟨o242, ho, hf⟩ | ⟨q, ho, rfl⟩
              · have hm1 := (mbT_X3_readStatement_245 hGm) _ _ _ hf
                have hb1 := nz_le hm1 hRc
                have hq1 := (hGm _ _ _ _ _ _ _ ho)
                refine ta_callVv kc_3 CX hL hR hS (As := [.int x1]) (rest := []) hk_x0_4 (hG.2.2.1 _ _ _ _ _ ho) cv_X3_244 ⟨by omega, by omega⟩ rfl (Nat.le_of_ble_eq_true rfl) hl.1 hq1 hb1 rfl dX3_readStatement_242 (fun H locs hR hS => ?_)
                exact (wbT_X3_readStatement_245 CTX hRm hRc hG hB0 hGm) _ _ _ _ _ _ hf (hL.tr hq1) hR hS (lv_sub hl [1] rfl)
              · exact tx_callv kc_3 CTX hL hR hS (As := [.int x1]) (rest := []) hk_x0_4 (hG.2.2.1 _ _ _ _ _ ho) cv_X3_244 ⟨by omega, by omega⟩ rfl (Nat.le_of_ble_eq_true rfl) hl.1 (hGm _ _ _ _ _ _ _ ho) hRc rfl dX3_readStatement_242
            · rw [if_neg hc5] at hf
              by_cases hc6 : (cI M x0 3) = 148
              · rw [if_pos hc6] at hf
                refine lv_lookup (off := 236) (tgt := 248) hx hb dX3_readStatement_12 (by decide) (by rw [hc6]; decide) (by decide) ?_
                refine lv_aload_n hx hb dX3_readStatement_248 rfl (lv_at hl 1 rfl) ?_
                refine lv_iload_n hx hb dX3_readStatement_249 rfl (lv_at hl 2 rfl) ?_
                refine lv_iload_n hx hb dX3_readStatement_250 rfl (lv_at hl 0 rfl) ?_
                rcases tb_some hf with ⟨o251, ho, hf⟩ | ⟨q, ho, rfl⟩
                · have hm1 := (mbT_X3_readStatement_254 hGm) _ _ _ hf
                  have hb1 := nz_le hm1 hRc
                  have hq1 := (hGm _ _ _ _ _ _ _ ho)
                  refine ta_callVv kc_3 CX hL hR hS (As := [.int x1, .int s0]) (rest := []) hk_x0_4 (hG.2.2.2.1 _ _ _ _ _ _ ho) cv_X3_247 ⟨by omega, by omega⟩ rfl (Nat.le_of_ble_eq_true rfl) hl.1 hq1 hb1 rfl dX3_readStatement_251 (fun H locs hR hS => ?_)
                  exact (wbT_X3_readStatement_254 CTX hRm hRc hG hB0 hGm) _ _ _ _ _ _ hf (hL.tr hq1) hR hS (lv_sub hl [1] rfl)
                · exact tx_callv kc_3 CTX hL hR hS (As := [.int x1, .int s0]) (rest := []) hk_x0_4 (hG.2.2.2.1 _ _ _ _ _ _ ho) cv_X3_247 ⟨by omega, by omega⟩ rfl (Nat.le_of_ble_eq_true rfl) hl.1 (hGm _ _ _ _ _ _ _ ho) hRc rfl dX3_readStatement_251
              · rw [if_neg hc6] at hf
                by_cases hc7 : (cI M x0 3) = 149
                · rw [if_pos hc7] at hf
                  refine lv_lookup (off := 245) (tgt := 257) hx hb dX3_readStatement_12 (by decide) (by rw [hc7]; decide) (by decide) ?_
                  refine lv_aload_n hx hb dX3_readStatement_257 rfl (lv_at hl 1 rfl) ?_
                  refine lv_iload_n hx hb dX3_readStatement_258 rfl (lv_at hl 2 rfl) ?_
                  rcases tb_some hf with ⟨o259, ho, hf⟩ | ⟨q, ho, rfl⟩
                  · have hm1 := (mbT_X3_readStatement_262 hGm) _ _ _ hf
                    have hb1 := nz_le hm1 hRc
                    have hq1 := (hGm _ _ _ _ _ _ _ ho)
                    refine ta_callVv kc_3 CX hL hR hS (As := [.int x1]) (rest := []) hk_x0_4 (hG.2.2.2.2.1 _ _ _ _ _ ho) cv_X3_250 ⟨by omega, by omega⟩ rfl (Nat.le_of_ble_eq_true rfl) hl.1 hq1 hb1 rfl dX3_readStatement_259 (fun H locs hR hS => ?_)
                    exact (wbT_X3_readStatement_262 CTX hRm hRc hG hB0 hGm) _ _ _ _ _ _ hf (hL.tr hq1) hR hS (lv_sub hl [1] rfl)
                  · exact tx_callv kc_3 CTX hL hR hS (As := [.int x1]) (rest := []) hk_x0_4 (hG.2.2.2.2.1 _ _ _ _ _ ho) cv_X3_250 ⟨by omega, by omega⟩ rfl (Nat.le_of_ble_eq_true rfl) hl.1 (hGm _ _ _ _ _ _ _ ho) hRc rfl dX3_readStatement_259
                · rw [if_neg hc7] at hf
                  have hn0 := tsw_ne (k := 2) rfl hc0
                  have hn1 := tsw_ne (k := 142) rfl hc1
                  have hn2 := tsw_ne (k := 143) rfl hc2
                  have hn3 := tsw_ne (k := 144) rfl hc3
                  have hn4 := tsw_ne (k := 145) rfl hc4
                  have hn5 := tsw_ne (k := 146) rfl hc5
                  have hn6 := tsw_ne (k := 148) rfl hc6
                  have hn7 := tsw_ne (k := 149) rfl hc7
                  refine lv_lookup (off := 253) (tgt := 265) hx hb dX3_readStatement_12 (by decide) (by simp only [Op.lookupswitch.offset, List.toList_toArray, Ne.symm hn0, Ne.symm hn1, Ne.symm hn2, Ne.symm hn3, Ne.symm hn4, Ne.symm hn5, Ne.symm hn6, Ne.symm hn7, if_false]) (by decide) ?_
                  refine lv_aload_n hx hb dX3_readStatement_265 rfl (lv_at hl 1 rfl) ?_
                  refine lv_iconst (v := 1) hx hb dX3_readStatement_266 (by decide) ?_
                  rcases tb_some hf with ⟨o267, ho, hf⟩ | ⟨q, ho, rfl⟩
                  · have hm1 := (mbT_X3_readStatement_270 hGm) _ _ _ hf
                    have hb1 := nz_le hm1 hRc
                    have hq1 := (mfT_X3_refuse _ _ _ _ ho)
                    refine ta_callVv kc_3 CX hL hR hS (As := [.int 1]) (rest := []) hk_x0_4 (MT_X3_refuse l x hlt N _ _ _ _ _ ho) cv_X3_54 ⟨by omega, by omega⟩ rfl (Nat.le_of_ble_eq_true rfl) hl.1 hq1 hb1 rfl dX3_readStatement_267 (fun H locs hR hS => ?_)
                    exact (wbT_X3_readStatement_270 CTX hRm hRc hG hB0 hGm) _ _ _ _ _ _ hf (hL.tr hq1) hR hS (lv_sub hl [1] rfl)
                  · exact tx_callv kc_3 CTX hL hR hS (As := [.int 1]) (rest := []) hk_x0_4 (MT_X3_refuse l x hlt N _ _ _ _ _ ho) cv_X3_54 ⟨by omega, by omega⟩ rfl (Nat.le_of_ble_eq_true rfl) hl.1 (mfT_X3_refuse _ _ _ _ ho) hRc rfl dX3_readStatement_267
def fT_X3_readStatement (N : Nat) (G : Nat → Nat → Int32 → Int32 → Ka → Cm → Option ((Ka × Cm) ⊕ (Ka × Cm))) (x0 : Nat) (x1 : Int32) (K : Ka) (M : Cm) : Option ((Ka × Cm) ⊕ (Ka × Cm)) := gd (kd K x0 == 4) (ta (fT_X3_emit N x0 1 0 0 K M) fun o4 => (bT_X3_readStatement_7 N G) x0 x1 o4.1 o4.2.1 o4.2.2)
theorem mfT_X3_readStatement {o : (Ka × Cm) ⊕ (Ka × Cm)} {N : Nat} {G : Nat → Nat → Int32 → Int32 → Ka → Cm → Option ((Ka × Cm) ⊕ (Ka × Cm))} (hGm : GMono G) (x0 : Nat) (x1 : Int32) (K : Ka) (M : Cm) (hf : fT_X3_readStatement N G x0 x1 K M = some o) : KLe K (oK sV o) := by
  unfold fT_X3_readStatement at hf
  obtain ⟨-, hf⟩ := gd_some hf
  obtain ⟨o4, ho, hf⟩ := ta_some hf
  exact KLe.tr (mfT_X3_emit _ _ _ _ _ _ ho) ((mbT_X3_readStatement_7 hGm) _ _ _ _ _ hf)
set_option maxRecDepth 100000 in
set_option maxHeartbeats 4000000 in
theorem wfT_X3_readStatement {p : Program} {l : Launch} {e : Env} {R : Room} {s : State} {m : MethodId} {args : Array Value} {below : List Frame} {meth : Method} {c : Code} {x : Xc} {K0 : Ka} {o : (Ka × Cm) ⊕ (Ka × Cm)} {fr lo : Nat} {N : Nat} {G : Nat → Nat → Int32 → Int32 → Ka → Cm → Option ((Ka × Cm) ⊕ (Ka × Cm))} (CTX : CT p l s m args meth c x K0 RX3 "readStatement" cX3_readStatement 6 none) (hRm : (fr + 1) ≤ R.frames ∧ (lo + 60) ≤ R.locals) (hRc : nz sV K0 o ≤ R.cells ∧ nu sV K0 o ≤ R.slots) (hG : GMet l x G fr lo) (hB0 : 10 ≤ fr ∧ 183 ≤ lo) (hGm : GMono G) (x0 : Nat) (x1 : Int32) (K : Ka) (M : Cm) (H : Heap) (locs : List Loc) (ls : Array Slot) (hf : fT_X3_readStatement N G x0 x1 K M = some o) (hL : KLe K0 K) (hR : RC x K M H) (hS : va_S (AC K0) s.heap H locs) (hl : lv_has ls 6 [(0, .ref x0), (1, .int x1)]) : W p l e R s m args below meth c H locs (kz K - kz K0) (ku K - ku K0) (TQ sV (aQV x K0) (zQV K0) "java/lang/IllegalStateException" x K0 below args s o) (F0 m 0 ls []) := by
  obtain ⟨CX, hno, hlt, hmn⟩ := id CTX
  obtain ⟨hx, hb, hml, hown, hts, hE, hB, hr, hlk⟩ := id CX
  have hcs := nz_le (mfT_X3_readStatement hGm x0 x1 K M hf) hRc
  unfold fT_X3_readStatement at hf
  refine lv_aload_n hx hb dX3_readStatement_0 rfl (lv_at hl 0 rfl) ?_
  refine lv_iconst (v := 1) hx hb dX3_readStatement_1 (by decide) ?_
  refine lv_iconst (v := 0) hx hb dX3_readStatement_2 (by decide) ?_
  refine lv_iconst (v := 0) hx hb dX3_readStatement_3 (by decide) ?_
  obtain ⟨hk_x0_4, hf⟩ := gd_some hf
  obtain ⟨o4, ho, hf⟩ := ta_some hf
  have hm1 := (mbT_X3_readStatement_7 hGm) _ _ _ _ _ hf
  have hb1 := nz_le hm1 hRc
  have hq1 := (mfT_X3_emit _ _ _ _ _ _ ho)
  refine ta_callIv kc_3 CX hL hR hS (As := [.int 1, .int 0, .int 0]) (rest := []) hk_x0_4 (MT_X3_emit l x hlt N _ _ _ _ _ _ _ ho) cv_X3_144 ⟨by omega, by omega⟩ rfl (Nat.le_of_ble_eq_true rfl) hl.1 hq1 hb1 rfl dX3_readStatement_4 (fun H locs hR hS => ?_)
  exact (wbT_X3_readStatement_7 CTX hRm hRc hG hB0 hGm) _ _ _ _ _ _ _ _ hf (hL.tr hq1) hR hS (lv_sub hl [0, 1] rfl)
def bT_X3_readIf_91 (N : Nat) (G : Nat → Nat → Int32 → Int32 → Ka → Cm → Option ((Ka × Cm) ⊕ (Ka × Cm))) (x0 : Nat) (K : Ka) (M : Cm) : Option ((Ka × Cm) ⊕ (Ka × Cm)) := some (.inl (K, M))
theorem mbT_X3_readIf_91 {o : (Ka × Cm) ⊕ (Ka × Cm)} {N : Nat} {G : Nat → Nat → Int32 → Int32 → Ka → Cm → Option ((Ka × Cm) ⊕ (Ka × Cm))} (hGm : GMono G) (x0 : Nat) (K : Ka) (M : Cm) (hf : bT_X3_readIf_91 N G x0 K M = some o) : KLe K (oK sV o) := by
  unfold bT_X3_readIf_91 at hf
  cases hf
  exact KLe.rf _
set_option maxRecDepth 100000 in
set_option maxHeartbeats 4000000 in
theorem wbT_X3_readIf_91 {p : Program} {l : Launch} {e : Env} {R : Room} {s : State} {m : MethodId} {args : Array Value} {below : List Frame} {meth : Method} {c : Code} {x : Xc} {K0 : Ka} {o : (Ka × Cm) ⊕ (Ka × Cm)} {fr lo : Nat} {N : Nat} {G : Nat → Nat → Int32 → Int32 → Ka → Cm → Option ((Ka × Cm) ⊕ (Ka × Cm))} (CTX : CT p l s m args meth c x K0 RX3 "readIf" cX3_readIf 4 none) (hRm : (fr + 1) ≤ R.frames ∧ (lo + 60) ≤ R.locals) (hRc : nz sV K0 o ≤ R.cells ∧ nu sV K0 o ≤ R.slots) (hG : GMet l x G fr lo) (hB0 : 10 ≤ fr ∧ 183 ≤ lo) (hGm : GMono G) (x0 : Nat) (K : Ka) (M : Cm) (H : Heap) (locs : List Loc) (ls : Array Slot) (hf : bT_X3_readIf_91 N G x0 K M = some o) (hL : KLe K0 K) (hR : RC x K M H) (hS : va_S (AC K0) s.heap H locs) (hl : lv_has ls 4 [(0, .ref x0)]) : W p l e R s m args below meth c H locs (kz K - kz K0) (ku K - ku K0) (TQ sV (aQV x K0) (zQV K0) "java/lang/IllegalStateException" x K0 below args s o) (F0 m 91 ls []) := by
  obtain ⟨CX, hno, hlt, hmn⟩ := id CTX
  obtain ⟨hx, hb, hml, hown, hts, hE, hB, hr, hlk⟩ := id CX
  have hcs := nz_le (mbT_X3_readIf_91 hGm x0 K M hf) hRc
  unfold bT_X3_readIf_91 at hf
  exact tr_vret CX hR hS hf dX3_readIf_91
def bT_X3_readIf_72 (N : Nat) (G : Nat → Nat → Int32 → Int32 → Ka → Cm → Option ((Ka × Cm) ⊕ (Ka × Cm))) (x0 : Nat) (x3 : Int32) (K : Ka) (M : Cm) : Option ((Ka × Cm) ⊕ (Ka × Cm)) := gd (kd K x0 == 4) (nn (cR M x0 1) fun a1 => gd (kd K a1 == 6) ((fC_X5_aimHere N K a1 x3 M).bind fun o77 => (bT_X3_readIf_91 N G) x0 K o77))
theorem mbT_X3_readIf_72 {o : (Ka × Cm) ⊕ (Ka × Cm)} {N : Nat} {G : Nat → Nat → Int32 → Int32 → Ka → Cm → Option ((Ka × Cm) ⊕ (Ka × Cm))} (hGm : GMono G) (x0 : Nat) (x3 : Int32) (K : Ka) (M : Cm) (hf : bT_X3_readIf_72 N G x0 x3 K M = some o) : KLe K (oK sV o) := by
  unfold bT_X3_readIf_72 at hf
  obtain ⟨-, hf⟩ := gd_some hf
  obtain ⟨a1, -, hf⟩ := nn_some hf
  obtain ⟨-, hf⟩ := gd_some hf
  obtain ⟨o77, -, hf⟩ := bnd_some hf
  exact (mbT_X3_readIf_91 hGm) _ _ _ hf
set_option maxRecDepth 100000 in
set_option maxHeartbeats 4000000 in
theorem wbT_X3_readIf_72 {p : Program} {l : Launch} {e : Env} {R : Room} {s : State} {m : MethodId} {args : Array Value} {below : List Frame} {meth : Method} {c : Code} {x : Xc} {K0 : Ka} {o : (Ka × Cm) ⊕ (Ka × Cm)} {fr lo : Nat} {N : Nat} {G : Nat → Nat → Int32 → Int32 → Ka → Cm → Option ((Ka × Cm) ⊕ (Ka × Cm))} (CTX : CT p l s m args meth c x K0 RX3 "readIf" cX3_readIf 4 none) (hRm : (fr + 1) ≤ R.frames ∧ (lo + 60) ≤ R.locals) (hRc : nz sV K0 o ≤ R.cells ∧ nu sV K0 o ≤ R.slots) (hG : GMet l x G fr lo) (hB0 : 10 ≤ fr ∧ 183 ≤ lo) (hGm : GMono G) (x0 : Nat) (x3 : Int32) (K : Ka) (M : Cm) (H : Heap) (locs : List Loc) (ls : Array Slot) (hf : bT_X3_readIf_72 N G x0 x3 K M = some o) (hL : KLe K0 K) (hR : RC x K M H) (hS : va_S (AC K0) s.heap H locs) (hl : lv_has ls 4 [(0, .ref x0), (3, .int x3)]) : W p l e R s m args below meth c H locs (kz K - kz K0) (ku K - ku K0) (TQ sV (aQV x K0) (zQV K0) "java/lang/IllegalStateException" x K0 below args s o) (F0 m 72 ls []) := by
  obtain ⟨CX, hno, hlt, hmn⟩ := id CTX
  obtain ⟨hx, hb, hml, hown, hts, hE, hB, hr, hlk⟩ := id CX
  have hcs := nz_le (mbT_X3_readIf_72 hGm x0 x3 K M hf) hRc
  unfold bT_X3_readIf_72 at hf
  refine lv_aload_n hx hb dX3_readIf_72 rfl (lv_at hl 0 rfl) ?_
  obtain ⟨hk_x0_4, hf⟩ := gd_some hf
  refine cr_getR kc_3 CX hR fa_X3_9 rfl hk_x0_4 dX3_readIf_73 ?_
  refine lv_iload_n hx hb dX3_readIf_76 rfl (lv_at hl 1 rfl) ?_
  obtain ⟨a1, ha1, hf⟩ := nn_some hf
  refine rf_1 ha1 ?_
  obtain ⟨hk_a1_6, hf⟩ := gd_some hf
  obtain ⟨o77, ho77, hf⟩ := bnd_some hf
  refine cr_callVv kc_5 CX hR hL hS (As := [.int x3]) (rest := []) hk_a1_6 (MC_X5_aimHere l x N K a1 x3 M o77 ho77) cv_X3_253 ⟨by omega, by omega⟩ rfl rfl (Nat.le_of_ble_eq_true rfl) hl.1 dX3_readIf_77 hcs (fun H locs hR hS => ?_)
  refine lv_goto (tgt := 91) hx hb dX3_readIf_80 (by decide) ?_
  exact (wbT_X3_readIf_91 CTX hRm hRc hG hB0 hGm) _ _ _ _ _ _ hf hL hR hS (lv_sub hl [0] rfl)
def bT_X3_readIf_58 (N : Nat) (G : Nat → Nat → Int32 → Int32 → Ka → Cm → Option ((Ka × Cm) ⊕ (Ka × Cm))) (x0 : Nat) (x1 : Int32) (x2 : Int32) (s0 : Int32) (K : Ka) (M : Cm) : Option ((Ka × Cm) ⊕ (Ka × Cm)) := gd (kd K x0 == 4) (nn (cR M x0 1) fun a1 => gd (kd K a1 == 6) ((fC_X5_aimHere N K a1 x2 M).bind fun o64 => tb (G 0 x0 x1 0 K o64) fun o69 => (bT_X3_readIf_72 N G) x0 s0 o69.1 o69.2))
theorem mbT_X3_readIf_58 {o : (Ka × Cm) ⊕ (Ka × Cm)} {N : Nat} {G : Nat → Nat → Int32 → Int32 → Ka → Cm → Option ((Ka × Cm) ⊕ (Ka × Cm))} (hGm : GMono G) (x0 : Nat) (x1 : Int32) (x2 : Int32) (s0 : Int32) (K : Ka) (M : Cm) (hf : bT_X3_readIf_58 N G x0 x1 x2 s0 K M = some o) : KLe K (oK sV o) := by
  unfold bT_X3_readIf_58 at hf
  obtain ⟨-, hf⟩ := gd_some hf
  obtain ⟨a1, -, hf⟩ := nn_some hf
  obtain ⟨-, hf⟩ := gd_some hf
  obtain ⟨o64, -, hf⟩ := bnd_some hf
  rcases tb_some hf with ⟨o69, ho, hf⟩ | ⟨q, ho, rfl⟩
  · exact KLe.tr (hGm _ _ _ _ _ _ _ ho) ((mbT_X3_readIf_72 hGm) _ _ _ _ hf)
  · exact (hGm _ _ _ _ _ _ _ ho)
set_option maxRecDepth 100000 in
set_option maxHeartbeats 4000000 in
theorem wbT_X3_readIf_58 {p : Program} {l : Launch} {e : Env} {R : Room} {s : State} {m : MethodId} {args : Array Value} {below : List Frame} {meth : Method} {c : Code} {x : Xc} {K0 : Ka} {o : (Ka × Cm) ⊕ (Ka × Cm)} {fr lo : Nat} {N : Nat} {G : Nat → Nat → Int32 → Int32 → Ka → Cm → Option ((Ka × Cm) ⊕ (Ka × Cm))} (CTX : CT p l s m args meth c x K0 RX3 "readIf" cX3_readIf 4 none) (hRm : (fr + 1) ≤ R.frames ∧ (lo + 60) ≤ R.locals) (hRc : nz sV K0 o ≤ R.cells ∧ nu sV K0 o ≤ R.slots) (hG : GMet l x G fr lo) (hB0 : 10 ≤ fr ∧ 183 ≤ lo) (hGm : GMono G) (x0 : Nat) (x1 : Int32) (x2 : Int32) (s0 : Int32) (K : Ka) (M : Cm) (H : Heap) (locs : List Loc) (ls : Array Slot) (hf : bT_X3_readIf_58 N G x0 x1 x2 s0 K M = some o) (hL : KLe K0 K) (hR : RC x K M H) (hS : va_S (AC K0) s.heap H locs) (hl : lv_has ls 4 [(0, .ref x0), (1, .int x1), (2, .int x2)]) : W p l e R s m args below meth c H locs (kz K - kz K0) (ku K - ku K0) (TQ sV (aQV x K0) (zQV K0) "java/lang/IllegalStateException" x K0 below args s o) (F0 m 58 ls [.int s0]) := by
  obtain ⟨CX, hno, hlt, hmn⟩ := id CTX
  obtain ⟨hx, hb, hml, hown, hts, hE, hB, hr, hlk⟩ := id CX
  have hcs := nz_le (mbT_X3_readIf_58 hGm x0 x1 x2 s0 K M hf) hRc
  unfold bT_X3_readIf_58 at hf
  refine lv_istore_n (lv' := [(3, .int s0), (0, .ref x0), (1, .int x1), (2, .int x2)]) hx hb dX3_readIf_58 rfl hl (by decide) rfl (fun ls hl => ?_)
  refine lv_aload_n hx hb dX3_readIf_59 rfl (lv_at hl 1 rfl) ?_
  obtain ⟨hk_x0_4, hf⟩ := gd_some hf
  refine cr_getR kc_3 CX hR fa_X3_9 rfl hk_x0_4 dX3_readIf_60 ?_
  refine lv_iload_n hx hb dX3_readIf_63 rfl (lv_at hl 3 rfl) ?_
  obtain ⟨a1, ha1, hf⟩ := nn_some hf
  refine rf_1 ha1 ?_
  obtain ⟨hk_a1_6, hf⟩ := gd_some hf
  obtain ⟨o64, ho64, hf⟩ := bnd_some hf
  refine cr_callVv kc_5 CX hR hL hS (As := [.int x2]) (rest := []) hk_a1_6 (MC_X5_aimHere l x N K a1 x2 M o64 ho64) cv_X3_253 ⟨by omega, by omega⟩ rfl rfl (Nat.le_of_ble_eq_true rfl) hl.1 dX3_readIf_64 hcs (fun H locs hR hS => ?_)
  refine lv_aload_n hx hb dX3_readIf_67 rfl (lv_at hl 1 rfl) ?_
  refine lv_iload_n hx hb dX3_readIf_68 rfl (lv_at hl 2 rfl) ?_
  rcases tb_some hf with ⟨o69, ho, hf⟩ | ⟨q, ho, rfl⟩
  · have hm1 := (mbT_X3_readIf_72 hGm) _ _ _ _ hf
    have hb1 := nz_le hm1 hRc
    have hq1 := (hGm _ _ _ _ _ _ _ ho)
    refine ta_callVv kc_3 CX hL hR hS (As := [.int x1]) (rest := []) hk_x0_4 (hG.1 _ _ _ _ _ ho) cv_X3_141 ⟨by omega, by omega⟩ rfl (Nat.le_of_ble_eq_true rfl) hl.1 hq1 hb1 rfl dX3_readIf_69 (fun H locs hR hS => ?_)
    exact (wbT_X3_readIf_72 CTX hRm hRc hG hB0 hGm) _ _ _ _ _ _ _ hf (hL.tr hq1) hR hS (lv_sub hl [1, 0] rfl)
  · exact tx_callv kc_3 CTX hL hR hS (As := [.int x1]) (rest := []) hk_x0_4 (hG.1 _ _ _ _ _ ho) cv_X3_141 ⟨by omega, by omega⟩ rfl (Nat.le_of_ble_eq_true rfl) hl.1 (hGm _ _ _ _ _ _ _ ho) hRc rfl dX3_readIf_69
def bT_X3_readIf_30 (N : Nat) (G : Nat → Nat → Int32 → Int32 → Ka → Cm → Option ((Ka × Cm) ⊕ (Ka × Cm))) (x0 : Nat) (x1 : Int32) (x2 : Int32) (K : Ka) (M : Cm) : Option ((Ka × Cm) ⊕ (Ka × Cm)) := gd (kd K x0 == 4) (if (cI M x0 3) = 147 then ((fC_X3_moveTo N K x0 ((cI M x0 2) + 1) M).bind fun o47 => ta (fT_X3_emit N x0 16 0 0 K o47) fun o55 => (bT_X3_readIf_58 N G) x0 x1 x2 o55.1 o55.2.1 o55.2.2) else (nn (cR M x0 1) fun a1 => gd (kd K a1 == 6) ((fC_X5_aimHere N K a1 x2 M).bind fun o88 => (bT_X3_readIf_91 N G) x0 K o88)))
theorem mbT_X3_readIf_30 {o : (Ka × Cm) ⊕ (Ka × Cm)} {N : Nat} {G : Nat → Nat → Int32 → Int32 → Ka → Cm → Option ((Ka × Cm) ⊕ (Ka × Cm))} (hGm : GMono G) (x0 : Nat) (x1 : Int32) (x2 : Int32) (K : Ka) (M : Cm) (hf : bT_X3_readIf_30 N G x0 x1 x2 K M = some o) : KLe K (oK sV o) := by
  unfold bT_X3_readIf_30 at hf
  obtain ⟨-, hf⟩ := gd_some hf
  by_cases hc : (cI M x0 3) = 147
  · rw [if_pos hc] at hf
    obtain ⟨o47, -, hf⟩ := bnd_some hf
    obtain ⟨o55, ho, hf⟩ := ta_some hf
    exact KLe.tr (mfT_X3_emit _ _ _ _ _ _ ho) ((mbT_X3_readIf_58 hGm) _ _ _ _ _ _ hf)
  · rw [if_neg hc] at hf
    obtain ⟨a1, -, hf⟩ := nn_some hf
    obtain ⟨-, hf⟩ := gd_some hf
    obtain ⟨o88, -, hf⟩ := bnd_some hf
    exact (mbT_X3_readIf_91 hGm) _ _ _ hf
set_option maxRecDepth 100000 in
set_option maxHeartbeats 4000000 in
theorem wbT_X3_readIf_30 {p : Program} {l : Launch} {e : Env} {R : Room} {s : State} {m : MethodId} {args : Array Value} {below : List Frame} {meth : Method} {c : Code} {x : Xc} {K0 : Ka} {o : (Ka × Cm) ⊕ (Ka × Cm)} {fr lo : Nat} {N : Nat} {G : Nat → Nat → Int32 → Int32 → Ka → Cm → Option ((Ka × Cm) ⊕ (Ka × Cm))} (CTX : CT p l s m args meth c x K0 RX3 "readIf" cX3_readIf 4 none) (hRm : (fr + 1) ≤ R.frames ∧ (lo + 60) ≤ R.locals) (hRc : nz sV K0 o ≤ R.cells ∧ nu sV K0 o ≤ R.slots) (hG : GMet l x G fr lo) (hB0 : 10 ≤ fr ∧ 183 ≤ lo) (hGm : GMono G) (x0 : Nat) (x1 : Int32) (x2 : Int32) (K : Ka) (M : Cm) (H : Heap) (locs : List Loc) (ls : Array Slot) (hf : bT_X3_readIf_30 N G x0 x1 x2 K M = some o) (hL : KLe K0 K) (hR : RC x K M H) (hS : va_S (AC K0) s.heap H locs) (hl : lv_has ls 4 [(0, .ref x0), (1, .int x1), (2, .int x2)]) : W p l e R s m args below meth c H locs (kz K - kz K0) (ku K - ku K0) (TQ sV (aQV x K0) (zQV K0) "java/lang/IllegalStateException" x K0 below args s o) (F0 m 30 ls []) := by
  obtain ⟨CX, hno, hlt, hmn⟩ := id CTX
  obtain ⟨hx, hb, hml, hown, hts, hE, hB, hr, hlk⟩ := id CX
  have hcs := nz_le (mbT_X3_readIf_30 hGm x0 x1 x2 K M hf) hRc
  unfold bT_X3_readIf_30 at hf
  refine lv_aload_n hx hb dX3_readIf_30 rfl (lv_at hl 0 rfl) ?_
  obtain ⟨hk_x0_4, hf⟩ := gd_some hf
  refine cr_getI kc_3 CX hR fa_X3_19 rfl hk_x0_4 dX3_readIf_31 ?_
  refine lv_sipush (v := 147) hx hb dX3_readIf_34 (by decide) ?_
  refine lv_icmp_ne (tgt := 83) hx hb dX3_readIf_37 (by decide) (fun hc => ?_) (fun hc => ?_)
  · rw [if_neg hc] at hf
    refine lv_aload_n hx hb dX3_readIf_83 rfl (lv_at hl 0 rfl) ?_
    refine cr_getR kc_3 CX hR fa_X3_9 rfl hk_x0_4 dX3_readIf_84 ?_
    refine lv_iload_n hx hb dX3_readIf_87 rfl (lv_at hl 2 rfl) ?_
    obtain ⟨a1, ha1, hf⟩ := nn_some hf
    refine rf_1 ha1 ?_
    obtain ⟨hk_a1_6, hf⟩ := gd_some hf
    obtain ⟨o88, ho88, hf⟩ := bnd_some hf
    refine cr_callVv kc_5 CX hR hL hS (As := [.int x2]) (rest := []) hk_a1_6 (MC_X5_aimHere l x N K a1 x2 M o88 ho88) cv_X3_253 ⟨by omega, by omega⟩ rfl rfl (Nat.le_of_ble_eq_true rfl) hl.1 dX3_readIf_88 hcs (fun H locs hR hS => ?_)
    exact (wbT_X3_readIf_91 CTX hRm hRc hG hB0 hGm) _ _ _ _ _ _ hf hL hR hS (lv_sub hl [0] rfl)
  · rw [if_pos hc] at hf
    refine lv_aload_n hx hb dX3_readIf_40 rfl (lv_at hl 0 rfl) ?_
    refine lv_aload_n hx hb dX3_readIf_41 rfl (lv_at hl 0 rfl) ?_
    refine cr_getI kc_3 CX hR fa_X3_15 rfl hk_x0_4 dX3_readIf_42 ?_
    refine lv_iconst (v := 1) hx hb dX3_readIf_45 (by decide) ?_
    refine lv_iadd hx hb dX3_readIf_46 ?_
    obtain ⟨o47, ho47, hf⟩ := bnd_some hf
    refine cr_callVv kc_3 CX hR hL hS (As := [.int ((cI M x0 2) + 1)]) (rest := []) hk_x0_4 (MC_X3_moveTo l x N K x0 ((cI M x0 2) + 1) M o47 ho47) cv_X3_42 ⟨by omega, by omega⟩ rfl rfl (Nat.le_of_ble_eq_true rfl) hl.1 dX3_readIf_47 hcs (fun H locs hR hS => ?_)
    refine lv_aload_n hx hb dX3_readIf_50 rfl (lv_at hl 0 rfl) ?_
    refine lv_bipush (v := 16) hx hb dX3_readIf_51 (by decide) ?_
    refine lv_iconst (v := 0) hx hb dX3_readIf_53 (by decide) ?_
    refine lv_iconst (v := 0) hx hb dX3_readIf_54 (by decide) ?_
    obtain ⟨o55, ho, hf⟩ := ta_some hf
    have hm1 := (mbT_X3_readIf_58 hGm) _ _ _ _ _ _ hf
    have hb1 := nz_le hm1 hRc
    have hq1 := (mfT_X3_emit _ _ _ _ _ _ ho)
    refine ta_callIv kc_3 CX hL hR hS (As := [.int 16, .int 0, .int 0]) (rest := []) hk_x0_4 (MT_X3_emit l x hlt N _ _ _ _ _ _ _ ho) cv_X3_144 ⟨by omega, by omega⟩ rfl (Nat.le_of_ble_eq_true rfl) hl.1 hq1 hb1 rfl dX3_readIf_55 (fun H locs hR hS => ?_)
    exact (wbT_X3_readIf_58 CTX hRm hRc hG hB0 hGm) _ _ _ _ _ _ _ _ _ hf (hL.tr hq1) hR hS (lv_sub hl [0, 1, 2] rfl)
def bT_X3_readIf_24 (N : Nat) (G : Nat → Nat → Int32 → Int32 → Ka → Cm → Option ((Ka × Cm) ⊕ (Ka × Cm))) (x0 : Nat) (x1 : Int32) (s0 : Int32) (K : Ka) (M : Cm) : Option ((Ka × Cm) ⊕ (Ka × Cm)) := gd (kd K x0 == 4) (tb (G 0 x0 x1 0 K M) fun o27 => (bT_X3_readIf_30 N G) x0 x1 s0 o27.1 o27.2)
theorem mbT_X3_readIf_24 {o : (Ka × Cm) ⊕ (Ka × Cm)} {N : Nat} {G : Nat → Nat → Int32 → Int32 → Ka → Cm → Option ((Ka × Cm) ⊕ (Ka × Cm))} (hGm : GMono G) (x0 : Nat) (x1 : Int32) (s0 : Int32) (K : Ka) (M : Cm) (hf : bT_X3_readIf_24 N G x0 x1 s0 K M = some o) : KLe K (oK sV o) := by
  unfold bT_X3_readIf_24 at hf
  obtain ⟨-, hf⟩ := gd_some hf
  rcases tb_some hf with ⟨o27, ho, hf⟩ | ⟨q, ho, rfl⟩
  · exact KLe.tr (hGm _ _ _ _ _ _ _ ho) ((mbT_X3_readIf_30 hGm) _ _ _ _ _ hf)
  · exact (hGm _ _ _ _ _ _ _ ho)
set_option maxRecDepth 100000 in
set_option maxHeartbeats 4000000 in
theorem wbT_X3_readIf_24 {p : Program} {l : Launch} {e : Env} {R : Room} {s : State} {m : MethodId} {args : Array Value} {below : List Frame} {meth : Method} {c : Code} {x : Xc} {K0 : Ka} {o : (Ka × Cm) ⊕ (Ka × Cm)} {fr lo : Nat} {N : Nat} {G : Nat → Nat → Int32 → Int32 → Ka → Cm → Option ((Ka × Cm) ⊕ (Ka × Cm))} (CTX : CT p l s m args meth c x K0 RX3 "readIf" cX3_readIf 4 none) (hRm : (fr + 1) ≤ R.frames ∧ (lo + 60) ≤ R.locals) (hRc : nz sV K0 o ≤ R.cells ∧ nu sV K0 o ≤ R.slots) (hG : GMet l x G fr lo) (hB0 : 10 ≤ fr ∧ 183 ≤ lo) (hGm : GMono G) (x0 : Nat) (x1 : Int32) (s0 : Int32) (K : Ka) (M : Cm) (H : Heap) (locs : List Loc) (ls : Array Slot) (hf : bT_X3_readIf_24 N G x0 x1 s0 K M = some o) (hL : KLe K0 K) (hR : RC x K M H) (hS : va_S (AC K0) s.heap H locs) (hl : lv_has ls 4 [(0, .ref x0), (1, .int x1)]) : W p l e R s m args below meth c H locs (kz K - kz K0) (ku K - ku K0) (TQ sV (aQV x K0) (zQV K0) "java/lang/IllegalStateException" x K0 below args s o) (F0 m 24 ls [.int s0]) := by
  obtain ⟨CX, hno, hlt, hmn⟩ := id CTX
  obtain ⟨hx, hb, hml, hown, hts, hE, hB, hr, hlk⟩ := id CX
  have hcs := nz_le (mbT_X3_readIf_24 hGm x0 x1 s0 K M hf) hRc
  unfold bT_X3_readIf_24 at hf
  refine lv_istore_n (lv' := [(2, .int s0), (0, .ref x0), (1, .int x1)]) hx hb dX3_readIf_24 rfl hl (by decide) rfl (fun ls hl => ?_)
  refine lv_aload_n hx hb dX3_readIf_25 rfl (lv_at hl 1 rfl) ?_
  refine lv_iload_n hx hb dX3_readIf_26 rfl (lv_at hl 2 rfl) ?_
  obtain ⟨hk_x0_4, hf⟩ := gd_some hf
  rcases tb_some hf with ⟨o27, ho, hf⟩ | ⟨q, ho, rfl⟩
  · have hm1 := (mbT_X3_readIf_30 hGm) _ _ _ _ _ hf
    have hb1 := nz_le hm1 hRc
    have hq1 := (hGm _ _ _ _ _ _ _ ho)
    refine ta_callVv kc_3 CX hL hR hS (As := [.int x1]) (rest := []) hk_x0_4 (hG.1 _ _ _ _ _ ho) cv_X3_141 ⟨by omega, by omega⟩ rfl (Nat.le_of_ble_eq_true rfl) hl.1 hq1 hb1 rfl dX3_readIf_27 (fun H locs hR hS => ?_)
    exact (wbT_X3_readIf_30 CTX hRm hRc hG hB0 hGm) _ _ _ _ _ _ _ _ hf (hL.tr hq1) hR hS (lv_sub hl [1, 2, 0] rfl)
  · exact tx_callv kc_3 CTX hL hR hS (As := [.int x1]) (rest := []) hk_x0_4 (hG.1 _ _ _ _ _ ho) cv_X3_141 ⟨by omega, by omega⟩ rfl (Nat.le_of_ble_eq_true rfl) hl.1 (hGm _ _ _ _ _ _ _ ho) hRc rfl dX3_readIf_27
def bT_X3_readIf_16 (N : Nat) (G : Nat → Nat → Int32 → Int32 → Ka → Cm → Option ((Ka × Cm) ⊕ (Ka × Cm))) (x0 : Nat) (x1 : Int32) (K : Ka) (M : Cm) : Option ((Ka × Cm) ⊕ (Ka × Cm)) := gd (kd K x0 == 4) (ta (fT_X3_emit N x0 17 0 0 K M) fun o21 => (bT_X3_readIf_24 N G) x0 x1 o21.1 o21.2.1 o21.2.2)
theorem mbT_X3_readIf_16 {o : (Ka × Cm) ⊕ (Ka × Cm)} {N : Nat} {G : Nat → Nat → Int32 → Int32 → Ka → Cm → Option ((Ka × Cm) ⊕ (Ka × Cm))} (hGm : GMono G) (x0 : Nat) (x1 : Int32) (K : Ka) (M : Cm) (hf : bT_X3_readIf_16 N G x0 x1 K M = some o) : KLe K (oK sV o) := by
  unfold bT_X3_readIf_16 at hf
  obtain ⟨-, hf⟩ := gd_some hf
  obtain ⟨o21, ho, hf⟩ := ta_some hf
  exact KLe.tr (mfT_X3_emit _ _ _ _ _ _ ho) ((mbT_X3_readIf_24 hGm) _ _ _ _ _ hf)
set_option maxRecDepth 100000 in
set_option maxHeartbeats 4000000 in
theorem wbT_X3_readIf_16 {p : Program} {l : Launch} {e : Env} {R : Room} {s : State} {m : MethodId} {args : Array Value} {below : List Frame} {meth : Method} {c : Code} {x : Xc} {K0 : Ka} {o : (Ka × Cm) ⊕ (Ka × Cm)} {fr lo : Nat} {N : Nat} {G : Nat → Nat → Int32 → Int32 → Ka → Cm → Option ((Ka × Cm) ⊕ (Ka × Cm))} (CTX : CT p l s m args meth c x K0 RX3 "readIf" cX3_readIf 4 none) (hRm : (fr + 1) ≤ R.frames ∧ (lo + 60) ≤ R.locals) (hRc : nz sV K0 o ≤ R.cells ∧ nu sV K0 o ≤ R.slots) (hG : GMet l x G fr lo) (hB0 : 10 ≤ fr ∧ 183 ≤ lo) (hGm : GMono G) (x0 : Nat) (x1 : Int32) (K : Ka) (M : Cm) (H : Heap) (locs : List Loc) (ls : Array Slot) (hf : bT_X3_readIf_16 N G x0 x1 K M = some o) (hL : KLe K0 K) (hR : RC x K M H) (hS : va_S (AC K0) s.heap H locs) (hl : lv_has ls 4 [(0, .ref x0), (1, .int x1)]) : W p l e R s m args below meth c H locs (kz K - kz K0) (ku K - ku K0) (TQ sV (aQV x K0) (zQV K0) "java/lang/IllegalStateException" x K0 below args s o) (F0 m 16 ls []) := by
  obtain ⟨CX, hno, hlt, hmn⟩ := id CTX
  obtain ⟨hx, hb, hml, hown, hts, hE, hB, hr, hlk⟩ := id CX
  have hcs := nz_le (mbT_X3_readIf_16 hGm x0 x1 K M hf) hRc
  unfold bT_X3_readIf_16 at hf
  refine lv_aload_n hx hb dX3_readIf_16 rfl (lv_at hl 0 rfl) ?_
  refine lv_bipush (v := 17) hx hb dX3_readIf_17 (by decide) ?_
  refine lv_iconst (v := 0) hx hb dX3_readIf_19 (by decide) ?_
  refine lv_iconst (v := 0) hx hb dX3_readIf_20 (by decide) ?_
  obtain ⟨hk_x0_4, hf⟩ := gd_some hf
  obtain ⟨o21, ho, hf⟩ := ta_some hf
  have hm1 := (mbT_X3_readIf_24 hGm) _ _ _ _ _ hf
  have hb1 := nz_le hm1 hRc
  have hq1 := (mfT_X3_emit _ _ _ _ _ _ ho)
  refine ta_callIv kc_3 CX hL hR hS (As := [.int 17, .int 0, .int 0]) (rest := []) hk_x0_4 (MT_X3_emit l x hlt N _ _ _ _ _ _ _ ho) cv_X3_144 ⟨by omega, by omega⟩ rfl (Nat.le_of_ble_eq_true rfl) hl.1 hq1 hb1 rfl dX3_readIf_21 (fun H locs hR hS => ?_)
  exact (wbT_X3_readIf_24 CTX hRm hRc hG hB0 hGm) _ _ _ _ _ _ _ _ hf (hL.tr hq1) hR hS (lv_sub hl [0, 1] rfl)
def fT_X3_readIf (N : Nat) (G : Nat → Nat → Int32 → Int32 → Ka → Cm → Option ((Ka × Cm) ⊕ (Ka × Cm))) (x0 : Nat) (x1 : Int32) (K : Ka) (M : Cm) : Option ((Ka × Cm) ⊕ (Ka × Cm)) := gd (kd K x0 == 4) ((fC_X3_moveTo N K x0 ((cI M x0 2) + 1) M).bind fun o7 => tb (G 5 x0 0 x1 K o7) fun o13 => (bT_X3_readIf_16 N G) x0 x1 o13.1 o13.2)
theorem mfT_X3_readIf {o : (Ka × Cm) ⊕ (Ka × Cm)} {N : Nat} {G : Nat → Nat → Int32 → Int32 → Ka → Cm → Option ((Ka × Cm) ⊕ (Ka × Cm))} (hGm : GMono G) (x0 : Nat) (x1 : Int32) (K : Ka) (M : Cm) (hf : fT_X3_readIf N G x0 x1 K M = some o) : KLe K (oK sV o) := by
  unfold fT_X3_readIf at hf
  obtain ⟨-, hf⟩ := gd_some hf
  obtain ⟨o7, -, hf⟩ := bnd_some hf
  rcases tb_some hf with ⟨o13, ho, hf⟩ | ⟨q, ho, rfl⟩
  · exact KLe.tr (hGm _ _ _ _ _ _ _ ho) ((mbT_X3_readIf_16 hGm) _ _ _ _ hf)
  · exact (hGm _ _ _ _ _ _ _ ho)
set_option maxRecDepth 100000 in
set_option maxHeartbeats 4000000 in
theorem wfT_X3_readIf {p : Program} {l : Launch} {e : Env} {R : Room} {s : State} {m : MethodId} {args : Array Value} {below : List Frame} {meth : Method} {c : Code} {x : Xc} {K0 : Ka} {o : (Ka × Cm) ⊕ (Ka × Cm)} {fr lo : Nat} {N : Nat} {G : Nat → Nat → Int32 → Int32 → Ka → Cm → Option ((Ka × Cm) ⊕ (Ka × Cm))} (CTX : CT p l s m args meth c x K0 RX3 "readIf" cX3_readIf 4 none) (hRm : (fr + 1) ≤ R.frames ∧ (lo + 60) ≤ R.locals) (hRc : nz sV K0 o ≤ R.cells ∧ nu sV K0 o ≤ R.slots) (hG : GMet l x G fr lo) (hB0 : 10 ≤ fr ∧ 183 ≤ lo) (hGm : GMono G) (x0 : Nat) (x1 : Int32) (K : Ka) (M : Cm) (H : Heap) (locs : List Loc) (ls : Array Slot) (hf : fT_X3_readIf N G x0 x1 K M = some o) (hL : KLe K0 K) (hR : RC x K M H) (hS : va_S (AC K0) s.heap H locs) (hl : lv_has ls 4 [(0, .ref x0), (1, .int x1)]) : W p l e R s m args below meth c H locs (kz K - kz K0) (ku K - ku K0) (TQ sV (aQV x K0) (zQV K0) "java/lang/IllegalStateException" x K0 below args s o) (F0 m 0 ls []) := by
  obtain ⟨CX, hno, hlt, hmn⟩ := id CTX
  obtain ⟨hx, hb, hml, hown, hts, hE, hB, hr, hlk⟩ := id CX
  have hcs := nz_le (mfT_X3_readIf hGm x0 x1 K M hf) hRc
  unfold fT_X3_readIf at hf
  refine lv_aload_n hx hb dX3_readIf_0 rfl (lv_at hl 0 rfl) ?_
  refine lv_aload_n hx hb dX3_readIf_1 rfl (lv_at hl 0 rfl) ?_
  obtain ⟨hk_x0_4, hf⟩ := gd_some hf
  refine cr_getI kc_3 CX hR fa_X3_15 rfl hk_x0_4 dX3_readIf_2 ?_
  refine lv_iconst (v := 1) hx hb dX3_readIf_5 (by decide) ?_
  refine lv_iadd hx hb dX3_readIf_6 ?_
  obtain ⟨o7, ho7, hf⟩ := bnd_some hf
  refine cr_callVv kc_3 CX hR hL hS (As := [.int ((cI M x0 2) + 1)]) (rest := []) hk_x0_4 (MC_X3_moveTo l x N K x0 ((cI M x0 2) + 1) M o7 ho7) cv_X3_42 ⟨by omega, by omega⟩ rfl rfl (Nat.le_of_ble_eq_true rfl) hl.1 dX3_readIf_7 hcs (fun H locs hR hS => ?_)
  refine lv_aload_n hx hb dX3_readIf_10 rfl (lv_at hl 0 rfl) ?_
  refine lv_iconst (v := 0) hx hb dX3_readIf_11 (by decide) ?_
  refine lv_iload_n hx hb dX3_readIf_12 rfl (lv_at hl 1 rfl) ?_
  rcases tb_some hf with ⟨o13, ho, hf⟩ | ⟨q, ho, rfl⟩
  · have hm1 := (mbT_X3_readIf_16 hGm) _ _ _ _ hf
    have hb1 := nz_le hm1 hRc
    have hq1 := (hGm _ _ _ _ _ _ _ ho)
    refine ta_callVv kc_3 CX hL hR hS (As := [.int 0, .int x1]) (rest := []) hk_x0_4 (hG.2.2.2.2.2.1 _ _ _ _ _ _ ho) cv_X3_227 ⟨by omega, by omega⟩ rfl (Nat.le_of_ble_eq_true rfl) hl.1 hq1 hb1 rfl dX3_readIf_13 (fun H locs hR hS => ?_)
    exact (wbT_X3_readIf_16 CTX hRm hRc hG hB0 hGm) _ _ _ _ _ _ _ hf (hL.tr hq1) hR hS (lv_sub hl [0, 1] rfl)
  · exact tx_callv kc_3 CTX hL hR hS (As := [.int 0, .int x1]) (rest := []) hk_x0_4 (hG.2.2.2.2.2.1 _ _ _ _ _ _ ho) cv_X3_227 ⟨by omega, by omega⟩ rfl (Nat.le_of_ble_eq_true rfl) hl.1 (hGm _ _ _ _ _ _ _ ho) hRc rfl dX3_readIf_13
def bT_X3_readWhile_38 (N : Nat) (G : Nat → Nat → Int32 → Int32 → Ka → Cm → Option ((Ka × Cm) ⊕ (Ka × Cm))) (x0 : Nat) (x3 : Int32) (s0 : Int32) (K : Ka) (M : Cm) : Option ((Ka × Cm) ⊕ (Ka × Cm)) := gd (kd K x0 == 4) (nn (cR M x0 1) fun a1 => gd (kd K a1 == 6) ((fC_X5_aimHere N K a1 x3 M).bind fun o44 => some (.inl (K, o44))))
theorem mbT_X3_readWhile_38 {o : (Ka × Cm) ⊕ (Ka × Cm)} {N : Nat} {G : Nat → Nat → Int32 → Int32 → Ka → Cm → Option ((Ka × Cm) ⊕ (Ka × Cm))} (hGm : GMono G) (x0 : Nat) (x3 : Int32) (s0 : Int32) (K : Ka) (M : Cm) (hf : bT_X3_readWhile_38 N G x0 x3 s0 K M = some o) : KLe K (oK sV o) := by
  unfold bT_X3_readWhile_38 at hf
  obtain ⟨-, hf⟩ := gd_some hf
  obtain ⟨a1, -, hf⟩ := nn_some hf
  obtain ⟨-, hf⟩ := gd_some hf
  obtain ⟨o44, -, hf⟩ := bnd_some hf
  cases hf
  exact KLe.rf _
set_option maxRecDepth 100000 in
set_option maxHeartbeats 4000000 in
theorem wbT_X3_readWhile_38 {p : Program} {l : Launch} {e : Env} {R : Room} {s : State} {m : MethodId} {args : Array Value} {below : List Frame} {meth : Method} {c : Code} {x : Xc} {K0 : Ka} {o : (Ka × Cm) ⊕ (Ka × Cm)} {fr lo : Nat} {N : Nat} {G : Nat → Nat → Int32 → Int32 → Ka → Cm → Option ((Ka × Cm) ⊕ (Ka × Cm))} (CTX : CT p l s m args meth c x K0 RX3 "readWhile" cX3_readWhile 4 none) (hRm : (fr + 1) ≤ R.frames ∧ (lo + 60) ≤ R.locals) (hRc : nz sV K0 o ≤ R.cells ∧ nu sV K0 o ≤ R.slots) (hG : GMet l x G fr lo) (hB0 : 10 ≤ fr ∧ 183 ≤ lo) (hGm : GMono G) (x0 : Nat) (x3 : Int32) (s0 : Int32) (K : Ka) (M : Cm) (H : Heap) (locs : List Loc) (ls : Array Slot) (hf : bT_X3_readWhile_38 N G x0 x3 s0 K M = some o) (hL : KLe K0 K) (hR : RC x K M H) (hS : va_S (AC K0) s.heap H locs) (hl : lv_has ls 4 [(0, .ref x0), (3, .int x3)]) : W p l e R s m args below meth c H locs (kz K - kz K0) (ku K - ku K0) (TQ sV (aQV x K0) (zQV K0) "java/lang/IllegalStateException" x K0 below args s o) (F0 m 38 ls [.int s0]) := by
  obtain ⟨CX, hno, hlt, hmn⟩ := id CTX
  obtain ⟨hx, hb, hml, hown, hts, hE, hB, hr, hlk⟩ := id CX
  have hcs := nz_le (mbT_X3_readWhile_38 hGm x0 x3 s0 K M hf) hRc
  unfold bT_X3_readWhile_38 at hf
  refine lv_pop hx hb dX3_readWhile_38 rfl ?_
  refine lv_aload_n hx hb dX3_readWhile_39 rfl (lv_at hl 0 rfl) ?_
  obtain ⟨hk_x0_4, hf⟩ := gd_some hf
  refine cr_getR kc_3 CX hR fa_X3_9 rfl hk_x0_4 dX3_readWhile_40 ?_
  refine lv_iload_n hx hb dX3_readWhile_43 rfl (lv_at hl 1 rfl) ?_
  obtain ⟨a1, ha1, hf⟩ := nn_some hf
  refine rf_1 ha1 ?_
  obtain ⟨hk_a1_6, hf⟩ := gd_some hf
  obtain ⟨o44, ho44, hf⟩ := bnd_some hf
  refine cr_callVv kc_5 CX hR hL hS (As := [.int x3]) (rest := []) hk_a1_6 (MC_X5_aimHere l x N K a1 x3 M o44 ho44) cv_X3_253 ⟨by omega, by omega⟩ rfl rfl (Nat.le_of_ble_eq_true rfl) hl.1 dX3_readWhile_44 hcs (fun H locs hR hS => ?_)
  exact tr_vret CX hR hS hf dX3_readWhile_47
def bT_X3_readWhile_30 (N : Nat) (G : Nat → Nat → Int32 → Int32 → Ka → Cm → Option ((Ka × Cm) ⊕ (Ka × Cm))) (x0 : Nat) (x2 : Int32) (x3 : Int32) (K : Ka) (M : Cm) : Option ((Ka × Cm) ⊕ (Ka × Cm)) := gd (kd K x0 == 4) (ta (fT_X3_emit N x0 16 x2 0 K M) fun o35 => (bT_X3_readWhile_38 N G) x0 x3 o35.1 o35.2.1 o35.2.2)
theorem mbT_X3_readWhile_30 {o : (Ka × Cm) ⊕ (Ka × Cm)} {N : Nat} {G : Nat → Nat → Int32 → Int32 → Ka → Cm → Option ((Ka × Cm) ⊕ (Ka × Cm))} (hGm : GMono G) (x0 : Nat) (x2 : Int32) (x3 : Int32) (K : Ka) (M : Cm) (hf : bT_X3_readWhile_30 N G x0 x2 x3 K M = some o) : KLe K (oK sV o) := by
  unfold bT_X3_readWhile_30 at hf
  obtain ⟨-, hf⟩ := gd_some hf
  obtain ⟨o35, ho, hf⟩ := ta_some hf
  exact KLe.tr (mfT_X3_emit _ _ _ _ _ _ ho) ((mbT_X3_readWhile_38 hGm) _ _ _ _ _ hf)
set_option maxRecDepth 100000 in
set_option maxHeartbeats 4000000 in
theorem wbT_X3_readWhile_30 {p : Program} {l : Launch} {e : Env} {R : Room} {s : State} {m : MethodId} {args : Array Value} {below : List Frame} {meth : Method} {c : Code} {x : Xc} {K0 : Ka} {o : (Ka × Cm) ⊕ (Ka × Cm)} {fr lo : Nat} {N : Nat} {G : Nat → Nat → Int32 → Int32 → Ka → Cm → Option ((Ka × Cm) ⊕ (Ka × Cm))} (CTX : CT p l s m args meth c x K0 RX3 "readWhile" cX3_readWhile 4 none) (hRm : (fr + 1) ≤ R.frames ∧ (lo + 60) ≤ R.locals) (hRc : nz sV K0 o ≤ R.cells ∧ nu sV K0 o ≤ R.slots) (hG : GMet l x G fr lo) (hB0 : 10 ≤ fr ∧ 183 ≤ lo) (hGm : GMono G) (x0 : Nat) (x2 : Int32) (x3 : Int32) (K : Ka) (M : Cm) (H : Heap) (locs : List Loc) (ls : Array Slot) (hf : bT_X3_readWhile_30 N G x0 x2 x3 K M = some o) (hL : KLe K0 K) (hR : RC x K M H) (hS : va_S (AC K0) s.heap H locs) (hl : lv_has ls 4 [(0, .ref x0), (2, .int x2), (3, .int x3)]) : W p l e R s m args below meth c H locs (kz K - kz K0) (ku K - ku K0) (TQ sV (aQV x K0) (zQV K0) "java/lang/IllegalStateException" x K0 below args s o) (F0 m 30 ls []) := by
  obtain ⟨CX, hno, hlt, hmn⟩ := id CTX
  obtain ⟨hx, hb, hml, hown, hts, hE, hB, hr, hlk⟩ := id CX
  have hcs := nz_le (mbT_X3_readWhile_30 hGm x0 x2 x3 K M hf) hRc
  unfold bT_X3_readWhile_30 at hf
  refine lv_aload_n hx hb dX3_readWhile_30 rfl (lv_at hl 0 rfl) ?_
  refine lv_bipush (v := 16) hx hb dX3_readWhile_31 (by decide) ?_
  refine lv_iload_n hx hb dX3_readWhile_33 rfl (lv_at hl 1 rfl) ?_
  refine lv_iconst (v := 0) hx hb dX3_readWhile_34 (by decide) ?_
  obtain ⟨hk_x0_4, hf⟩ := gd_some hf
  obtain ⟨o35, ho, hf⟩ := ta_some hf
  have hm1 := (mbT_X3_readWhile_38 hGm) _ _ _ _ _ hf
  have hb1 := nz_le hm1 hRc
  have hq1 := (mfT_X3_emit _ _ _ _ _ _ ho)
  refine ta_callIv kc_3 CX hL hR hS (As := [.int 16, .int x2, .int 0]) (rest := []) hk_x0_4 (MT_X3_emit l x hlt N _ _ _ _ _ _ _ ho) cv_X3_144 ⟨by omega, by omega⟩ rfl (Nat.le_of_ble_eq_true rfl) hl.1 hq1 hb1 rfl dX3_readWhile_35 (fun H locs hR hS => ?_)
  exact (wbT_X3_readWhile_38 CTX hRm hRc hG hB0 hGm) _ _ _ _ _ _ _ _ hf (hL.tr hq1) hR hS (lv_sub hl [0, 2] rfl)
def bT_X3_readWhile_24 (N : Nat) (G : Nat → Nat → Int32 → Int32 → Ka → Cm → Option ((Ka × Cm) ⊕ (Ka × Cm))) (x0 : Nat) (x1 : Int32) (x2 : Int32) (s0 : Int32) (K : Ka) (M : Cm) : Option ((Ka × Cm) ⊕ (Ka × Cm)) := gd (kd K x0 == 4) (tb (G 0 x0 x1 0 K M) fun o27 => (bT_X3_readWhile_30 N G) x0 x2 s0 o27.1 o27.2)
theorem mbT_X3_readWhile_24 {o : (Ka × Cm) ⊕ (Ka × Cm)} {N : Nat} {G : Nat → Nat → Int32 → Int32 → Ka → Cm → Option ((Ka × Cm) ⊕ (Ka × Cm))} (hGm : GMono G) (x0 : Nat) (x1 : Int32) (x2 : Int32) (s0 : Int32) (K : Ka) (M : Cm) (hf : bT_X3_readWhile_24 N G x0 x1 x2 s0 K M = some o) : KLe K (oK sV o) := by
  unfold bT_X3_readWhile_24 at hf
  obtain ⟨-, hf⟩ := gd_some hf
  rcases tb_some hf with ⟨o27, ho, hf⟩ | ⟨q, ho, rfl⟩
  · exact KLe.tr (hGm _ _ _ _ _ _ _ ho) ((mbT_X3_readWhile_30 hGm) _ _ _ _ _ hf)
  · exact (hGm _ _ _ _ _ _ _ ho)
set_option maxRecDepth 100000 in
set_option maxHeartbeats 4000000 in
theorem wbT_X3_readWhile_24 {p : Program} {l : Launch} {e : Env} {R : Room} {s : State} {m : MethodId} {args : Array Value} {below : List Frame} {meth : Method} {c : Code} {x : Xc} {K0 : Ka} {o : (Ka × Cm) ⊕ (Ka × Cm)} {fr lo : Nat} {N : Nat} {G : Nat → Nat → Int32 → Int32 → Ka → Cm → Option ((Ka × Cm) ⊕ (Ka × Cm))} (CTX : CT p l s m args meth c x K0 RX3 "readWhile" cX3_readWhile 4 none) (hRm : (fr + 1) ≤ R.frames ∧ (lo + 60) ≤ R.locals) (hRc : nz sV K0 o ≤ R.cells ∧ nu sV K0 o ≤ R.slots) (hG : GMet l x G fr lo) (hB0 : 10 ≤ fr ∧ 183 ≤ lo) (hGm : GMono G) (x0 : Nat) (x1 : Int32) (x2 : Int32) (s0 : Int32) (K : Ka) (M : Cm) (H : Heap) (locs : List Loc) (ls : Array Slot) (hf : bT_X3_readWhile_24 N G x0 x1 x2 s0 K M = some o) (hL : KLe K0 K) (hR : RC x K M H) (hS : va_S (AC K0) s.heap H locs) (hl : lv_has ls 4 [(0, .ref x0), (1, .int x1), (2, .int x2)]) : W p l e R s m args below meth c H locs (kz K - kz K0) (ku K - ku K0) (TQ sV (aQV x K0) (zQV K0) "java/lang/IllegalStateException" x K0 below args s o) (F0 m 24 ls [.int s0]) := by
  obtain ⟨CX, hno, hlt, hmn⟩ := id CTX
  obtain ⟨hx, hb, hml, hown, hts, hE, hB, hr, hlk⟩ := id CX
  have hcs := nz_le (mbT_X3_readWhile_24 hGm x0 x1 x2 s0 K M hf) hRc
  unfold bT_X3_readWhile_24 at hf
  refine lv_istore_n (lv' := [(3, .int s0), (0, .ref x0), (1, .int x1), (2, .int x2)]) hx hb dX3_readWhile_24 rfl hl (by decide) rfl (fun ls hl => ?_)
  refine lv_aload_n hx hb dX3_readWhile_25 rfl (lv_at hl 1 rfl) ?_
  refine lv_iload_n hx hb dX3_readWhile_26 rfl (lv_at hl 2 rfl) ?_
  obtain ⟨hk_x0_4, hf⟩ := gd_some hf
  rcases tb_some hf with ⟨o27, ho, hf⟩ | ⟨q, ho, rfl⟩
  · have hm1 := (mbT_X3_readWhile_30 hGm) _ _ _ _ _ hf
    have hb1 := nz_le hm1 hRc
    have hq1 := (hGm _ _ _ _ _ _ _ ho)
    refine ta_callVv kc_3 CX hL hR hS (As := [.int x1]) (rest := []) hk_x0_4 (hG.1 _ _ _ _ _ ho) cv_X3_141 ⟨by omega, by omega⟩ rfl (Nat.le_of_ble_eq_true rfl) hl.1 hq1 hb1 rfl dX3_readWhile_27 (fun H locs hR hS => ?_)
    exact (wbT_X3_readWhile_30 CTX hRm hRc hG hB0 hGm) _ _ _ _ _ _ _ _ hf (hL.tr hq1) hR hS (lv_sub hl [1, 3, 0] rfl)
  · exact tx_callv kc_3 CTX hL hR hS (As := [.int x1]) (rest := []) hk_x0_4 (hG.1 _ _ _ _ _ ho) cv_X3_141 ⟨by omega, by omega⟩ rfl (Nat.le_of_ble_eq_true rfl) hl.1 (hGm _ _ _ _ _ _ _ ho) hRc rfl dX3_readWhile_27
def bT_X3_readWhile_16 (N : Nat) (G : Nat → Nat → Int32 → Int32 → Ka → Cm → Option ((Ka × Cm) ⊕ (Ka × Cm))) (x0 : Nat) (x1 : Int32) (x2 : Int32) (K : Ka) (M : Cm) : Option ((Ka × Cm) ⊕ (Ka × Cm)) := gd (kd K x0 == 4) (ta (fT_X3_emit N x0 17 0 0 K M) fun o21 => (bT_X3_readWhile_24 N G) x0 x1 x2 o21.1 o21.2.1 o21.2.2)
theorem mbT_X3_readWhile_16 {o : (Ka × Cm) ⊕ (Ka × Cm)} {N : Nat} {G : Nat → Nat → Int32 → Int32 → Ka → Cm → Option ((Ka × Cm) ⊕ (Ka × Cm))} (hGm : GMono G) (x0 : Nat) (x1 : Int32) (x2 : Int32) (K : Ka) (M : Cm) (hf : bT_X3_readWhile_16 N G x0 x1 x2 K M = some o) : KLe K (oK sV o) := by
  unfold bT_X3_readWhile_16 at hf
  obtain ⟨-, hf⟩ := gd_some hf
  obtain ⟨o21, ho, hf⟩ := ta_some hf
  exact KLe.tr (mfT_X3_emit _ _ _ _ _ _ ho) ((mbT_X3_readWhile_24 hGm) _ _ _ _ _ _ hf)
set_option maxRecDepth 100000 in
set_option maxHeartbeats 4000000 in
theorem wbT_X3_readWhile_16 {p : Program} {l : Launch} {e : Env} {R : Room} {s : State} {m : MethodId} {args : Array Value} {below : List Frame} {meth : Method} {c : Code} {x : Xc} {K0 : Ka} {o : (Ka × Cm) ⊕ (Ka × Cm)} {fr lo : Nat} {N : Nat} {G : Nat → Nat → Int32 → Int32 → Ka → Cm → Option ((Ka × Cm) ⊕ (Ka × Cm))} (CTX : CT p l s m args meth c x K0 RX3 "readWhile" cX3_readWhile 4 none) (hRm : (fr + 1) ≤ R.frames ∧ (lo + 60) ≤ R.locals) (hRc : nz sV K0 o ≤ R.cells ∧ nu sV K0 o ≤ R.slots) (hG : GMet l x G fr lo) (hB0 : 10 ≤ fr ∧ 183 ≤ lo) (hGm : GMono G) (x0 : Nat) (x1 : Int32) (x2 : Int32) (K : Ka) (M : Cm) (H : Heap) (locs : List Loc) (ls : Array Slot) (hf : bT_X3_readWhile_16 N G x0 x1 x2 K M = some o) (hL : KLe K0 K) (hR : RC x K M H) (hS : va_S (AC K0) s.heap H locs) (hl : lv_has ls 4 [(0, .ref x0), (1, .int x1), (2, .int x2)]) : W p l e R s m args below meth c H locs (kz K - kz K0) (ku K - ku K0) (TQ sV (aQV x K0) (zQV K0) "java/lang/IllegalStateException" x K0 below args s o) (F0 m 16 ls []) := by
  obtain ⟨CX, hno, hlt, hmn⟩ := id CTX
  obtain ⟨hx, hb, hml, hown, hts, hE, hB, hr, hlk⟩ := id CX
  have hcs := nz_le (mbT_X3_readWhile_16 hGm x0 x1 x2 K M hf) hRc
  unfold bT_X3_readWhile_16 at hf
  refine lv_aload_n hx hb dX3_readWhile_16 rfl (lv_at hl 0 rfl) ?_
  refine lv_bipush (v := 17) hx hb dX3_readWhile_17 (by decide) ?_
  refine lv_iconst (v := 0) hx hb dX3_readWhile_19 (by decide) ?_
  refine lv_iconst (v := 0) hx hb dX3_readWhile_20 (by decide) ?_
  obtain ⟨hk_x0_4, hf⟩ := gd_some hf
  obtain ⟨o21, ho, hf⟩ := ta_some hf
  have hm1 := (mbT_X3_readWhile_24 hGm) _ _ _ _ _ _ hf
  have hb1 := nz_le hm1 hRc
  have hq1 := (mfT_X3_emit _ _ _ _ _ _ ho)
  refine ta_callIv kc_3 CX hL hR hS (As := [.int 17, .int 0, .int 0]) (rest := []) hk_x0_4 (MT_X3_emit l x hlt N _ _ _ _ _ _ _ ho) cv_X3_144 ⟨by omega, by omega⟩ rfl (Nat.le_of_ble_eq_true rfl) hl.1 hq1 hb1 rfl dX3_readWhile_21 (fun H locs hR hS => ?_)
  exact (wbT_X3_readWhile_24 CTX hRm hRc hG hB0 hGm) _ _ _ _ _ _ _ _ _ hf (hL.tr hq1) hR hS (lv_sub hl [0, 1, 2] rfl)
def fT_X3_readWhile (N : Nat) (G : Nat → Nat → Int32 → Int32 → Ka → Cm → Option ((Ka × Cm) ⊕ (Ka × Cm))) (x0 : Nat) (x1 : Int32) (x2 : Int32) (K : Ka) (M : Cm) : Option ((Ka × Cm) ⊕ (Ka × Cm)) := gd (kd K x0 == 4) ((fC_X3_moveTo N K x0 ((cI M x0 2) + 1) M).bind fun o7 => tb (G 5 x0 0 x1 K o7) fun o13 => (bT_X3_readWhile_16 N G) x0 x1 x2 o13.1 o13.2)
theorem mfT_X3_readWhile {o : (Ka × Cm) ⊕ (Ka × Cm)} {N : Nat} {G : Nat → Nat → Int32 → Int32 → Ka → Cm → Option ((Ka × Cm) ⊕ (Ka × Cm))} (hGm : GMono G) (x0 : Nat) (x1 : Int32) (x2 : Int32) (K : Ka) (M : Cm) (hf : fT_X3_readWhile N G x0 x1 x2 K M = some o) : KLe K (oK sV o) := by
  unfold fT_X3_readWhile at hf
  obtain ⟨-, hf⟩ := gd_some hf
  obtain ⟨o7, -, hf⟩ := bnd_some hf
  rcases tb_some hf with ⟨o13, ho, hf⟩ | ⟨q, ho, rfl⟩
  · exact KLe.tr (hGm _ _ _ _ _ _ _ ho) ((mbT_X3_readWhile_16 hGm) _ _ _ _ _ hf)
  · exact (hGm _ _ _ _ _ _ _ ho)
set_option maxRecDepth 100000 in
set_option maxHeartbeats 4000000 in
theorem wfT_X3_readWhile {p : Program} {l : Launch} {e : Env} {R : Room} {s : State} {m : MethodId} {args : Array Value} {below : List Frame} {meth : Method} {c : Code} {x : Xc} {K0 : Ka} {o : (Ka × Cm) ⊕ (Ka × Cm)} {fr lo : Nat} {N : Nat} {G : Nat → Nat → Int32 → Int32 → Ka → Cm → Option ((Ka × Cm) ⊕ (Ka × Cm))} (CTX : CT p l s m args meth c x K0 RX3 "readWhile" cX3_readWhile 4 none) (hRm : (fr + 1) ≤ R.frames ∧ (lo + 60) ≤ R.locals) (hRc : nz sV K0 o ≤ R.cells ∧ nu sV K0 o ≤ R.slots) (hG : GMet l x G fr lo) (hB0 : 10 ≤ fr ∧ 183 ≤ lo) (hGm : GMono G) (x0 : Nat) (x1 : Int32) (x2 : Int32) (K : Ka) (M : Cm) (H : Heap) (locs : List Loc) (ls : Array Slot) (hf : fT_X3_readWhile N G x0 x1 x2 K M = some o) (hL : KLe K0 K) (hR : RC x K M H) (hS : va_S (AC K0) s.heap H locs) (hl : lv_has ls 4 [(0, .ref x0), (1, .int x1), (2, .int x2)]) : W p l e R s m args below meth c H locs (kz K - kz K0) (ku K - ku K0) (TQ sV (aQV x K0) (zQV K0) "java/lang/IllegalStateException" x K0 below args s o) (F0 m 0 ls []) := by
  obtain ⟨CX, hno, hlt, hmn⟩ := id CTX
  obtain ⟨hx, hb, hml, hown, hts, hE, hB, hr, hlk⟩ := id CX
  have hcs := nz_le (mfT_X3_readWhile hGm x0 x1 x2 K M hf) hRc
  unfold fT_X3_readWhile at hf
  refine lv_aload_n hx hb dX3_readWhile_0 rfl (lv_at hl 0 rfl) ?_
  refine lv_aload_n hx hb dX3_readWhile_1 rfl (lv_at hl 0 rfl) ?_
  obtain ⟨hk_x0_4, hf⟩ := gd_some hf
  refine cr_getI kc_3 CX hR fa_X3_15 rfl hk_x0_4 dX3_readWhile_2 ?_
  refine lv_iconst (v := 1) hx hb dX3_readWhile_5 (by decide) ?_
  refine lv_iadd hx hb dX3_readWhile_6 ?_
  obtain ⟨o7, ho7, hf⟩ := bnd_some hf
  refine cr_callVv kc_3 CX hR hL hS (As := [.int ((cI M x0 2) + 1)]) (rest := []) hk_x0_4 (MC_X3_moveTo l x N K x0 ((cI M x0 2) + 1) M o7 ho7) cv_X3_42 ⟨by omega, by omega⟩ rfl rfl (Nat.le_of_ble_eq_true rfl) hl.1 dX3_readWhile_7 hcs (fun H locs hR hS => ?_)
  refine lv_aload_n hx hb dX3_readWhile_10 rfl (lv_at hl 0 rfl) ?_
  refine lv_iconst (v := 0) hx hb dX3_readWhile_11 (by decide) ?_
  refine lv_iload_n hx hb dX3_readWhile_12 rfl (lv_at hl 1 rfl) ?_
  rcases tb_some hf with ⟨o13, ho, hf⟩ | ⟨q, ho, rfl⟩
  · have hm1 := (mbT_X3_readWhile_16 hGm) _ _ _ _ _ hf
    have hb1 := nz_le hm1 hRc
    have hq1 := (hGm _ _ _ _ _ _ _ ho)
    refine ta_callVv kc_3 CX hL hR hS (As := [.int 0, .int x1]) (rest := []) hk_x0_4 (hG.2.2.2.2.2.1 _ _ _ _ _ _ ho) cv_X3_227 ⟨by omega, by omega⟩ rfl (Nat.le_of_ble_eq_true rfl) hl.1 hq1 hb1 rfl dX3_readWhile_13 (fun H locs hR hS => ?_)
    exact (wbT_X3_readWhile_16 CTX hRm hRc hG hB0 hGm) _ _ _ _ _ _ _ _ hf (hL.tr hq1) hR hS (lv_sub hl [0, 1, 2] rfl)
  · exact tx_callv kc_3 CTX hL hR hS (As := [.int 0, .int x1]) (rest := []) hk_x0_4 (hG.2.2.2.2.2.1 _ _ _ _ _ _ ho) cv_X3_227 ⟨by omega, by omega⟩ rfl (Nat.le_of_ble_eq_true rfl) hl.1 (hGm _ _ _ _ _ _ _ ho) hRc rfl dX3_readWhile_13
def bT_X3_readTry_62 (N : Nat) (G : Nat → Nat → Int32 → Int32 → Ka → Cm → Option ((Ka × Cm) ⊕ (Ka × Cm))) (x0 : Nat) (x3 : Int32) (K : Ka) (M : Cm) : Option ((Ka × Cm) ⊕ (Ka × Cm)) := gd (kd K x0 == 4) (nn (cR M x0 1) fun a1 => gd (kd K a1 == 6) ((fC_X5_aimHere N K a1 x3 M).bind fun o67 => some (.inl (K, o67))))
theorem mbT_X3_readTry_62 {o : (Ka × Cm) ⊕ (Ka × Cm)} {N : Nat} {G : Nat → Nat → Int32 → Int32 → Ka → Cm → Option ((Ka × Cm) ⊕ (Ka × Cm))} (hGm : GMono G) (x0 : Nat) (x3 : Int32) (K : Ka) (M : Cm) (hf : bT_X3_readTry_62 N G x0 x3 K M = some o) : KLe K (oK sV o) := by
  unfold bT_X3_readTry_62 at hf
  obtain ⟨-, hf⟩ := gd_some hf
  obtain ⟨a1, -, hf⟩ := nn_some hf
  obtain ⟨-, hf⟩ := gd_some hf
  obtain ⟨o67, -, hf⟩ := bnd_some hf
  cases hf
  exact KLe.rf _
set_option maxRecDepth 100000 in
set_option maxHeartbeats 4000000 in
theorem wbT_X3_readTry_62 {p : Program} {l : Launch} {e : Env} {R : Room} {s : State} {m : MethodId} {args : Array Value} {below : List Frame} {meth : Method} {c : Code} {x : Xc} {K0 : Ka} {o : (Ka × Cm) ⊕ (Ka × Cm)} {fr lo : Nat} {N : Nat} {G : Nat → Nat → Int32 → Int32 → Ka → Cm → Option ((Ka × Cm) ⊕ (Ka × Cm))} (CTX : CT p l s m args meth c x K0 RX3 "readTry" cX3_readTry 4 none) (hRm : (fr + 1) ≤ R.frames ∧ (lo + 60) ≤ R.locals) (hRc : nz sV K0 o ≤ R.cells ∧ nu sV K0 o ≤ R.slots) (hG : GMet l x G fr lo) (hB0 : 10 ≤ fr ∧ 183 ≤ lo) (hGm : GMono G) (x0 : Nat) (x3 : Int32) (K : Ka) (M : Cm) (H : Heap) (locs : List Loc) (ls : Array Slot) (hf : bT_X3_readTry_62 N G x0 x3 K M = some o) (hL : KLe K0 K) (hR : RC x K M H) (hS : va_S (AC K0) s.heap H locs) (hl : lv_has ls 4 [(0, .ref x0), (3, .int x3)]) : W p l e R s m args below meth c H locs (kz K - kz K0) (ku K - ku K0) (TQ sV (aQV x K0) (zQV K0) "java/lang/IllegalStateException" x K0 below args s o) (F0 m 62 ls []) := by
  obtain ⟨CX, hno, hlt, hmn⟩ := id CTX
  obtain ⟨hx, hb, hml, hown, hts, hE, hB, hr, hlk⟩ := id CX
  have hcs := nz_le (mbT_X3_readTry_62 hGm x0 x3 K M hf) hRc
  unfold bT_X3_readTry_62 at hf
  refine lv_aload_n hx hb dX3_readTry_62 rfl (lv_at hl 0 rfl) ?_
  obtain ⟨hk_x0_4, hf⟩ := gd_some hf
  refine cr_getR kc_3 CX hR fa_X3_9 rfl hk_x0_4 dX3_readTry_63 ?_
  refine lv_iload_n hx hb dX3_readTry_66 rfl (lv_at hl 1 rfl) ?_
  obtain ⟨a1, ha1, hf⟩ := nn_some hf
  refine rf_1 ha1 ?_
  obtain ⟨hk_a1_6, hf⟩ := gd_some hf
  obtain ⟨o67, ho67, hf⟩ := bnd_some hf
  refine cr_callVv kc_5 CX hR hL hS (As := [.int x3]) (rest := []) hk_a1_6 (MC_X5_aimHere l x N K a1 x3 M o67 ho67) cv_X3_253 ⟨by omega, by omega⟩ rfl rfl (Nat.le_of_ble_eq_true rfl) hl.1 dX3_readTry_67 hcs (fun H locs hR hS => ?_)
  exact tr_vret CX hR hS hf dX3_readTry_70
def bT_X3_readTry_49 (N : Nat) (G : Nat → Nat → Int32 → Int32 → Ka → Cm → Option ((Ka × Cm) ⊕ (Ka × Cm))) (x0 : Nat) (x1 : Int32) (x2 : Int32) (x3 : Int32) (K : Ka) (M : Cm) : Option ((Ka × Cm) ⊕ (Ka × Cm)) := gd (kd K x0 == 4) (nn (cR M x0 1) fun a1 => gd (kd K a1 == 6) ((fC_X5_aimHere N K a1 x2 M).bind fun o54 => tb (G 0 x0 x1 0 K o54) fun o59 => (bT_X3_readTry_62 N G) x0 x3 o59.1 o59.2))
theorem mbT_X3_readTry_49 {o : (Ka × Cm) ⊕ (Ka × Cm)} {N : Nat} {G : Nat → Nat → Int32 → Int32 → Ka → Cm → Option ((Ka × Cm) ⊕ (Ka × Cm))} (hGm : GMono G) (x0 : Nat) (x1 : Int32) (x2 : Int32) (x3 : Int32) (K : Ka) (M : Cm) (hf : bT_X3_readTry_49 N G x0 x1 x2 x3 K M = some o) : KLe K (oK sV o) := by
  unfold bT_X3_readTry_49 at hf
  obtain ⟨-, hf⟩ := gd_some hf
  obtain ⟨a1, -, hf⟩ := nn_some hf
  obtain ⟨-, hf⟩ := gd_some hf
  obtain ⟨o54, -, hf⟩ := bnd_some hf
  rcases tb_some hf with ⟨o59, ho, hf⟩ | ⟨q, ho, rfl⟩
  · exact KLe.tr (hGm _ _ _ _ _ _ _ ho) ((mbT_X3_readTry_62 hGm) _ _ _ _ hf)
  · exact (hGm _ _ _ _ _ _ _ ho)
set_option maxRecDepth 100000 in
set_option maxHeartbeats 4000000 in
theorem wbT_X3_readTry_49 {p : Program} {l : Launch} {e : Env} {R : Room} {s : State} {m : MethodId} {args : Array Value} {below : List Frame} {meth : Method} {c : Code} {x : Xc} {K0 : Ka} {o : (Ka × Cm) ⊕ (Ka × Cm)} {fr lo : Nat} {N : Nat} {G : Nat → Nat → Int32 → Int32 → Ka → Cm → Option ((Ka × Cm) ⊕ (Ka × Cm))} (CTX : CT p l s m args meth c x K0 RX3 "readTry" cX3_readTry 4 none) (hRm : (fr + 1) ≤ R.frames ∧ (lo + 60) ≤ R.locals) (hRc : nz sV K0 o ≤ R.cells ∧ nu sV K0 o ≤ R.slots) (hG : GMet l x G fr lo) (hB0 : 10 ≤ fr ∧ 183 ≤ lo) (hGm : GMono G) (x0 : Nat) (x1 : Int32) (x2 : Int32) (x3 : Int32) (K : Ka) (M : Cm) (H : Heap) (locs : List Loc) (ls : Array Slot) (hf : bT_X3_readTry_49 N G x0 x1 x2 x3 K M = some o) (hL : KLe K0 K) (hR : RC x K M H) (hS : va_S (AC K0) s.heap H locs) (hl : lv_has ls 4 [(0, .ref x0), (1, .int x1), (2, .int x2), (3, .int x3)]) : W p l e R s m args below meth c H locs (kz K - kz K0) (ku K - ku K0) (TQ sV (aQV x K0) (zQV K0) "java/lang/IllegalStateException" x K0 below args s o) (F0 m 49 ls []) := by
  obtain ⟨CX, hno, hlt, hmn⟩ := id CTX
  obtain ⟨hx, hb, hml, hown, hts, hE, hB, hr, hlk⟩ := id CX
  have hcs := nz_le (mbT_X3_readTry_49 hGm x0 x1 x2 x3 K M hf) hRc
  unfold bT_X3_readTry_49 at hf
  refine lv_aload_n hx hb dX3_readTry_49 rfl (lv_at hl 0 rfl) ?_
  obtain ⟨hk_x0_4, hf⟩ := gd_some hf
  refine cr_getR kc_3 CX hR fa_X3_9 rfl hk_x0_4 dX3_readTry_50 ?_
  refine lv_iload_n hx hb dX3_readTry_53 rfl (lv_at hl 2 rfl) ?_
  obtain ⟨a1, ha1, hf⟩ := nn_some hf
  refine rf_1 ha1 ?_
  obtain ⟨hk_a1_6, hf⟩ := gd_some hf
  obtain ⟨o54, ho54, hf⟩ := bnd_some hf
  refine cr_callVv kc_5 CX hR hL hS (As := [.int x2]) (rest := []) hk_a1_6 (MC_X5_aimHere l x N K a1 x2 M o54 ho54) cv_X3_253 ⟨by omega, by omega⟩ rfl rfl (Nat.le_of_ble_eq_true rfl) hl.1 dX3_readTry_54 hcs (fun H locs hR hS => ?_)
  refine lv_aload_n hx hb dX3_readTry_57 rfl (lv_at hl 0 rfl) ?_
  refine lv_iload_n hx hb dX3_readTry_58 rfl (lv_at hl 1 rfl) ?_
  rcases tb_some hf with ⟨o59, ho, hf⟩ | ⟨q, ho, rfl⟩
  · have hm1 := (mbT_X3_readTry_62 hGm) _ _ _ _ hf
    have hb1 := nz_le hm1 hRc
    have hq1 := (hGm _ _ _ _ _ _ _ ho)
    refine ta_callVv kc_3 CX hL hR hS (As := [.int x1]) (rest := []) hk_x0_4 (hG.1 _ _ _ _ _ ho) cv_X3_141 ⟨by omega, by omega⟩ rfl (Nat.le_of_ble_eq_true rfl) hl.1 hq1 hb1 rfl dX3_readTry_59 (fun H locs hR hS => ?_)
    exact (wbT_X3_readTry_62 CTX hRm hRc hG hB0 hGm) _ _ _ _ _ _ _ hf (hL.tr hq1) hR hS (lv_sub hl [0, 3] rfl)
  · exact tx_callv kc_3 CTX hL hR hS (As := [.int x1]) (rest := []) hk_x0_4 (hG.1 _ _ _ _ _ ho) cv_X3_141 ⟨by omega, by omega⟩ rfl (Nat.le_of_ble_eq_true rfl) hl.1 (hGm _ _ _ _ _ _ _ ho) hRc rfl dX3_readTry_59
def bT_X3_readTry_41 (N : Nat) (G : Nat → Nat → Int32 → Int32 → Ka → Cm → Option ((Ka × Cm) ⊕ (Ka × Cm))) (x0 : Nat) (x1 : Int32) (x2 : Int32) (s0 : Int32) (K : Ka) (M : Cm) : Option ((Ka × Cm) ⊕ (Ka × Cm)) := gd (kd K x0 == 4) (tb (fT_X3_take N x0 136 K M) fun o46 => (bT_X3_readTry_49 N G) x0 x1 x2 s0 o46.1 o46.2)
theorem mbT_X3_readTry_41 {o : (Ka × Cm) ⊕ (Ka × Cm)} {N : Nat} {G : Nat → Nat → Int32 → Int32 → Ka → Cm → Option ((Ka × Cm) ⊕ (Ka × Cm))} (hGm : GMono G) (x0 : Nat) (x1 : Int32) (x2 : Int32) (s0 : Int32) (K : Ka) (M : Cm) (hf : bT_X3_readTry_41 N G x0 x1 x2 s0 K M = some o) : KLe K (oK sV o) := by
  unfold bT_X3_readTry_41 at hf
  obtain ⟨-, hf⟩ := gd_some hf
  rcases tb_some hf with ⟨o46, ho, hf⟩ | ⟨q, ho, rfl⟩
  · exact KLe.tr (mfT_X3_take _ _ _ _ ho) ((mbT_X3_readTry_49 hGm) _ _ _ _ _ _ hf)
  · exact (mfT_X3_take _ _ _ _ ho)
set_option maxRecDepth 100000 in
set_option maxHeartbeats 4000000 in
theorem wbT_X3_readTry_41 {p : Program} {l : Launch} {e : Env} {R : Room} {s : State} {m : MethodId} {args : Array Value} {below : List Frame} {meth : Method} {c : Code} {x : Xc} {K0 : Ka} {o : (Ka × Cm) ⊕ (Ka × Cm)} {fr lo : Nat} {N : Nat} {G : Nat → Nat → Int32 → Int32 → Ka → Cm → Option ((Ka × Cm) ⊕ (Ka × Cm))} (CTX : CT p l s m args meth c x K0 RX3 "readTry" cX3_readTry 4 none) (hRm : (fr + 1) ≤ R.frames ∧ (lo + 60) ≤ R.locals) (hRc : nz sV K0 o ≤ R.cells ∧ nu sV K0 o ≤ R.slots) (hG : GMet l x G fr lo) (hB0 : 10 ≤ fr ∧ 183 ≤ lo) (hGm : GMono G) (x0 : Nat) (x1 : Int32) (x2 : Int32) (s0 : Int32) (K : Ka) (M : Cm) (H : Heap) (locs : List Loc) (ls : Array Slot) (hf : bT_X3_readTry_41 N G x0 x1 x2 s0 K M = some o) (hL : KLe K0 K) (hR : RC x K M H) (hS : va_S (AC K0) s.heap H locs) (hl : lv_has ls 4 [(0, .ref x0), (1, .int x1), (2, .int x2)]) : W p l e R s m args below meth c H locs (kz K - kz K0) (ku K - ku K0) (TQ sV (aQV x K0) (zQV K0) "java/lang/IllegalStateException" x K0 below args s o) (F0 m 41 ls [.int s0]) := by
  obtain ⟨CX, hno, hlt, hmn⟩ := id CTX
  obtain ⟨hx, hb, hml, hown, hts, hE, hB, hr, hlk⟩ := id CX
  have hcs := nz_le (mbT_X3_readTry_41 hGm x0 x1 x2 s0 K M hf) hRc
  unfold bT_X3_readTry_41 at hf
  refine lv_istore_n (lv' := [(3, .int s0), (0, .ref x0), (1, .int x1), (2, .int x2)]) hx hb dX3_readTry_41 rfl hl (by decide) rfl (fun ls hl => ?_)
  refine lv_aload_n hx hb dX3_readTry_42 rfl (lv_at hl 1 rfl) ?_
  refine lv_sipush (v := 136) hx hb dX3_readTry_43 (by decide) ?_
  obtain ⟨hk_x0_4, hf⟩ := gd_some hf
  rcases tb_some hf with ⟨o46, ho, hf⟩ | ⟨q, ho, rfl⟩
  · have hm1 := (mbT_X3_readTry_49 hGm) _ _ _ _ _ _ hf
    have hb1 := nz_le hm1 hRc
    have hq1 := (mfT_X3_take _ _ _ _ ho)
    refine ta_callVv kc_3 CX hL hR hS (As := [.int 136]) (rest := []) hk_x0_4 (MT_X3_take l x hlt N _ _ _ _ _ ho) cv_X3_119 ⟨by omega, by omega⟩ rfl (Nat.le_of_ble_eq_true rfl) hl.1 hq1 hb1 rfl dX3_readTry_46 (fun H locs hR hS => ?_)
    exact (wbT_X3_readTry_49 CTX hRm hRc hG hB0 hGm) _ _ _ _ _ _ _ _ _ hf (hL.tr hq1) hR hS (lv_sub hl [1, 2, 3, 0] rfl)
  · exact tx_callv kc_3 CTX hL hR hS (As := [.int 136]) (rest := []) hk_x0_4 (MT_X3_take l x hlt N _ _ _ _ _ ho) cv_X3_119 ⟨by omega, by omega⟩ rfl (Nat.le_of_ble_eq_true rfl) hl.1 (mfT_X3_take _ _ _ _ ho) hRc rfl dX3_readTry_46
def bT_X3_readTry_32 (N : Nat) (G : Nat → Nat → Int32 → Int32 → Ka → Cm → Option ((Ka × Cm) ⊕ (Ka × Cm))) (x0 : Nat) (x1 : Int32) (x2 : Int32) (s0 : Int32) (K : Ka) (M : Cm) : Option ((Ka × Cm) ⊕ (Ka × Cm)) := gd (kd K x0 == 4) (ta (fT_X3_emit N x0 16 0 0 K M) fun o38 => (bT_X3_readTry_41 N G) x0 x1 x2 o38.1 o38.2.1 o38.2.2)
theorem mbT_X3_readTry_32 {o : (Ka × Cm) ⊕ (Ka × Cm)} {N : Nat} {G : Nat → Nat → Int32 → Int32 → Ka → Cm → Option ((Ka × Cm) ⊕ (Ka × Cm))} (hGm : GMono G) (x0 : Nat) (x1 : Int32) (x2 : Int32) (s0 : Int32) (K : Ka) (M : Cm) (hf : bT_X3_readTry_32 N G x0 x1 x2 s0 K M = some o) : KLe K (oK sV o) := by
  unfold bT_X3_readTry_32 at hf
  obtain ⟨-, hf⟩ := gd_some hf
  obtain ⟨o38, ho, hf⟩ := ta_some hf
  exact KLe.tr (mfT_X3_emit _ _ _ _ _ _ ho) ((mbT_X3_readTry_41 hGm) _ _ _ _ _ _ hf)
set_option maxRecDepth 100000 in
set_option maxHeartbeats 4000000 in
theorem wbT_X3_readTry_32 {p : Program} {l : Launch} {e : Env} {R : Room} {s : State} {m : MethodId} {args : Array Value} {below : List Frame} {meth : Method} {c : Code} {x : Xc} {K0 : Ka} {o : (Ka × Cm) ⊕ (Ka × Cm)} {fr lo : Nat} {N : Nat} {G : Nat → Nat → Int32 → Int32 → Ka → Cm → Option ((Ka × Cm) ⊕ (Ka × Cm))} (CTX : CT p l s m args meth c x K0 RX3 "readTry" cX3_readTry 4 none) (hRm : (fr + 1) ≤ R.frames ∧ (lo + 60) ≤ R.locals) (hRc : nz sV K0 o ≤ R.cells ∧ nu sV K0 o ≤ R.slots) (hG : GMet l x G fr lo) (hB0 : 10 ≤ fr ∧ 183 ≤ lo) (hGm : GMono G) (x0 : Nat) (x1 : Int32) (x2 : Int32) (s0 : Int32) (K : Ka) (M : Cm) (H : Heap) (locs : List Loc) (ls : Array Slot) (hf : bT_X3_readTry_32 N G x0 x1 x2 s0 K M = some o) (hL : KLe K0 K) (hR : RC x K M H) (hS : va_S (AC K0) s.heap H locs) (hl : lv_has ls 4 [(0, .ref x0), (1, .int x1), (2, .int x2)]) : W p l e R s m args below meth c H locs (kz K - kz K0) (ku K - ku K0) (TQ sV (aQV x K0) (zQV K0) "java/lang/IllegalStateException" x K0 below args s o) (F0 m 32 ls [.int s0]) := by
  obtain ⟨CX, hno, hlt, hmn⟩ := id CTX
  obtain ⟨hx, hb, hml, hown, hts, hE, hB, hr, hlk⟩ := id CX
  have hcs := nz_le (mbT_X3_readTry_32 hGm x0 x1 x2 s0 K M hf) hRc
  unfold bT_X3_readTry_32 at hf
  refine lv_pop hx hb dX3_readTry_32 rfl ?_
  refine lv_aload_n hx hb dX3_readTry_33 rfl (lv_at hl 0 rfl) ?_
  refine lv_bipush (v := 16) hx hb dX3_readTry_34 (by decide) ?_
  refine lv_iconst (v := 0) hx hb dX3_readTry_36 (by decide) ?_
  refine lv_iconst (v := 0) hx hb dX3_readTry_37 (by decide) ?_
  obtain ⟨hk_x0_4, hf⟩ := gd_some hf
  obtain ⟨o38, ho, hf⟩ := ta_some hf
  have hm1 := (mbT_X3_readTry_41 hGm) _ _ _ _ _ _ hf
  have hb1 := nz_le hm1 hRc
  have hq1 := (mfT_X3_emit _ _ _ _ _ _ ho)
  refine ta_callIv kc_3 CX hL hR hS (As := [.int 16, .int 0, .int 0]) (rest := []) hk_x0_4 (MT_X3_emit l x hlt N _ _ _ _ _ _ _ ho) cv_X3_144 ⟨by omega, by omega⟩ rfl (Nat.le_of_ble_eq_true rfl) hl.1 hq1 hb1 rfl dX3_readTry_38 (fun H locs hR hS => ?_)
  exact (wbT_X3_readTry_41 CTX hRm hRc hG hB0 hGm) _ _ _ _ _ _ _ _ _ hf (hL.tr hq1) hR hS (lv_sub hl [0, 1, 2] rfl)
def bT_X3_readTry_24 (N : Nat) (G : Nat → Nat → Int32 → Int32 → Ka → Cm → Option ((Ka × Cm) ⊕ (Ka × Cm))) (x0 : Nat) (x1 : Int32) (x2 : Int32) (K : Ka) (M : Cm) : Option ((Ka × Cm) ⊕ (Ka × Cm)) := gd (kd K x0 == 4) (ta (fT_X3_emit N x0 19 0 0 K M) fun o29 => (bT_X3_readTry_32 N G) x0 x1 x2 o29.1 o29.2.1 o29.2.2)
theorem mbT_X3_readTry_24 {o : (Ka × Cm) ⊕ (Ka × Cm)} {N : Nat} {G : Nat → Nat → Int32 → Int32 → Ka → Cm → Option ((Ka × Cm) ⊕ (Ka × Cm))} (hGm : GMono G) (x0 : Nat) (x1 : Int32) (x2 : Int32) (K : Ka) (M : Cm) (hf : bT_X3_readTry_24 N G x0 x1 x2 K M = some o) : KLe K (oK sV o) := by
  unfold bT_X3_readTry_24 at hf
  obtain ⟨-, hf⟩ := gd_some hf
  obtain ⟨o29, ho, hf⟩ := ta_some hf
  exact KLe.tr (mfT_X3_emit _ _ _ _ _ _ ho) ((mbT_X3_readTry_32 hGm) _ _ _ _ _ _ hf)
set_option maxRecDepth 100000 in
set_option maxHeartbeats 4000000 in
theorem wbT_X3_readTry_24 {p : Program} {l : Launch} {e : Env} {R : Room} {s : State} {m : MethodId} {args : Array Value} {below : List Frame} {meth : Method} {c : Code} {x : Xc} {K0 : Ka} {o : (Ka × Cm) ⊕ (Ka × Cm)} {fr lo : Nat} {N : Nat} {G : Nat → Nat → Int32 → Int32 → Ka → Cm → Option ((Ka × Cm) ⊕ (Ka × Cm))} (CTX : CT p l s m args meth c x K0 RX3 "readTry" cX3_readTry 4 none) (hRm : (fr + 1) ≤ R.frames ∧ (lo + 60) ≤ R.locals) (hRc : nz sV K0 o ≤ R.cells ∧ nu sV K0 o ≤ R.slots) (hG : GMet l x G fr lo) (hB0 : 10 ≤ fr ∧ 183 ≤ lo) (hGm : GMono G) (x0 : Nat) (x1 : Int32) (x2 : Int32) (K : Ka) (M : Cm) (H : Heap) (locs : List Loc) (ls : Array Slot) (hf : bT_X3_readTry_24 N G x0 x1 x2 K M = some o) (hL : KLe K0 K) (hR : RC x K M H) (hS : va_S (AC K0) s.heap H locs) (hl : lv_has ls 4 [(0, .ref x0), (1, .int x1), (2, .int x2)]) : W p l e R s m args below meth c H locs (kz K - kz K0) (ku K - ku K0) (TQ sV (aQV x K0) (zQV K0) "java/lang/IllegalStateException" x K0 below args s o) (F0 m 24 ls []) := by
  obtain ⟨CX, hno, hlt, hmn⟩ := id CTX
  obtain ⟨hx, hb, hml, hown, hts, hE, hB, hr, hlk⟩ := id CX
  have hcs := nz_le (mbT_X3_readTry_24 hGm x0 x1 x2 K M hf) hRc
  unfold bT_X3_readTry_24 at hf
  refine lv_aload_n hx hb dX3_readTry_24 rfl (lv_at hl 0 rfl) ?_
  refine lv_bipush (v := 19) hx hb dX3_readTry_25 (by decide) ?_
  refine lv_iconst (v := 0) hx hb dX3_readTry_27 (by decide) ?_
  refine lv_iconst (v := 0) hx hb dX3_readTry_28 (by decide) ?_
  obtain ⟨hk_x0_4, hf⟩ := gd_some hf
  obtain ⟨o29, ho, hf⟩ := ta_some hf
  have hm1 := (mbT_X3_readTry_32 hGm) _ _ _ _ _ _ hf
  have hb1 := nz_le hm1 hRc
  have hq1 := (mfT_X3_emit _ _ _ _ _ _ ho)
  refine ta_callIv kc_3 CX hL hR hS (As := [.int 19, .int 0, .int 0]) (rest := []) hk_x0_4 (MT_X3_emit l x hlt N _ _ _ _ _ _ _ ho) cv_X3_144 ⟨by omega, by omega⟩ rfl (Nat.le_of_ble_eq_true rfl) hl.1 hq1 hb1 rfl dX3_readTry_29 (fun H locs hR hS => ?_)
  exact (wbT_X3_readTry_32 CTX hRm hRc hG hB0 hGm) _ _ _ _ _ _ _ _ _ hf (hL.tr hq1) hR hS (lv_sub hl [0, 1, 2] rfl)
def bT_X3_readTry_18 (N : Nat) (G : Nat → Nat → Int32 → Int32 → Ka → Cm → Option ((Ka × Cm) ⊕ (Ka × Cm))) (x0 : Nat) (x1 : Int32) (s0 : Int32) (K : Ka) (M : Cm) : Option ((Ka × Cm) ⊕ (Ka × Cm)) := gd (kd K x0 == 4) (tb (G 0 x0 x1 0 K M) fun o21 => (bT_X3_readTry_24 N G) x0 x1 s0 o21.1 o21.2)
theorem mbT_X3_readTry_18 {o : (Ka × Cm) ⊕ (Ka × Cm)} {N : Nat} {G : Nat → Nat → Int32 → Int32 → Ka → Cm → Option ((Ka × Cm) ⊕ (Ka × Cm))} (hGm : GMono G) (x0 : Nat) (x1 : Int32) (s0 : Int32) (K : Ka) (M : Cm) (hf : bT_X3_readTry_18 N G x0 x1 s0 K M = some o) : KLe K (oK sV o) := by
  unfold bT_X3_readTry_18 at hf
  obtain ⟨-, hf⟩ := gd_some hf
  rcases tb_some hf with ⟨o21, ho, hf⟩ | ⟨q, ho, rfl⟩
  · exact KLe.tr (hGm _ _ _ _ _ _ _ ho) ((mbT_X3_readTry_24 hGm) _ _ _ _ _ hf)
  · exact (hGm _ _ _ _ _ _ _ ho)
set_option maxRecDepth 100000 in
set_option maxHeartbeats 4000000 in
theorem wbT_X3_readTry_18 {p : Program} {l : Launch} {e : Env} {R : Room} {s : State} {m : MethodId} {args : Array Value} {below : List Frame} {meth : Method} {c : Code} {x : Xc} {K0 : Ka} {o : (Ka × Cm) ⊕ (Ka × Cm)} {fr lo : Nat} {N : Nat} {G : Nat → Nat → Int32 → Int32 → Ka → Cm → Option ((Ka × Cm) ⊕ (Ka × Cm))} (CTX : CT p l s m args meth c x K0 RX3 "readTry" cX3_readTry 4 none) (hRm : (fr + 1) ≤ R.frames ∧ (lo + 60) ≤ R.locals) (hRc : nz sV K0 o ≤ R.cells ∧ nu sV K0 o ≤ R.slots) (hG : GMet l x G fr lo) (hB0 : 10 ≤ fr ∧ 183 ≤ lo) (hGm : GMono G) (x0 : Nat) (x1 : Int32) (s0 : Int32) (K : Ka) (M : Cm) (H : Heap) (locs : List Loc) (ls : Array Slot) (hf : bT_X3_readTry_18 N G x0 x1 s0 K M = some o) (hL : KLe K0 K) (hR : RC x K M H) (hS : va_S (AC K0) s.heap H locs) (hl : lv_has ls 4 [(0, .ref x0), (1, .int x1)]) : W p l e R s m args below meth c H locs (kz K - kz K0) (ku K - ku K0) (TQ sV (aQV x K0) (zQV K0) "java/lang/IllegalStateException" x K0 below args s o) (F0 m 18 ls [.int s0]) := by
  obtain ⟨CX, hno, hlt, hmn⟩ := id CTX
  obtain ⟨hx, hb, hml, hown, hts, hE, hB, hr, hlk⟩ := id CX
  have hcs := nz_le (mbT_X3_readTry_18 hGm x0 x1 s0 K M hf) hRc
  unfold bT_X3_readTry_18 at hf
  refine lv_istore_n (lv' := [(2, .int s0), (0, .ref x0), (1, .int x1)]) hx hb dX3_readTry_18 rfl hl (by decide) rfl (fun ls hl => ?_)
  refine lv_aload_n hx hb dX3_readTry_19 rfl (lv_at hl 1 rfl) ?_
  refine lv_iload_n hx hb dX3_readTry_20 rfl (lv_at hl 2 rfl) ?_
  obtain ⟨hk_x0_4, hf⟩ := gd_some hf
  rcases tb_some hf with ⟨o21, ho, hf⟩ | ⟨q, ho, rfl⟩
  · have hm1 := (mbT_X3_readTry_24 hGm) _ _ _ _ _ hf
    have hb1 := nz_le hm1 hRc
    have hq1 := (hGm _ _ _ _ _ _ _ ho)
    refine ta_callVv kc_3 CX hL hR hS (As := [.int x1]) (rest := []) hk_x0_4 (hG.1 _ _ _ _ _ ho) cv_X3_141 ⟨by omega, by omega⟩ rfl (Nat.le_of_ble_eq_true rfl) hl.1 hq1 hb1 rfl dX3_readTry_21 (fun H locs hR hS => ?_)
    exact (wbT_X3_readTry_24 CTX hRm hRc hG hB0 hGm) _ _ _ _ _ _ _ _ hf (hL.tr hq1) hR hS (lv_sub hl [1, 2, 0] rfl)
  · exact tx_callv kc_3 CTX hL hR hS (As := [.int x1]) (rest := []) hk_x0_4 (hG.1 _ _ _ _ _ ho) cv_X3_141 ⟨by omega, by omega⟩ rfl (Nat.le_of_ble_eq_true rfl) hl.1 (hGm _ _ _ _ _ _ _ ho) hRc rfl dX3_readTry_21
def fT_X3_readTry (N : Nat) (G : Nat → Nat → Int32 → Int32 → Ka → Cm → Option ((Ka × Cm) ⊕ (Ka × Cm))) (x0 : Nat) (x1 : Int32) (K : Ka) (M : Cm) : Option ((Ka × Cm) ⊕ (Ka × Cm)) := gd (kd K x0 == 4) ((fC_X3_moveTo N K x0 ((cI M x0 2) + 1) M).bind fun o7 => ta (fT_X3_emit N x0 18 0 0 K o7) fun o15 => (bT_X3_readTry_18 N G) x0 x1 o15.1 o15.2.1 o15.2.2)
theorem mfT_X3_readTry {o : (Ka × Cm) ⊕ (Ka × Cm)} {N : Nat} {G : Nat → Nat → Int32 → Int32 → Ka → Cm → Option ((Ka × Cm) ⊕ (Ka × Cm))} (hGm : GMono G) (x0 : Nat) (x1 : Int32) (K : Ka) (M : Cm) (hf : fT_X3_readTry N G x0 x1 K M = some o) : KLe K (oK sV o) := by
  unfold fT_X3_readTry at hf
  obtain ⟨-, hf⟩ := gd_some hf
  obtain ⟨o7, -, hf⟩ := bnd_some hf
  obtain ⟨o15, ho, hf⟩ := ta_some hf
  exact KLe.tr (mfT_X3_emit _ _ _ _ _ _ ho) ((mbT_X3_readTry_18 hGm) _ _ _ _ _ hf)
set_option maxRecDepth 100000 in
set_option maxHeartbeats 4000000 in
theorem wfT_X3_readTry {p : Program} {l : Launch} {e : Env} {R : Room} {s : State} {m : MethodId} {args : Array Value} {below : List Frame} {meth : Method} {c : Code} {x : Xc} {K0 : Ka} {o : (Ka × Cm) ⊕ (Ka × Cm)} {fr lo : Nat} {N : Nat} {G : Nat → Nat → Int32 → Int32 → Ka → Cm → Option ((Ka × Cm) ⊕ (Ka × Cm))} (CTX : CT p l s m args meth c x K0 RX3 "readTry" cX3_readTry 4 none) (hRm : (fr + 1) ≤ R.frames ∧ (lo + 60) ≤ R.locals) (hRc : nz sV K0 o ≤ R.cells ∧ nu sV K0 o ≤ R.slots) (hG : GMet l x G fr lo) (hB0 : 10 ≤ fr ∧ 183 ≤ lo) (hGm : GMono G) (x0 : Nat) (x1 : Int32) (K : Ka) (M : Cm) (H : Heap) (locs : List Loc) (ls : Array Slot) (hf : fT_X3_readTry N G x0 x1 K M = some o) (hL : KLe K0 K) (hR : RC x K M H) (hS : va_S (AC K0) s.heap H locs) (hl : lv_has ls 4 [(0, .ref x0), (1, .int x1)]) : W p l e R s m args below meth c H locs (kz K - kz K0) (ku K - ku K0) (TQ sV (aQV x K0) (zQV K0) "java/lang/IllegalStateException" x K0 below args s o) (F0 m 0 ls []) := by
  obtain ⟨CX, hno, hlt, hmn⟩ := id CTX
  obtain ⟨hx, hb, hml, hown, hts, hE, hB, hr, hlk⟩ := id CX
  have hcs := nz_le (mfT_X3_readTry hGm x0 x1 K M hf) hRc
  unfold fT_X3_readTry at hf
  refine lv_aload_n hx hb dX3_readTry_0 rfl (lv_at hl 0 rfl) ?_
  refine lv_aload_n hx hb dX3_readTry_1 rfl (lv_at hl 0 rfl) ?_
  obtain ⟨hk_x0_4, hf⟩ := gd_some hf
  refine cr_getI kc_3 CX hR fa_X3_15 rfl hk_x0_4 dX3_readTry_2 ?_
  refine lv_iconst (v := 1) hx hb dX3_readTry_5 (by decide) ?_
  refine lv_iadd hx hb dX3_readTry_6 ?_
  obtain ⟨o7, ho7, hf⟩ := bnd_some hf
  refine cr_callVv kc_3 CX hR hL hS (As := [.int ((cI M x0 2) + 1)]) (rest := []) hk_x0_4 (MC_X3_moveTo l x N K x0 ((cI M x0 2) + 1) M o7 ho7) cv_X3_42 ⟨by omega, by omega⟩ rfl rfl (Nat.le_of_ble_eq_true rfl) hl.1 dX3_readTry_7 hcs (fun H locs hR hS => ?_)
  refine lv_aload_n hx hb dX3_readTry_10 rfl (lv_at hl 0 rfl) ?_
  refine lv_bipush (v := 18) hx hb dX3_readTry_11 (by decide) ?_
  refine lv_iconst (v := 0) hx hb dX3_readTry_13 (by decide) ?_
  refine lv_iconst (v := 0) hx hb dX3_readTry_14 (by decide) ?_
  obtain ⟨o15, ho, hf⟩ := ta_some hf
  have hm1 := (mbT_X3_readTry_18 hGm) _ _ _ _ _ hf
  have hb1 := nz_le hm1 hRc
  have hq1 := (mfT_X3_emit _ _ _ _ _ _ ho)
  refine ta_callIv kc_3 CX hL hR hS (As := [.int 18, .int 0, .int 0]) (rest := []) hk_x0_4 (MT_X3_emit l x hlt N _ _ _ _ _ _ _ ho) cv_X3_144 ⟨by omega, by omega⟩ rfl (Nat.le_of_ble_eq_true rfl) hl.1 hq1 hb1 rfl dX3_readTry_15 (fun H locs hR hS => ?_)
  exact (wbT_X3_readTry_18 CTX hRm hRc hG hB0 hGm) _ _ _ _ _ _ _ _ hf (hL.tr hq1) hR hS (lv_sub hl [0, 1] rfl)
def bT_X3_readExpression_10 (N : Nat) (G : Nat → Nat → Int32 → Int32 → Ka → Cm → Option ((Ka × Cm) ⊕ (Ka × Cm))) (x0 : Nat) (K : Ka) (M : Cm) : Option ((Ka × Cm) ⊕ (Ka × Cm)) := some (.inl (K, M))
theorem mbT_X3_readExpression_10 {o : (Ka × Cm) ⊕ (Ka × Cm)} {N : Nat} {G : Nat → Nat → Int32 → Int32 → Ka → Cm → Option ((Ka × Cm) ⊕ (Ka × Cm))} (hGm : GMono G) (x0 : Nat) (K : Ka) (M : Cm) (hf : bT_X3_readExpression_10 N G x0 K M = some o) : KLe K (oK sV o) := by
  unfold bT_X3_readExpression_10 at hf
  cases hf
  exact KLe.rf _
set_option maxRecDepth 100000 in
set_option maxHeartbeats 4000000 in
theorem wbT_X3_readExpression_10 {p : Program} {l : Launch} {e : Env} {R : Room} {s : State} {m : MethodId} {args : Array Value} {below : List Frame} {meth : Method} {c : Code} {x : Xc} {K0 : Ka} {o : (Ka × Cm) ⊕ (Ka × Cm)} {fr lo : Nat} {N : Nat} {G : Nat → Nat → Int32 → Int32 → Ka → Cm → Option ((Ka × Cm) ⊕ (Ka × Cm))} (CTX : CT p l s m args meth c x K0 RX3 "readExpression" cX3_readExpression 6 none) (hRm : (fr + 1) ≤ R.frames ∧ (lo + 60) ≤ R.locals) (hRc : nz sV K0 o ≤ R.cells ∧ nu sV K0 o ≤ R.slots) (hG : GMet l x G fr lo) (hB0 : 10 ≤ fr ∧ 183 ≤ lo) (hGm : GMono G) (x0 : Nat) (K : Ka) (M : Cm) (H : Heap) (locs : List Loc) (ls : Array Slot) (hf : bT_X3_readExpression_10 N G x0 K M = some o) (hL : KLe K0 K) (hR : RC x K M H) (hS : va_S (AC K0) s.heap H locs) (hl : lv_has ls 6 [(0, .ref x0)]) : W p l e R s m args below meth c H locs (kz K - kz K0) (ku K - ku K0) (TQ sV (aQV x K0) (zQV K0) "java/lang/IllegalStateException" x K0 below args s o) (F0 m 10 ls []) := by
  obtain ⟨CX, hno, hlt, hmn⟩ := id CTX
  obtain ⟨hx, hb, hml, hown, hts, hE, hB, hr, hlk⟩ := id CX
  have hcs := nz_le (mbT_X3_readExpression_10 hGm x0 K M hf) hRc
  unfold bT_X3_readExpression_10 at hf
  exact tr_vret CX hR hS hf dX3_readExpression_10
def bT_X3_readExpression_87 (N : Nat) (G : Nat → Nat → Int32 → Int32 → Ka → Cm → Option ((Ka × Cm) ⊕ (Ka × Cm))) (r38 : Nat → Int32 → Int32 → Int32 → Int32 → Ka → Cm → Option ((Ka × Cm) ⊕ (Ka × Cm))) (k94 : Nat → Ka → Cm → Option ((Ka × Cm) ⊕ (Ka × Cm))) (x0 : Nat) (x1 : Int32) (x2 : Int32) (x3 : Int32) (x4 : Int32) (s0 : Int32) (K : Ka) (M : Cm) : Option ((Ka × Cm) ⊕ (Ka × Cm)) := r38 x0 x1 x2 x3 (x4 + 1) K M
theorem mbT_X3_readExpression_87 {o : (Ka × Cm) ⊕ (Ka × Cm)} {N : Nat} {G : Nat → Nat → Int32 → Int32 → Ka → Cm → Option ((Ka × Cm) ⊕ (Ka × Cm))} {r38 : Nat → Int32 → Int32 → Int32 → Int32 → Ka → Cm → Option ((Ka × Cm) ⊕ (Ka × Cm))} {k94 : Nat → Ka → Cm → Option ((Ka × Cm) ⊕ (Ka × Cm))} (hGm : GMono G) (mr38 : ∀ (x0 : Nat) (x1 : Int32) (x2 : Int32) (x3 : Int32) (x4 : Int32) (K : Ka) (M : Cm) , r38 x0 x1 x2 x3 x4 K M = some o → KLe K (oK sV o)) (mk94 : ∀ (x0 : Nat) (K : Ka) (M : Cm) , k94 x0 K M = some o → KLe K (oK sV o)) (x0 : Nat) (x1 : Int32) (x2 : Int32) (x3 : Int32) (x4 : Int32) (s0 : Int32) (K : Ka) (M : Cm) (hf : bT_X3_readExpression_87 N G r38 k94 x0 x1 x2 x3 x4 s0 K M = some o) : KLe K (oK sV o) := by
  unfold bT_X3_readExpression_87 at hf
  exact mr38 _ _ _ _ _ _ _ hf
set_option maxRecDepth 100000 in
set_option maxHeartbeats 4000000 in
theorem wbT_X3_readExpression_87 {p : Program} {l : Launch} {e : Env} {R : Room} {s : State} {m : MethodId} {args : Array Value} {below : List Frame} {meth : Method} {c : Code} {x : Xc} {K0 : Ka} {o : (Ka × Cm) ⊕ (Ka × Cm)} {fr lo : Nat} {N : Nat} {G : Nat → Nat → Int32 → Int32 → Ka → Cm → Option ((Ka × Cm) ⊕ (Ka × Cm))} {r38 : Nat → Int32 → Int32 → Int32 → Int32 → Ka → Cm → Option ((Ka × Cm) ⊕ (Ka × Cm))} {k94 : Nat → Ka → Cm → Option ((Ka × Cm) ⊕ (Ka × Cm))} (CTX : CT p l s m args meth c x K0 RX3 "readExpression" cX3_readExpression 6 none) (hRm : (fr + 1) ≤ R.frames ∧ (lo + 60) ≤ R.locals) (hRc : nz sV K0 o ≤ R.cells ∧ nu sV K0 o ≤ R.slots) (hG : GMet l x G fr lo) (hB0 : 10 ≤ fr ∧ 183 ≤ lo) (hGm : GMono G) (mr38 : ∀ (x0 : Nat) (x1 : Int32) (x2 : Int32) (x3 : Int32) (x4 : Int32) (K : Ka) (M : Cm) , r38 x0 x1 x2 x3 x4 K M = some o → KLe K (oK sV o)) (mk94 : ∀ (x0 : Nat) (K : Ka) (M : Cm) , k94 x0 K M = some o → KLe K (oK sV o)) (hr38 : ∀ (x0 : Nat) (x1 : Int32) (x2 : Int32) (x3 : Int32) (x4 : Int32) (K : Ka) (M : Cm) (H : Heap) (locs : List Loc) (ls : Array Slot), r38 x0 x1 x2 x3 x4 K M = some o → KLe K0 K → RC x K M H → va_S (AC K0) s.heap H locs → lv_has ls 6 [(0, .ref x0), (1, .int x1), (2, .int x2), (3, .int x3), (4, .int x4)] → W p l e R s m args below meth c H locs (kz K - kz K0) (ku K - ku K0) (TQ sV (aQV x K0) (zQV K0) "java/lang/IllegalStateException" x K0 below args s o) (F0 m 38 ls [])) (hk94 : ∀ (x0 : Nat) (K : Ka) (M : Cm) (H : Heap) (locs : List Loc) (ls : Array Slot), k94 x0 K M = some o → KLe K0 K → RC x K M H → va_S (AC K0) s.heap H locs → lv_has ls 6 [(0, .ref x0)] → W p l e R s m args below meth c H locs (kz K - kz K0) (ku K - ku K0) (TQ sV (aQV x K0) (zQV K0) "java/lang/IllegalStateException" x K0 below args s o) (F0 m 94 ls [])) (x0 : Nat) (x1 : Int32) (x2 : Int32) (x3 : Int32) (x4 : Int32) (s0 : Int32) (K : Ka) (M : Cm) (H : Heap) (locs : List Loc) (ls : Array Slot) (hf : bT_X3_readExpression_87 N G r38 k94 x0 x1 x2 x3 x4 s0 K M = some o) (hL : KLe K0 K) (hR : RC x K M H) (hS : va_S (AC K0) s.heap H locs) (hl : lv_has ls 6 [(0, .ref x0), (1, .int x1), (2, .int x2), (3, .int x3), (4, .int x4)]) : W p l e R s m args below meth c H locs (kz K - kz K0) (ku K - ku K0) (TQ sV (aQV x K0) (zQV K0) "java/lang/IllegalStateException" x K0 below args s o) (F0 m 87 ls [.int s0]) := by
  obtain ⟨CX, hno, hlt, hmn⟩ := id CTX
  obtain ⟨hx, hb, hml, hown, hts, hE, hB, hr, hlk⟩ := id CX
  have hcs := nz_le (mbT_X3_readExpression_87 hGm mr38 mk94 x0 x1 x2 x3 x4 s0 K M hf) hRc
  unfold bT_X3_readExpression_87 at hf
  refine lv_pop hx hb dX3_readExpression_87 rfl ?_
  refine lv_iinc (v := x4 + 1) (lv' := [(4, .int (x4 + 1)), (0, .ref x0), (1, .int x1), (2, .int x2), (3, .int x3)]) hx hb dX3_readExpression_88 hl (k := 4) rfl rfl (by decide) rfl (fun ls hl => ?_)
  refine lv_goto (tgt := 38) hx hb dX3_readExpression_91 (by decide) ?_
  exact hr38 _ _ _ _ _ _ _ _ _ _ hf hL hR hS (lv_sub hl [1, 2, 3, 4, 0] rfl)
def bT_X3_readExpression_79 (N : Nat) (G : Nat → Nat → Int32 → Int32 → Ka → Cm → Option ((Ka × Cm) ⊕ (Ka × Cm))) (r38 : Nat → Int32 → Int32 → Int32 → Int32 → Ka → Cm → Option ((Ka × Cm) ⊕ (Ka × Cm))) (k94 : Nat → Ka → Cm → Option ((Ka × Cm) ⊕ (Ka × Cm))) (x0 : Nat) (x1 : Int32) (x2 : Int32) (x3 : Int32) (x4 : Int32) (x5 : Int32) (K : Ka) (M : Cm) : Option ((Ka × Cm) ⊕ (Ka × Cm)) := gd (kd K x0 == 4) (ta (fT_X3_emit N x0 x5 0 0 K M) fun o84 => (bT_X3_readExpression_87 N G r38 k94) x0 x1 x2 x3 x4 o84.1 o84.2.1 o84.2.2)
theorem mbT_X3_readExpression_79 {o : (Ka × Cm) ⊕ (Ka × Cm)} {N : Nat} {G : Nat → Nat → Int32 → Int32 → Ka → Cm → Option ((Ka × Cm) ⊕ (Ka × Cm))} {r38 : Nat → Int32 → Int32 → Int32 → Int32 → Ka → Cm → Option ((Ka × Cm) ⊕ (Ka × Cm))} {k94 : Nat → Ka → Cm → Option ((Ka × Cm) ⊕ (Ka × Cm))} (hGm : GMono G) (mr38 : ∀ (x0 : Nat) (x1 : Int32) (x2 : Int32) (x3 : Int32) (x4 : Int32) (K : Ka) (M : Cm) , r38 x0 x1 x2 x3 x4 K M = some o → KLe K (oK sV o)) (mk94 : ∀ (x0 : Nat) (K : Ka) (M : Cm) , k94 x0 K M = some o → KLe K (oK sV o)) (x0 : Nat) (x1 : Int32) (x2 : Int32) (x3 : Int32) (x4 : Int32) (x5 : Int32) (K : Ka) (M : Cm) (hf : bT_X3_readExpression_79 N G r38 k94 x0 x1 x2 x3 x4 x5 K M = some o) : KLe K (oK sV o) := by
  unfold bT_X3_readExpression_79 at hf
  obtain ⟨-, hf⟩ := gd_some hf
  obtain ⟨o84, ho, hf⟩ := ta_some hf
  exact KLe.tr (mfT_X3_emit _ _ _ _ _ _ ho) ((mbT_X3_readExpression_87 hGm mr38 mk94) _ _ _ _ _ _ _ _ hf)
set_option maxRecDepth 100000 in
set_option maxHeartbeats 4000000 in
theorem wbT_X3_readExpression_79 {p : Program} {l : Launch} {e : Env} {R : Room} {s : State} {m : MethodId} {args : Array Value} {below : List Frame} {meth : Method} {c : Code} {x : Xc} {K0 : Ka} {o : (Ka × Cm) ⊕ (Ka × Cm)} {fr lo : Nat} {N : Nat} {G : Nat → Nat → Int32 → Int32 → Ka → Cm → Option ((Ka × Cm) ⊕ (Ka × Cm))} {r38 : Nat → Int32 → Int32 → Int32 → Int32 → Ka → Cm → Option ((Ka × Cm) ⊕ (Ka × Cm))} {k94 : Nat → Ka → Cm → Option ((Ka × Cm) ⊕ (Ka × Cm))} (CTX : CT p l s m args meth c x K0 RX3 "readExpression" cX3_readExpression 6 none) (hRm : (fr + 1) ≤ R.frames ∧ (lo + 60) ≤ R.locals) (hRc : nz sV K0 o ≤ R.cells ∧ nu sV K0 o ≤ R.slots) (hG : GMet l x G fr lo) (hB0 : 10 ≤ fr ∧ 183 ≤ lo) (hGm : GMono G) (mr38 : ∀ (x0 : Nat) (x1 : Int32) (x2 : Int32) (x3 : Int32) (x4 : Int32) (K : Ka) (M : Cm) , r38 x0 x1 x2 x3 x4 K M = some o → KLe K (oK sV o)) (mk94 : ∀ (x0 : Nat) (K : Ka) (M : Cm) , k94 x0 K M = some o → KLe K (oK sV o)) (hr38 : ∀ (x0 : Nat) (x1 : Int32) (x2 : Int32) (x3 : Int32) (x4 : Int32) (K : Ka) (M : Cm) (H : Heap) (locs : List Loc) (ls : Array Slot), r38 x0 x1 x2 x3 x4 K M = some o → KLe K0 K → RC x K M H → va_S (AC K0) s.heap H locs → lv_has ls 6 [(0, .ref x0), (1, .int x1), (2, .int x2), (3, .int x3), (4, .int x4)] → W p l e R s m args below meth c H locs (kz K - kz K0) (ku K - ku K0) (TQ sV (aQV x K0) (zQV K0) "java/lang/IllegalStateException" x K0 below args s o) (F0 m 38 ls [])) (hk94 : ∀ (x0 : Nat) (K : Ka) (M : Cm) (H : Heap) (locs : List Loc) (ls : Array Slot), k94 x0 K M = some o → KLe K0 K → RC x K M H → va_S (AC K0) s.heap H locs → lv_has ls 6 [(0, .ref x0)] → W p l e R s m args below meth c H locs (kz K - kz K0) (ku K - ku K0) (TQ sV (aQV x K0) (zQV K0) "java/lang/IllegalStateException" x K0 below args s o) (F0 m 94 ls [])) (x0 : Nat) (x1 : Int32) (x2 : Int32) (x3 : Int32) (x4 : Int32) (x5 : Int32) (K : Ka) (M : Cm) (H : Heap) (locs : List Loc) (ls : Array Slot) (hf : bT_X3_readExpression_79 N G r38 k94 x0 x1 x2 x3 x4 x5 K M = some o) (hL : KLe K0 K) (hR : RC x K M H) (hS : va_S (AC K0) s.heap H locs) (hl : lv_has ls 6 [(0, .ref x0), (1, .int x1), (2, .int x2), (3, .int x3), (4, .int x4), (5, .int x5)]) : W p l e R s m args below meth c H locs (kz K - kz K0) (ku K - ku K0) (TQ sV (aQV x K0) (zQV K0) "java/lang/IllegalStateException" x K0 below args s o) (F0 m 79 ls []) := by
  obtain ⟨CX, hno, hlt, hmn⟩ := id CTX
  obtain ⟨hx, hb, hml, hown, hts, hE, hB, hr, hlk⟩ := id CX
  have hcs := nz_le (mbT_X3_readExpression_79 hGm mr38 mk94 x0 x1 x2 x3 x4 x5 K M hf) hRc
  unfold bT_X3_readExpression_79 at hf
  refine lv_aload_n hx hb dX3_readExpression_79 rfl (lv_at hl 0 rfl) ?_
  refine lv_iload hx hb dX3_readExpression_80 (lv_at hl 5 rfl) ?_
  refine lv_iconst (v := 0) hx hb dX3_readExpression_82 (by decide) ?_
  refine lv_iconst (v := 0) hx hb dX3_readExpression_83 (by decide) ?_
  obtain ⟨hk_x0_4, hf⟩ := gd_some hf
  obtain ⟨o84, ho, hf⟩ := ta_some hf
  have hm1 := (mbT_X3_readExpression_87 hGm mr38 mk94) _ _ _ _ _ _ _ _ hf
  have hb1 := nz_le hm1 hRc
  have hq1 := (mfT_X3_emit _ _ _ _ _ _ ho)
  refine ta_callIv kc_3 CX hL hR hS (As := [.int x5, .int 0, .int 0]) (rest := []) hk_x0_4 (MT_X3_emit l x hlt N _ _ _ _ _ _ _ ho) cv_X3_144 ⟨by omega, by omega⟩ rfl (Nat.le_of_ble_eq_true rfl) hl.1 hq1 hb1 rfl dX3_readExpression_84 (fun H locs hR hS => ?_)
  exact (wbT_X3_readExpression_87 CTX hRm hRc hG hB0 hGm mr38 mk94 hr38 hk94) _ _ _ _ _ _ _ _ _ _ _ hf (hL.tr hq1) hR hS (lv_sub hl [0, 1, 2, 3, 4] rfl)
def lT_X3_readExpression_38 (N : Nat) (G : Nat → Nat → Int32 → Int32 → Ka → Cm → Option ((Ka × Cm) ⊕ (Ka × Cm))) (k94 : Nat → Ka → Cm → Option ((Ka × Cm) ⊕ (Ka × Cm))) : Nat → Nat → Int32 → Int32 → Int32 → Int32 → Ka → Cm → Option ((Ka × Cm) ⊕ (Ka × Cm))
  | 0, _, _, _, _, _, _, _ => none
  | n + 1, x0, x1, x2, x3, x4, K, M => if x3 ≤ x4 then (k94 x0 K M) else (gd (kd K x0 == 4) ((fC_X3_isJoint N K x1 (cI M x0 3) M).bind fun o49 => if o49.1 = 0 then (k94 x0 K o49.2) else ((fC_X3_moveTo N K x0 ((cI o49.2 x0 2) + 1) o49.2).bind fun o68 => tb (G 5 x0 (x1 + 1) x2 K o68) fun o76 => (bT_X3_readExpression_79 N G (lT_X3_readExpression_38 N G k94 n) k94) x0 x1 x2 x3 x4 (cI o49.2 x0 3) o76.1 o76.2)))
theorem mlT_X3_readExpression_38 {o : (Ka × Cm) ⊕ (Ka × Cm)} {N : Nat} {G : Nat → Nat → Int32 → Int32 → Ka → Cm → Option ((Ka × Cm) ⊕ (Ka × Cm))} {k94 : Nat → Ka → Cm → Option ((Ka × Cm) ⊕ (Ka × Cm))} (hGm : GMono G) (mk94 : ∀ (x0 : Nat) (K : Ka) (M : Cm) , k94 x0 K M = some o → KLe K (oK sV o)) : ∀ (n : Nat) (x0 : Nat) (x1 : Int32) (x2 : Int32) (x3 : Int32) (x4 : Int32) (K : Ka) (M : Cm), lT_X3_readExpression_38 N G k94 n x0 x1 x2 x3 x4 K M = some o → KLe K (oK sV o) := by
  intro n
  induction n with
  | zero => intro x0 x1 x2 x3 x4 K M hf; cases hf
  | succ n ih =>
    intro x0 x1 x2 x3 x4 K M hf
    rw [lT_X3_readExpression_38] at hf
    by_cases hc : x3 ≤ x4
    · rw [if_pos hc] at hf
      exact mk94 _ _ _ hf
    · rw [if_neg hc] at hf
      obtain ⟨-, hf⟩ := gd_some hf
      obtain ⟨o49, -, hf⟩ := bnd_some hf
      by_cases hc : o49.1 = 0
      · rw [if_pos hc] at hf
        exact mk94 _ _ _ hf
      · rw [if_neg hc] at hf
        obtain ⟨o68, -, hf⟩ := bnd_some hf
        rcases tb_some hf with ⟨o76, ho, hf⟩ | ⟨q, ho, rfl⟩
        · exact KLe.tr (hGm _ _ _ _ _ _ _ ho) ((mbT_X3_readExpression_79 hGm ih mk94) _ _ _ _ _ _ _ _ hf)
        · exact (hGm _ _ _ _ _ _ _ ho)
set_option maxRecDepth 100000 in
set_option maxHeartbeats 4000000 in
theorem wlT_X3_readExpression_38 {p : Program} {l : Launch} {e : Env} {R : Room} {s : State} {m : MethodId} {args : Array Value} {below : List Frame} {meth : Method} {c : Code} {x : Xc} {K0 : Ka} {o : (Ka × Cm) ⊕ (Ka × Cm)} {fr lo : Nat} {N : Nat} {G : Nat → Nat → Int32 → Int32 → Ka → Cm → Option ((Ka × Cm) ⊕ (Ka × Cm))} {k94 : Nat → Ka → Cm → Option ((Ka × Cm) ⊕ (Ka × Cm))} (CTX : CT p l s m args meth c x K0 RX3 "readExpression" cX3_readExpression 6 none) (hRm : (fr + 1) ≤ R.frames ∧ (lo + 60) ≤ R.locals) (hRc : nz sV K0 o ≤ R.cells ∧ nu sV K0 o ≤ R.slots) (hG : GMet l x G fr lo) (hB0 : 10 ≤ fr ∧ 183 ≤ lo) (hGm : GMono G) (mk94 : ∀ (x0 : Nat) (K : Ka) (M : Cm) , k94 x0 K M = some o → KLe K (oK sV o)) (hk94 : ∀ (x0 : Nat) (K : Ka) (M : Cm) (H : Heap) (locs : List Loc) (ls : Array Slot), k94 x0 K M = some o → KLe K0 K → RC x K M H → va_S (AC K0) s.heap H locs → lv_has ls 6 [(0, .ref x0)] → W p l e R s m args below meth c H locs (kz K - kz K0) (ku K - ku K0) (TQ sV (aQV x K0) (zQV K0) "java/lang/IllegalStateException" x K0 below args s o) (F0 m 94 ls [])) : ∀ (n : Nat) (x0 : Nat) (x1 : Int32) (x2 : Int32) (x3 : Int32) (x4 : Int32) (K : Ka) (M : Cm) (H : Heap) (locs : List Loc) (ls : Array Slot), lT_X3_readExpression_38 N G k94 n x0 x1 x2 x3 x4 K M = some o → KLe K0 K → RC x K M H → va_S (AC K0) s.heap H locs → lv_has ls 6 [(0, .ref x0), (1, .int x1), (2, .int x2), (3, .int x3), (4, .int x4)] → W p l e R s m args below meth c H locs (kz K - kz K0) (ku K - ku K0) (TQ sV (aQV x K0) (zQV K0) "java/lang/IllegalStateException" x K0 below args s o) (F0 m 38 ls []) := by
  obtain ⟨CX, hno, hlt, hmn⟩ := id CTX
  obtain ⟨hx, hb, hml, hown, hts, hE, hB, hr, hlk⟩ := id CX
  intro n
  induction n with
  | zero => intro x0 x1 x2 x3 x4 K M H locs ls hf; cases hf
  | succ n ih =>
    intro x0 x1 x2 x3 x4 K M H locs ls hf hL hR hS hl
    have hcs := nz_le (mlT_X3_readExpression_38 hGm mk94 (n + 1) x0 x1 x2 x3 x4 K M hf) hRc
    rw [lT_X3_readExpression_38] at hf
    refine lv_iload hx hb dX3_readExpression_38 (lv_at hl 4 rfl) ?_
    refine lv_iload_n hx hb dX3_readExpression_40 rfl (lv_at hl 3 rfl) ?_
    refine lv_icmp_ge (tgt := 94) hx hb dX3_readExpression_41 (by decide) (fun hc => ?_) (fun hc => ?_)
    · rw [if_pos hc] at hf
      exact hk94 _ _ _ _ _ _ hf hL hR hS (lv_sub hl [0] rfl)
    · rw [if_neg hc] at hf
      refine lv_iload_n hx hb dX3_readExpression_44 rfl (lv_at hl 1 rfl) ?_
      refine lv_aload_n hx hb dX3_readExpression_45 rfl (lv_at hl 0 rfl) ?_
      obtain ⟨hk_x0_4, hf⟩ := gd_some hf
      refine cr_getI kc_3 CX hR fa_X3_19 rfl hk_x0_4 dX3_readExpression_46 ?_
      obtain ⟨o49, ho49, hf⟩ := bnd_some hf
      refine cr_callIs CX hR hL hS (As := [.int x1, .int (cI M x0 3)]) (rest := []) (MC_X3_isJoint l x N K x1 (cI M x0 3) M o49 ho49) cs_X3_277 ⟨by omega, by omega⟩ rfl rfl (Nat.le_of_ble_eq_true rfl) hl.1 dX3_readExpression_49 hcs (fun H locs hR hS => ?_)
      refine lv_if_eq (tgt := 94) hx hb dX3_readExpression_52 (by decide) (fun hc => ?_) (fun hc => ?_)
      · rw [if_pos hc] at hf
        exact hk94 _ _ _ _ _ _ hf hL hR hS (lv_sub hl [0] rfl)
      · rw [if_neg hc] at hf
        refine lv_aload_n hx hb dX3_readExpression_55 rfl (lv_at hl 0 rfl) ?_
        refine cr_getI kc_3 CX hR fa_X3_19 rfl hk_x0_4 dX3_readExpression_56 ?_
        refine lv_istore (lv' := [(5, .int (cI o49.2 x0 3)), (0, .ref x0), (1, .int x1), (2, .int x2), (3, .int x3), (4, .int x4)]) hx hb dX3_readExpression_59 hl (by decide) rfl (fun ls hl => ?_)
        refine lv_aload_n hx hb dX3_readExpression_61 rfl (lv_at hl 1 rfl) ?_
        refine lv_aload_n hx hb dX3_readExpression_62 rfl (lv_at hl 1 rfl) ?_
        refine cr_getI kc_3 CX hR fa_X3_15 rfl hk_x0_4 dX3_readExpression_63 ?_
        refine lv_iconst (v := 1) hx hb dX3_readExpression_66 (by decide) ?_
        refine lv_iadd hx hb dX3_readExpression_67 ?_
        obtain ⟨o68, ho68, hf⟩ := bnd_some hf
        refine cr_callVv kc_3 CX hR hL hS (As := [.int ((cI o49.2 x0 2) + 1)]) (rest := []) hk_x0_4 (MC_X3_moveTo l x N K x0 ((cI o49.2 x0 2) + 1) o49.2 o68 ho68) cv_X3_42 ⟨by omega, by omega⟩ rfl rfl (Nat.le_of_ble_eq_true rfl) hl.1 dX3_readExpression_68 hcs (fun H locs hR hS => ?_)
        refine lv_aload_n hx hb dX3_readExpression_71 rfl (lv_at hl 1 rfl) ?_
        refine lv_iload_n hx hb dX3_readExpression_72 rfl (lv_at hl 2 rfl) ?_
        refine lv_iconst (v := 1) hx hb dX3_readExpression_73 (by decide) ?_
        refine lv_iadd hx hb dX3_readExpression_74 ?_
        refine lv_iload_n hx hb dX3_readExpression_75 rfl (lv_at hl 3 rfl) ?_
        rcases tb_some hf with ⟨o76, ho, hf⟩ | ⟨q, ho, rfl⟩
        · have hm1 := (mbT_X3_readExpression_79 hGm (mlT_X3_readExpression_38 hGm mk94 n) mk94) _ _ _ _ _ _ _ _ hf
          have hb1 := nz_le hm1 hRc
          have hq1 := (hGm _ _ _ _ _ _ _ ho)
          refine ta_callVv kc_3 CX hL hR hS (As := [.int (x1 + 1), .int x2]) (rest := []) hk_x0_4 (hG.2.2.2.2.2.1 _ _ _ _ _ _ ho) cv_X3_227 ⟨by omega, by omega⟩ rfl (Nat.le_of_ble_eq_true rfl) hl.1 hq1 hb1 rfl dX3_readExpression_76 (fun H locs hR hS => ?_)
          exact (wbT_X3_readExpression_79 CTX hRm hRc hG hB0 hGm (mlT_X3_readExpression_38 hGm mk94 n) mk94 ih hk94) _ _ _ _ _ _ _ _ _ _ _ hf (hL.tr hq1) hR hS (lv_sub hl [1, 2, 3, 4, 5, 0] rfl)
        · exact tx_callv kc_3 CTX hL hR hS (As := [.int (x1 + 1), .int x2]) (rest := []) hk_x0_4 (hG.2.2.2.2.2.1 _ _ _ _ _ _ ho) cv_X3_227 ⟨by omega, by omega⟩ rfl (Nat.le_of_ble_eq_true rfl) hl.1 (hGm _ _ _ _ _ _ _ ho) hRc rfl dX3_readExpression_76
def bT_X3_readExpression_94 (N : Nat) (G : Nat → Nat → Int32 → Int32 → Ka → Cm → Option ((Ka × Cm) ⊕ (Ka × Cm))) (x0 : Nat) (K : Ka) (M : Cm) : Option ((Ka × Cm) ⊕ (Ka × Cm)) := some (.inl (K, M))
theorem mbT_X3_readExpression_94 {o : (Ka × Cm) ⊕ (Ka × Cm)} {N : Nat} {G : Nat → Nat → Int32 → Int32 → Ka → Cm → Option ((Ka × Cm) ⊕ (Ka × Cm))} (hGm : GMono G) (x0 : Nat) (K : Ka) (M : Cm) (hf : bT_X3_readExpression_94 N G x0 K M = some o) : KLe K (oK sV o) := by
  unfold bT_X3_readExpression_94 at hf
  cases hf
  exact KLe.rf _
set_option maxRecDepth 100000 in
set_option maxHeartbeats 4000000 in
theorem wbT_X3_readExpression_94 {p : Program} {l : Launch} {e : Env} {R : Room} {s : State} {m : MethodId} {args : Array Value} {below : List Frame} {meth : Method} {c : Code} {x : Xc} {K0 : Ka} {o : (Ka × Cm) ⊕ (Ka × Cm)} {fr lo : Nat} {N : Nat} {G : Nat → Nat → Int32 → Int32 → Ka → Cm → Option ((Ka × Cm) ⊕ (Ka × Cm))} (CTX : CT p l s m args meth c x K0 RX3 "readExpression" cX3_readExpression 6 none) (hRm : (fr + 1) ≤ R.frames ∧ (lo + 60) ≤ R.locals) (hRc : nz sV K0 o ≤ R.cells ∧ nu sV K0 o ≤ R.slots) (hG : GMet l x G fr lo) (hB0 : 10 ≤ fr ∧ 183 ≤ lo) (hGm : GMono G) (x0 : Nat) (K : Ka) (M : Cm) (H : Heap) (locs : List Loc) (ls : Array Slot) (hf : bT_X3_readExpression_94 N G x0 K M = some o) (hL : KLe K0 K) (hR : RC x K M H) (hS : va_S (AC K0) s.heap H locs) (hl : lv_has ls 6 [(0, .ref x0)]) : W p l e R s m args below meth c H locs (kz K - kz K0) (ku K - ku K0) (TQ sV (aQV x K0) (zQV K0) "java/lang/IllegalStateException" x K0 below args s o) (F0 m 94 ls []) := by
  obtain ⟨CX, hno, hlt, hmn⟩ := id CTX
  obtain ⟨hx, hb, hml, hown, hts, hE, hB, hr, hlk⟩ := id CX
  have hcs := nz_le (mbT_X3_readExpression_94 hGm x0 K M hf) hRc
  unfold bT_X3_readExpression_94 at hf
  exact tr_vret CX hR hS hf dX3_readExpression_94
def bT_X3_readExpression_34 (N : Nat) (G : Nat → Nat → Int32 → Int32 → Ka → Cm → Option ((Ka × Cm) ⊕ (Ka × Cm))) (x0 : Nat) (x1 : Int32) (x2 : Int32) (s0 : Int32) (K : Ka) (M : Cm) : Option ((Ka × Cm) ⊕ (Ka × Cm)) := (lT_X3_readExpression_38 N G (bT_X3_readExpression_94 N G) N) x0 x1 x2 s0 0 K M
theorem mbT_X3_readExpression_34 {o : (Ka × Cm) ⊕ (Ka × Cm)} {N : Nat} {G : Nat → Nat → Int32 → Int32 → Ka → Cm → Option ((Ka × Cm) ⊕ (Ka × Cm))} (hGm : GMono G) (x0 : Nat) (x1 : Int32) (x2 : Int32) (s0 : Int32) (K : Ka) (M : Cm) (hf : bT_X3_readExpression_34 N G x0 x1 x2 s0 K M = some o) : KLe K (oK sV o) := by
  unfold bT_X3_readExpression_34 at hf
  exact (mlT_X3_readExpression_38 hGm (mbT_X3_readExpression_94 hGm) N) _ _ _ _ _ _ _ hf
set_option maxRecDepth 100000 in
set_option maxHeartbeats 4000000 in
theorem wbT_X3_readExpression_34 {p : Program} {l : Launch} {e : Env} {R : Room} {s : State} {m : MethodId} {args : Array Value} {below : List Frame} {meth : Method} {c : Code} {x : Xc} {K0 : Ka} {o : (Ka × Cm) ⊕ (Ka × Cm)} {fr lo : Nat} {N : Nat} {G : Nat → Nat → Int32 → Int32 → Ka → Cm → Option ((Ka × Cm) ⊕ (Ka × Cm))} (CTX : CT p l s m args meth c x K0 RX3 "readExpression" cX3_readExpression 6 none) (hRm : (fr + 1) ≤ R.frames ∧ (lo + 60) ≤ R.locals) (hRc : nz sV K0 o ≤ R.cells ∧ nu sV K0 o ≤ R.slots) (hG : GMet l x G fr lo) (hB0 : 10 ≤ fr ∧ 183 ≤ lo) (hGm : GMono G) (x0 : Nat) (x1 : Int32) (x2 : Int32) (s0 : Int32) (K : Ka) (M : Cm) (H : Heap) (locs : List Loc) (ls : Array Slot) (hf : bT_X3_readExpression_34 N G x0 x1 x2 s0 K M = some o) (hL : KLe K0 K) (hR : RC x K M H) (hS : va_S (AC K0) s.heap H locs) (hl : lv_has ls 6 [(0, .ref x0), (1, .int x1), (2, .int x2)]) : W p l e R s m args below meth c H locs (kz K - kz K0) (ku K - ku K0) (TQ sV (aQV x K0) (zQV K0) "java/lang/IllegalStateException" x K0 below args s o) (F0 m 34 ls [.int s0]) := by
  obtain ⟨CX, hno, hlt, hmn⟩ := id CTX
  obtain ⟨hx, hb, hml, hown, hts, hE, hB, hr, hlk⟩ := id CX
  have hcs := nz_le (mbT_X3_readExpression_34 hGm x0 x1 x2 s0 K M hf) hRc
  unfold bT_X3_readExpression_34 at hf
  refine lv_istore_n (lv' := [(3, .int s0), (0, .ref x0), (1, .int x1), (2, .int x2)]) hx hb dX3_readExpression_34 rfl hl (by decide) rfl (fun ls hl => ?_)
  refine lv_iconst (v := 0) hx hb dX3_readExpression_35 (by decide) ?_
  refine lv_istore (lv' := [(4, .int 0), (3, .int s0), (0, .ref x0), (1, .int x1), (2, .int x2)]) hx hb dX3_readExpression_36 hl (by decide) rfl (fun ls hl => ?_)
  exact (wlT_X3_readExpression_38 CTX hRm hRc hG hB0 hGm (mbT_X3_readExpression_94 hGm) (wbT_X3_readExpression_94 CTX hRm hRc hG hB0 hGm) N) _ _ _ _ _ _ _ _ _ _ hf hL hR hS (lv_sub hl [2, 3, 4, 1, 0] rfl)
def bT_X3_readExpression_19 (N : Nat) (G : Nat → Nat → Int32 → Int32 → Ka → Cm → Option ((Ka × Cm) ⊕ (Ka × Cm))) (x0 : Nat) (x1 : Int32) (x2 : Int32) (K : Ka) (M : Cm) : Option ((Ka × Cm) ⊕ (Ka × Cm)) := if x1 = 0 then ((bT_X3_readExpression_34 N G) x0 x1 x2 1 K M) else (gd (kd K x0 == 4) (nn (cR M x0 0) fun a1 => gd (kd K a1 == 7) ((bT_X3_readExpression_34 N G) x0 x1 x2 (cI M a1 6) K M)))
theorem mbT_X3_readExpression_19 {o : (Ka × Cm) ⊕ (Ka × Cm)} {N : Nat} {G : Nat → Nat → Int32 → Int32 → Ka → Cm → Option ((Ka × Cm) ⊕ (Ka × Cm))} (hGm : GMono G) (x0 : Nat) (x1 : Int32) (x2 : Int32) (K : Ka) (M : Cm) (hf : bT_X3_readExpression_19 N G x0 x1 x2 K M = some o) : KLe K (oK sV o) := by
  unfold bT_X3_readExpression_19 at hf
  by_cases hc : x1 = 0
  · rw [if_pos hc] at hf
    exact (mbT_X3_readExpression_34 hGm) _ _ _ _ _ _ hf
  · rw [if_neg hc] at hf
    obtain ⟨-, hf⟩ := gd_some hf
    obtain ⟨a1, -, hf⟩ := nn_some hf
    obtain ⟨-, hf⟩ := gd_some hf
    exact (mbT_X3_readExpression_34 hGm) _ _ _ _ _ _ hf
set_option maxRecDepth 100000 in
set_option maxHeartbeats 4000000 in
theorem wbT_X3_readExpression_19 {p : Program} {l : Launch} {e : Env} {R : Room} {s : State} {m : MethodId} {args : Array Value} {below : List Frame} {meth : Method} {c : Code} {x : Xc} {K0 : Ka} {o : (Ka × Cm) ⊕ (Ka × Cm)} {fr lo : Nat} {N : Nat} {G : Nat → Nat → Int32 → Int32 → Ka → Cm → Option ((Ka × Cm) ⊕ (Ka × Cm))} (CTX : CT p l s m args meth c x K0 RX3 "readExpression" cX3_readExpression 6 none) (hRm : (fr + 1) ≤ R.frames ∧ (lo + 60) ≤ R.locals) (hRc : nz sV K0 o ≤ R.cells ∧ nu sV K0 o ≤ R.slots) (hG : GMet l x G fr lo) (hB0 : 10 ≤ fr ∧ 183 ≤ lo) (hGm : GMono G) (x0 : Nat) (x1 : Int32) (x2 : Int32) (K : Ka) (M : Cm) (H : Heap) (locs : List Loc) (ls : Array Slot) (hf : bT_X3_readExpression_19 N G x0 x1 x2 K M = some o) (hL : KLe K0 K) (hR : RC x K M H) (hS : va_S (AC K0) s.heap H locs) (hl : lv_has ls 6 [(0, .ref x0), (1, .int x1), (2, .int x2)]) : W p l e R s m args below meth c H locs (kz K - kz K0) (ku K - ku K0) (TQ sV (aQV x K0) (zQV K0) "java/lang/IllegalStateException" x K0 below args s o) (F0 m 19 ls []) := by
  obtain ⟨CX, hno, hlt, hmn⟩ := id CTX
  obtain ⟨hx, hb, hml, hown, hts, hE, hB, hr, hlk⟩ := id CX
  have hcs := nz_le (mbT_X3_readExpression_19 hGm x0 x1 x2 K M hf) hRc
  unfold bT_X3_readExpression_19 at hf
  refine lv_iload_n hx hb dX3_readExpression_19 rfl (lv_at hl 1 rfl) ?_
  refine lv_if_ne (tgt := 27) hx hb dX3_readExpression_20 (by decide) (fun hc => ?_) (fun hc => ?_)
  · rw [if_neg hc] at hf
    refine lv_aload_n hx hb dX3_readExpression_27 rfl (lv_at hl 0 rfl) ?_
    obtain ⟨hk_x0_4, hf⟩ := gd_some hf
    refine cr_getR kc_3 CX hR fa_X3_28 rfl hk_x0_4 dX3_readExpression_28 ?_
    obtain ⟨a1, ha1, hf⟩ := nn_some hf
    refine rf_0 ha1 ?_
    obtain ⟨hk_a1_7, hf⟩ := gd_some hf
    refine cr_getI kc_6 CX hR fa_X3_34 rfl hk_a1_7 dX3_readExpression_31 ?_
    exact (wbT_X3_readExpression_34 CTX hRm hRc hG hB0 hGm) _ _ _ _ _ _ _ _ _ hf hL hR hS (lv_sub hl [0, 1, 2] rfl)
  · rw [if_pos hc] at hf
    refine lv_iconst (v := 1) hx hb dX3_readExpression_23 (by decide) ?_
    refine lv_goto (tgt := 34) hx hb dX3_readExpression_24 (by decide) ?_
    exact (wbT_X3_readExpression_34 CTX hRm hRc hG hB0 hGm) _ _ _ _ _ _ _ _ _ hf hL hR hS (lv_sub hl [0, 1, 2] rfl)
def fT_X3_readExpression (N : Nat) (G : Nat → Nat → Int32 → Int32 → Ka → Cm → Option ((Ka × Cm) ⊕ (Ka × Cm))) (x0 : Nat) (x1 : Int32) (x2 : Int32) (K : Ka) (M : Cm) : Option ((Ka × Cm) ⊕ (Ka × Cm)) := if x1 ≤ 2 then (gd (kd K x0 == 4) (tb (G 5 x0 (x1 + 1) x2 K M) fun o16 => (bT_X3_readExpression_19 N G) x0 x1 x2 o16.1 o16.2)) else (gd (kd K x0 == 4) (tb (G 6 x0 x2 0 K M) fun o7 => (bT_X3_readExpression_10 N G) x0 o7.1 o7.2))
theorem mfT_X3_readExpression {o : (Ka × Cm) ⊕ (Ka × Cm)} {N : Nat} {G : Nat → Nat → Int32 → Int32 → Ka → Cm → Option ((Ka × Cm) ⊕ (Ka × Cm))} (hGm : GMono G) (x0 : Nat) (x1 : Int32) (x2 : Int32) (K : Ka) (M : Cm) (hf : fT_X3_readExpression N G x0 x1 x2 K M = some o) : KLe K (oK sV o) := by
  unfold fT_X3_readExpression at hf
  by_cases hc : x1 ≤ 2
  · rw [if_pos hc] at hf
    obtain ⟨-, hf⟩ := gd_some hf
    rcases tb_some hf with ⟨o16, ho, hf⟩ | ⟨q, ho, rfl⟩
    · exact KLe.tr (hGm _ _ _ _ _ _ _ ho) ((mbT_X3_readExpression_19 hGm) _ _ _ _ _ hf)
    · exact (hGm _ _ _ _ _ _ _ ho)
  · rw [if_neg hc] at hf
    obtain ⟨-, hf⟩ := gd_some hf
    rcases tb_some hf with ⟨o7, ho, hf⟩ | ⟨q, ho, rfl⟩
    · exact KLe.tr (hGm _ _ _ _ _ _ _ ho) ((mbT_X3_readExpression_10 hGm) _ _ _ hf)
    · exact (hGm _ _ _ _ _ _ _ ho)
set_option maxRecDepth 100000 in
set_option maxHeartbeats 4000000 in
theorem wfT_X3_readExpression {p : Program} {l : Launch} {e : Env} {R : Room} {s : State} {m : MethodId} {args : Array Value} {below : List Frame} {meth : Method} {c : Code} {x : Xc} {K0 : Ka} {o : (Ka × Cm) ⊕ (Ka × Cm)} {fr lo : Nat} {N : Nat} {G : Nat → Nat → Int32 → Int32 → Ka → Cm → Option ((Ka × Cm) ⊕ (Ka × Cm))} (CTX : CT p l s m args meth c x K0 RX3 "readExpression" cX3_readExpression 6 none) (hRm : (fr + 1) ≤ R.frames ∧ (lo + 60) ≤ R.locals) (hRc : nz sV K0 o ≤ R.cells ∧ nu sV K0 o ≤ R.slots) (hG : GMet l x G fr lo) (hB0 : 10 ≤ fr ∧ 183 ≤ lo) (hGm : GMono G) (x0 : Nat) (x1 : Int32) (x2 : Int32) (K : Ka) (M : Cm) (H : Heap) (locs : List Loc) (ls : Array Slot) (hf : fT_X3_readExpression N G x0 x1 x2 K M = some o) (hL : KLe K0 K) (hR : RC x K M H) (hS : va_S (AC K0) s.heap H locs) (hl : lv_has ls 6 [(0, .ref x0), (1, .int x1), (2, .int x2)]) : W p l e R s m args below meth c H locs (kz K - kz K0) (ku K - ku K0) (TQ sV (aQV x K0) (zQV K0) "java/lang/IllegalStateException" x K0 below args s o) (F0 m 0 ls []) := by
  obtain ⟨CX, hno, hlt, hmn⟩ := id CTX
  obtain ⟨hx, hb, hml, hown, hts, hE, hB, hr, hlk⟩ := id CX
  have hcs := nz_le (mfT_X3_readExpression hGm x0 x1 x2 K M hf) hRc
  unfold fT_X3_readExpression at hf
  refine lv_iload_n hx hb dX3_readExpression_0 rfl (lv_at hl 1 rfl) ?_
  refine lv_iconst (v := 2) hx hb dX3_readExpression_1 (by decide) ?_
  refine lv_icmp_le (tgt := 11) hx hb dX3_readExpression_2 (by decide) (fun hc => ?_) (fun hc => ?_)
  · rw [if_pos hc] at hf
    refine lv_aload_n hx hb dX3_readExpression_11 rfl (lv_at hl 0 rfl) ?_
    refine lv_iload_n hx hb dX3_readExpression_12 rfl (lv_at hl 1 rfl) ?_
    refine lv_iconst (v := 1) hx hb dX3_readExpression_13 (by decide) ?_
    refine lv_iadd hx hb dX3_readExpression_14 ?_
    refine lv_iload_n hx hb dX3_readExpression_15 rfl (lv_at hl 2 rfl) ?_
    obtain ⟨hk_x0_4, hf⟩ := gd_some hf
    rcases tb_some hf with ⟨o16, ho, hf⟩ | ⟨q, ho, rfl⟩
    · have hm1 := (mbT_X3_readExpression_19 hGm) _ _ _ _ _ hf
      have hb1 := nz_le hm1 hRc
      have hq1 := (hGm _ _ _ _ _ _ _ ho)
      refine ta_callVv kc_3 CX hL hR hS (As := [.int (x1 + 1), .int x2]) (rest := []) hk_x0_4 (hG.2.2.2.2.2.1 _ _ _ _ _ _ ho) cv_X3_227 ⟨by omega, by omega⟩ rfl (Nat.le_of_ble_eq_true rfl) hl.1 hq1 hb1 rfl dX3_readExpression_16 (fun H locs hR hS => ?_)
      exact (wbT_X3_readExpression_19 CTX hRm hRc hG hB0 hGm) _ _ _ _ _ _ _ _ hf (hL.tr hq1) hR hS (lv_sub hl [0, 1, 2] rfl)
    · exact tx_callv kc_3 CTX hL hR hS (As := [.int (x1 + 1), .int x2]) (rest := []) hk_x0_4 (hG.2.2.2.2.2.1 _ _ _ _ _ _ ho) cv_X3_227 ⟨by omega, by omega⟩ rfl (Nat.le_of_ble_eq_true rfl) hl.1 (hGm _ _ _ _ _ _ _ ho) hRc rfl dX3_readExpression_16
  · rw [if_neg hc] at hf
    refine lv_aload_n hx hb dX3_readExpression_5 rfl (lv_at hl 0 rfl) ?_
    refine lv_iload_n hx hb dX3_readExpression_6 rfl (lv_at hl 2 rfl) ?_
    obtain ⟨hk_x0_4, hf⟩ := gd_some hf
    rcases tb_some hf with ⟨o7, ho, hf⟩ | ⟨q, ho, rfl⟩
    · have hm1 := (mbT_X3_readExpression_10 hGm) _ _ _ hf
      have hb1 := nz_le hm1 hRc
      have hq1 := (hGm _ _ _ _ _ _ _ ho)
      refine ta_callVv kc_3 CX hL hR hS (As := [.int x2]) (rest := []) hk_x0_4 (hG.2.2.2.2.2.2 _ _ _ _ _ ho) cv_X3_274 ⟨by omega, by omega⟩ rfl (Nat.le_of_ble_eq_true rfl) hl.1 hq1 hb1 rfl dX3_readExpression_7 (fun H locs hR hS => ?_)
      exact (wbT_X3_readExpression_10 CTX hRm hRc hG hB0 hGm) _ _ _ _ _ _ hf (hL.tr hq1) hR hS (lv_sub hl [0] rfl)
    · exact tx_callv kc_3 CTX hL hR hS (As := [.int x2]) (rest := []) hk_x0_4 (hG.2.2.2.2.2.2 _ _ _ _ _ ho) cv_X3_274 ⟨by omega, by omega⟩ rfl (Nat.le_of_ble_eq_true rfl) hl.1 (hGm _ _ _ _ _ _ _ ho) hRc rfl dX3_readExpression_7
def bT_X3_readPart_213 (N : Nat) (G : Nat → Nat → Int32 → Int32 → Ka → Cm → Option ((Ka × Cm) ⊕ (Ka × Cm))) (x0 : Nat) (K : Ka) (M : Cm) : Option ((Ka × Cm) ⊕ (Ka × Cm)) := some (.inl (K, M))
theorem mbT_X3_readPart_213 {o : (Ka × Cm) ⊕ (Ka × Cm)} {N : Nat} {G : Nat → Nat → Int32 → Int32 → Ka → Cm → Option ((Ka × Cm) ⊕ (Ka × Cm))} (hGm : GMono G) (x0 : Nat) (K : Ka) (M : Cm) (hf : bT_X3_readPart_213 N G x0 K M = some o) : KLe K (oK sV o) := by
  unfold bT_X3_readPart_213 at hf
  cases hf
  exact KLe.rf _
set_option maxRecDepth 100000 in
set_option maxHeartbeats 4000000 in
theorem wbT_X3_readPart_213 {p : Program} {l : Launch} {e : Env} {R : Room} {s : State} {m : MethodId} {args : Array Value} {below : List Frame} {meth : Method} {c : Code} {x : Xc} {K0 : Ka} {o : (Ka × Cm) ⊕ (Ka × Cm)} {fr lo : Nat} {N : Nat} {G : Nat → Nat → Int32 → Int32 → Ka → Cm → Option ((Ka × Cm) ⊕ (Ka × Cm))} (CTX : CT p l s m args meth c x K0 RX3 "readPart" cX3_readPart 3 none) (hRm : (fr + 1) ≤ R.frames ∧ (lo + 60) ≤ R.locals) (hRc : nz sV K0 o ≤ R.cells ∧ nu sV K0 o ≤ R.slots) (hG : GMet l x G fr lo) (hB0 : 10 ≤ fr ∧ 183 ≤ lo) (hGm : GMono G) (x0 : Nat) (K : Ka) (M : Cm) (H : Heap) (locs : List Loc) (ls : Array Slot) (hf : bT_X3_readPart_213 N G x0 K M = some o) (hL : KLe K0 K) (hR : RC x K M H) (hS : va_S (AC K0) s.heap H locs) (hl : lv_has ls 3 [(0, .ref x0)]) : W p l e R s m args below meth c H locs (kz K - kz K0) (ku K - ku K0) (TQ sV (aQV x K0) (zQV K0) "java/lang/IllegalStateException" x K0 below args s o) (F0 m 213 ls []) := by
  obtain ⟨CX, hno, hlt, hmn⟩ := id CTX
  obtain ⟨hx, hb, hml, hown, hts, hE, hB, hr, hlk⟩ := id CX
  have hcs := nz_le (mbT_X3_readPart_213 hGm x0 K M hf) hRc
  unfold bT_X3_readPart_213 at hf
  exact tr_vret CX hR hS hf dX3_readPart_213
def bT_X3_readPart_80 (N : Nat) (G : Nat → Nat → Int32 → Int32 → Ka → Cm → Option ((Ka × Cm) ⊕ (Ka × Cm))) (x0 : Nat) (s0 : Int32) (K : Ka) (M : Cm) : Option ((Ka × Cm) ⊕ (Ka × Cm)) := (bT_X3_readPart_213 N G) x0 K M
theorem mbT_X3_readPart_80 {o : (Ka × Cm) ⊕ (Ka × Cm)} {N : Nat} {G : Nat → Nat → Int32 → Int32 → Ka → Cm → Option ((Ka × Cm) ⊕ (Ka × Cm))} (hGm : GMono G) (x0 : Nat) (s0 : Int32) (K : Ka) (M : Cm) (hf : bT_X3_readPart_80 N G x0 s0 K M = some o) : KLe K (oK sV o) := by
  unfold bT_X3_readPart_80 at hf
  exact (mbT_X3_readPart_213 hGm) _ _ _ hf
set_option maxRecDepth 100000 in
set_option maxHeartbeats 4000000 in
theorem wbT_X3_readPart_80 {p : Program} {l : Launch} {e : Env} {R : Room} {s : State} {m : MethodId} {args : Array Value} {below : List Frame} {meth : Method} {c : Code} {x : Xc} {K0 : Ka} {o : (Ka × Cm) ⊕ (Ka × Cm)} {fr lo : Nat} {N : Nat} {G : Nat → Nat → Int32 → Int32 → Ka → Cm → Option ((Ka × Cm) ⊕ (Ka × Cm))} (CTX : CT p l s m args meth c x K0 RX3 "readPart" cX3_readPart 3 none) (hRm : (fr + 1) ≤ R.frames ∧ (lo + 60) ≤ R.locals) (hRc : nz sV K0 o ≤ R.cells ∧ nu sV K0 o ≤ R.slots) (hG : GMet l x G fr lo) (hB0 : 10 ≤ fr ∧ 183 ≤ lo) (hGm : GMono G) (x0 : Nat) (s0 : Int32) (K : Ka) (M : Cm) (H : Heap) (locs : List Loc) (ls : Array Slot) (hf : bT_X3_readPart_80 N G x0 s0 K M = some o) (hL : KLe K0 K) (hR : RC x K M H) (hS : va_S (AC K0) s.heap H locs) (hl : lv_has ls 3 [(0, .ref x0)]) : W p l e R s m args below meth c H locs (kz K - kz K0) (ku K - ku K0) (TQ sV (aQV x K0) (zQV K0) "java/lang/IllegalStateException" x K0 below args s o) (F0 m 80 ls [.int s0]) := by
  obtain ⟨CX, hno, hlt, hmn⟩ := id CTX
  obtain ⟨hx, hb, hml, hown, hts, hE, hB, hr, hlk⟩ := id CX
  have hcs := nz_le (mbT_X3_readPart_80 hGm x0 s0 K M hf) hRc
  unfold bT_X3_readPart_80 at hf
  refine lv_pop hx hb dX3_readPart_80 rfl ?_
  refine lv_goto (tgt := 213) hx hb dX3_readPart_81 (by decide) ?_
  exact (wbT_X3_readPart_213 CTX hRm hRc hG hB0 hGm) _ _ _ _ _ _ hf hL hR hS (lv_sub hl [0] rfl)
def bT_X3_readPart_77 (N : Nat) (G : Nat → Nat → Int32 → Int32 → Ka → Cm → Option ((Ka × Cm) ⊕ (Ka × Cm))) (x0 : Nat) (s0 : Nat) (s1 : Int64) (K : Ka) (M : Cm) : Option ((Ka × Cm) ⊕ (Ka × Cm)) := gd (kd K s0 == 6) (ta (fT_X5_emit N s0 s1 K M) fun o77 => (bT_X3_readPart_80 N G) x0 o77.1 o77.2.1 o77.2.2)
theorem mbT_X3_readPart_77 {o : (Ka × Cm) ⊕ (Ka × Cm)} {N : Nat} {G : Nat → Nat → Int32 → Int32 → Ka → Cm → Option ((Ka × Cm) ⊕ (Ka × Cm))} (hGm : GMono G) (x0 : Nat) (s0 : Nat) (s1 : Int64) (K : Ka) (M : Cm) (hf : bT_X3_readPart_77 N G x0 s0 s1 K M = some o) : KLe K (oK sV o) := by
  unfold bT_X3_readPart_77 at hf
  obtain ⟨-, hf⟩ := gd_some hf
  obtain ⟨o77, ho, hf⟩ := ta_some hf
  exact KLe.tr (mfT_X5_emit _ _ _ _ ho) ((mbT_X3_readPart_80 hGm) _ _ _ _ hf)
set_option maxRecDepth 100000 in
set_option maxHeartbeats 4000000 in
theorem wbT_X3_readPart_77 {p : Program} {l : Launch} {e : Env} {R : Room} {s : State} {m : MethodId} {args : Array Value} {below : List Frame} {meth : Method} {c : Code} {x : Xc} {K0 : Ka} {o : (Ka × Cm) ⊕ (Ka × Cm)} {fr lo : Nat} {N : Nat} {G : Nat → Nat → Int32 → Int32 → Ka → Cm → Option ((Ka × Cm) ⊕ (Ka × Cm))} (CTX : CT p l s m args meth c x K0 RX3 "readPart" cX3_readPart 3 none) (hRm : (fr + 1) ≤ R.frames ∧ (lo + 60) ≤ R.locals) (hRc : nz sV K0 o ≤ R.cells ∧ nu sV K0 o ≤ R.slots) (hG : GMet l x G fr lo) (hB0 : 10 ≤ fr ∧ 183 ≤ lo) (hGm : GMono G) (x0 : Nat) (s0 : Nat) (s1 : Int64) (K : Ka) (M : Cm) (H : Heap) (locs : List Loc) (ls : Array Slot) (hf : bT_X3_readPart_77 N G x0 s0 s1 K M = some o) (hL : KLe K0 K) (hR : RC x K M H) (hS : va_S (AC K0) s.heap H locs) (hl : lv_has ls 3 [(0, .ref x0)]) : W p l e R s m args below meth c H locs (kz K - kz K0) (ku K - ku K0) (TQ sV (aQV x K0) (zQV K0) "java/lang/IllegalStateException" x K0 below args s o) (F0 m 77 ls [.long s1, .ref s0]) := by
  obtain ⟨CX, hno, hlt, hmn⟩ := id CTX
  obtain ⟨hx, hb, hml, hown, hts, hE, hB, hr, hlk⟩ := id CX
  have hcs := nz_le (mbT_X3_readPart_77 hGm x0 s0 s1 K M hf) hRc
  unfold bT_X3_readPart_77 at hf
  obtain ⟨hk_s0_6, hf⟩ := gd_some hf
  obtain ⟨o77, ho, hf⟩ := ta_some hf
  have hm1 := (mbT_X3_readPart_80 hGm) _ _ _ _ hf
  have hb1 := nz_le hm1 hRc
  have hq1 := (mfT_X5_emit _ _ _ _ ho)
  refine ta_callIv kc_5 CX hL hR hS (As := [.long s1]) (rest := []) hk_s0_6 (MT_X5_emit l x hlt N _ _ _ _ _ ho) cv_X3_84 ⟨by omega, by omega⟩ rfl (Nat.le_of_ble_eq_true rfl) hl.1 hq1 hb1 rfl dX3_readPart_77 (fun H locs hR hS => ?_)
  exact (wbT_X3_readPart_80 CTX hRm hRc hG hB0 hGm) _ _ _ _ _ _ _ hf (hL.tr hq1) hR hS (lv_sub hl [0] rfl)
def bT_X3_readPart_97 (N : Nat) (G : Nat → Nat → Int32 → Int32 → Ka → Cm → Option ((Ka × Cm) ⊕ (Ka × Cm))) (x0 : Nat) (s0 : Int32) (K : Ka) (M : Cm) : Option ((Ka × Cm) ⊕ (Ka × Cm)) := (bT_X3_readPart_213 N G) x0 K M
theorem mbT_X3_readPart_97 {o : (Ka × Cm) ⊕ (Ka × Cm)} {N : Nat} {G : Nat → Nat → Int32 → Int32 → Ka → Cm → Option ((Ka × Cm) ⊕ (Ka × Cm))} (hGm : GMono G) (x0 : Nat) (s0 : Int32) (K : Ka) (M : Cm) (hf : bT_X3_readPart_97 N G x0 s0 K M = some o) : KLe K (oK sV o) := by
  unfold bT_X3_readPart_97 at hf
  exact (mbT_X3_readPart_213 hGm) _ _ _ hf
set_option maxRecDepth 100000 in
set_option maxHeartbeats 4000000 in
theorem wbT_X3_readPart_97 {p : Program} {l : Launch} {e : Env} {R : Room} {s : State} {m : MethodId} {args : Array Value} {below : List Frame} {meth : Method} {c : Code} {x : Xc} {K0 : Ka} {o : (Ka × Cm) ⊕ (Ka × Cm)} {fr lo : Nat} {N : Nat} {G : Nat → Nat → Int32 → Int32 → Ka → Cm → Option ((Ka × Cm) ⊕ (Ka × Cm))} (CTX : CT p l s m args meth c x K0 RX3 "readPart" cX3_readPart 3 none) (hRm : (fr + 1) ≤ R.frames ∧ (lo + 60) ≤ R.locals) (hRc : nz sV K0 o ≤ R.cells ∧ nu sV K0 o ≤ R.slots) (hG : GMet l x G fr lo) (hB0 : 10 ≤ fr ∧ 183 ≤ lo) (hGm : GMono G) (x0 : Nat) (s0 : Int32) (K : Ka) (M : Cm) (H : Heap) (locs : List Loc) (ls : Array Slot) (hf : bT_X3_readPart_97 N G x0 s0 K M = some o) (hL : KLe K0 K) (hR : RC x K M H) (hS : va_S (AC K0) s.heap H locs) (hl : lv_has ls 3 [(0, .ref x0)]) : W p l e R s m args below meth c H locs (kz K - kz K0) (ku K - ku K0) (TQ sV (aQV x K0) (zQV K0) "java/lang/IllegalStateException" x K0 below args s o) (F0 m 97 ls [.int s0]) := by
  obtain ⟨CX, hno, hlt, hmn⟩ := id CTX
  obtain ⟨hx, hb, hml, hown, hts, hE, hB, hr, hlk⟩ := id CX
  have hcs := nz_le (mbT_X3_readPart_97 hGm x0 s0 K M hf) hRc
  unfold bT_X3_readPart_97 at hf
  refine lv_pop hx hb dX3_readPart_97 rfl ?_
  refine lv_goto (tgt := 213) hx hb dX3_readPart_98 (by decide) ?_
  exact (wbT_X3_readPart_213 CTX hRm hRc hG hB0 hGm) _ _ _ _ _ _ hf hL hR hS (lv_sub hl [0] rfl)
def bT_X3_readPart_94 (N : Nat) (G : Nat → Nat → Int32 → Int32 → Ka → Cm → Option ((Ka × Cm) ⊕ (Ka × Cm))) (x0 : Nat) (s0 : Nat) (s1 : Int32) (s2 : Int32) (s3 : Int32) (K : Ka) (M : Cm) : Option ((Ka × Cm) ⊕ (Ka × Cm)) := gd (kd K s0 == 4) (ta (fT_X3_emit N s0 s1 s2 s3 K M) fun o94 => (bT_X3_readPart_97 N G) x0 o94.1 o94.2.1 o94.2.2)
theorem mbT_X3_readPart_94 {o : (Ka × Cm) ⊕ (Ka × Cm)} {N : Nat} {G : Nat → Nat → Int32 → Int32 → Ka → Cm → Option ((Ka × Cm) ⊕ (Ka × Cm))} (hGm : GMono G) (x0 : Nat) (s0 : Nat) (s1 : Int32) (s2 : Int32) (s3 : Int32) (K : Ka) (M : Cm) (hf : bT_X3_readPart_94 N G x0 s0 s1 s2 s3 K M = some o) : KLe K (oK sV o) := by
  unfold bT_X3_readPart_94 at hf
  obtain ⟨-, hf⟩ := gd_some hf
  obtain ⟨o94, ho, hf⟩ := ta_some hf
  exact KLe.tr (mfT_X3_emit _ _ _ _ _ _ ho) ((mbT_X3_readPart_97 hGm) _ _ _ _ hf)
set_option maxRecDepth 100000 in
set_option maxHeartbeats 4000000 in
theorem wbT_X3_readPart_94 {p : Program} {l : Launch} {e : Env} {R : Room} {s : State} {m : MethodId} {args : Array Value} {below : List Frame} {meth : Method} {c : Code} {x : Xc} {K0 : Ka} {o : (Ka × Cm) ⊕ (Ka × Cm)} {fr lo : Nat} {N : Nat} {G : Nat → Nat → Int32 → Int32 → Ka → Cm → Option ((Ka × Cm) ⊕ (Ka × Cm))} (CTX : CT p l s m args meth c x K0 RX3 "readPart" cX3_readPart 3 none) (hRm : (fr + 1) ≤ R.frames ∧ (lo + 60) ≤ R.locals) (hRc : nz sV K0 o ≤ R.cells ∧ nu sV K0 o ≤ R.slots) (hG : GMet l x G fr lo) (hB0 : 10 ≤ fr ∧ 183 ≤ lo) (hGm : GMono G) (x0 : Nat) (s0 : Nat) (s1 : Int32) (s2 : Int32) (s3 : Int32) (K : Ka) (M : Cm) (H : Heap) (locs : List Loc) (ls : Array Slot) (hf : bT_X3_readPart_94 N G x0 s0 s1 s2 s3 K M = some o) (hL : KLe K0 K) (hR : RC x K M H) (hS : va_S (AC K0) s.heap H locs) (hl : lv_has ls 3 [(0, .ref x0)]) : W p l e R s m args below meth c H locs (kz K - kz K0) (ku K - ku K0) (TQ sV (aQV x K0) (zQV K0) "java/lang/IllegalStateException" x K0 below args s o) (F0 m 94 ls [.int s3, .int s2, .int s1, .ref s0]) := by
  obtain ⟨CX, hno, hlt, hmn⟩ := id CTX
  obtain ⟨hx, hb, hml, hown, hts, hE, hB, hr, hlk⟩ := id CX
  have hcs := nz_le (mbT_X3_readPart_94 hGm x0 s0 s1 s2 s3 K M hf) hRc
  unfold bT_X3_readPart_94 at hf
  obtain ⟨hk_s0_4, hf⟩ := gd_some hf
  obtain ⟨o94, ho, hf⟩ := ta_some hf
  have hm1 := (mbT_X3_readPart_97 hGm) _ _ _ _ hf
  have hb1 := nz_le hm1 hRc
  have hq1 := (mfT_X3_emit _ _ _ _ _ _ ho)
  refine ta_callIv kc_3 CX hL hR hS (As := [.int s1, .int s2, .int s3]) (rest := []) hk_s0_4 (MT_X3_emit l x hlt N _ _ _ _ _ _ _ ho) cv_X3_144 ⟨by omega, by omega⟩ rfl (Nat.le_of_ble_eq_true rfl) hl.1 hq1 hb1 rfl dX3_readPart_94 (fun H locs hR hS => ?_)
  exact (wbT_X3_readPart_97 CTX hRm hRc hG hB0 hGm) _ _ _ _ _ _ _ hf (hL.tr hq1) hR hS (lv_sub hl [0] rfl)
def bT_X3_readPart_125 (N : Nat) (G : Nat → Nat → Int32 → Int32 → Ka → Cm → Option ((Ka × Cm) ⊕ (Ka × Cm))) (x0 : Nat) (K : Ka) (M : Cm) : Option ((Ka × Cm) ⊕ (Ka × Cm)) := (bT_X3_readPart_213 N G) x0 K M
theorem mbT_X3_readPart_125 {o : (Ka × Cm) ⊕ (Ka × Cm)} {N : Nat} {G : Nat → Nat → Int32 → Int32 → Ka → Cm → Option ((Ka × Cm) ⊕ (Ka × Cm))} (hGm : GMono G) (x0 : Nat) (K : Ka) (M : Cm) (hf : bT_X3_readPart_125 N G x0 K M = some o) : KLe K (oK sV o) := by
  unfold bT_X3_readPart_125 at hf
  exact (mbT_X3_readPart_213 hGm) _ _ _ hf
set_option maxRecDepth 100000 in
set_option maxHeartbeats 4000000 in
theorem wbT_X3_readPart_125 {p : Program} {l : Launch} {e : Env} {R : Room} {s : State} {m : MethodId} {args : Array Value} {below : List Frame} {meth : Method} {c : Code} {x : Xc} {K0 : Ka} {o : (Ka × Cm) ⊕ (Ka × Cm)} {fr lo : Nat} {N : Nat} {G : Nat → Nat → Int32 → Int32 → Ka → Cm → Option ((Ka × Cm) ⊕ (Ka × Cm))} (CTX : CT p l s m args meth c x K0 RX3 "readPart" cX3_readPart 3 none) (hRm : (fr + 1) ≤ R.frames ∧ (lo + 60) ≤ R.locals) (hRc : nz sV K0 o ≤ R.cells ∧ nu sV K0 o ≤ R.slots) (hG : GMet l x G fr lo) (hB0 : 10 ≤ fr ∧ 183 ≤ lo) (hGm : GMono G) (x0 : Nat) (K : Ka) (M : Cm) (H : Heap) (locs : List Loc) (ls : Array Slot) (hf : bT_X3_readPart_125 N G x0 K M = some o) (hL : KLe K0 K) (hR : RC x K M H) (hS : va_S (AC K0) s.heap H locs) (hl : lv_has ls 3 [(0, .ref x0)]) : W p l e R s m args below meth c H locs (kz K - kz K0) (ku K - ku K0) (TQ sV (aQV x K0) (zQV K0) "java/lang/IllegalStateException" x K0 below args s o) (F0 m 125 ls []) := by
  obtain ⟨CX, hno, hlt, hmn⟩ := id CTX
  obtain ⟨hx, hb, hml, hown, hts, hE, hB, hr, hlk⟩ := id CX
  have hcs := nz_le (mbT_X3_readPart_125 hGm x0 K M hf) hRc
  unfold bT_X3_readPart_125 at hf
  refine lv_goto (tgt := 213) hx hb dX3_readPart_125 (by decide) ?_
  exact (wbT_X3_readPart_213 CTX hRm hRc hG hB0 hGm) _ _ _ _ _ _ hf hL hR hS (lv_sub hl [0] rfl)
def bT_X3_readPart_119 (N : Nat) (G : Nat → Nat → Int32 → Int32 → Ka → Cm → Option ((Ka × Cm) ⊕ (Ka × Cm))) (x0 : Nat) (K : Ka) (M : Cm) : Option ((Ka × Cm) ⊕ (Ka × Cm)) := gd (kd K x0 == 4) (tb (fT_X3_take N x0 41 K M) fun o122 => (bT_X3_readPart_125 N G) x0 o122.1 o122.2)
theorem mbT_X3_readPart_119 {o : (Ka × Cm) ⊕ (Ka × Cm)} {N : Nat} {G : Nat → Nat → Int32 → Int32 → Ka → Cm → Option ((Ka × Cm) ⊕ (Ka × Cm))} (hGm : GMono G) (x0 : Nat) (K : Ka) (M : Cm) (hf : bT_X3_readPart_119 N G x0 K M = some o) : KLe K (oK sV o) := by
  unfold bT_X3_readPart_119 at hf
  obtain ⟨-, hf⟩ := gd_some hf
  rcases tb_some hf with ⟨o122, ho, hf⟩ | ⟨q, ho, rfl⟩
  · exact KLe.tr (mfT_X3_take _ _ _ _ ho) ((mbT_X3_readPart_125 hGm) _ _ _ hf)
  · exact (mfT_X3_take _ _ _ _ ho)
set_option maxRecDepth 100000 in
set_option maxHeartbeats 4000000 in
theorem wbT_X3_readPart_119 {p : Program} {l : Launch} {e : Env} {R : Room} {s : State} {m : MethodId} {args : Array Value} {below : List Frame} {meth : Method} {c : Code} {x : Xc} {K0 : Ka} {o : (Ka × Cm) ⊕ (Ka × Cm)} {fr lo : Nat} {N : Nat} {G : Nat → Nat → Int32 → Int32 → Ka → Cm → Option ((Ka × Cm) ⊕ (Ka × Cm))} (CTX : CT p l s m args meth c x K0 RX3 "readPart" cX3_readPart 3 none) (hRm : (fr + 1) ≤ R.frames ∧ (lo + 60) ≤ R.locals) (hRc : nz sV K0 o ≤ R.cells ∧ nu sV K0 o ≤ R.slots) (hG : GMet l x G fr lo) (hB0 : 10 ≤ fr ∧ 183 ≤ lo) (hGm : GMono G) (x0 : Nat) (K : Ka) (M : Cm) (H : Heap) (locs : List Loc) (ls : Array Slot) (hf : bT_X3_readPart_119 N G x0 K M = some o) (hL : KLe K0 K) (hR : RC x K M H) (hS : va_S (AC K0) s.heap H locs) (hl : lv_has ls 3 [(0, .ref x0)]) : W p l e R s m args below meth c H locs (kz K - kz K0) (ku K - ku K0) (TQ sV (aQV x K0) (zQV K0) "java/lang/IllegalStateException" x K0 below args s o) (F0 m 119 ls []) := by
  obtain ⟨CX, hno, hlt, hmn⟩ := id CTX
  obtain ⟨hx, hb, hml, hown, hts, hE, hB, hr, hlk⟩ := id CX
  have hcs := nz_le (mbT_X3_readPart_119 hGm x0 K M hf) hRc
  unfold bT_X3_readPart_119 at hf
  refine lv_aload_n hx hb dX3_readPart_119 rfl (lv_at hl 0 rfl) ?_
  refine lv_bipush (v := 41) hx hb dX3_readPart_120 (by decide) ?_
  obtain ⟨hk_x0_4, hf⟩ := gd_some hf
  rcases tb_some hf with ⟨o122, ho, hf⟩ | ⟨q, ho, rfl⟩
  · have hm1 := (mbT_X3_readPart_125 hGm) _ _ _ hf
    have hb1 := nz_le hm1 hRc
    have hq1 := (mfT_X3_take _ _ _ _ ho)
    refine ta_callVv kc_3 CX hL hR hS (As := [.int 41]) (rest := []) hk_x0_4 (MT_X3_take l x hlt N _ _ _ _ _ ho) cv_X3_119 ⟨by omega, by omega⟩ rfl (Nat.le_of_ble_eq_true rfl) hl.1 hq1 hb1 rfl dX3_readPart_122 (fun H locs hR hS => ?_)
    exact (wbT_X3_readPart_125 CTX hRm hRc hG hB0 hGm) _ _ _ _ _ _ hf (hL.tr hq1) hR hS (lv_sub hl [0] rfl)
  · exact tx_callv kc_3 CTX hL hR hS (As := [.int 41]) (rest := []) hk_x0_4 (MT_X3_take l x hlt N _ _ _ _ _ ho) cv_X3_119 ⟨by omega, by omega⟩ rfl (Nat.le_of_ble_eq_true rfl) hl.1 (mfT_X3_take _ _ _ _ ho) hRc rfl dX3_readPart_122
def bT_X3_readPart_153 (N : Nat) (G : Nat → Nat → Int32 → Int32 → Ka → Cm → Option ((Ka × Cm) ⊕ (Ka × Cm))) (x0 : Nat) (s0 : Int32) (K : Ka) (M : Cm) : Option ((Ka × Cm) ⊕ (Ka × Cm)) := (bT_X3_readPart_213 N G) x0 K M
theorem mbT_X3_readPart_153 {o : (Ka × Cm) ⊕ (Ka × Cm)} {N : Nat} {G : Nat → Nat → Int32 → Int32 → Ka → Cm → Option ((Ka × Cm) ⊕ (Ka × Cm))} (hGm : GMono G) (x0 : Nat) (s0 : Int32) (K : Ka) (M : Cm) (hf : bT_X3_readPart_153 N G x0 s0 K M = some o) : KLe K (oK sV o) := by
  unfold bT_X3_readPart_153 at hf
  exact (mbT_X3_readPart_213 hGm) _ _ _ hf
set_option maxRecDepth 100000 in
set_option maxHeartbeats 4000000 in
theorem wbT_X3_readPart_153 {p : Program} {l : Launch} {e : Env} {R : Room} {s : State} {m : MethodId} {args : Array Value} {below : List Frame} {meth : Method} {c : Code} {x : Xc} {K0 : Ka} {o : (Ka × Cm) ⊕ (Ka × Cm)} {fr lo : Nat} {N : Nat} {G : Nat → Nat → Int32 → Int32 → Ka → Cm → Option ((Ka × Cm) ⊕ (Ka × Cm))} (CTX : CT p l s m args meth c x K0 RX3 "readPart" cX3_readPart 3 none) (hRm : (fr + 1) ≤ R.frames ∧ (lo + 60) ≤ R.locals) (hRc : nz sV K0 o ≤ R.cells ∧ nu sV K0 o ≤ R.slots) (hG : GMet l x G fr lo) (hB0 : 10 ≤ fr ∧ 183 ≤ lo) (hGm : GMono G) (x0 : Nat) (s0 : Int32) (K : Ka) (M : Cm) (H : Heap) (locs : List Loc) (ls : Array Slot) (hf : bT_X3_readPart_153 N G x0 s0 K M = some o) (hL : KLe K0 K) (hR : RC x K M H) (hS : va_S (AC K0) s.heap H locs) (hl : lv_has ls 3 [(0, .ref x0)]) : W p l e R s m args below meth c H locs (kz K - kz K0) (ku K - ku K0) (TQ sV (aQV x K0) (zQV K0) "java/lang/IllegalStateException" x K0 below args s o) (F0 m 153 ls [.int s0]) := by
  obtain ⟨CX, hno, hlt, hmn⟩ := id CTX
  obtain ⟨hx, hb, hml, hown, hts, hE, hB, hr, hlk⟩ := id CX
  have hcs := nz_le (mbT_X3_readPart_153 hGm x0 s0 K M hf) hRc
  unfold bT_X3_readPart_153 at hf
  refine lv_pop hx hb dX3_readPart_153 rfl ?_
  refine lv_goto (tgt := 213) hx hb dX3_readPart_154 (by decide) ?_
  exact (wbT_X3_readPart_213 CTX hRm hRc hG hB0 hGm) _ _ _ _ _ _ hf hL hR hS (lv_sub hl [0] rfl)
def bT_X3_readPart_145 (N : Nat) (G : Nat → Nat → Int32 → Int32 → Ka → Cm → Option ((Ka × Cm) ⊕ (Ka × Cm))) (x0 : Nat) (K : Ka) (M : Cm) : Option ((Ka × Cm) ⊕ (Ka × Cm)) := gd (kd K x0 == 4) (ta (fT_X3_emit N x0 9 0 0 K M) fun o150 => (bT_X3_readPart_153 N G) x0 o150.1 o150.2.1 o150.2.2)
theorem mbT_X3_readPart_145 {o : (Ka × Cm) ⊕ (Ka × Cm)} {N : Nat} {G : Nat → Nat → Int32 → Int32 → Ka → Cm → Option ((Ka × Cm) ⊕ (Ka × Cm))} (hGm : GMono G) (x0 : Nat) (K : Ka) (M : Cm) (hf : bT_X3_readPart_145 N G x0 K M = some o) : KLe K (oK sV o) := by
  unfold bT_X3_readPart_145 at hf
  obtain ⟨-, hf⟩ := gd_some hf
  obtain ⟨o150, ho, hf⟩ := ta_some hf
  exact KLe.tr (mfT_X3_emit _ _ _ _ _ _ ho) ((mbT_X3_readPart_153 hGm) _ _ _ _ hf)
set_option maxRecDepth 100000 in
set_option maxHeartbeats 4000000 in
theorem wbT_X3_readPart_145 {p : Program} {l : Launch} {e : Env} {R : Room} {s : State} {m : MethodId} {args : Array Value} {below : List Frame} {meth : Method} {c : Code} {x : Xc} {K0 : Ka} {o : (Ka × Cm) ⊕ (Ka × Cm)} {fr lo : Nat} {N : Nat} {G : Nat → Nat → Int32 → Int32 → Ka → Cm → Option ((Ka × Cm) ⊕ (Ka × Cm))} (CTX : CT p l s m args meth c x K0 RX3 "readPart" cX3_readPart 3 none) (hRm : (fr + 1) ≤ R.frames ∧ (lo + 60) ≤ R.locals) (hRc : nz sV K0 o ≤ R.cells ∧ nu sV K0 o ≤ R.slots) (hG : GMet l x G fr lo) (hB0 : 10 ≤ fr ∧ 183 ≤ lo) (hGm : GMono G) (x0 : Nat) (K : Ka) (M : Cm) (H : Heap) (locs : List Loc) (ls : Array Slot) (hf : bT_X3_readPart_145 N G x0 K M = some o) (hL : KLe K0 K) (hR : RC x K M H) (hS : va_S (AC K0) s.heap H locs) (hl : lv_has ls 3 [(0, .ref x0)]) : W p l e R s m args below meth c H locs (kz K - kz K0) (ku K - ku K0) (TQ sV (aQV x K0) (zQV K0) "java/lang/IllegalStateException" x K0 below args s o) (F0 m 145 ls []) := by
  obtain ⟨CX, hno, hlt, hmn⟩ := id CTX
  obtain ⟨hx, hb, hml, hown, hts, hE, hB, hr, hlk⟩ := id CX
  have hcs := nz_le (mbT_X3_readPart_145 hGm x0 K M hf) hRc
  unfold bT_X3_readPart_145 at hf
  refine lv_aload_n hx hb dX3_readPart_145 rfl (lv_at hl 0 rfl) ?_
  refine lv_bipush (v := 9) hx hb dX3_readPart_146 (by decide) ?_
  refine lv_iconst (v := 0) hx hb dX3_readPart_148 (by decide) ?_
  refine lv_iconst (v := 0) hx hb dX3_readPart_149 (by decide) ?_
  obtain ⟨hk_x0_4, hf⟩ := gd_some hf
  obtain ⟨o150, ho, hf⟩ := ta_some hf
  have hm1 := (mbT_X3_readPart_153 hGm) _ _ _ _ hf
  have hb1 := nz_le hm1 hRc
  have hq1 := (mfT_X3_emit _ _ _ _ _ _ ho)
  refine ta_callIv kc_3 CX hL hR hS (As := [.int 9, .int 0, .int 0]) (rest := []) hk_x0_4 (MT_X3_emit l x hlt N _ _ _ _ _ _ _ ho) cv_X3_144 ⟨by omega, by omega⟩ rfl (Nat.le_of_ble_eq_true rfl) hl.1 hq1 hb1 rfl dX3_readPart_150 (fun H locs hR hS => ?_)
  exact (wbT_X3_readPart_153 CTX hRm hRc hG hB0 hGm) _ _ _ _ _ _ _ hf (hL.tr hq1) hR hS (lv_sub hl [0] rfl)
def bT_X3_readPart_178 (N : Nat) (G : Nat → Nat → Int32 → Int32 → Ka → Cm → Option ((Ka × Cm) ⊕ (Ka × Cm))) (x0 : Nat) (s0 : Int32) (K : Ka) (M : Cm) : Option ((Ka × Cm) ⊕ (Ka × Cm)) := (bT_X3_readPart_213 N G) x0 K M
theorem mbT_X3_readPart_178 {o : (Ka × Cm) ⊕ (Ka × Cm)} {N : Nat} {G : Nat → Nat → Int32 → Int32 → Ka → Cm → Option ((Ka × Cm) ⊕ (Ka × Cm))} (hGm : GMono G) (x0 : Nat) (s0 : Int32) (K : Ka) (M : Cm) (hf : bT_X3_readPart_178 N G x0 s0 K M = some o) : KLe K (oK sV o) := by
  unfold bT_X3_readPart_178 at hf
  exact (mbT_X3_readPart_213 hGm) _ _ _ hf
set_option maxRecDepth 100000 in
set_option maxHeartbeats 4000000 in
theorem wbT_X3_readPart_178 {p : Program} {l : Launch} {e : Env} {R : Room} {s : State} {m : MethodId} {args : Array Value} {below : List Frame} {meth : Method} {c : Code} {x : Xc} {K0 : Ka} {o : (Ka × Cm) ⊕ (Ka × Cm)} {fr lo : Nat} {N : Nat} {G : Nat → Nat → Int32 → Int32 → Ka → Cm → Option ((Ka × Cm) ⊕ (Ka × Cm))} (CTX : CT p l s m args meth c x K0 RX3 "readPart" cX3_readPart 3 none) (hRm : (fr + 1) ≤ R.frames ∧ (lo + 60) ≤ R.locals) (hRc : nz sV K0 o ≤ R.cells ∧ nu sV K0 o ≤ R.slots) (hG : GMet l x G fr lo) (hB0 : 10 ≤ fr ∧ 183 ≤ lo) (hGm : GMono G) (x0 : Nat) (s0 : Int32) (K : Ka) (M : Cm) (H : Heap) (locs : List Loc) (ls : Array Slot) (hf : bT_X3_readPart_178 N G x0 s0 K M = some o) (hL : KLe K0 K) (hR : RC x K M H) (hS : va_S (AC K0) s.heap H locs) (hl : lv_has ls 3 [(0, .ref x0)]) : W p l e R s m args below meth c H locs (kz K - kz K0) (ku K - ku K0) (TQ sV (aQV x K0) (zQV K0) "java/lang/IllegalStateException" x K0 below args s o) (F0 m 178 ls [.int s0]) := by
  obtain ⟨CX, hno, hlt, hmn⟩ := id CTX
  obtain ⟨hx, hb, hml, hown, hts, hE, hB, hr, hlk⟩ := id CX
  have hcs := nz_le (mbT_X3_readPart_178 hGm x0 s0 K M hf) hRc
  unfold bT_X3_readPart_178 at hf
  refine lv_pop hx hb dX3_readPart_178 rfl ?_
  refine lv_goto (tgt := 213) hx hb dX3_readPart_179 (by decide) ?_
  exact (wbT_X3_readPart_213 CTX hRm hRc hG hB0 hGm) _ _ _ _ _ _ hf hL hR hS (lv_sub hl [0] rfl)
def bT_X3_readPart_174 (N : Nat) (G : Nat → Nat → Int32 → Int32 → Ka → Cm → Option ((Ka × Cm) ⊕ (Ka × Cm))) (x0 : Nat) (s0 : Nat) (s1 : Int32) (s2 : Int32) (K : Ka) (M : Cm) : Option ((Ka × Cm) ⊕ (Ka × Cm)) := gd (kd K s0 == 4) (ta (fT_X3_emit N s0 s1 s2 0 K M) fun o175 => (bT_X3_readPart_178 N G) x0 o175.1 o175.2.1 o175.2.2)
theorem mbT_X3_readPart_174 {o : (Ka × Cm) ⊕ (Ka × Cm)} {N : Nat} {G : Nat → Nat → Int32 → Int32 → Ka → Cm → Option ((Ka × Cm) ⊕ (Ka × Cm))} (hGm : GMono G) (x0 : Nat) (s0 : Nat) (s1 : Int32) (s2 : Int32) (K : Ka) (M : Cm) (hf : bT_X3_readPart_174 N G x0 s0 s1 s2 K M = some o) : KLe K (oK sV o) := by
  unfold bT_X3_readPart_174 at hf
  obtain ⟨-, hf⟩ := gd_some hf
  obtain ⟨o175, ho, hf⟩ := ta_some hf
  exact KLe.tr (mfT_X3_emit _ _ _ _ _ _ ho) ((mbT_X3_readPart_178 hGm) _ _ _ _ hf)
set_option maxRecDepth 100000 in
set_option maxHeartbeats 4000000 in
theorem wbT_X3_readPart_174 {p : Program} {l : Launch} {e : Env} {R : Room} {s : State} {m : MethodId} {args : Array Value} {below : List Frame} {meth : Method} {c : Code} {x : Xc} {K0 : Ka} {o : (Ka × Cm) ⊕ (Ka × Cm)} {fr lo : Nat} {N : Nat} {G : Nat → Nat → Int32 → Int32 → Ka → Cm → Option ((Ka × Cm) ⊕ (Ka × Cm))} (CTX : CT p l s m args meth c x K0 RX3 "readPart" cX3_readPart 3 none) (hRm : (fr + 1) ≤ R.frames ∧ (lo + 60) ≤ R.locals) (hRc : nz sV K0 o ≤ R.cells ∧ nu sV K0 o ≤ R.slots) (hG : GMet l x G fr lo) (hB0 : 10 ≤ fr ∧ 183 ≤ lo) (hGm : GMono G) (x0 : Nat) (s0 : Nat) (s1 : Int32) (s2 : Int32) (K : Ka) (M : Cm) (H : Heap) (locs : List Loc) (ls : Array Slot) (hf : bT_X3_readPart_174 N G x0 s0 s1 s2 K M = some o) (hL : KLe K0 K) (hR : RC x K M H) (hS : va_S (AC K0) s.heap H locs) (hl : lv_has ls 3 [(0, .ref x0)]) : W p l e R s m args below meth c H locs (kz K - kz K0) (ku K - ku K0) (TQ sV (aQV x K0) (zQV K0) "java/lang/IllegalStateException" x K0 below args s o) (F0 m 174 ls [.int s2, .int s1, .ref s0]) := by
  obtain ⟨CX, hno, hlt, hmn⟩ := id CTX
  obtain ⟨hx, hb, hml, hown, hts, hE, hB, hr, hlk⟩ := id CX
  have hcs := nz_le (mbT_X3_readPart_174 hGm x0 s0 s1 s2 K M hf) hRc
  unfold bT_X3_readPart_174 at hf
  refine lv_iconst (v := 0) hx hb dX3_readPart_174 (by decide) ?_
  obtain ⟨hk_s0_4, hf⟩ := gd_some hf
  obtain ⟨o175, ho, hf⟩ := ta_some hf
  have hm1 := (mbT_X3_readPart_178 hGm) _ _ _ _ hf
  have hb1 := nz_le hm1 hRc
  have hq1 := (mfT_X3_emit _ _ _ _ _ _ ho)
  refine ta_callIv kc_3 CX hL hR hS (As := [.int s1, .int s2, .int 0]) (rest := []) hk_s0_4 (MT_X3_emit l x hlt N _ _ _ _ _ _ _ ho) cv_X3_144 ⟨by omega, by omega⟩ rfl (Nat.le_of_ble_eq_true rfl) hl.1 hq1 hb1 rfl dX3_readPart_175 (fun H locs hR hS => ?_)
  exact (wbT_X3_readPart_178 CTX hRm hRc hG hB0 hGm) _ _ _ _ _ _ _ hf (hL.tr hq1) hR hS (lv_sub hl [0] rfl)
def bT_X3_readPart_212 (N : Nat) (G : Nat → Nat → Int32 → Int32 → Ka → Cm → Option ((Ka × Cm) ⊕ (Ka × Cm))) (x0 : Nat) (s0 : Int32) (K : Ka) (M : Cm) : Option ((Ka × Cm) ⊕ (Ka × Cm)) := (bT_X3_readPart_213 N G) x0 K M
theorem mbT_X3_readPart_212 {o : (Ka × Cm) ⊕ (Ka × Cm)} {N : Nat} {G : Nat → Nat → Int32 → Int32 → Ka → Cm → Option ((Ka × Cm) ⊕ (Ka × Cm))} (hGm : GMono G) (x0 : Nat) (s0 : Int32) (K : Ka) (M : Cm) (hf : bT_X3_readPart_212 N G x0 s0 K M = some o) : KLe K (oK sV o) := by
  unfold bT_X3_readPart_212 at hf
  exact (mbT_X3_readPart_213 hGm) _ _ _ hf
set_option maxRecDepth 100000 in
set_option maxHeartbeats 4000000 in
theorem wbT_X3_readPart_212 {p : Program} {l : Launch} {e : Env} {R : Room} {s : State} {m : MethodId} {args : Array Value} {below : List Frame} {meth : Method} {c : Code} {x : Xc} {K0 : Ka} {o : (Ka × Cm) ⊕ (Ka × Cm)} {fr lo : Nat} {N : Nat} {G : Nat → Nat → Int32 → Int32 → Ka → Cm → Option ((Ka × Cm) ⊕ (Ka × Cm))} (CTX : CT p l s m args meth c x K0 RX3 "readPart" cX3_readPart 3 none) (hRm : (fr + 1) ≤ R.frames ∧ (lo + 60) ≤ R.locals) (hRc : nz sV K0 o ≤ R.cells ∧ nu sV K0 o ≤ R.slots) (hG : GMet l x G fr lo) (hB0 : 10 ≤ fr ∧ 183 ≤ lo) (hGm : GMono G) (x0 : Nat) (s0 : Int32) (K : Ka) (M : Cm) (H : Heap) (locs : List Loc) (ls : Array Slot) (hf : bT_X3_readPart_212 N G x0 s0 K M = some o) (hL : KLe K0 K) (hR : RC x K M H) (hS : va_S (AC K0) s.heap H locs) (hl : lv_has ls 3 [(0, .ref x0)]) : W p l e R s m args below meth c H locs (kz K - kz K0) (ku K - ku K0) (TQ sV (aQV x K0) (zQV K0) "java/lang/IllegalStateException" x K0 below args s o) (F0 m 212 ls [.int s0]) := by
  obtain ⟨CX, hno, hlt, hmn⟩ := id CTX
  obtain ⟨hx, hb, hml, hown, hts, hE, hB, hr, hlk⟩ := id CX
  have hcs := nz_le (mbT_X3_readPart_212 hGm x0 s0 K M hf) hRc
  unfold bT_X3_readPart_212 at hf
  refine lv_pop hx hb dX3_readPart_212 rfl ?_
  exact (wbT_X3_readPart_213 CTX hRm hRc hG hB0 hGm) _ _ _ _ _ _ hf hL hR hS (lv_sub hl [0] rfl)
def bT_X3_readPart_207 (N : Nat) (G : Nat → Nat → Int32 → Int32 → Ka → Cm → Option ((Ka × Cm) ⊕ (Ka × Cm))) (x0 : Nat) (s0 : Nat) (s1 : Int32) (K : Ka) (M : Cm) : Option ((Ka × Cm) ⊕ (Ka × Cm)) := gd (kd K s0 == 4) (ta (fT_X3_emit N s0 s1 0 0 K M) fun o209 => (bT_X3_readPart_212 N G) x0 o209.1 o209.2.1 o209.2.2)
theorem mbT_X3_readPart_207 {o : (Ka × Cm) ⊕ (Ka × Cm)} {N : Nat} {G : Nat → Nat → Int32 → Int32 → Ka → Cm → Option ((Ka × Cm) ⊕ (Ka × Cm))} (hGm : GMono G) (x0 : Nat) (s0 : Nat) (s1 : Int32) (K : Ka) (M : Cm) (hf : bT_X3_readPart_207 N G x0 s0 s1 K M = some o) : KLe K (oK sV o) := by
  unfold bT_X3_readPart_207 at hf
  obtain ⟨-, hf⟩ := gd_some hf
  obtain ⟨o209, ho, hf⟩ := ta_some hf
  exact KLe.tr (mfT_X3_emit _ _ _ _ _ _ ho) ((mbT_X3_readPart_212 hGm) _ _ _ _ hf)
set_option maxRecDepth 100000 in
set_option maxHeartbeats 4000000 in
theorem wbT_X3_readPart_207 {p : Program} {l : Launch} {e : Env} {R : Room} {s : State} {m : MethodId} {args : Array Value} {below : List Frame} {meth : Method} {c : Code} {x : Xc} {K0 : Ka} {o : (Ka × Cm) ⊕ (Ka × Cm)} {fr lo : Nat} {N : Nat} {G : Nat → Nat → Int32 → Int32 → Ka → Cm → Option ((Ka × Cm) ⊕ (Ka × Cm))} (CTX : CT p l s m args meth c x K0 RX3 "readPart" cX3_readPart 3 none) (hRm : (fr + 1) ≤ R.frames ∧ (lo + 60) ≤ R.locals) (hRc : nz sV K0 o ≤ R.cells ∧ nu sV K0 o ≤ R.slots) (hG : GMet l x G fr lo) (hB0 : 10 ≤ fr ∧ 183 ≤ lo) (hGm : GMono G) (x0 : Nat) (s0 : Nat) (s1 : Int32) (K : Ka) (M : Cm) (H : Heap) (locs : List Loc) (ls : Array Slot) (hf : bT_X3_readPart_207 N G x0 s0 s1 K M = some o) (hL : KLe K0 K) (hR : RC x K M H) (hS : va_S (AC K0) s.heap H locs) (hl : lv_has ls 3 [(0, .ref x0)]) : W p l e R s m args below meth c H locs (kz K - kz K0) (ku K - ku K0) (TQ sV (aQV x K0) (zQV K0) "java/lang/IllegalStateException" x K0 below args s o) (F0 m 207 ls [.int s1, .ref s0]) := by
  obtain ⟨CX, hno, hlt, hmn⟩ := id CTX
  obtain ⟨hx, hb, hml, hown, hts, hE, hB, hr, hlk⟩ := id CX
  have hcs := nz_le (mbT_X3_readPart_207 hGm x0 s0 s1 K M hf) hRc
  unfold bT_X3_readPart_207 at hf
  refine lv_iconst (v := 0) hx hb dX3_readPart_207 (by decide) ?_
  refine lv_iconst (v := 0) hx hb dX3_readPart_208 (by decide) ?_
  obtain ⟨hk_s0_4, hf⟩ := gd_some hf
  obtain ⟨o209, ho, hf⟩ := ta_some hf
  have hm1 := (mbT_X3_readPart_212 hGm) _ _ _ _ hf
  have hb1 := nz_le hm1 hRc
  have hq1 := (mfT_X3_emit _ _ _ _ _ _ ho)
  refine ta_callIv kc_3 CX hL hR hS (As := [.int s1, .int 0, .int 0]) (rest := []) hk_s0_4 (MT_X3_emit l x hlt N _ _ _ _ _ _ _ ho) cv_X3_144 ⟨by omega, by omega⟩ rfl (Nat.le_of_ble_eq_true rfl) hl.1 hq1 hb1 rfl dX3_readPart_209 (fun H locs hR hS => ?_)
  exact (wbT_X3_readPart_212 CTX hRm hRc hG hB0 hGm) _ _ _ _ _ _ _ hf (hL.tr hq1) hR hS (lv_sub hl [0] rfl)
def bT_X3_readPart_12 (N : Nat) (G : Nat → Nat → Int32 → Int32 → Ka → Cm → Option ((Ka × Cm) ⊕ (Ka × Cm))) (x0 : Nat) (x1 : Int32) (s0 : Int32) (K : Ka) (M : Cm) : Option ((Ka × Cm) ⊕ (Ka × Cm)) := gd (kd K x0 == 4) (if (cI M x0 3) = 2 then (nn (cR M x0 1) fun a1 => tb (fT_X3_readPlace N x0 0 K M) fun o74 => (bT_X3_readPart_77 N G) x0 a1 o74.1 o74.2.1 o74.2.2) else if (cI M x0 3) = 3 then (tb (fT_X3_takeNumber N x0 0 999999999 K M) fun o91 => (bT_X3_readPart_94 N G) x0 x0 2 0 o91.1 o91.2.1 o91.2.2) else if (cI M x0 3) = 40 then ((fC_X3_moveTo N K x0 ((cI M x0 2) + 1) M).bind fun o108 => tb (G 5 x0 0 (x1 + 1) K o108) fun o116 => (bT_X3_readPart_119 N G) x0 o116.1 o116.2) else if (cI M x0 3) = 45 then ((fC_X3_moveTo N K x0 ((cI M x0 2) + 1) M).bind fun o135 => tb (G 6 x0 (x1 + 1) 0 K o135) fun o142 => (bT_X3_readPart_145 N G) x0 o142.1 o142.2) else if (cI M x0 3) = 150 then ((fC_X3_moveTo N K x0 ((cI M x0 2) + 1) M).bind fun o164 => tb (fT_X3_takeDevice N x0 K o164) fun o171 => (bT_X3_readPart_174 N G) x0 x0 10 o171.1 o171.2.1 o171.2.2) else ((fC_X3_moveTo N K x0 ((cI M x0 2) + 1) M).bind fun o189 => if (cI M x0 3) = 151 then ((bT_X3_readPart_207 N G) x0 x0 11 K o189) else ((bT_X3_readPart_207 N G) x0 x0 12 K o189)))
theorem mbT_X3_readPart_12 {o : (Ka × Cm) ⊕ (Ka × Cm)} {N : Nat} {G : Nat → Nat → Int32 → Int32 → Ka → Cm → Option ((Ka × Cm) ⊕ (Ka × Cm))} (hGm : GMono G) (x0 : Nat) (x1 : Int32) (s0 : Int32) (K : Ka) (M : Cm) (hf : bT_X3_readPart_12 N G x0 x1 s0 K M = some o) : KLe K (oK sV o) := by
  unfold bT_X3_readPart_12 at hf
  obtain ⟨-, hf⟩ := gd_some hf
  by_cases hc0 : (cI M x0 3) = 2
  · rw [if_pos hc0] at hf
    obtain ⟨a1, -, hf⟩ := nn_some hf
    rcases tb_some hf with ⟨o74, ho, hf⟩ | ⟨q, ho, rfl⟩
    · exact KLe.tr (mfT_X3_readPlace _ _ _ _ ho) ((mbT_X3_readPart_77 hGm) _ _ _ _ _ hf)
    · exact (mfT_X3_readPlace _ _ _ _ ho)
  · rw [if_neg hc0] at hf
    by_cases hc1 : (cI M x0 3) = 3
    · rw [if_pos hc1] at hf
      rcases tb_some hf with ⟨o91, ho, hf⟩ | ⟨q, ho, rfl⟩
      · exact KLe.tr (mfT_X3_takeNumber _ _ _ _ _ ho) ((mbT_X3_readPart_94 hGm) _ _ _ _ _ _ _ hf)
      · exact (mfT_X3_takeNumber _ _ _ _ _ ho)
    · rw [if_neg hc1] at hf
      by_cases hc2 : (cI M x0 3) = 40
      · rw [if_pos hc2] at hf
        obtain ⟨o108, -, hf⟩ := bnd_some hf
        rcases tb_some hf with ⟨o116, ho, hf⟩ | ⟨q, ho, rfl⟩
        · exact KLe.tr (hGm _ _ _ _ _ _ _ ho) ((mbT_X3_readPart_119 hGm) _ _ _ hf)
        · exact (hGm _ _ _ _ _ _ _ ho)
      · rw [if_neg hc2] at hf
        by_cases hc3 : (cI M x0 3) = 45
        · rw [if_pos hc3] at hf
          obtain ⟨o135, -, hf⟩ := bnd_some hf
          rcases tb_some hf with ⟨o142, ho, hf⟩ | ⟨q, ho, rfl⟩
          · exact KLe.tr (hGm _ _ _ _ _ _ _ ho) ((mbT_X3_readPart_145 hGm) _ _ _ hf)
          · exact (hGm _ _ _ _ _ _ _ ho)
        · rw [if_neg hc3] at hf
          by_cases hc4 : (cI M x0 3) = 150
          · rw [if_pos hc4] at hf
            obtain ⟨o164, -, hf⟩ := bnd_some hf
            rcases tb_some hf with ⟨o171, ho, hf⟩ | ⟨q, ho, rfl⟩
            · exact KLe.tr (mfT_X3_takeDevice _ _ _ ho) ((mbT_X3_readPart_174 hGm) _ _ _ _ _ _ hf)
            · exact (mfT_X3_takeDevice _ _ _ ho)
          · rw [if_neg hc4] at hf
            obtain ⟨o189, -, hf⟩ := bnd_some hf
            by_cases hc : (cI M x0 3) = 151
            · rw [if_pos hc] at hf
              exact (mbT_X3_readPart_207 hGm) _ _ _ _ _ hf
            · rw [if_neg hc] at hf
              exact (mbT_X3_readPart_207 hGm) _ _ _ _ _ hf
set_option maxRecDepth 100000 in
set_option maxHeartbeats 4000000 in
theorem wbT_X3_readPart_12 {p : Program} {l : Launch} {e : Env} {R : Room} {s : State} {m : MethodId} {args : Array Value} {below : List Frame} {meth : Method} {c : Code} {x : Xc} {K0 : Ka} {o : (Ka × Cm) ⊕ (Ka × Cm)} {fr lo : Nat} {N : Nat} {G : Nat → Nat → Int32 → Int32 → Ka → Cm → Option ((Ka × Cm) ⊕ (Ka × Cm))} (CTX : CT p l s m args meth c x K0 RX3 "readPart" cX3_readPart 3 none) (hRm : (fr + 1) ≤ R.frames ∧ (lo + 60) ≤ R.locals) (hRc : nz sV K0 o ≤ R.cells ∧ nu sV K0 o ≤ R.slots) (hG : GMet l x G fr lo) (hB0 : 10 ≤ fr ∧ 183 ≤ lo) (hGm : GMono G) (x0 : Nat) (x1 : Int32) (s0 : Int32) (K : Ka) (M : Cm) (H : Heap) (locs : List Loc) (ls : Array Slot) (hf : bT_X3_readPart_12 N G x0 x1 s0 K M = some o) (hL : KLe K0 K) (hR : RC x K M H) (hS : va_S (AC K0) s.heap H locs) (hl : lv_has ls 3 [(0, .ref x0), (1, .int x1)]) : W p l e R s m args below meth c H locs (kz K - kz K0) (ku K - ku K0) (TQ sV (aQV x K0) (zQV K0) "java/lang/IllegalStateException" x K0 below args s o) (F0 m 12 ls [.int s0]) := by
  obtain ⟨CX, hno, hlt, hmn⟩ := id CTX
  obtain ⟨hx, hb, hml, hown, hts, hE, hB, hr, hlk⟩ := id CX
  have hcs := nz_le (mbT_X3_readPart_12 hGm x0 x1 s0 K M hf) hRc
  unfold bT_X3_readPart_12 at hf
  refine lv_pop hx hb dX3_readPart_12 rfl ?_
  refine lv_aload_n hx hb dX3_readPart_13 rfl (lv_at hl 0 rfl) ?_
  obtain ⟨hk_x0_4, hf⟩ := gd_some hf
  refine cr_getI kc_3 CX hR fa_X3_19 rfl hk_x0_4 dX3_readPart_14 ?_
  refine lv_istore_n (lv' := [(2, .int (cI M x0 3)), (0, .ref x0), (1, .int x1)]) hx hb dX3_readPart_17 rfl hl (by decide) rfl (fun ls hl => ?_)
  refine lv_iload_n hx hb dX3_readPart_18 rfl (lv_at hl 0 rfl) ?_
  by_cases hc0 : (cI M x0 3) = 2
  · rw [if_pos hc0] at hf
    refine lv_lookup (off := 49) (tgt := 68) hx hb dX3_readPart_19 (by decide) (by rw [hc0]; decide) (by decide) ?_
    refine lv_aload_n hx hb dX3_readPart_68 rfl (lv_at hl 1 rfl) ?_
    refine cr_getR kc_3 CX hR fa_X3_9 rfl hk_x0_4 dX3_readPart_69 ?_
    refine lv_aload_n hx hb dX3_readPart_72 rfl (lv_at hl 1 rfl) ?_
    refine lv_iconst (v := 0) hx hb dX3_readPart_73 (by decide) ?_
    obtain ⟨a1, ha1, hf⟩ := nn_some hf
    refine rf_2 ha1 ?_
    rcases tb_some hf with ⟨o74, ho, hf⟩ | ⟨q, ho, rfl⟩
    · have hm1 := (mbT_X3_readPart_77 hGm) _ _ _ _ _ hf
      have hb1 := nz_le hm1 hRc
      have hq1 := (mfT_X3_readPlace _ _ _ _ ho)
      refine ta_callLv kc_3 CX hL hR hS (As := [.int 0]) (rest := [.ref a1]) hk_x0_4 (MT_X3_readPlace l x hlt N _ _ _ _ _ ho) cv_X3_234 ⟨by omega, by omega⟩ rfl (Nat.le_of_ble_eq_true rfl) hl.1 hq1 hb1 rfl dX3_readPart_74 (fun H locs hR hS => ?_)
      exact (wbT_X3_readPart_77 CTX hRm hRc hG hB0 hGm) _ _ _ _ _ _ _ _ hf (hL.tr hq1) hR hS (lv_sub hl [1] rfl)
    · exact tx_callv kc_3 CTX hL hR hS (As := [.int 0]) (rest := [.ref a1]) hk_x0_4 (MT_X3_readPlace l x hlt N _ _ _ _ _ ho) cv_X3_234 ⟨by omega, by omega⟩ rfl (Nat.le_of_ble_eq_true rfl) hl.1 (mfT_X3_readPlace _ _ _ _ ho) hRc rfl dX3_readPart_74
  · rw [if_neg hc0] at hf
    by_cases hc1 : (cI M x0 3) = 3
    · rw [if_pos hc1] at hf
      refine lv_lookup (off := 65) (tgt := 84) hx hb dX3_readPart_19 (by decide) (by rw [hc1]; decide) (by decide) ?_
      refine lv_aload_n hx hb dX3_readPart_84 rfl (lv_at hl 1 rfl) ?_
      refine lv_iconst (v := 2) hx hb dX3_readPart_85 (by decide) ?_
      refine lv_iconst (v := 0) hx hb dX3_readPart_86 (by decide) ?_
      refine lv_aload_n hx hb dX3_readPart_87 rfl (lv_at hl 1 rfl) ?_
      refine lv_iconst (v := 0) hx hb dX3_readPart_88 (by decide) ?_
      refine lv_ldc hx hb hown (hts _ wc_774) dX3_readPart_89 ?_
      rcases tb_some hf with ⟨o91, ho, hf⟩ | ⟨q, ho, rfl⟩
      · have hm1 := (mbT_X3_readPart_94 hGm) _ _ _ _ _ _ _ hf
        have hb1 := nz_le hm1 hRc
        have hq1 := (mfT_X3_takeNumber _ _ _ _ _ ho)
        refine ta_callIv kc_3 CX hL hR hS (As := [.int 0, .int 999999999]) (rest := [.int 0, .int 2, .ref x0]) hk_x0_4 (MT_X3_takeNumber l x hlt N _ _ _ _ _ _ ho) cv_X3_123 ⟨by omega, by omega⟩ rfl (Nat.le_of_ble_eq_true rfl) hl.1 hq1 hb1 rfl dX3_readPart_91 (fun H locs hR hS => ?_)
        exact (wbT_X3_readPart_94 CTX hRm hRc hG hB0 hGm) _ _ _ _ _ _ _ _ _ _ hf (hL.tr hq1) hR hS (lv_sub hl [1] rfl)
      · exact tx_callv kc_3 CTX hL hR hS (As := [.int 0, .int 999999999]) (rest := [.int 0, .int 2, .ref x0]) hk_x0_4 (MT_X3_takeNumber l x hlt N _ _ _ _ _ _ ho) cv_X3_123 ⟨by omega, by omega⟩ rfl (Nat.le_of_ble_eq_true rfl) hl.1 (mfT_X3_takeNumber _ _ _ _ _ ho) hRc rfl dX3_readPart_91
    · rw [if_neg hc1] at hf
      by_cases hc2 : (cI M x0 3) = 40
      · rw [if_pos hc2] at hf
        refine lv_lookup (off := 82) (tgt := 101) hx hb dX3_readPart_19 (by decide) (by rw [hc2]; decide) (by decide) ?_
        refine lv_aload_n hx hb dX3_readPart_101 rfl (lv_at hl 1 rfl) ?_
        refine lv_aload_n hx hb dX3_readPart_102 rfl (lv_at hl 1 rfl) ?_
        refine cr_getI kc_3 CX hR fa_X3_15 rfl hk_x0_4 dX3_readPart_103 ?_
        refine lv_iconst (v := 1) hx hb dX3_readPart_106 (by decide) ?_
        refine lv_iadd hx hb dX3_readPart_107 ?_
        obtain ⟨o108, ho108, hf⟩ := bnd_some hf
        refine cr_callVv kc_3 CX hR hL hS (As := [.int ((cI M x0 2) + 1)]) (rest := []) hk_x0_4 (MC_X3_moveTo l x N K x0 ((cI M x0 2) + 1) M o108 ho108) cv_X3_42 ⟨by omega, by omega⟩ rfl rfl (Nat.le_of_ble_eq_true rfl) hl.1 dX3_readPart_108 hcs (fun H locs hR hS => ?_)
        refine lv_aload_n hx hb dX3_readPart_111 rfl (lv_at hl 1 rfl) ?_
        refine lv_iconst (v := 0) hx hb dX3_readPart_112 (by decide) ?_
        refine lv_iload_n hx hb dX3_readPart_113 rfl (lv_at hl 2 rfl) ?_
        refine lv_iconst (v := 1) hx hb dX3_readPart_114 (by decide) ?_
        refine lv_iadd hx hb dX3_readPart_115 ?_
        rcases tb_some hf with ⟨o116, ho, hf⟩ | ⟨q, ho, rfl⟩
        · have hm1 := (mbT_X3_readPart_119 hGm) _ _ _ hf
          have hb1 := nz_le hm1 hRc
          have hq1 := (hGm _ _ _ _ _ _ _ ho)
          refine ta_callVv kc_3 CX hL hR hS (As := [.int 0, .int (x1 + 1)]) (rest := []) hk_x0_4 (hG.2.2.2.2.2.1 _ _ _ _ _ _ ho) cv_X3_227 ⟨by omega, by omega⟩ rfl (Nat.le_of_ble_eq_true rfl) hl.1 hq1 hb1 rfl dX3_readPart_116 (fun H locs hR hS => ?_)
          exact (wbT_X3_readPart_119 CTX hRm hRc hG hB0 hGm) _ _ _ _ _ _ hf (hL.tr hq1) hR hS (lv_sub hl [1] rfl)
        · exact tx_callv kc_3 CTX hL hR hS (As := [.int 0, .int (x1 + 1)]) (rest := []) hk_x0_4 (hG.2.2.2.2.2.1 _ _ _ _ _ _ ho) cv_X3_227 ⟨by omega, by omega⟩ rfl (Nat.le_of_ble_eq_true rfl) hl.1 (hGm _ _ _ _ _ _ _ ho) hRc rfl dX3_readPart_116
      · rw [if_neg hc2] at hf
        by_cases hc3 : (cI M x0 3) = 45
        · rw [if_pos hc3] at hf
          refine lv_lookup (off := 109) (tgt := 128) hx hb dX3_readPart_19 (by decide) (by rw [hc3]; decide) (by decide) ?_
          refine lv_aload_n hx hb dX3_readPart_128 rfl (lv_at hl 1 rfl) ?_
          refine lv_aload_n hx hb dX3_readPart_129 rfl (lv_at hl 1 rfl) ?_
          refine cr_getI kc_3 CX hR fa_X3_15 rfl hk_x0_4 dX3_readPart_130 ?_
          refine lv_iconst (v := 1) hx hb dX3_readPart_133 (by decide) ?_
          refine lv_iadd hx hb dX3_readPart_134 ?_
          obtain ⟨o135, ho135, hf⟩ := bnd_some hf
          refine cr_callVv kc_3 CX hR hL hS (As := [.int ((cI M x0 2) + 1)]) (rest := []) hk_x0_4 (MC_X3_moveTo l x N K x0 ((cI M x0 2) + 1) M o135 ho135) cv_X3_42 ⟨by omega, by omega⟩ rfl rfl (Nat.le_of_ble_eq_true rfl) hl.1 dX3_readPart_135 hcs (fun H locs hR hS => ?_)
          refine lv_aload_n hx hb dX3_readPart_138 rfl (lv_at hl 1 rfl) ?_
          refine lv_iload_n hx hb dX3_readPart_139 rfl (lv_at hl 2 rfl) ?_
          refine lv_iconst (v := 1) hx hb dX3_readPart_140 (by decide) ?_
          refine lv_iadd hx hb dX3_readPart_141 ?_
          rcases tb_some hf with ⟨o142, ho, hf⟩ | ⟨q, ho, rfl⟩
          · have hm1 := (mbT_X3_readPart_145 hGm) _ _ _ hf
            have hb1 := nz_le hm1 hRc
            have hq1 := (hGm _ _ _ _ _ _ _ ho)
            refine ta_callVv kc_3 CX hL hR hS (As := [.int (x1 + 1)]) (rest := []) hk_x0_4 (hG.2.2.2.2.2.2 _ _ _ _ _ ho) cv_X3_274 ⟨by omega, by omega⟩ rfl (Nat.le_of_ble_eq_true rfl) hl.1 hq1 hb1 rfl dX3_readPart_142 (fun H locs hR hS => ?_)
            exact (wbT_X3_readPart_145 CTX hRm hRc hG hB0 hGm) _ _ _ _ _ _ hf (hL.tr hq1) hR hS (lv_sub hl [1] rfl)
          · exact tx_callv kc_3 CTX hL hR hS (As := [.int (x1 + 1)]) (rest := []) hk_x0_4 (hG.2.2.2.2.2.2 _ _ _ _ _ ho) cv_X3_274 ⟨by omega, by omega⟩ rfl (Nat.le_of_ble_eq_true rfl) hl.1 (hGm _ _ _ _ _ _ _ ho) hRc rfl dX3_readPart_142
        · rw [if_neg hc3] at hf
          by_cases hc4 : (cI M x0 3) = 150
          · rw [if_pos hc4] at hf
            refine lv_lookup (off := 138) (tgt := 157) hx hb dX3_readPart_19 (by decide) (by rw [hc4]; decide) (by decide) ?_
            refine lv_aload_n hx hb dX3_readPart_157 rfl (lv_at hl 1 rfl) ?_
            refine lv_aload_n hx hb dX3_readPart_158 rfl (lv_at hl 1 rfl) ?_
            refine cr_getI kc_3 CX hR fa_X3_15 rfl hk_x0_4 dX3_readPart_159 ?_
            refine lv_iconst (v := 1) hx hb dX3_readPart_162 (by decide) ?_
            refine lv_iadd hx hb dX3_readPart_163 ?_
            obtain ⟨o164, ho164, hf⟩ := bnd_some hf
            refine cr_callVv kc_3 CX hR hL hS (As := [.int ((cI M x0 2) + 1)]) (rest := []) hk_x0_4 (MC_X3_moveTo l x N K x0 ((cI M x0 2) + 1) M o164 ho164) cv_X3_42 ⟨by omega, by omega⟩ rfl rfl (Nat.le_of_ble_eq_true rfl) hl.1 dX3_readPart_164 hcs (fun H locs hR hS => ?_)
            refine lv_aload_n hx hb dX3_readPart_167 rfl (lv_at hl 1 rfl) ?_
            refine lv_bipush (v := 10) hx hb dX3_readPart_168 (by decide) ?_
            refine lv_aload_n hx hb dX3_readPart_170 rfl (lv_at hl 1 rfl) ?_
            rcases tb_some hf with ⟨o171, ho, hf⟩ | ⟨q, ho, rfl⟩
            · have hm1 := (mbT_X3_readPart_174 hGm) _ _ _ _ _ _ hf
              have hb1 := nz_le hm1 hRc
              have hq1 := (mfT_X3_takeDevice _ _ _ ho)
              refine ta_callIv kc_3 CX hL hR hS (As := []) (rest := [.int 10, .ref x0]) hk_x0_4 (MT_X3_takeDevice l x hlt N _ _ _ _ ho) cv_X3_241 ⟨by omega, by omega⟩ rfl (Nat.le_of_ble_eq_true rfl) hl.1 hq1 hb1 rfl dX3_readPart_171 (fun H locs hR hS => ?_)
              exact (wbT_X3_readPart_174 CTX hRm hRc hG hB0 hGm) _ _ _ _ _ _ _ _ _ hf (hL.tr hq1) hR hS (lv_sub hl [1] rfl)
            · exact tx_callv kc_3 CTX hL hR hS (As := []) (rest := [.int 10, .ref x0]) hk_x0_4 (MT_X3_takeDevice l x hlt N _ _ _ _ ho) cv_X3_241 ⟨by omega, by omega⟩ rfl (Nat.le_of_ble_eq_true rfl) hl.1 (mfT_X3_takeDevice _ _ _ ho) hRc rfl dX3_readPart_171
          · rw [if_neg hc4] at hf
            have hn0 := tsw_ne (k := 2) rfl hc0
            have hn1 := tsw_ne (k := 3) rfl hc1
            have hn2 := tsw_ne (k := 40) rfl hc2
            have hn3 := tsw_ne (k := 45) rfl hc3
            have hn4 := tsw_ne (k := 150) rfl hc4
            refine lv_lookup (off := 163) (tgt := 182) hx hb dX3_readPart_19 (by decide) (by simp only [Op.lookupswitch.offset, List.toList_toArray, Ne.symm hn0, Ne.symm hn1, Ne.symm hn2, Ne.symm hn3, Ne.symm hn4, if_false]) (by decide) ?_
            refine lv_aload_n hx hb dX3_readPart_182 rfl (lv_at hl 1 rfl) ?_
            refine lv_aload_n hx hb dX3_readPart_183 rfl (lv_at hl 1 rfl) ?_
            refine cr_getI kc_3 CX hR fa_X3_15 rfl hk_x0_4 dX3_readPart_184 ?_
            refine lv_iconst (v := 1) hx hb dX3_readPart_187 (by decide) ?_
            refine lv_iadd hx hb dX3_readPart_188 ?_
            obtain ⟨o189, ho189, hf⟩ := bnd_some hf
            refine cr_callVv kc_3 CX hR hL hS (As := [.int ((cI M x0 2) + 1)]) (rest := []) hk_x0_4 (MC_X3_moveTo l x N K x0 ((cI M x0 2) + 1) M o189 ho189) cv_X3_42 ⟨by omega, by omega⟩ rfl rfl (Nat.le_of_ble_eq_true rfl) hl.1 dX3_readPart_189 hcs (fun H locs hR hS => ?_)
            refine lv_aload_n hx hb dX3_readPart_192 rfl (lv_at hl 1 rfl) ?_
            refine lv_iload_n hx hb dX3_readPart_193 rfl (lv_at hl 0 rfl) ?_
            refine lv_sipush (v := 151) hx hb dX3_readPart_194 (by decide) ?_
            refine lv_icmp_ne (tgt := 205) hx hb dX3_readPart_197 (by decide) (fun hc => ?_) (fun hc => ?_)
            · rw [if_neg hc] at hf
              refine lv_bipush (v := 12) hx hb dX3_readPart_205 (by decide) ?_
              exact (wbT_X3_readPart_207 CTX hRm hRc hG hB0 hGm) _ _ _ _ _ _ _ _ hf hL hR hS (lv_sub hl [1] rfl)
            · rw [if_pos hc] at hf
              refine lv_bipush (v := 11) hx hb dX3_readPart_200 (by decide) ?_
              refine lv_goto (tgt := 207) hx hb dX3_readPart_202 (by decide) ?_
              exact (wbT_X3_readPart_207 CTX hRm hRc hG hB0 hGm) _ _ _ _ _ _ _ _ hf hL hR hS (lv_sub hl [1] rfl)
def bT_X3_readPart_5 (N : Nat) (G : Nat → Nat → Int32 → Int32 → Ka → Cm → Option ((Ka × Cm) ⊕ (Ka × Cm))) (x0 : Nat) (x1 : Int32) (K : Ka) (M : Cm) : Option ((Ka × Cm) ⊕ (Ka × Cm)) := gd (kd K x0 == 4) (ta (fT_X3_emit N x0 1 0 0 K M) fun o9 => (bT_X3_readPart_12 N G) x0 x1 o9.1 o9.2.1 o9.2.2)
theorem mbT_X3_readPart_5 {o : (Ka × Cm) ⊕ (Ka × Cm)} {N : Nat} {G : Nat → Nat → Int32 → Int32 → Ka → Cm → Option ((Ka × Cm) ⊕ (Ka × Cm))} (hGm : GMono G) (x0 : Nat) (x1 : Int32) (K : Ka) (M : Cm) (hf : bT_X3_readPart_5 N G x0 x1 K M = some o) : KLe K (oK sV o) := by
  unfold bT_X3_readPart_5 at hf
  obtain ⟨-, hf⟩ := gd_some hf
  obtain ⟨o9, ho, hf⟩ := ta_some hf
  exact KLe.tr (mfT_X3_emit _ _ _ _ _ _ ho) ((mbT_X3_readPart_12 hGm) _ _ _ _ _ hf)
set_option maxRecDepth 100000 in
set_option maxHeartbeats 4000000 in
theorem wbT_X3_readPart_5 {p : Program} {l : Launch} {e : Env} {R : Room} {s : State} {m : MethodId} {args : Array Value} {below : List Frame} {meth : Method} {c : Code} {x : Xc} {K0 : Ka} {o : (Ka × Cm) ⊕ (Ka × Cm)} {fr lo : Nat} {N : Nat} {G : Nat → Nat → Int32 → Int32 → Ka → Cm → Option ((Ka × Cm) ⊕ (Ka × Cm))} (CTX : CT p l s m args meth c x K0 RX3 "readPart" cX3_readPart 3 none) (hRm : (fr + 1) ≤ R.frames ∧ (lo + 60) ≤ R.locals) (hRc : nz sV K0 o ≤ R.cells ∧ nu sV K0 o ≤ R.slots) (hG : GMet l x G fr lo) (hB0 : 10 ≤ fr ∧ 183 ≤ lo) (hGm : GMono G) (x0 : Nat) (x1 : Int32) (K : Ka) (M : Cm) (H : Heap) (locs : List Loc) (ls : Array Slot) (hf : bT_X3_readPart_5 N G x0 x1 K M = some o) (hL : KLe K0 K) (hR : RC x K M H) (hS : va_S (AC K0) s.heap H locs) (hl : lv_has ls 3 [(0, .ref x0), (1, .int x1)]) : W p l e R s m args below meth c H locs (kz K - kz K0) (ku K - ku K0) (TQ sV (aQV x K0) (zQV K0) "java/lang/IllegalStateException" x K0 below args s o) (F0 m 5 ls []) := by
  obtain ⟨CX, hno, hlt, hmn⟩ := id CTX
  obtain ⟨hx, hb, hml, hown, hts, hE, hB, hr, hlk⟩ := id CX
  have hcs := nz_le (mbT_X3_readPart_5 hGm x0 x1 K M hf) hRc
  unfold bT_X3_readPart_5 at hf
  refine lv_aload_n hx hb dX3_readPart_5 rfl (lv_at hl 0 rfl) ?_
  refine lv_iconst (v := 1) hx hb dX3_readPart_6 (by decide) ?_
  refine lv_iconst (v := 0) hx hb dX3_readPart_7 (by decide) ?_
  refine lv_iconst (v := 0) hx hb dX3_readPart_8 (by decide) ?_
  obtain ⟨hk_x0_4, hf⟩ := gd_some hf
  obtain ⟨o9, ho, hf⟩ := ta_some hf
  have hm1 := (mbT_X3_readPart_12 hGm) _ _ _ _ _ hf
  have hb1 := nz_le hm1 hRc
  have hq1 := (mfT_X3_emit _ _ _ _ _ _ ho)
  refine ta_callIv kc_3 CX hL hR hS (As := [.int 1, .int 0, .int 0]) (rest := []) hk_x0_4 (MT_X3_emit l x hlt N _ _ _ _ _ _ _ ho) cv_X3_144 ⟨by omega, by omega⟩ rfl (Nat.le_of_ble_eq_true rfl) hl.1 hq1 hb1 rfl dX3_readPart_9 (fun H locs hR hS => ?_)
  exact (wbT_X3_readPart_12 CTX hRm hRc hG hB0 hGm) _ _ _ _ _ _ _ _ hf (hL.tr hq1) hR hS (lv_sub hl [0, 1] rfl)
def fT_X3_readPart (N : Nat) (G : Nat → Nat → Int32 → Int32 → Ka → Cm → Option ((Ka × Cm) ⊕ (Ka × Cm))) (x0 : Nat) (x1 : Int32) (K : Ka) (M : Cm) : Option ((Ka × Cm) ⊕ (Ka × Cm)) := gd (kd K x0 == 4) (tb (fT_X3_refuseNoPart N x0 x1 K M) fun o2 => (bT_X3_readPart_5 N G) x0 x1 o2.1 o2.2)
theorem mfT_X3_readPart {o : (Ka × Cm) ⊕ (Ka × Cm)} {N : Nat} {G : Nat → Nat → Int32 → Int32 → Ka → Cm → Option ((Ka × Cm) ⊕ (Ka × Cm))} (hGm : GMono G) (x0 : Nat) (x1 : Int32) (K : Ka) (M : Cm) (hf : fT_X3_readPart N G x0 x1 K M = some o) : KLe K (oK sV o) := by
  unfold fT_X3_readPart at hf
  obtain ⟨-, hf⟩ := gd_some hf
  rcases tb_some hf with ⟨o2, ho, hf⟩ | ⟨q, ho, rfl⟩
  · exact KLe.tr (mfT_X3_refuseNoPart _ _ _ _ ho) ((mbT_X3_readPart_5 hGm) _ _ _ _ hf)
  · exact (mfT_X3_refuseNoPart _ _ _ _ ho)
set_option maxRecDepth 100000 in
set_option maxHeartbeats 4000000 in
theorem wfT_X3_readPart {p : Program} {l : Launch} {e : Env} {R : Room} {s : State} {m : MethodId} {args : Array Value} {below : List Frame} {meth : Method} {c : Code} {x : Xc} {K0 : Ka} {o : (Ka × Cm) ⊕ (Ka × Cm)} {fr lo : Nat} {N : Nat} {G : Nat → Nat → Int32 → Int32 → Ka → Cm → Option ((Ka × Cm) ⊕ (Ka × Cm))} (CTX : CT p l s m args meth c x K0 RX3 "readPart" cX3_readPart 3 none) (hRm : (fr + 1) ≤ R.frames ∧ (lo + 60) ≤ R.locals) (hRc : nz sV K0 o ≤ R.cells ∧ nu sV K0 o ≤ R.slots) (hG : GMet l x G fr lo) (hB0 : 10 ≤ fr ∧ 183 ≤ lo) (hGm : GMono G) (x0 : Nat) (x1 : Int32) (K : Ka) (M : Cm) (H : Heap) (locs : List Loc) (ls : Array Slot) (hf : fT_X3_readPart N G x0 x1 K M = some o) (hL : KLe K0 K) (hR : RC x K M H) (hS : va_S (AC K0) s.heap H locs) (hl : lv_has ls 3 [(0, .ref x0), (1, .int x1)]) : W p l e R s m args below meth c H locs (kz K - kz K0) (ku K - ku K0) (TQ sV (aQV x K0) (zQV K0) "java/lang/IllegalStateException" x K0 below args s o) (F0 m 0 ls []) := by
  obtain ⟨CX, hno, hlt, hmn⟩ := id CTX
  obtain ⟨hx, hb, hml, hown, hts, hE, hB, hr, hlk⟩ := id CX
  have hcs := nz_le (mfT_X3_readPart hGm x0 x1 K M hf) hRc
  unfold fT_X3_readPart at hf
  refine lv_aload_n hx hb dX3_readPart_0 rfl (lv_at hl 0 rfl) ?_
  refine lv_iload_n hx hb dX3_readPart_1 rfl (lv_at hl 1 rfl) ?_
  obtain ⟨hk_x0_4, hf⟩ := gd_some hf
  rcases tb_some hf with ⟨o2, ho, hf⟩ | ⟨q, ho, rfl⟩
  · have hm1 := (mbT_X3_readPart_5 hGm) _ _ _ _ hf
    have hb1 := nz_le hm1 hRc
    have hq1 := (mfT_X3_refuseNoPart _ _ _ _ ho)
    refine ta_callVv kc_3 CX hL hR hS (As := [.int x1]) (rest := []) hk_x0_4 (MT_X3_refuseNoPart l x hlt N _ _ _ _ _ ho) cv_X3_281 ⟨by omega, by omega⟩ rfl (Nat.le_of_ble_eq_true rfl) hl.1 hq1 hb1 rfl dX3_readPart_2 (fun H locs hR hS => ?_)
    exact (wbT_X3_readPart_5 CTX hRm hRc hG hB0 hGm) _ _ _ _ _ _ _ hf (hL.tr hq1) hR hS (lv_sub hl [0, 1] rfl)
  · exact tx_callv kc_3 CTX hL hR hS (As := [.int x1]) (rest := []) hk_x0_4 (MT_X3_refuseNoPart l x hlt N _ _ _ _ _ ho) cv_X3_281 ⟨by omega, by omega⟩ rfl (Nat.le_of_ble_eq_true rfl) hl.1 (mfT_X3_refuseNoPart _ _ _ _ ho) hRc rfl dX3_readPart_2
def gB (N : Nat) : Nat → Nat → Nat → Int32 → Int32 → Ka → Cm → Option ((Ka × Cm) ⊕ (Ka × Cm))
  | 0, _, _, _, _, _, _ => none
  | k + 1, t, a, b, c, K, M => if t = 0 then fT_X3_readBlock N (gB N k) a b K M else if t = 1 then fT_X3_readStatement N (gB N k) a b K M else if t = 2 then fT_X3_readIf N (gB N k) a b K M else if t = 3 then fT_X3_readWhile N (gB N k) a b c K M else if t = 4 then fT_X3_readTry N (gB N k) a b K M else if t = 5 then fT_X3_readExpression N (gB N k) a b c K M else if t = 6 then fT_X3_readPart N (gB N k) a b K M else none
theorem gB_mono (N : Nat) : ∀ k : Nat, GMono (gB N k) := by
  intro k
  induction k with
  | zero => intro t a b c K M o h; cases h
  | succ k ih =>
    intro t a b c K M o h
    rw [gB] at h
    by_cases hc0 : t = 0
    · rw [if_pos hc0] at h
      exact mfT_X3_readBlock ih a b K M h
    rw [if_neg hc0] at h
    by_cases hc1 : t = 1
    · rw [if_pos hc1] at h
      exact mfT_X3_readStatement ih a b K M h
    rw [if_neg hc1] at h
    by_cases hc2 : t = 2
    · rw [if_pos hc2] at h
      exact mfT_X3_readIf ih a b K M h
    rw [if_neg hc2] at h
    by_cases hc3 : t = 3
    · rw [if_pos hc3] at h
      exact mfT_X3_readWhile ih a b c K M h
    rw [if_neg hc3] at h
    by_cases hc4 : t = 4
    · rw [if_pos hc4] at h
      exact mfT_X3_readTry ih a b K M h
    rw [if_neg hc4] at h
    by_cases hc5 : t = 5
    · rw [if_pos hc5] at h
      exact mfT_X3_readExpression ih a b c K M h
    rw [if_neg hc5] at h
    by_cases hc6 : t = 6
    · rw [if_pos hc6] at h
      exact mfT_X3_readPart ih a b K M h
    rw [if_neg hc6] at h
    cases h
theorem uB_0 (N k : Nat) (x0 : Nat) (x1 : Int32) (K : Ka) (M : Cm) : gB N (k + 1) 0 x0 x1 0 K M = fT_X3_readBlock N (gB N k) x0 x1 K M := by rw [gB, if_pos rfl]
theorem uB_1 (N k : Nat) (x0 : Nat) (x1 : Int32) (K : Ka) (M : Cm) : gB N (k + 1) 1 x0 x1 0 K M = fT_X3_readStatement N (gB N k) x0 x1 K M := by rw [gB, if_neg (by decide), if_pos rfl]
theorem uB_2 (N k : Nat) (x0 : Nat) (x1 : Int32) (K : Ka) (M : Cm) : gB N (k + 1) 2 x0 x1 0 K M = fT_X3_readIf N (gB N k) x0 x1 K M := by rw [gB, if_neg (by decide), if_neg (by decide), if_pos rfl]
theorem uB_3 (N k : Nat) (x0 : Nat) (x1 : Int32) (x2 : Int32) (K : Ka) (M : Cm) : gB N (k + 1) 3 x0 x1 x2 K M = fT_X3_readWhile N (gB N k) x0 x1 x2 K M := by rw [gB, if_neg (by decide), if_neg (by decide), if_neg (by decide), if_pos rfl]
theorem uB_4 (N k : Nat) (x0 : Nat) (x1 : Int32) (K : Ka) (M : Cm) : gB N (k + 1) 4 x0 x1 0 K M = fT_X3_readTry N (gB N k) x0 x1 K M := by rw [gB, if_neg (by decide), if_neg (by decide), if_neg (by decide), if_neg (by decide), if_pos rfl]
theorem uB_5 (N k : Nat) (x0 : Nat) (x1 : Int32) (x2 : Int32) (K : Ka) (M : Cm) : gB N (k + 1) 5 x0 x1 x2 K M = fT_X3_readExpression N (gB N k) x0 x1 x2 K M := by rw [gB, if_neg (by decide), if_neg (by decide), if_neg (by decide), if_neg (by decide), if_neg (by decide), if_pos rfl]
theorem uB_6 (N k : Nat) (x0 : Nat) (x1 : Int32) (K : Ka) (M : Cm) : gB N (k + 1) 6 x0 x1 0 K M = fT_X3_readPart N (gB N k) x0 x1 K M := by rw [gB, if_neg (by decide), if_neg (by decide), if_neg (by decide), if_neg (by decide), if_neg (by decide), if_neg (by decide), if_pos rfl]
theorem gB_met (l : Launch) (x : Xc) (hlt : l.stackTraces = false) (N : Nat) : ∀ k : Nat, GMet l x (gB N k) (10 + k) (183 + 60 * k) := by
  intro k
  induction k with
  | zero => exact ⟨(fun x0 x1 K M o h => nomatch (show none = some o from h)), (fun x0 x1 K M o h => nomatch (show none = some o from h)), (fun x0 x1 K M o h => nomatch (show none = some o from h)), (fun x0 x1 x2 K M o h => nomatch (show none = some o from h)), (fun x0 x1 K M o h => nomatch (show none = some o from h)), (fun x0 x1 x2 K M o h => nomatch (show none = some o from h)), (fun x0 x1 K M o h => nomatch (show none = some o from h))⟩
  | succ k ih => exact ⟨(fun x0 x1 K M o h => tr_met RX3 "readBlock" hlt (by decide) rfl rfl (Nat.le_of_ble_eq_true rfl) (fun p e s m args below meth c ls CTX hR hl => wfT_X3_readBlock CTX ⟨Nat.le_refl _, Nat.le_refl _⟩ ⟨Nat.le_refl _, Nat.le_refl _⟩ ih ⟨Nat.le_add_right _ _, Nat.le_add_right _ _⟩ (gB_mono N k) x0 x1 K M s.heap [] ls (uB_0 N k x0 x1 K M ▸ h) (KLe.rf K) hR va_S.rf hl)), (fun x0 x1 K M o h => tr_met RX3 "readStatement" hlt (by decide) rfl rfl (Nat.le_of_ble_eq_true rfl) (fun p e s m args below meth c ls CTX hR hl => wfT_X3_readStatement CTX ⟨Nat.le_refl _, Nat.le_refl _⟩ ⟨Nat.le_refl _, Nat.le_refl _⟩ ih ⟨Nat.le_add_right _ _, Nat.le_add_right _ _⟩ (gB_mono N k) x0 x1 K M s.heap [] ls (uB_1 N k x0 x1 K M ▸ h) (KLe.rf K) hR va_S.rf hl)), (fun x0 x1 K M o h => tr_met RX3 "readIf" hlt (by decide) rfl rfl (Nat.le_of_ble_eq_true rfl) (fun p e s m args below meth c ls CTX hR hl => wfT_X3_readIf CTX ⟨Nat.le_refl _, Nat.le_refl _⟩ ⟨Nat.le_refl _, Nat.le_refl _⟩ ih ⟨Nat.le_add_right _ _, Nat.le_add_right _ _⟩ (gB_mono N k) x0 x1 K M s.heap [] ls (uB_2 N k x0 x1 K M ▸ h) (KLe.rf K) hR va_S.rf hl)), (fun x0 x1 x2 K M o h => tr_met RX3 "readWhile" hlt (by decide) rfl rfl (Nat.le_of_ble_eq_true rfl) (fun p e s m args below meth c ls CTX hR hl => wfT_X3_readWhile CTX ⟨Nat.le_refl _, Nat.le_refl _⟩ ⟨Nat.le_refl _, Nat.le_refl _⟩ ih ⟨Nat.le_add_right _ _, Nat.le_add_right _ _⟩ (gB_mono N k) x0 x1 x2 K M s.heap [] ls (uB_3 N k x0 x1 x2 K M ▸ h) (KLe.rf K) hR va_S.rf hl)), (fun x0 x1 K M o h => tr_met RX3 "readTry" hlt (by decide) rfl rfl (Nat.le_of_ble_eq_true rfl) (fun p e s m args below meth c ls CTX hR hl => wfT_X3_readTry CTX ⟨Nat.le_refl _, Nat.le_refl _⟩ ⟨Nat.le_refl _, Nat.le_refl _⟩ ih ⟨Nat.le_add_right _ _, Nat.le_add_right _ _⟩ (gB_mono N k) x0 x1 K M s.heap [] ls (uB_4 N k x0 x1 K M ▸ h) (KLe.rf K) hR va_S.rf hl)), (fun x0 x1 x2 K M o h => tr_met RX3 "readExpression" hlt (by decide) rfl rfl (Nat.le_of_ble_eq_true rfl) (fun p e s m args below meth c ls CTX hR hl => wfT_X3_readExpression CTX ⟨Nat.le_refl _, Nat.le_refl _⟩ ⟨Nat.le_refl _, Nat.le_refl _⟩ ih ⟨Nat.le_add_right _ _, Nat.le_add_right _ _⟩ (gB_mono N k) x0 x1 x2 K M s.heap [] ls (uB_5 N k x0 x1 x2 K M ▸ h) (KLe.rf K) hR va_S.rf hl)), (fun x0 x1 K M o h => tr_met RX3 "readPart" hlt (by decide) rfl rfl (Nat.le_of_ble_eq_true rfl) (fun p e s m args below meth c ls CTX hR hl => wfT_X3_readPart CTX ⟨Nat.le_refl _, Nat.le_refl _⟩ ⟨Nat.le_refl _, Nat.le_refl _⟩ ih ⟨Nat.le_add_right _ _, Nat.le_add_right _ _⟩ (gB_mono N k) x0 x1 K M s.heap [] ls (uB_6 N k x0 x1 K M ▸ h) (KLe.rf K) hR va_S.rf hl))⟩
def fGT_X3_readBlock (N : Nat) (x0 : Nat) (x1 : Int32) (K : Ka) (M : Cm) : Option ((Ka × Cm) ⊕ (Ka × Cm)) := gB N 150 0 x0 x1 0 K M
theorem mGT_X3_readBlock {N : Nat} {x0 : Nat} {x1 : Int32} {K : Ka} {M : Cm} {o : (Ka × Cm) ⊕ (Ka × Cm)} (h : fGT_X3_readBlock N x0 x1 K M = some o) : KLe K (oK sV o) := gB_mono N 150 _ _ _ _ _ _ _ h
theorem MGT_X3_readBlock (l : Launch) (x : Xc) (hlt : l.stackTraces = false) (N : Nat) (x0 : Nat) (x1 : Int32) (K : Ka) (M : Cm) (o : (Ka × Cm) ⊕ (Ka × Cm)) (h : fGT_X3_readBlock N x0 x1 K M = some o) : Tc sV (aQV x K) (zQV K) "java/lang/IllegalStateException" l x yX3_readBlock cX3_readBlock 3 none 160 9183 [.ref x0, .int x1] K M o := (gB_met l x hlt N 150).1 x0 x1 K M o h
def fGT_X3_readStatement (N : Nat) (x0 : Nat) (x1 : Int32) (K : Ka) (M : Cm) : Option ((Ka × Cm) ⊕ (Ka × Cm)) := gB N 150 1 x0 x1 0 K M
theorem mGT_X3_readStatement {N : Nat} {x0 : Nat} {x1 : Int32} {K : Ka} {M : Cm} {o : (Ka × Cm) ⊕ (Ka × Cm)} (h : fGT_X3_readStatement N x0 x1 K M = some o) : KLe K (oK sV o) := gB_mono N 150 _ _ _ _ _ _ _ h
theorem MGT_X3_readStatement (l : Launch) (x : Xc) (hlt : l.stackTraces = false) (N : Nat) (x0 : Nat) (x1 : Int32) (K : Ka) (M : Cm) (o : (Ka × Cm) ⊕ (Ka × Cm)) (h : fGT_X3_readStatement N x0 x1 K M = some o) : Tc sV (aQV x K) (zQV K) "java/lang/IllegalStateException" l x yX3_readStatement cX3_readStatement 6 none 160 9183 [.ref x0, .int x1] K M o := (gB_met l x hlt N 150).2.1 x0 x1 K M o h
def fGT_X3_readIf (N : Nat) (x0 : Nat) (x1 : Int32) (K : Ka) (M : Cm) : Option ((Ka × Cm) ⊕ (Ka × Cm)) := gB N 150 2 x0 x1 0 K M
theorem mGT_X3_readIf {N : Nat} {x0 : Nat} {x1 : Int32} {K : Ka} {M : Cm} {o : (Ka × Cm) ⊕ (Ka × Cm)} (h : fGT_X3_readIf N x0 x1 K M = some o) : KLe K (oK sV o) := gB_mono N 150 _ _ _ _ _ _ _ h
theorem MGT_X3_readIf (l : Launch) (x : Xc) (hlt : l.stackTraces = false) (N : Nat) (x0 : Nat) (x1 : Int32) (K : Ka) (M : Cm) (o : (Ka × Cm) ⊕ (Ka × Cm)) (h : fGT_X3_readIf N x0 x1 K M = some o) : Tc sV (aQV x K) (zQV K) "java/lang/IllegalStateException" l x yX3_readIf cX3_readIf 4 none 160 9183 [.ref x0, .int x1] K M o := (gB_met l x hlt N 150).2.2.1 x0 x1 K M o h
def fGT_X3_readWhile (N : Nat) (x0 : Nat) (x1 : Int32) (x2 : Int32) (K : Ka) (M : Cm) : Option ((Ka × Cm) ⊕ (Ka × Cm)) := gB N 150 3 x0 x1 x2 K M
theorem mGT_X3_readWhile {N : Nat} {x0 : Nat} {x1 : Int32} {x2 : Int32} {K : Ka} {M : Cm} {o : (Ka × Cm) ⊕ (Ka × Cm)} (h : fGT_X3_readWhile N x0 x1 x2 K M = some o) : KLe K (oK sV o) := gB_mono N 150 _ _ _ _ _ _ _ h
theorem MGT_X3_readWhile (l : Launch) (x : Xc) (hlt : l.stackTraces = false) (N : Nat) (x0 : Nat) (x1 : Int32) (x2 : Int32) (K : Ka) (M : Cm) (o : (Ka × Cm) ⊕ (Ka × Cm)) (h : fGT_X3_readWhile N x0 x1 x2 K M = some o) : Tc sV (aQV x K) (zQV K) "java/lang/IllegalStateException" l x yX3_readWhile cX3_readWhile 4 none 160 9183 [.ref x0, .int x1, .int x2] K M o := (gB_met l x hlt N 150).2.2.2.1 x0 x1 x2 K M o h
def fGT_X3_readTry (N : Nat) (x0 : Nat) (x1 : Int32) (K : Ka) (M : Cm) : Option ((Ka × Cm) ⊕ (Ka × Cm)) := gB N 150 4 x0 x1 0 K M
theorem mGT_X3_readTry {N : Nat} {x0 : Nat} {x1 : Int32} {K : Ka} {M : Cm} {o : (Ka × Cm) ⊕ (Ka × Cm)} (h : fGT_X3_readTry N x0 x1 K M = some o) : KLe K (oK sV o) := gB_mono N 150 _ _ _ _ _ _ _ h
theorem MGT_X3_readTry (l : Launch) (x : Xc) (hlt : l.stackTraces = false) (N : Nat) (x0 : Nat) (x1 : Int32) (K : Ka) (M : Cm) (o : (Ka × Cm) ⊕ (Ka × Cm)) (h : fGT_X3_readTry N x0 x1 K M = some o) : Tc sV (aQV x K) (zQV K) "java/lang/IllegalStateException" l x yX3_readTry cX3_readTry 4 none 160 9183 [.ref x0, .int x1] K M o := (gB_met l x hlt N 150).2.2.2.2.1 x0 x1 K M o h
def fGT_X3_readExpression (N : Nat) (x0 : Nat) (x1 : Int32) (x2 : Int32) (K : Ka) (M : Cm) : Option ((Ka × Cm) ⊕ (Ka × Cm)) := gB N 150 5 x0 x1 x2 K M
theorem mGT_X3_readExpression {N : Nat} {x0 : Nat} {x1 : Int32} {x2 : Int32} {K : Ka} {M : Cm} {o : (Ka × Cm) ⊕ (Ka × Cm)} (h : fGT_X3_readExpression N x0 x1 x2 K M = some o) : KLe K (oK sV o) := gB_mono N 150 _ _ _ _ _ _ _ h
theorem MGT_X3_readExpression (l : Launch) (x : Xc) (hlt : l.stackTraces = false) (N : Nat) (x0 : Nat) (x1 : Int32) (x2 : Int32) (K : Ka) (M : Cm) (o : (Ka × Cm) ⊕ (Ka × Cm)) (h : fGT_X3_readExpression N x0 x1 x2 K M = some o) : Tc sV (aQV x K) (zQV K) "java/lang/IllegalStateException" l x yX3_readExpression cX3_readExpression 6 none 160 9183 [.ref x0, .int x1, .int x2] K M o := (gB_met l x hlt N 150).2.2.2.2.2.1 x0 x1 x2 K M o h
def fGT_X3_readPart (N : Nat) (x0 : Nat) (x1 : Int32) (K : Ka) (M : Cm) : Option ((Ka × Cm) ⊕ (Ka × Cm)) := gB N 150 6 x0 x1 0 K M
theorem mGT_X3_readPart {N : Nat} {x0 : Nat} {x1 : Int32} {K : Ka} {M : Cm} {o : (Ka × Cm) ⊕ (Ka × Cm)} (h : fGT_X3_readPart N x0 x1 K M = some o) : KLe K (oK sV o) := gB_mono N 150 _ _ _ _ _ _ _ h
theorem MGT_X3_readPart (l : Launch) (x : Xc) (hlt : l.stackTraces = false) (N : Nat) (x0 : Nat) (x1 : Int32) (K : Ka) (M : Cm) (o : (Ka × Cm) ⊕ (Ka × Cm)) (h : fGT_X3_readPart N x0 x1 K M = some o) : Tc sV (aQV x K) (zQV K) "java/lang/IllegalStateException" l x yX3_readPart cX3_readPart 3 none 160 9183 [.ref x0, .int x1] K M o := (gB_met l x hlt N 150).2.2.2.2.2.2 x0 x1 K M o h
