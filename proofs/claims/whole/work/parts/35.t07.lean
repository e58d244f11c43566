def bT_X9_init_678 (N : Nat) (sa : Nat → Nat) (r624 : Nat → Int32 → Int64 → Int32 → Ka → Cm → Option ((Ka × Cm) ⊕ (Ka × Cm))) (k684 : Nat → Ka → Cm → Option ((Ka × Cm) ⊕ (Ka × Cm))) (x0 : Nat) (x1 : Int32) (x2 : Int64) (x4 : Int32) (K : Ka) (M : Cm) : Option ((Ka × Cm) ⊕ (Ka × Cm)) := r624 x0 x1 x2 (x4 + 1) K M
theorem mbT_X9_init_678 {o : (Ka × Cm) ⊕ (Ka × Cm)} {N : Nat} {sa : Nat → Nat} {r624 : Nat → Int32 → Int64 → Int32 → Ka → Cm → Option ((Ka × Cm) ⊕ (Ka × Cm))} {k684 : Nat → Ka → Cm → Option ((Ka × Cm) ⊕ (Ka × Cm))} (mr624 : ∀ (x0 : Nat) (x1 : Int32) (x2 : Int64) (x4 : Int32) (K : Ka) (M : Cm) , r624 x0 x1 x2 x4 K M = some o → KLe K (oK sV o)) (mk684 : ∀ (x0 : Nat) (K : Ka) (M : Cm) , k684 x0 K M = some o → KLe K (oK sV o)) (x0 : Nat) (x1 : Int32) (x2 : Int64) (x4 : Int32) (K : Ka) (M : Cm) (hf : bT_X9_init_678 N sa r624 k684 x0 x1 x2 x4 K M = some o) : KLe K (oK sV o) := by
  unfold bT_X9_init_678 at hf
  exact mr624 _ _ _ _ _ _ hf
set_option maxRecDepth 100000 in
set_option maxHeartbeats 4000000 in
theorem wbT_X9_init_678 {p : Program} {l : Launch} {e : Env} {R : Room} {s : State} {m : MethodId} {args : Array Value} {below : List Frame} {meth : Method} {c : Code} {x : Xc} {K0 : Ka} {o : (Ka × Cm) ⊕ (Ka × Cm)} {N : Nat}  {r624 : Nat → Int32 → Int64 → Int32 → Ka → Cm → Option ((Ka × Cm) ⊕ (Ka × Cm))} {k684 : Nat → Ka → Cm → Option ((Ka × Cm) ⊕ (Ka × Cm))} (CTX : CT p l s m args meth c x K0 RX9 "<init>" cX9_init 6 none) (hRm : 6 ≤ R.frames ∧ 95 ≤ R.locals) (hRc : nz sV K0 o ≤ R.cells ∧ nu sV K0 o ≤ R.slots) (mr624 : ∀ (x0 : Nat) (x1 : Int32) (x2 : Int64) (x4 : Int32) (K : Ka) (M : Cm) , r624 x0 x1 x2 x4 K M = some o → KLe K (oK sV o)) (mk684 : ∀ (x0 : Nat) (K : Ka) (M : Cm) , k684 x0 K M = some o → KLe K (oK sV o)) (hr624 : ∀ (x0 : Nat) (x1 : Int32) (x2 : Int64) (x4 : Int32) (K : Ka) (M : Cm) (H : Heap) (locs : List Loc) (ls : Array Slot), r624 x0 x1 x2 x4 K M = some o → KLe K0 K → RC x K M H → va_S (AC K0) s.heap H locs → lv_has ls 6 [(0, .ref x0), (1, .int x1), (2, .long x2), (4, .int x4)] → W p l e R s m args below meth c H locs (kz K - kz K0) (ku K - ku K0) (TQ sV (aQV x K0) (zQV K0) "java/lang/IllegalStateException" x K0 below args s o) (F0 m 624 ls [])) (hk684 : ∀ (x0 : Nat) (K : Ka) (M : Cm) (H : Heap) (locs : List Loc) (ls : Array Slot), k684 x0 K M = some o → KLe K0 K → RC x K M H → va_S (AC K0) s.heap H locs → lv_has ls 6 [(0, .ref x0)] → W p l e R s m args below meth c H locs (kz K - kz K0) (ku K - ku K0) (TQ sV (aQV x K0) (zQV K0) "java/lang/IllegalStateException" x K0 below args s o) (F0 m 684 ls [])) (x0 : Nat) (x1 : Int32) (x2 : Int64) (x4 : Int32) (K : Ka) (M : Cm) (H : Heap) (locs : List Loc) (ls : Array Slot) (hf : bT_X9_init_678 N x.2.2.1 r624 k684 x0 x1 x2 x4 K M = some o) (hL : KLe K0 K) (hR : RC x K M H) (hS : va_S (AC K0) s.heap H locs) (hl : lv_has ls 6 [(0, .ref x0), (1, .int x1), (2, .long x2), (4, .int x4)]) : W p l e R s m args below meth c H locs (kz K - kz K0) (ku K - ku K0) (TQ sV (aQV x K0) (zQV K0) "java/lang/IllegalStateException" x K0 below args s o) (F0 m 678 ls []) := by
  obtain ⟨CX, hno, hlt, hmn⟩ := id CTX
  obtain ⟨hx, hb, hml, hown, hts, hE, hB, hr, hlk⟩ := id CX
  have hcs := nz_le (mbT_X9_init_678 mr624 mk684 x0 x1 x2 x4 K M hf) hRc
  unfold bT_X9_init_678 at hf
  refine lv_iinc (v := x4 + 1) (lv' := [(4, .int (x4 + 1)), (0, .ref x0), (1, .int x1), (2, .long x2)]) hx hb dX9_init_678 hl (k := 3) rfl rfl (by decide) rfl (fun ls hl => ?_)
  refine lv_goto (tgt := 624) hx hb dX9_init_681 (by decide) ?_
  exact hr624 _ _ _ _ _ _ _ _ _ hf hL hR hS (lv_sub hl [1, 2, 3, 0] rfl)
def lT_X9_init_624 (N : Nat) (sa : Nat → Nat) (k684 : Nat → Ka → Cm → Option ((Ka × Cm) ⊕ (Ka × Cm))) : Nat → Nat → Int32 → Int64 → Int32 → Ka → Cm → Option ((Ka × Cm) ⊕ (Ka × Cm))
  | 0, _, _, _, _, _, _ => none
  | n + 1, x0, x1, x2, x4, K, M => gd (decide (0 < strN)) ((fC_J0_length_8abf5 N K 0 M).bind fun o628 => if o628.1 ≤ x4 then (k684 x0 K o628.2) else ((fC_J0_charAt_5068e N K 0 x4 o628.2).bind fun o638 => if o638.1 = 32 then (gd (kd K x0 == 10) (nn (cR o638.2 x0 10) fun a1 => gd (kd K a1 == 23) (ck x1 (le K a1) ((bT_X9_init_678 N sa (lT_X9_init_624 N sa k684 n) k684) x0 (x1 + 1) 0 x4 K (wL o638.2 a1 (x1 : Int32).toNatClampNeg x2))))) else ((fC_X9_rank N K o638.1 o638.2).bind fun o672 => (bT_X9_init_678 N sa (lT_X9_init_624 N sa k684 n) k684) x0 x1 ((37 * x2) + ((o672.1 : Int32).toInt64)) x4 K o672.2)))
theorem mlT_X9_init_624 {o : (Ka × Cm) ⊕ (Ka × Cm)} {N : Nat} {sa : Nat → Nat} {k684 : Nat → Ka → Cm → Option ((Ka × Cm) ⊕ (Ka × Cm))} (mk684 : ∀ (x0 : Nat) (K : Ka) (M : Cm) , k684 x0 K M = some o → KLe K (oK sV o)) : ∀ (n : Nat) (x0 : Nat) (x1 : Int32) (x2 : Int64) (x4 : Int32) (K : Ka) (M : Cm), lT_X9_init_624 N sa k684 n x0 x1 x2 x4 K M = some o → KLe K (oK sV o) := by
  intro n
  induction n with
  | zero => intro x0 x1 x2 x4 K M hf; cases hf
  | succ n ih =>
    intro x0 x1 x2 x4 K M hf
    rw [lT_X9_init_624] at hf
    obtain ⟨-, hf⟩ := gd_some hf
    obtain ⟨o628, -, hf⟩ := bnd_some hf
    by_cases hc : o628.1 ≤ x4
    · rw [if_pos hc] at hf
      exact mk684 _ _ _ hf
    · rw [if_neg hc] at hf
      obtain ⟨o638, -, hf⟩ := bnd_some hf
      by_cases hc : o638.1 = 32
      · rw [if_pos hc] at hf
        obtain ⟨-, hf⟩ := gd_some hf
        obtain ⟨a1, -, hf⟩ := nn_some hf
        obtain ⟨-, hf⟩ := gd_some hf
        obtain ⟨-, hf⟩ := ck_some hf
        exact (mbT_X9_init_678 ih mk684) _ _ _ _ _ _ hf
      · rw [if_neg hc] at hf
        obtain ⟨o672, -, hf⟩ := bnd_some hf
        exact (mbT_X9_init_678 ih mk684) _ _ _ _ _ _ hf
set_option maxRecDepth 100000 in
set_option maxHeartbeats 4000000 in
theorem wlT_X9_init_624 {p : Program} {l : Launch} {e : Env} {R : Room} {s : State} {m : MethodId} {args : Array Value} {below : List Frame} {meth : Method} {c : Code} {x : Xc} {K0 : Ka} {o : (Ka × Cm) ⊕ (Ka × Cm)} {N : Nat}  {k684 : Nat → Ka → Cm → Option ((Ka × Cm) ⊕ (Ka × Cm))} (CTX : CT p l s m args meth c x K0 RX9 "<init>" cX9_init 6 none) (hRm : 6 ≤ R.frames ∧ 95 ≤ R.locals) (hRc : nz sV K0 o ≤ R.cells ∧ nu sV K0 o ≤ R.slots) (mk684 : ∀ (x0 : Nat) (K : Ka) (M : Cm) , k684 x0 K M = some o → KLe K (oK sV o)) (hk684 : ∀ (x0 : Nat) (K : Ka) (M : Cm) (H : Heap) (locs : List Loc) (ls : Array Slot), k684 x0 K M = some o → KLe K0 K → RC x K M H → va_S (AC K0) s.heap H locs → lv_has ls 6 [(0, .ref x0)] → W p l e R s m args below meth c H locs (kz K - kz K0) (ku K - ku K0) (TQ sV (aQV x K0) (zQV K0) "java/lang/IllegalStateException" x K0 below args s o) (F0 m 684 ls [])) : ∀ (n : Nat) (x0 : Nat) (x1 : Int32) (x2 : Int64) (x4 : Int32) (K : Ka) (M : Cm) (H : Heap) (locs : List Loc) (ls : Array Slot), lT_X9_init_624 N x.2.2.1 k684 n x0 x1 x2 x4 K M = some o → KLe K0 K → RC x K M H → va_S (AC K0) s.heap H locs → lv_has ls 6 [(0, .ref x0), (1, .int x1), (2, .long x2), (4, .int x4)] → W p l e R s m args below meth c H locs (kz K - kz K0) (ku K - ku K0) (TQ sV (aQV x K0) (zQV K0) "java/lang/IllegalStateException" x K0 below args s o) (F0 m 624 ls []) := by
  obtain ⟨CX, hno, hlt, hmn⟩ := id CTX
  obtain ⟨hx, hb, hml, hown, hts, hE, hB, hr, hlk⟩ := id CX
  intro n
  induction n with
  | zero => intro x0 x1 x2 x4 K M H locs ls hf; cases hf
  | succ n ih =>
    intro x0 x1 x2 x4 K M H locs ls hf hL hR hS hl
    have hcs := nz_le (mlT_X9_init_624 mk684 (n + 1) x0 x1 x2 x4 K M hf) hRc
    rw [lT_X9_init_624] at hf
    refine lv_iload hx hb dX9_init_624 (lv_at hl 3 rfl) ?_
    refine ss_ldc (i := 0) CX (by decide) dX9_init_626 ?_
    obtain ⟨hs_0, hf⟩ := gd_some hf
    obtain ⟨o628, ho628, hf⟩ := bnd_some hf
    refine cr_callIvS CX hR hL hS (As := []) (rest := [.int x4]) hs_0 (MC_J0_length_8abf5 l x N K 0 M o628 ho628) cv_X9_245 ⟨by omega, by omega⟩ rfl rfl (Nat.le_of_ble_eq_true rfl) hl.1 dX9_init_628 hcs (fun H locs hR hS => ?_)
    refine lv_icmp_ge (tgt := 684) hx hb dX9_init_631 (by decide) (fun hc => ?_) (fun hc => ?_)
    · rw [if_pos hc] at hf
      exact hk684 _ _ _ _ _ _ hf hL hR hS (lv_sub hl [0] rfl)
    · rw [if_neg hc] at hf
      refine ss_ldc (i := 0) CX (by decide) dX9_init_634 ?_
      refine lv_iload hx hb dX9_init_636 (lv_at hl 3 rfl) ?_
      obtain ⟨o638, ho638, hf⟩ := bnd_some hf
      refine cr_callIvS CX hR hL hS (As := [.int x4]) (rest := []) hs_0 (MC_J0_charAt_5068e l x N K 0 x4 o628.2 o638 ho638) cv_X9_251 ⟨by omega, by omega⟩ rfl rfl (Nat.le_of_ble_eq_true rfl) hl.1 dX9_init_638 hcs (fun H locs hR hS => ?_)
      refine lv_istore (lv' := [(5, .int o638.1), (0, .ref x0), (1, .int x1), (2, .long x2), (4, .int x4)]) hx hb dX9_init_641 hl (by decide) rfl (fun ls hl => ?_)
      refine lv_iload hx hb dX9_init_643 (lv_at hl 0 rfl) ?_
      refine lv_bipush (v := 32) hx hb dX9_init_645 (by decide) ?_
      refine lv_icmp_ne (tgt := 665) hx hb dX9_init_647 (by decide) (fun hc => ?_) (fun hc => ?_)
      · rw [if_neg hc] at hf
        refine lv_ldc2 hx hb hown (hts _ wc_1402) dX9_init_665 ?_
        refine lv_lload_n hx hb dX9_init_668 rfl (lv_at hl 3 rfl) ?_
        refine lv_lmul hx hb dX9_init_669 ?_
        refine lv_iload hx hb dX9_init_670 (lv_at hl 0 rfl) ?_
        obtain ⟨o672, ho672, hf⟩ := bnd_some hf
        refine cr_callIs CX hR hL hS (As := [.int o638.1]) (rest := [.long (37 * x2)]) (MC_X9_rank l x N K o638.1 o638.2 o672 ho672) cs_X9_257 ⟨by omega, by omega⟩ rfl rfl (Nat.le_of_ble_eq_true rfl) hl.1 dX9_init_672 hcs (fun H locs hR hS => ?_)
        refine lv_i2l (v := (o672.1 : Int32).toInt64) hx hb dX9_init_675 rfl ?_
        refine lv_ladd hx hb dX9_init_676 ?_
        refine lv_lstore_n (lv' := [(2, .long ((37 * x2) + ((o672.1 : Int32).toInt64))), (5, .int o638.1), (0, .ref x0), (1, .int x1), (4, .int x4)]) hx hb dX9_init_677 rfl hl (by decide) rfl (fun ls hl => ?_)
        exact (wbT_X9_init_678 CTX hRm hRc (mlT_X9_init_624 mk684 n) mk684 ih hk684) _ _ _ _ _ _ _ _ _ hf hL hR hS (lv_sub hl [2, 3, 0, 4] rfl)
      · rw [if_pos hc] at hf
        refine lv_aload_n hx hb dX9_init_650 rfl (lv_at hl 1 rfl) ?_
        obtain ⟨hk_x0_10, hf⟩ := gd_some hf
        refine cr_getR kc_9 CX hR fa_X9_40 rfl hk_x0_10 dX9_init_651 ?_
        refine lv_iload_n hx hb dX9_init_654 rfl (lv_at hl 2 rfl) ?_
        refine lv_lload_n hx hb dX9_init_655 rfl (lv_at hl 3 rfl) ?_
        obtain ⟨a1, ha1, hf⟩ := nn_some hf
        refine rf_2 ha1 ?_
        obtain ⟨hk_a1_23, hf⟩ := gd_some hf
        obtain ⟨hi, hf⟩ := ck_some hf
        refine cr_last CX hR hL hS hk_a1_23 hi dX9_init_656 (fun H locs hR hS => ?_)
        refine lv_iinc (v := x1 + 1) (lv' := [(1, .int (x1 + 1)), (5, .int o638.1), (0, .ref x0), (2, .long x2), (4, .int x4)]) hx hb dX9_init_657 hl (k := 2) rfl rfl (by decide) rfl (fun ls hl => ?_)
        refine lv_lconst (v := 0) hx hb dX9_init_660 (by decide) ?_
        refine lv_lstore_n (lv' := [(2, .long 0), (1, .int (x1 + 1)), (5, .int o638.1), (0, .ref x0), (4, .int x4)]) hx hb dX9_init_661 rfl hl (by decide) rfl (fun ls hl => ?_)
        refine lv_goto (tgt := 678) hx hb dX9_init_662 (by decide) ?_
        exact (wbT_X9_init_678 CTX hRm hRc (mlT_X9_init_624 mk684 n) mk684 ih hk684) _ _ _ _ _ _ _ _ _ hf hL hR hS (lv_sub hl [3, 1, 0, 4] rfl)
def bT_X9_init_684 (N : Nat) (sa : Nat → Nat) (x0 : Nat) (K : Ka) (M : Cm) : Option ((Ka × Cm) ⊕ (Ka × Cm)) := some (.inl (K, M))
theorem mbT_X9_init_684 {o : (Ka × Cm) ⊕ (Ka × Cm)} {N : Nat} {sa : Nat → Nat}  (x0 : Nat) (K : Ka) (M : Cm) (hf : bT_X9_init_684 N sa x0 K M = some o) : KLe K (oK sV o) := by
  unfold bT_X9_init_684 at hf
  cases hf
  exact KLe.rf _
set_option maxRecDepth 100000 in
set_option maxHeartbeats 4000000 in
theorem wbT_X9_init_684 {p : Program} {l : Launch} {e : Env} {R : Room} {s : State} {m : MethodId} {args : Array Value} {below : List Frame} {meth : Method} {c : Code} {x : Xc} {K0 : Ka} {o : (Ka × Cm) ⊕ (Ka × Cm)} {N : Nat}  (CTX : CT p l s m args meth c x K0 RX9 "<init>" cX9_init 6 none) (hRm : 6 ≤ R.frames ∧ 95 ≤ R.locals) (hRc : nz sV K0 o ≤ R.cells ∧ nu sV K0 o ≤ R.slots) (x0 : Nat) (K : Ka) (M : Cm) (H : Heap) (locs : List Loc) (ls : Array Slot) (hf : bT_X9_init_684 N x.2.2.1 x0 K M = some o) (hL : KLe K0 K) (hR : RC x K M H) (hS : va_S (AC K0) s.heap H locs) (hl : lv_has ls 6 [(0, .ref x0)]) : W p l e R s m args below meth c H locs (kz K - kz K0) (ku K - ku K0) (TQ sV (aQV x K0) (zQV K0) "java/lang/IllegalStateException" x K0 below args s o) (F0 m 684 ls []) := by
  obtain ⟨CX, hno, hlt, hmn⟩ := id CTX
  obtain ⟨hx, hb, hml, hown, hts, hE, hB, hr, hlk⟩ := id CX
  have hcs := nz_le (mbT_X9_init_684  x0 K M hf) hRc
  unfold bT_X9_init_684 at hf
  exact tr_vret CX hR hS hf dX9_init_684
def bT_X9_init_614 (N : Nat) (sa : Nat → Nat) (x0 : Nat) (s0 : Nat) (s1 : Nat) (K : Ka) (M : Cm) : Option ((Ka × Cm) ⊕ (Ka × Cm)) := gd (kd K s0 == 10) ((lT_X9_init_624 N sa (bT_X9_init_684 N sa) N) x0 0 0 0 K (wR M s0 107 (some s1)))
theorem mbT_X9_init_614 {o : (Ka × Cm) ⊕ (Ka × Cm)} {N : Nat} {sa : Nat → Nat}  (x0 : Nat) (s0 : Nat) (s1 : Nat) (K : Ka) (M : Cm) (hf : bT_X9_init_614 N sa x0 s0 s1 K M = some o) : KLe K (oK sV o) := by
  unfold bT_X9_init_614 at hf
  obtain ⟨-, hf⟩ := gd_some hf
  exact (mlT_X9_init_624 mbT_X9_init_684 N) _ _ _ _ _ _ hf
set_option maxRecDepth 100000 in
set_option maxHeartbeats 4000000 in
theorem wbT_X9_init_614 {p : Program} {l : Launch} {e : Env} {R : Room} {s : State} {m : MethodId} {args : Array Value} {below : List Frame} {meth : Method} {c : Code} {x : Xc} {K0 : Ka} {o : (Ka × Cm) ⊕ (Ka × Cm)} {N : Nat}  (CTX : CT p l s m args meth c x K0 RX9 "<init>" cX9_init 6 none) (hRm : 6 ≤ R.frames ∧ 95 ≤ R.locals) (hRc : nz sV K0 o ≤ R.cells ∧ nu sV K0 o ≤ R.slots) (x0 : Nat) (s0 : Nat) (s1 : Nat) (K : Ka) (M : Cm) (H : Heap) (locs : List Loc) (ls : Array Slot) (hf : bT_X9_init_614 N x.2.2.1 x0 s0 s1 K M = some o) (hL : KLe K0 K) (hR : RC x K M H) (hS : va_S (AC K0) s.heap H locs) (hl : lv_has ls 6 [(0, .ref x0)]) : W p l e R s m args below meth c H locs (kz K - kz K0) (ku K - ku K0) (TQ sV (aQV x K0) (zQV K0) "java/lang/IllegalStateException" x K0 below args s o) (F0 m 614 ls [.ref s1, .ref s0]) := by
  obtain ⟨CX, hno, hlt, hmn⟩ := id CTX
  obtain ⟨hx, hb, hml, hown, hts, hE, hB, hr, hlk⟩ := id CX
  have hcs := nz_le (mbT_X9_init_614  x0 s0 s1 K M hf) hRc
  unfold bT_X9_init_614 at hf
  obtain ⟨hk_s0_10, hf⟩ := gd_some hf
  refine tr_putFR kc_9 CX hmn hR hL hS (v := some s1) ff_X9_242 ⟨rfl, rfl, .inr ⟨_, rfl⟩⟩ hk_s0_10 dX9_init_614 (fun H locs hR hS => ?_)
  refine lv_iconst (v := 0) hx hb dX9_init_617 (by decide) ?_
  refine lv_istore_n (lv' := [(1, .int 0), (0, .ref x0)]) hx hb dX9_init_618 rfl hl (by decide) rfl (fun ls hl => ?_)
  refine lv_lconst (v := 0) hx hb dX9_init_619 (by decide) ?_
  refine lv_lstore_n (lv' := [(2, .long 0), (1, .int 0), (0, .ref x0)]) hx hb dX9_init_620 rfl hl (by decide) rfl (fun ls hl => ?_)
  refine lv_iconst (v := 0) hx hb dX9_init_621 (by decide) ?_
  refine lv_istore (lv' := [(4, .int 0), (2, .long 0), (1, .int 0), (0, .ref x0)]) hx hb dX9_init_622 hl (by decide) rfl (fun ls hl => ?_)
  exact (wlT_X9_init_624 CTX hRm hRc mbT_X9_init_684 (wbT_X9_init_684 CTX hRm hRc) N) _ _ _ _ _ _ _ _ _ hf hL hR hS (lv_sub hl [3, 2, 1, 0] rfl)
def bT_X9_init_606 (N : Nat) (sa : Nat → Nat) (x0 : Nat) (s0 : Nat) (s1 : Nat) (K : Ka) (M : Cm) : Option ((Ka × Cm) ⊕ (Ka × Cm)) := gd (kd K s0 == 10) (gd (decide (¬ (24 : Int32) < 0 ∧ (24 : Int32).toNatClampNeg ≤ 1000000)) ((bT_X9_init_614 N sa) x0 x0 (kz K) (kNew K 22 (24 : Int32).toNatClampNeg (24 : Int32).toNatClampNeg) (mZ (wR M s0 106 (some s1)) (kz K))))
theorem mbT_X9_init_606 {o : (Ka × Cm) ⊕ (Ka × Cm)} {N : Nat} {sa : Nat → Nat}  (x0 : Nat) (s0 : Nat) (s1 : Nat) (K : Ka) (M : Cm) (hf : bT_X9_init_606 N sa x0 s0 s1 K M = some o) : KLe K (oK sV o) := by
  unfold bT_X9_init_606 at hf
  obtain ⟨-, hf⟩ := gd_some hf
  obtain ⟨-, hf⟩ := gd_some hf
  exact (kNew_le _ _ _ _).tr (mbT_X9_init_614 _ _ _ _ _ hf)
set_option maxRecDepth 100000 in
set_option maxHeartbeats 4000000 in
theorem wbT_X9_init_606 {p : Program} {l : Launch} {e : Env} {R : Room} {s : State} {m : MethodId} {args : Array Value} {below : List Frame} {meth : Method} {c : Code} {x : Xc} {K0 : Ka} {o : (Ka × Cm) ⊕ (Ka × Cm)} {N : Nat}  (CTX : CT p l s m args meth c x K0 RX9 "<init>" cX9_init 6 none) (hRm : 6 ≤ R.frames ∧ 95 ≤ R.locals) (hRc : nz sV K0 o ≤ R.cells ∧ nu sV K0 o ≤ R.slots) (x0 : Nat) (s0 : Nat) (s1 : Nat) (K : Ka) (M : Cm) (H : Heap) (locs : List Loc) (ls : Array Slot) (hf : bT_X9_init_606 N x.2.2.1 x0 s0 s1 K M = some o) (hL : KLe K0 K) (hR : RC x K M H) (hS : va_S (AC K0) s.heap H locs) (hl : lv_has ls 6 [(0, .ref x0)]) : W p l e R s m args below meth c H locs (kz K - kz K0) (ku K - ku K0) (TQ sV (aQV x K0) (zQV K0) "java/lang/IllegalStateException" x K0 below args s o) (F0 m 606 ls [.ref s1, .ref s0]) := by
  obtain ⟨CX, hno, hlt, hmn⟩ := id CTX
  obtain ⟨hx, hb, hml, hown, hts, hE, hB, hr, hlk⟩ := id CX
  have hcs := nz_le (mbT_X9_init_606  x0 s0 s1 K M hf) hRc
  unfold bT_X9_init_606 at hf
  obtain ⟨hk_s0_10, hf⟩ := gd_some hf
  refine tr_putFR kc_9 CX hmn hR hL hS (v := some s1) ff_X9_239 ⟨rfl, rfl, .inr ⟨_, rfl⟩⟩ hk_s0_10 dX9_init_606 (fun H locs hR hS => ?_)
  refine lv_aload_n hx hb dX9_init_609 rfl (lv_at hl 0 rfl) ?_
  refine lv_bipush (v := 24) hx hb dX9_init_610 (by decide) ?_
  obtain ⟨hq, hf⟩ := gd_some hf
  have hm1 := mbT_X9_init_614 _ _ _ _ _ hf
  have hb1 := nz_le hm1 hRc
  refine tr_newai CX hL hR hS hq hb1 dX9_init_612 (fun H hR hS => ?_)
  exact (wbT_X9_init_614 CTX hRm hRc) _ _ _ _ _ _ _ _ hf (hL.tr (kNew_le _ _ _ _)) hR hS (lv_sub hl [0] rfl)
def bT_X9_init_598 (N : Nat) (sa : Nat → Nat) (x0 : Nat) (s0 : Nat) (s1 : Nat) (K : Ka) (M : Cm) : Option ((Ka × Cm) ⊕ (Ka × Cm)) := gd (kd K s0 == 10) (gd (decide (¬ (24 : Int32) < 0 ∧ (24 : Int32).toNatClampNeg ≤ 1000000)) ((bT_X9_init_606 N sa) x0 x0 (kz K) (kNew K 22 (24 : Int32).toNatClampNeg (24 : Int32).toNatClampNeg) (mZ (wR M s0 105 (some s1)) (kz K))))
theorem mbT_X9_init_598 {o : (Ka × Cm) ⊕ (Ka × Cm)} {N : Nat} {sa : Nat → Nat}  (x0 : Nat) (s0 : Nat) (s1 : Nat) (K : Ka) (M : Cm) (hf : bT_X9_init_598 N sa x0 s0 s1 K M = some o) : KLe K (oK sV o) := by
  unfold bT_X9_init_598 at hf
  obtain ⟨-, hf⟩ := gd_some hf
  obtain ⟨-, hf⟩ := gd_some hf
  exact (kNew_le _ _ _ _).tr (mbT_X9_init_606 _ _ _ _ _ hf)
set_option maxRecDepth 100000 in
set_option maxHeartbeats 4000000 in
theorem wbT_X9_init_598 {p : Program} {l : Launch} {e : Env} {R : Room} {s : State} {m : MethodId} {args : Array Value} {below : List Frame} {meth : Method} {c : Code} {x : Xc} {K0 : Ka} {o : (Ka × Cm) ⊕ (Ka × Cm)} {N : Nat}  (CTX : CT p l s m args meth c x K0 RX9 "<init>" cX9_init 6 none) (hRm : 6 ≤ R.frames ∧ 95 ≤ R.locals) (hRc : nz sV K0 o ≤ R.cells ∧ nu sV K0 o ≤ R.slots) (x0 : Nat) (s0 : Nat) (s1 : Nat) (K : Ka) (M : Cm) (H : Heap) (locs : List Loc) (ls : Array Slot) (hf : bT_X9_init_598 N x.2.2.1 x0 s0 s1 K M = some o) (hL : KLe K0 K) (hR : RC x K M H) (hS : va_S (AC K0) s.heap H locs) (hl : lv_has ls 6 [(0, .ref x0)]) : W p l e R s m args below meth c H locs (kz K - kz K0) (ku K - ku K0) (TQ sV (aQV x K0) (zQV K0) "java/lang/IllegalStateException" x K0 below args s o) (F0 m 598 ls [.ref s1, .ref s0]) := by
  obtain ⟨CX, hno, hlt, hmn⟩ := id CTX
  obtain ⟨hx, hb, hml, hown, hts, hE, hB, hr, hlk⟩ := id CX
  have hcs := nz_le (mbT_X9_init_598  x0 s0 s1 K M hf) hRc
  unfold bT_X9_init_598 at hf
  obtain ⟨hk_s0_10, hf⟩ := gd_some hf
  refine tr_putFR kc_9 CX hmn hR hL hS (v := some s1) ff_X9_236 ⟨rfl, rfl, .inr ⟨_, rfl⟩⟩ hk_s0_10 dX9_init_598 (fun H locs hR hS => ?_)
  refine lv_aload_n hx hb dX9_init_601 rfl (lv_at hl 0 rfl) ?_
  refine lv_bipush (v := 24) hx hb dX9_init_602 (by decide) ?_
  obtain ⟨hq, hf⟩ := gd_some hf
  have hm1 := mbT_X9_init_606 _ _ _ _ _ hf
  have hb1 := nz_le hm1 hRc
  refine tr_newai CX hL hR hS hq hb1 dX9_init_604 (fun H hR hS => ?_)
  exact (wbT_X9_init_606 CTX hRm hRc) _ _ _ _ _ _ _ _ hf (hL.tr (kNew_le _ _ _ _)) hR hS (lv_sub hl [0] rfl)
def bT_X9_init_590 (N : Nat) (sa : Nat → Nat) (x0 : Nat) (s0 : Nat) (s1 : Nat) (K : Ka) (M : Cm) : Option ((Ka × Cm) ⊕ (Ka × Cm)) := gd (kd K s0 == 10) (gd (decide (¬ (24 : Int32) < 0 ∧ (24 : Int32).toNatClampNeg ≤ 1000000)) ((bT_X9_init_598 N sa) x0 x0 (kz K) (kNew K 22 (24 : Int32).toNatClampNeg (24 : Int32).toNatClampNeg) (mZ (wR M s0 104 (some s1)) (kz K))))
theorem mbT_X9_init_590 {o : (Ka × Cm) ⊕ (Ka × Cm)} {N : Nat} {sa : Nat → Nat}  (x0 : Nat) (s0 : Nat) (s1 : Nat) (K : Ka) (M : Cm) (hf : bT_X9_init_590 N sa x0 s0 s1 K M = some o) : KLe K (oK sV o) := by
  unfold bT_X9_init_590 at hf
  obtain ⟨-, hf⟩ := gd_some hf
  obtain ⟨-, hf⟩ := gd_some hf
  exact (kNew_le _ _ _ _).tr (mbT_X9_init_598 _ _ _ _ _ hf)
set_option maxRecDepth 100000 in
set_option maxHeartbeats 4000000 in
theorem wbT_X9_init_590 {p : Program} {l : Launch} {e : Env} {R : Room} {s : State} {m : MethodId} {args : Array Value} {below : List Frame} {meth : Method} {c : Code} {x : Xc} {K0 : Ka} {o : (Ka × Cm) ⊕ (Ka × Cm)} {N : Nat}  (CTX : CT p l s m args meth c x K0 RX9 "<init>" cX9_init 6 none) (hRm : 6 ≤ R.frames ∧ 95 ≤ R.locals) (hRc : nz sV K0 o ≤ R.cells ∧ nu sV K0 o ≤ R.slots) (x0 : Nat) (s0 : Nat) (s1 : Nat) (K : Ka) (M : Cm) (H : Heap) (locs : List Loc) (ls : Array Slot) (hf : bT_X9_init_590 N x.2.2.1 x0 s0 s1 K M = some o) (hL : KLe K0 K) (hR : RC x K M H) (hS : va_S (AC K0) s.heap H locs) (hl : lv_has ls 6 [(0, .ref x0)]) : W p l e R s m args below meth c H locs (kz K - kz K0) (ku K - ku K0) (TQ sV (aQV x K0) (zQV K0) "java/lang/IllegalStateException" x K0 below args s o) (F0 m 590 ls [.ref s1, .ref s0]) := by
  obtain ⟨CX, hno, hlt, hmn⟩ := id CTX
  obtain ⟨hx, hb, hml, hown, hts, hE, hB, hr, hlk⟩ := id CX
  have hcs := nz_le (mbT_X9_init_590  x0 s0 s1 K M hf) hRc
  unfold bT_X9_init_590 at hf
  obtain ⟨hk_s0_10, hf⟩ := gd_some hf
  refine tr_putFR kc_9 CX hmn hR hL hS (v := some s1) ff_X9_233 ⟨rfl, rfl, .inr ⟨_, rfl⟩⟩ hk_s0_10 dX9_init_590 (fun H locs hR hS => ?_)
  refine lv_aload_n hx hb dX9_init_593 rfl (lv_at hl 0 rfl) ?_
  refine lv_bipush (v := 24) hx hb dX9_init_594 (by decide) ?_
  obtain ⟨hq, hf⟩ := gd_some hf
  have hm1 := mbT_X9_init_598 _ _ _ _ _ hf
  have hb1 := nz_le hm1 hRc
  refine tr_newai CX hL hR hS hq hb1 dX9_init_596 (fun H hR hS => ?_)
  exact (wbT_X9_init_598 CTX hRm hRc) _ _ _ _ _ _ _ _ hf (hL.tr (kNew_le _ _ _ _)) hR hS (lv_sub hl [0] rfl)
def bT_X9_init_582 (N : Nat) (sa : Nat → Nat) (x0 : Nat) (s0 : Nat) (s1 : Nat) (K : Ka) (M : Cm) : Option ((Ka × Cm) ⊕ (Ka × Cm)) := gd (kd K s0 == 10) (gd (decide (¬ (24 : Int32) < 0 ∧ (24 : Int32).toNatClampNeg ≤ 1000000)) ((bT_X9_init_590 N sa) x0 x0 (kz K) (kNew K 22 (24 : Int32).toNatClampNeg (24 : Int32).toNatClampNeg) (mZ (wR M s0 103 (some s1)) (kz K))))
theorem mbT_X9_init_582 {o : (Ka × Cm) ⊕ (Ka × Cm)} {N : Nat} {sa : Nat → Nat}  (x0 : Nat) (s0 : Nat) (s1 : Nat) (K : Ka) (M : Cm) (hf : bT_X9_init_582 N sa x0 s0 s1 K M = some o) : KLe K (oK sV o) := by
  unfold bT_X9_init_582 at hf
  obtain ⟨-, hf⟩ := gd_some hf
  obtain ⟨-, hf⟩ := gd_some hf
  exact (kNew_le _ _ _ _).tr (mbT_X9_init_590 _ _ _ _ _ hf)
set_option maxRecDepth 100000 in
set_option maxHeartbeats 4000000 in
theorem wbT_X9_init_582 {p : Program} {l : Launch} {e : Env} {R : Room} {s : State} {m : MethodId} {args : Array Value} {below : List Frame} {meth : Method} {c : Code} {x : Xc} {K0 : Ka} {o : (Ka × Cm) ⊕ (Ka × Cm)} {N : Nat}  (CTX : CT p l s m args meth c x K0 RX9 "<init>" cX9_init 6 none) (hRm : 6 ≤ R.frames ∧ 95 ≤ R.locals) (hRc : nz sV K0 o ≤ R.cells ∧ nu sV K0 o ≤ R.slots) (x0 : Nat) (s0 : Nat) (s1 : Nat) (K : Ka) (M : Cm) (H : Heap) (locs : List Loc) (ls : Array Slot) (hf : bT_X9_init_582 N x.2.2.1 x0 s0 s1 K M = some o) (hL : KLe K0 K) (hR : RC x K M H) (hS : va_S (AC K0) s.heap H locs) (hl : lv_has ls 6 [(0, .ref x0)]) : W p l e R s m args below meth c H locs (kz K - kz K0) (ku K - ku K0) (TQ sV (aQV x K0) (zQV K0) "java/lang/IllegalStateException" x K0 below args s o) (F0 m 582 ls [.ref s1, .ref s0]) := by
  obtain ⟨CX, hno, hlt, hmn⟩ := id CTX
  obtain ⟨hx, hb, hml, hown, hts, hE, hB, hr, hlk⟩ := id CX
  have hcs := nz_le (mbT_X9_init_582  x0 s0 s1 K M hf) hRc
  unfold bT_X9_init_582 at hf
  obtain ⟨hk_s0_10, hf⟩ := gd_some hf
  refine tr_putFR kc_9 CX hmn hR hL hS (v := some s1) ff_X9_230 ⟨rfl, rfl, .inr ⟨_, rfl⟩⟩ hk_s0_10 dX9_init_582 (fun H locs hR hS => ?_)
  refine lv_aload_n hx hb dX9_init_585 rfl (lv_at hl 0 rfl) ?_
  refine lv_bipush (v := 24) hx hb dX9_init_586 (by decide) ?_
  obtain ⟨hq, hf⟩ := gd_some hf
  have hm1 := mbT_X9_init_590 _ _ _ _ _ hf
  have hb1 := nz_le hm1 hRc
  refine tr_newai CX hL hR hS hq hb1 dX9_init_588 (fun H hR hS => ?_)
  exact (wbT_X9_init_590 CTX hRm hRc) _ _ _ _ _ _ _ _ hf (hL.tr (kNew_le _ _ _ _)) hR hS (lv_sub hl [0] rfl)
def bT_X9_init_573 (N : Nat) (sa : Nat → Nat) (x0 : Nat) (s0 : Nat) (s1 : Nat) (K : Ka) (M : Cm) : Option ((Ka × Cm) ⊕ (Ka × Cm)) := gd (kd K s0 == 10) (gd (decide (¬ (192 : Int32) < 0 ∧ (192 : Int32).toNatClampNeg ≤ 1000000)) ((bT_X9_init_582 N sa) x0 x0 (kz K) (kNew K 22 (192 : Int32).toNatClampNeg (192 : Int32).toNatClampNeg) (mZ (wR M s0 102 (some s1)) (kz K))))
theorem mbT_X9_init_573 {o : (Ka × Cm) ⊕ (Ka × Cm)} {N : Nat} {sa : Nat → Nat}  (x0 : Nat) (s0 : Nat) (s1 : Nat) (K : Ka) (M : Cm) (hf : bT_X9_init_573 N sa x0 s0 s1 K M = some o) : KLe K (oK sV o) := by
  unfold bT_X9_init_573 at hf
  obtain ⟨-, hf⟩ := gd_some hf
  obtain ⟨-, hf⟩ := gd_some hf
  exact (kNew_le _ _ _ _).tr (mbT_X9_init_582 _ _ _ _ _ hf)
set_option maxRecDepth 100000 in
set_option maxHeartbeats 4000000 in
theorem wbT_X9_init_573 {p : Program} {l : Launch} {e : Env} {R : Room} {s : State} {m : MethodId} {args : Array Value} {below : List Frame} {meth : Method} {c : Code} {x : Xc} {K0 : Ka} {o : (Ka × Cm) ⊕ (Ka × Cm)} {N : Nat}  (CTX : CT p l s m args meth c x K0 RX9 "<init>" cX9_init 6 none) (hRm : 6 ≤ R.frames ∧ 95 ≤ R.locals) (hRc : nz sV K0 o ≤ R.cells ∧ nu sV K0 o ≤ R.slots) (x0 : Nat) (s0 : Nat) (s1 : Nat) (K : Ka) (M : Cm) (H : Heap) (locs : List Loc) (ls : Array Slot) (hf : bT_X9_init_573 N x.2.2.1 x0 s0 s1 K M = some o) (hL : KLe K0 K) (hR : RC x K M H) (hS : va_S (AC K0) s.heap H locs) (hl : lv_has ls 6 [(0, .ref x0)]) : W p l e R s m args below meth c H locs (kz K - kz K0) (ku K - ku K0) (TQ sV (aQV x K0) (zQV K0) "java/lang/IllegalStateException" x K0 below args s o) (F0 m 573 ls [.ref s1, .ref s0]) := by
  obtain ⟨CX, hno, hlt, hmn⟩ := id CTX
  obtain ⟨hx, hb, hml, hown, hts, hE, hB, hr, hlk⟩ := id CX
  have hcs := nz_le (mbT_X9_init_573  x0 s0 s1 K M hf) hRc
  unfold bT_X9_init_573 at hf
  obtain ⟨hk_s0_10, hf⟩ := gd_some hf
  refine tr_putFR kc_9 CX hmn hR hL hS (v := some s1) ff_X9_227 ⟨rfl, rfl, .inr ⟨_, rfl⟩⟩ hk_s0_10 dX9_init_573 (fun H locs hR hS => ?_)
  refine lv_aload_n hx hb dX9_init_576 rfl (lv_at hl 0 rfl) ?_
  refine lv_sipush (v := 192) hx hb dX9_init_577 (by decide) ?_
  obtain ⟨hq, hf⟩ := gd_some hf
  have hm1 := mbT_X9_init_582 _ _ _ _ _ hf
  have hb1 := nz_le hm1 hRc
  refine tr_newai CX hL hR hS hq hb1 dX9_init_580 (fun H hR hS => ?_)
  exact (wbT_X9_init_582 CTX hRm hRc) _ _ _ _ _ _ _ _ hf (hL.tr (kNew_le _ _ _ _)) hR hS (lv_sub hl [0] rfl)
def bT_X9_init_565 (N : Nat) (sa : Nat → Nat) (x0 : Nat) (s0 : Nat) (s1 : Nat) (K : Ka) (M : Cm) : Option ((Ka × Cm) ⊕ (Ka × Cm)) := gd (kd K s0 == 10) (gd (decide (¬ (24 : Int32) < 0 ∧ (24 : Int32).toNatClampNeg ≤ 1000000)) ((bT_X9_init_573 N sa) x0 x0 (kz K) (kNew K 22 (24 : Int32).toNatClampNeg (24 : Int32).toNatClampNeg) (mZ (wR M s0 100 (some s1)) (kz K))))
theorem mbT_X9_init_565 {o : (Ka × Cm) ⊕ (Ka × Cm)} {N : Nat} {sa : Nat → Nat}  (x0 : Nat) (s0 : Nat) (s1 : Nat) (K : Ka) (M : Cm) (hf : bT_X9_init_565 N sa x0 s0 s1 K M = some o) : KLe K (oK sV o) := by
  unfold bT_X9_init_565 at hf
  obtain ⟨-, hf⟩ := gd_some hf
  obtain ⟨-, hf⟩ := gd_some hf
  exact (kNew_le _ _ _ _).tr (mbT_X9_init_573 _ _ _ _ _ hf)
set_option maxRecDepth 100000 in
set_option maxHeartbeats 4000000 in
theorem wbT_X9_init_565 {p : Program} {l : Launch} {e : Env} {R : Room} {s : State} {m : MethodId} {args : Array Value} {below : List Frame} {meth : Method} {c : Code} {x : Xc} {K0 : Ka} {o : (Ka × Cm) ⊕ (Ka × Cm)} {N : Nat}  (CTX : CT p l s m args meth c x K0 RX9 "<init>" cX9_init 6 none) (hRm : 6 ≤ R.frames ∧ 95 ≤ R.locals) (hRc : nz sV K0 o ≤ R.cells ∧ nu sV K0 o ≤ R.slots) (x0 : Nat) (s0 : Nat) (s1 : Nat) (K : Ka) (M : Cm) (H : Heap) (locs : List Loc) (ls : Array Slot) (hf : bT_X9_init_565 N x.2.2.1 x0 s0 s1 K M = some o) (hL : KLe K0 K) (hR : RC x K M H) (hS : va_S (AC K0) s.heap H locs) (hl : lv_has ls 6 [(0, .ref x0)]) : W p l e R s m args below meth c H locs (kz K - kz K0) (ku K - ku K0) (TQ sV (aQV x K0) (zQV K0) "java/lang/IllegalStateException" x K0 below args s o) (F0 m 565 ls [.ref s1, .ref s0]) := by
  obtain ⟨CX, hno, hlt, hmn⟩ := id CTX
  obtain ⟨hx, hb, hml, hown, hts, hE, hB, hr, hlk⟩ := id CX
  have hcs := nz_le (mbT_X9_init_565  x0 s0 s1 K M hf) hRc
  unfold bT_X9_init_565 at hf
  obtain ⟨hk_s0_10, hf⟩ := gd_some hf
  refine tr_putFR kc_9 CX hmn hR hL hS (v := some s1) ff_X9_224 ⟨rfl, rfl, .inr ⟨_, rfl⟩⟩ hk_s0_10 dX9_init_565 (fun H locs hR hS => ?_)
  refine lv_aload_n hx hb dX9_init_568 rfl (lv_at hl 0 rfl) ?_
  refine lv_bipush (v := 24) hx hb dX9_init_569 (by decide) ?_
  obtain ⟨hq, hf⟩ := gd_some hf
  have hm1 := mbT_X9_init_573 _ _ _ _ _ hf
  have hb1 := nz_le hm1 hRc
  refine tr_newai CX hL hR hS hq hb1 dX9_init_571 (fun H hR hS => ?_)
  exact (wbT_X9_init_573 CTX hRm hRc) _ _ _ _ _ _ _ _ hf (hL.tr (kNew_le _ _ _ _)) hR hS (lv_sub hl [0] rfl)
def bT_X9_init_557 (N : Nat) (sa : Nat → Nat) (x0 : Nat) (s0 : Nat) (s1 : Nat) (K : Ka) (M : Cm) : Option ((Ka × Cm) ⊕ (Ka × Cm)) := gd (kd K s0 == 10) (gd (decide (¬ (24 : Int32) < 0 ∧ (24 : Int32).toNatClampNeg ≤ 1000000)) ((bT_X9_init_565 N sa) x0 x0 (kz K) (kNew K 22 (24 : Int32).toNatClampNeg (24 : Int32).toNatClampNeg) (mZ (wR M s0 96 (some s1)) (kz K))))
theorem mbT_X9_init_557 {o : (Ka × Cm) ⊕ (Ka × Cm)} {N : Nat} {sa : Nat → Nat}  (x0 : Nat) (s0 : Nat) (s1 : Nat) (K : Ka) (M : Cm) (hf : bT_X9_init_557 N sa x0 s0 s1 K M = some o) : KLe K (oK sV o) := by
  unfold bT_X9_init_557 at hf
  obtain ⟨-, hf⟩ := gd_some hf
  obtain ⟨-, hf⟩ := gd_some hf
  exact (kNew_le _ _ _ _).tr (mbT_X9_init_565 _ _ _ _ _ hf)
set_option maxRecDepth 100000 in
set_option maxHeartbeats 4000000 in
theorem wbT_X9_init_557 {p : Program} {l : Launch} {e : Env} {R : Room} {s : State} {m : MethodId} {args : Array Value} {below : List Frame} {meth : Method} {c : Code} {x : Xc} {K0 : Ka} {o : (Ka × Cm) ⊕ (Ka × Cm)} {N : Nat}  (CTX : CT p l s m args meth c x K0 RX9 "<init>" cX9_init 6 none) (hRm : 6 ≤ R.frames ∧ 95 ≤ R.locals) (hRc : nz sV K0 o ≤ R.cells ∧ nu sV K0 o ≤ R.slots) (x0 : Nat) (s0 : Nat) (s1 : Nat) (K : Ka) (M : Cm) (H : Heap) (locs : List Loc) (ls : Array Slot) (hf : bT_X9_init_557 N x.2.2.1 x0 s0 s1 K M = some o) (hL : KLe K0 K) (hR : RC x K M H) (hS : va_S (AC K0) s.heap H locs) (hl : lv_has ls 6 [(0, .ref x0)]) : W p l e R s m args below meth c H locs (kz K - kz K0) (ku K - ku K0) (TQ sV (aQV x K0) (zQV K0) "java/lang/IllegalStateException" x K0 below args s o) (F0 m 557 ls [.ref s1, .ref s0]) := by
  obtain ⟨CX, hno, hlt, hmn⟩ := id CTX
  obtain ⟨hx, hb, hml, hown, hts, hE, hB, hr, hlk⟩ := id CX
  have hcs := nz_le (mbT_X9_init_557  x0 s0 s1 K M hf) hRc
  unfold bT_X9_init_557 at hf
  obtain ⟨hk_s0_10, hf⟩ := gd_some hf
  refine tr_putFR kc_9 CX hmn hR hL hS (v := some s1) ff_X9_221 ⟨rfl, rfl, .inr ⟨_, rfl⟩⟩ hk_s0_10 dX9_init_557 (fun H locs hR hS => ?_)
  refine lv_aload_n hx hb dX9_init_560 rfl (lv_at hl 0 rfl) ?_
  refine lv_bipush (v := 24) hx hb dX9_init_561 (by decide) ?_
  obtain ⟨hq, hf⟩ := gd_some hf
  have hm1 := mbT_X9_init_565 _ _ _ _ _ hf
  have hb1 := nz_le hm1 hRc
  refine tr_newai CX hL hR hS hq hb1 dX9_init_563 (fun H hR hS => ?_)
  exact (wbT_X9_init_565 CTX hRm hRc) _ _ _ _ _ _ _ _ hf (hL.tr (kNew_le _ _ _ _)) hR hS (lv_sub hl [0] rfl)
def bT_X9_init_548 (N : Nat) (sa : Nat → Nat) (x0 : Nat) (s0 : Nat) (s1 : Nat) (K : Ka) (M : Cm) : Option ((Ka × Cm) ⊕ (Ka × Cm)) := gd (kd K s0 == 10) (gd (decide (¬ (600 : Int32) < 0 ∧ (600 : Int32).toNatClampNeg ≤ 1000000)) ((bT_X9_init_557 N sa) x0 x0 (kz K) (kNew K 22 (600 : Int32).toNatClampNeg (600 : Int32).toNatClampNeg) (mZ (wR M s0 94 (some s1)) (kz K))))
theorem mbT_X9_init_548 {o : (Ka × Cm) ⊕ (Ka × Cm)} {N : Nat} {sa : Nat → Nat}  (x0 : Nat) (s0 : Nat) (s1 : Nat) (K : Ka) (M : Cm) (hf : bT_X9_init_548 N sa x0 s0 s1 K M = some o) : KLe K (oK sV o) := by
  unfold bT_X9_init_548 at hf
  obtain ⟨-, hf⟩ := gd_some hf
  obtain ⟨-, hf⟩ := gd_some hf
  exact (kNew_le _ _ _ _).tr (mbT_X9_init_557 _ _ _ _ _ hf)
set_option maxRecDepth 100000 in
set_option maxHeartbeats 4000000 in
theorem wbT_X9_init_548 {p : Program} {l : Launch} {e : Env} {R : Room} {s : State} {m : MethodId} {args : Array Value} {below : List Frame} {meth : Method} {c : Code} {x : Xc} {K0 : Ka} {o : (Ka × Cm) ⊕ (Ka × Cm)} {N : Nat}  (CTX : CT p l s m args meth c x K0 RX9 "<init>" cX9_init 6 none) (hRm : 6 ≤ R.frames ∧ 95 ≤ R.locals) (hRc : nz sV K0 o ≤ R.cells ∧ nu sV K0 o ≤ R.slots) (x0 : Nat) (s0 : Nat) (s1 : Nat) (K : Ka) (M : Cm) (H : Heap) (locs : List Loc) (ls : Array Slot) (hf : bT_X9_init_548 N x.2.2.1 x0 s0 s1 K M = some o) (hL : KLe K0 K) (hR : RC x K M H) (hS : va_S (AC K0) s.heap H locs) (hl : lv_has ls 6 [(0, .ref x0)]) : W p l e R s m args below meth c H locs (kz K - kz K0) (ku K - ku K0) (TQ sV (aQV x K0) (zQV K0) "java/lang/IllegalStateException" x K0 below args s o) (F0 m 548 ls [.ref s1, .ref s0]) := by
  obtain ⟨CX, hno, hlt, hmn⟩ := id CTX
  obtain ⟨hx, hb, hml, hown, hts, hE, hB, hr, hlk⟩ := id CX
  have hcs := nz_le (mbT_X9_init_548  x0 s0 s1 K M hf) hRc
  unfold bT_X9_init_548 at hf
  obtain ⟨hk_s0_10, hf⟩ := gd_some hf
  refine tr_putFR kc_9 CX hmn hR hL hS (v := some s1) ff_X9_218 ⟨rfl, rfl, .inr ⟨_, rfl⟩⟩ hk_s0_10 dX9_init_548 (fun H locs hR hS => ?_)
  refine lv_aload_n hx hb dX9_init_551 rfl (lv_at hl 0 rfl) ?_
  refine lv_sipush (v := 600) hx hb dX9_init_552 (by decide) ?_
  obtain ⟨hq, hf⟩ := gd_some hf
  have hm1 := mbT_X9_init_557 _ _ _ _ _ hf
  have hb1 := nz_le hm1 hRc
  refine tr_newai CX hL hR hS hq hb1 dX9_init_555 (fun H hR hS => ?_)
  exact (wbT_X9_init_557 CTX hRm hRc) _ _ _ _ _ _ _ _ hf (hL.tr (kNew_le _ _ _ _)) hR hS (lv_sub hl [0] rfl)
def bT_X9_init_539 (N : Nat) (sa : Nat → Nat) (x0 : Nat) (s0 : Nat) (s1 : Nat) (K : Ka) (M : Cm) : Option ((Ka × Cm) ⊕ (Ka × Cm)) := gd (kd K s0 == 10) (gd (decide (¬ (4000 : Int32) < 0 ∧ (4000 : Int32).toNatClampNeg ≤ 1000000)) ((bT_X9_init_548 N sa) x0 x0 (kz K) (kNew K 22 (4000 : Int32).toNatClampNeg (4000 : Int32).toNatClampNeg) (mZ (wR M s0 93 (some s1)) (kz K))))
theorem mbT_X9_init_539 {o : (Ka × Cm) ⊕ (Ka × Cm)} {N : Nat} {sa : Nat → Nat}  (x0 : Nat) (s0 : Nat) (s1 : Nat) (K : Ka) (M : Cm) (hf : bT_X9_init_539 N sa x0 s0 s1 K M = some o) : KLe K (oK sV o) := by
  unfold bT_X9_init_539 at hf
  obtain ⟨-, hf⟩ := gd_some hf
  obtain ⟨-, hf⟩ := gd_some hf
  exact (kNew_le _ _ _ _).tr (mbT_X9_init_548 _ _ _ _ _ hf)
set_option maxRecDepth 100000 in
set_option maxHeartbeats 4000000 in
theorem wbT_X9_init_539 {p : Program} {l : Launch} {e : Env} {R : Room} {s : State} {m : MethodId} {args : Array Value} {below : List Frame} {meth : Method} {c : Code} {x : Xc} {K0 : Ka} {o : (Ka × Cm) ⊕ (Ka × Cm)} {N : Nat}  (CTX : CT p l s m args meth c x K0 RX9 "<init>" cX9_init 6 none) (hRm : 6 ≤ R.frames ∧ 95 ≤ R.locals) (hRc : nz sV K0 o ≤ R.cells ∧ nu sV K0 o ≤ R.slots) (x0 : Nat) (s0 : Nat) (s1 : Nat) (K : Ka) (M : Cm) (H : Heap) (locs : List Loc) (ls : Array Slot) (hf : bT_X9_init_539 N x.2.2.1 x0 s0 s1 K M = some o) (hL : KLe K0 K) (hR : RC x K M H) (hS : va_S (AC K0) s.heap H locs) (hl : lv_has ls 6 [(0, .ref x0)]) : W p l e R s m args below meth c H locs (kz K - kz K0) (ku K - ku K0) (TQ sV (aQV x K0) (zQV K0) "java/lang/IllegalStateException" x K0 below args s o) (F0 m 539 ls [.ref s1, .ref s0]) := by
  obtain ⟨CX, hno, hlt, hmn⟩ := id CTX
  obtain ⟨hx, hb, hml, hown, hts, hE, hB, hr, hlk⟩ := id CX
  have hcs := nz_le (mbT_X9_init_539  x0 s0 s1 K M hf) hRc
  unfold bT_X9_init_539 at hf
  obtain ⟨hk_s0_10, hf⟩ := gd_some hf
  refine tr_putFR kc_9 CX hmn hR hL hS (v := some s1) ff_X9_215 ⟨rfl, rfl, .inr ⟨_, rfl⟩⟩ hk_s0_10 dX9_init_539 (fun H locs hR hS => ?_)
  refine lv_aload_n hx hb dX9_init_542 rfl (lv_at hl 0 rfl) ?_
  refine lv_sipush (v := 4000) hx hb dX9_init_543 (by decide) ?_
  obtain ⟨hq, hf⟩ := gd_some hf
  have hm1 := mbT_X9_init_548 _ _ _ _ _ hf
  have hb1 := nz_le hm1 hRc
  refine tr_newai CX hL hR hS hq hb1 dX9_init_546 (fun H hR hS => ?_)
  exact (wbT_X9_init_548 CTX hRm hRc) _ _ _ _ _ _ _ _ hf (hL.tr (kNew_le _ _ _ _)) hR hS (lv_sub hl [0] rfl)
def bT_X9_init_530 (N : Nat) (sa : Nat → Nat) (x0 : Nat) (s0 : Nat) (s1 : Nat) (K : Ka) (M : Cm) : Option ((Ka × Cm) ⊕ (Ka × Cm)) := gd (kd K s0 == 10) (gd (decide (¬ (576 : Int32) < 0 ∧ (576 : Int32).toNatClampNeg ≤ 1000000)) ((bT_X9_init_539 N sa) x0 x0 (kz K) (kNew K 24 (576 : Int32).toNatClampNeg (576 : Int32).toNatClampNeg) (mZ (wR M s0 86 (some s1)) (kz K))))
theorem mbT_X9_init_530 {o : (Ka × Cm) ⊕ (Ka × Cm)} {N : Nat} {sa : Nat → Nat}  (x0 : Nat) (s0 : Nat) (s1 : Nat) (K : Ka) (M : Cm) (hf : bT_X9_init_530 N sa x0 s0 s1 K M = some o) : KLe K (oK sV o) := by
  unfold bT_X9_init_530 at hf
  obtain ⟨-, hf⟩ := gd_some hf
  obtain ⟨-, hf⟩ := gd_some hf
  exact (kNew_le _ _ _ _).tr (mbT_X9_init_539 _ _ _ _ _ hf)
set_option maxRecDepth 100000 in
set_option maxHeartbeats 4000000 in
theorem wbT_X9_init_530 {p : Program} {l : Launch} {e : Env} {R : Room} {s : State} {m : MethodId} {args : Array Value} {below : List Frame} {meth : Method} {c : Code} {x : Xc} {K0 : Ka} {o : (Ka × Cm) ⊕ (Ka × Cm)} {N : Nat}  (CTX : CT p l s m args meth c x K0 RX9 "<init>" cX9_init 6 none) (hRm : 6 ≤ R.frames ∧ 95 ≤ R.locals) (hRc : nz sV K0 o ≤ R.cells ∧ nu sV K0 o ≤ R.slots) (x0 : Nat) (s0 : Nat) (s1 : Nat) (K : Ka) (M : Cm) (H : Heap) (locs : List Loc) (ls : Array Slot) (hf : bT_X9_init_530 N x.2.2.1 x0 s0 s1 K M = some o) (hL : KLe K0 K) (hR : RC x K M H) (hS : va_S (AC K0) s.heap H locs) (hl : lv_has ls 6 [(0, .ref x0)]) : W p l e R s m args below meth c H locs (kz K - kz K0) (ku K - ku K0) (TQ sV (aQV x K0) (zQV K0) "java/lang/IllegalStateException" x K0 below args s o) (F0 m 530 ls [.ref s1, .ref s0]) := by
  obtain ⟨CX, hno, hlt, hmn⟩ := id CTX
  obtain ⟨hx, hb, hml, hown, hts, hE, hB, hr, hlk⟩ := id CX
  have hcs := nz_le (mbT_X9_init_530  x0 s0 s1 K M hf) hRc
  unfold bT_X9_init_530 at hf
  obtain ⟨hk_s0_10, hf⟩ := gd_some hf
  refine tr_putFR kc_9 CX hmn hR hL hS (v := some s1) ff_X9_212 ⟨rfl, rfl, .inr ⟨_, rfl⟩⟩ hk_s0_10 dX9_init_530 (fun H locs hR hS => ?_)
  refine lv_aload_n hx hb dX9_init_533 rfl (lv_at hl 0 rfl) ?_
  refine lv_sipush (v := 576) hx hb dX9_init_534 (by decide) ?_
  obtain ⟨hq, hf⟩ := gd_some hf
  have hm1 := mbT_X9_init_539 _ _ _ _ _ hf
  have hb1 := nz_le hm1 hRc
  refine tr_newaz CX hL hR hS hq hb1 dX9_init_537 (fun H hR hS => ?_)
  exact (wbT_X9_init_539 CTX hRm hRc) _ _ _ _ _ _ _ _ hf (hL.tr (kNew_le _ _ _ _)) hR hS (lv_sub hl [0] rfl)
def bT_X9_init_522 (N : Nat) (sa : Nat → Nat) (x0 : Nat) (s0 : Nat) (s1 : Nat) (K : Ka) (M : Cm) : Option ((Ka × Cm) ⊕ (Ka × Cm)) := gd (kd K s0 == 10) (gd (decide (¬ (24 : Int32) < 0 ∧ (24 : Int32).toNatClampNeg ≤ 1000000)) ((bT_X9_init_530 N sa) x0 x0 (kz K) (kNew K 22 (24 : Int32).toNatClampNeg (24 : Int32).toNatClampNeg) (mZ (wR M s0 85 (some s1)) (kz K))))
theorem mbT_X9_init_522 {o : (Ka × Cm) ⊕ (Ka × Cm)} {N : Nat} {sa : Nat → Nat}  (x0 : Nat) (s0 : Nat) (s1 : Nat) (K : Ka) (M : Cm) (hf : bT_X9_init_522 N sa x0 s0 s1 K M = some o) : KLe K (oK sV o) := by
  unfold bT_X9_init_522 at hf
  obtain ⟨-, hf⟩ := gd_some hf
  obtain ⟨-, hf⟩ := gd_some hf
  exact (kNew_le _ _ _ _).tr (mbT_X9_init_530 _ _ _ _ _ hf)
set_option maxRecDepth 100000 in
set_option maxHeartbeats 4000000 in
theorem wbT_X9_init_522 {p : Program} {l : Launch} {e : Env} {R : Room} {s : State} {m : MethodId} {args : Array Value} {below : List Frame} {meth : Method} {c : Code} {x : Xc} {K0 : Ka} {o : (Ka × Cm) ⊕ (Ka × Cm)} {N : Nat}  (CTX : CT p l s m args meth c x K0 RX9 "<init>" cX9_init 6 none) (hRm : 6 ≤ R.frames ∧ 95 ≤ R.locals) (hRc : nz sV K0 o ≤ R.cells ∧ nu sV K0 o ≤ R.slots) (x0 : Nat) (s0 : Nat) (s1 : Nat) (K : Ka) (M : Cm) (H : Heap) (locs : List Loc) (ls : Array Slot) (hf : bT_X9_init_522 N x.2.2.1 x0 s0 s1 K M = some o) (hL : KLe K0 K) (hR : RC x K M H) (hS : va_S (AC K0) s.heap H locs) (hl : lv_has ls 6 [(0, .ref x0)]) : W p l e R s m args below meth c H locs (kz K - kz K0) (ku K - ku K0) (TQ sV (aQV x K0) (zQV K0) "java/lang/IllegalStateException" x K0 below args s o) (F0 m 522 ls [.ref s1, .ref s0]) := by
  obtain ⟨CX, hno, hlt, hmn⟩ := id CTX
  obtain ⟨hx, hb, hml, hown, hts, hE, hB, hr, hlk⟩ := id CX
  have hcs := nz_le (mbT_X9_init_522  x0 s0 s1 K M hf) hRc
  unfold bT_X9_init_522 at hf
  obtain ⟨hk_s0_10, hf⟩ := gd_some hf
  refine tr_putFR kc_9 CX hmn hR hL hS (v := some s1) ff_X9_209 ⟨rfl, rfl, .inr ⟨_, rfl⟩⟩ hk_s0_10 dX9_init_522 (fun H locs hR hS => ?_)
  refine lv_aload_n hx hb dX9_init_525 rfl (lv_at hl 0 rfl) ?_
  refine lv_bipush (v := 24) hx hb dX9_init_526 (by decide) ?_
  obtain ⟨hq, hf⟩ := gd_some hf
  have hm1 := mbT_X9_init_530 _ _ _ _ _ hf
  have hb1 := nz_le hm1 hRc
  refine tr_newai CX hL hR hS hq hb1 dX9_init_528 (fun H hR hS => ?_)
  exact (wbT_X9_init_530 CTX hRm hRc) _ _ _ _ _ _ _ _ hf (hL.tr (kNew_le _ _ _ _)) hR hS (lv_sub hl [0] rfl)
def bT_X9_init_514 (N : Nat) (sa : Nat → Nat) (x0 : Nat) (s0 : Nat) (s1 : Nat) (K : Ka) (M : Cm) : Option ((Ka × Cm) ⊕ (Ka × Cm)) := gd (kd K s0 == 10) (gd (decide (¬ (24 : Int32) < 0 ∧ (24 : Int32).toNatClampNeg ≤ 1000000)) ((bT_X9_init_522 N sa) x0 x0 (kz K) (kNew K 22 (24 : Int32).toNatClampNeg (24 : Int32).toNatClampNeg) (mZ (wR M s0 83 (some s1)) (kz K))))
theorem mbT_X9_init_514 {o : (Ka × Cm) ⊕ (Ka × Cm)} {N : Nat} {sa : Nat → Nat}  (x0 : Nat) (s0 : Nat) (s1 : Nat) (K : Ka) (M : Cm) (hf : bT_X9_init_514 N sa x0 s0 s1 K M = some o) : KLe K (oK sV o) := by
  unfold bT_X9_init_514 at hf
  obtain ⟨-, hf⟩ := gd_some hf
  obtain ⟨-, hf⟩ := gd_some hf
  exact (kNew_le _ _ _ _).tr (mbT_X9_init_522 _ _ _ _ _ hf)
set_option maxRecDepth 100000 in
set_option maxHeartbeats 4000000 in
theorem wbT_X9_init_514 {p : Program} {l : Launch} {e : Env} {R : Room} {s : State} {m : MethodId} {args : Array Value} {below : List Frame} {meth : Method} {c : Code} {x : Xc} {K0 : Ka} {o : (Ka × Cm) ⊕ (Ka × Cm)} {N : Nat}  (CTX : CT p l s m args meth c x K0 RX9 "<init>" cX9_init 6 none) (hRm : 6 ≤ R.frames ∧ 95 ≤ R.locals) (hRc : nz sV K0 o ≤ R.cells ∧ nu sV K0 o ≤ R.slots) (x0 : Nat) (s0 : Nat) (s1 : Nat) (K : Ka) (M : Cm) (H : Heap) (locs : List Loc) (ls : Array Slot) (hf : bT_X9_init_514 N x.2.2.1 x0 s0 s1 K M = some o) (hL : KLe K0 K) (hR : RC x K M H) (hS : va_S (AC K0) s.heap H locs) (hl : lv_has ls 6 [(0, .ref x0)]) : W p l e R s m args below meth c H locs (kz K - kz K0) (ku K - ku K0) (TQ sV (aQV x K0) (zQV K0) "java/lang/IllegalStateException" x K0 below args s o) (F0 m 514 ls [.ref s1, .ref s0]) := by
  obtain ⟨CX, hno, hlt, hmn⟩ := id CTX
  obtain ⟨hx, hb, hml, hown, hts, hE, hB, hr, hlk⟩ := id CX
  have hcs := nz_le (mbT_X9_init_514  x0 s0 s1 K M hf) hRc
  unfold bT_X9_init_514 at hf
  obtain ⟨hk_s0_10, hf⟩ := gd_some hf
  refine tr_putFR kc_9 CX hmn hR hL hS (v := some s1) ff_X9_206 ⟨rfl, rfl, .inr ⟨_, rfl⟩⟩ hk_s0_10 dX9_init_514 (fun H locs hR hS => ?_)
  refine lv_aload_n hx hb dX9_init_517 rfl (lv_at hl 0 rfl) ?_
  refine lv_bipush (v := 24) hx hb dX9_init_518 (by decide) ?_
  obtain ⟨hq, hf⟩ := gd_some hf
  have hm1 := mbT_X9_init_522 _ _ _ _ _ hf
  have hb1 := nz_le hm1 hRc
  refine tr_newai CX hL hR hS hq hb1 dX9_init_520 (fun H hR hS => ?_)
  exact (wbT_X9_init_522 CTX hRm hRc) _ _ _ _ _ _ _ _ hf (hL.tr (kNew_le _ _ _ _)) hR hS (lv_sub hl [0] rfl)
def bT_X9_init_505 (N : Nat) (sa : Nat → Nat) (x0 : Nat) (s0 : Nat) (s1 : Nat) (K : Ka) (M : Cm) : Option ((Ka × Cm) ⊕ (Ka × Cm)) := gd (kd K s0 == 10) (gd (decide (¬ (200 : Int32) < 0 ∧ (200 : Int32).toNatClampNeg ≤ 1000000)) ((bT_X9_init_514 N sa) x0 x0 (kz K) (kNew K 24 (200 : Int32).toNatClampNeg (200 : Int32).toNatClampNeg) (mZ (wR M s0 82 (some s1)) (kz K))))
theorem mbT_X9_init_505 {o : (Ka × Cm) ⊕ (Ka × Cm)} {N : Nat} {sa : Nat → Nat}  (x0 : Nat) (s0 : Nat) (s1 : Nat) (K : Ka) (M : Cm) (hf : bT_X9_init_505 N sa x0 s0 s1 K M = some o) : KLe K (oK sV o) := by
  unfold bT_X9_init_505 at hf
  obtain ⟨-, hf⟩ := gd_some hf
  obtain ⟨-, hf⟩ := gd_some hf
  exact (kNew_le _ _ _ _).tr (mbT_X9_init_514 _ _ _ _ _ hf)
set_option maxRecDepth 100000 in
set_option maxHeartbeats 4000000 in
theorem wbT_X9_init_505 {p : Program} {l : Launch} {e : Env} {R : Room} {s : State} {m : MethodId} {args : Array Value} {below : List Frame} {meth : Method} {c : Code} {x : Xc} {K0 : Ka} {o : (Ka × Cm) ⊕ (Ka × Cm)} {N : Nat}  (CTX : CT p l s m args meth c x K0 RX9 "<init>" cX9_init 6 none) (hRm : 6 ≤ R.frames ∧ 95 ≤ R.locals) (hRc : nz sV K0 o ≤ R.cells ∧ nu sV K0 o ≤ R.slots) (x0 : Nat) (s0 : Nat) (s1 : Nat) (K : Ka) (M : Cm) (H : Heap) (locs : List Loc) (ls : Array Slot) (hf : bT_X9_init_505 N x.2.2.1 x0 s0 s1 K M = some o) (hL : KLe K0 K) (hR : RC x K M H) (hS : va_S (AC K0) s.heap H locs) (hl : lv_has ls 6 [(0, .ref x0)]) : W p l e R s m args below meth c H locs (kz K - kz K0) (ku K - ku K0) (TQ sV (aQV x K0) (zQV K0) "java/lang/IllegalStateException" x K0 below args s o) (F0 m 505 ls [.ref s1, .ref s0]) := by
  obtain ⟨CX, hno, hlt, hmn⟩ := id CTX
  obtain ⟨hx, hb, hml, hown, hts, hE, hB, hr, hlk⟩ := id CX
  have hcs := nz_le (mbT_X9_init_505  x0 s0 s1 K M hf) hRc
  unfold bT_X9_init_505 at hf
  obtain ⟨hk_s0_10, hf⟩ := gd_some hf
  refine tr_putFR kc_9 CX hmn hR hL hS (v := some s1) ff_X9_203 ⟨rfl, rfl, .inr ⟨_, rfl⟩⟩ hk_s0_10 dX9_init_505 (fun H locs hR hS => ?_)
  refine lv_aload_n hx hb dX9_init_508 rfl (lv_at hl 0 rfl) ?_
  refine lv_sipush (v := 200) hx hb dX9_init_509 (by decide) ?_
  obtain ⟨hq, hf⟩ := gd_some hf
  have hm1 := mbT_X9_init_514 _ _ _ _ _ hf
  have hb1 := nz_le hm1 hRc
  refine tr_newaz CX hL hR hS hq hb1 dX9_init_512 (fun H hR hS => ?_)
  exact (wbT_X9_init_514 CTX hRm hRc) _ _ _ _ _ _ _ _ hf (hL.tr (kNew_le _ _ _ _)) hR hS (lv_sub hl [0] rfl)
def bT_X9_init_496 (N : Nat) (sa : Nat → Nat) (x0 : Nat) (s0 : Nat) (s1 : Nat) (K : Ka) (M : Cm) : Option ((Ka × Cm) ⊕ (Ka × Cm)) := gd (kd K s0 == 10) (gd (decide (¬ (200 : Int32) < 0 ∧ (200 : Int32).toNatClampNeg ≤ 1000000)) ((bT_X9_init_505 N sa) x0 x0 (kz K) (kNew K 22 (200 : Int32).toNatClampNeg (200 : Int32).toNatClampNeg) (mZ (wR M s0 81 (some s1)) (kz K))))
theorem mbT_X9_init_496 {o : (Ka × Cm) ⊕ (Ka × Cm)} {N : Nat} {sa : Nat → Nat}  (x0 : Nat) (s0 : Nat) (s1 : Nat) (K : Ka) (M : Cm) (hf : bT_X9_init_496 N sa x0 s0 s1 K M = some o) : KLe K (oK sV o) := by
  unfold bT_X9_init_496 at hf
  obtain ⟨-, hf⟩ := gd_some hf
  obtain ⟨-, hf⟩ := gd_some hf
  exact (kNew_le _ _ _ _).tr (mbT_X9_init_505 _ _ _ _ _ hf)
set_option maxRecDepth 100000 in
set_option maxHeartbeats 4000000 in
theorem wbT_X9_init_496 {p : Program} {l : Launch} {e : Env} {R : Room} {s : State} {m : MethodId} {args : Array Value} {below : List Frame} {meth : Method} {c : Code} {x : Xc} {K0 : Ka} {o : (Ka × Cm) ⊕ (Ka × Cm)} {N : Nat}  (CTX : CT p l s m args meth c x K0 RX9 "<init>" cX9_init 6 none) (hRm : 6 ≤ R.frames ∧ 95 ≤ R.locals) (hRc : nz sV K0 o ≤ R.cells ∧ nu sV K0 o ≤ R.slots) (x0 : Nat) (s0 : Nat) (s1 : Nat) (K : Ka) (M : Cm) (H : Heap) (locs : List Loc) (ls : Array Slot) (hf : bT_X9_init_496 N x.2.2.1 x0 s0 s1 K M = some o) (hL : KLe K0 K) (hR : RC x K M H) (hS : va_S (AC K0) s.heap H locs) (hl : lv_has ls 6 [(0, .ref x0)]) : W p l e R s m args below meth c H locs (kz K - kz K0) (ku K - ku K0) (TQ sV (aQV x K0) (zQV K0) "java/lang/IllegalStateException" x K0 below args s o) (F0 m 496 ls [.ref s1, .ref s0]) := by
  obtain ⟨CX, hno, hlt, hmn⟩ := id CTX
  obtain ⟨hx, hb, hml, hown, hts, hE, hB, hr, hlk⟩ := id CX
  have hcs := nz_le (mbT_X9_init_496  x0 s0 s1 K M hf) hRc
  unfold bT_X9_init_496 at hf
  obtain ⟨hk_s0_10, hf⟩ := gd_some hf
  refine tr_putFR kc_9 CX hmn hR hL hS (v := some s1) ff_X9_200 ⟨rfl, rfl, .inr ⟨_, rfl⟩⟩ hk_s0_10 dX9_init_496 (fun H locs hR hS => ?_)
  refine lv_aload_n hx hb dX9_init_499 rfl (lv_at hl 0 rfl) ?_
  refine lv_sipush (v := 200) hx hb dX9_init_500 (by decide) ?_
  obtain ⟨hq, hf⟩ := gd_some hf
  have hm1 := mbT_X9_init_505 _ _ _ _ _ hf
  have hb1 := nz_le hm1 hRc
  refine tr_newai CX hL hR hS hq hb1 dX9_init_503 (fun H hR hS => ?_)
  exact (wbT_X9_init_505 CTX hRm hRc) _ _ _ _ _ _ _ _ hf (hL.tr (kNew_le _ _ _ _)) hR hS (lv_sub hl [0] rfl)
def bT_X9_init_487 (N : Nat) (sa : Nat → Nat) (x0 : Nat) (s0 : Nat) (s1 : Nat) (K : Ka) (M : Cm) : Option ((Ka × Cm) ⊕ (Ka × Cm)) := gd (kd K s0 == 10) (gd (decide (¬ (200 : Int32) < 0 ∧ (200 : Int32).toNatClampNeg ≤ 1000000)) ((bT_X9_init_496 N sa) x0 x0 (kz K) (kNew K 22 (200 : Int32).toNatClampNeg (200 : Int32).toNatClampNeg) (mZ (wR M s0 80 (some s1)) (kz K))))
theorem mbT_X9_init_487 {o : (Ka × Cm) ⊕ (Ka × Cm)} {N : Nat} {sa : Nat → Nat}  (x0 : Nat) (s0 : Nat) (s1 : Nat) (K : Ka) (M : Cm) (hf : bT_X9_init_487 N sa x0 s0 s1 K M = some o) : KLe K (oK sV o) := by
  unfold bT_X9_init_487 at hf
  obtain ⟨-, hf⟩ := gd_some hf
  obtain ⟨-, hf⟩ := gd_some hf
  exact (kNew_le _ _ _ _).tr (mbT_X9_init_496 _ _ _ _ _ hf)
set_option maxRecDepth 100000 in
set_option maxHeartbeats 4000000 in
theorem wbT_X9_init_487 {p : Program} {l : Launch} {e : Env} {R : Room} {s : State} {m : MethodId} {args : Array Value} {below : List Frame} {meth : Method} {c : Code} {x : Xc} {K0 : Ka} {o : (Ka × Cm) ⊕ (Ka × Cm)} {N : Nat}  (CTX : CT p l s m args meth c x K0 RX9 "<init>" cX9_init 6 none) (hRm : 6 ≤ R.frames ∧ 95 ≤ R.locals) (hRc : nz sV K0 o ≤ R.cells ∧ nu sV K0 o ≤ R.slots) (x0 : Nat) (s0 : Nat) (s1 : Nat) (K : Ka) (M : Cm) (H : Heap) (locs : List Loc) (ls : Array Slot) (hf : bT_X9_init_487 N x.2.2.1 x0 s0 s1 K M = some o) (hL : KLe K0 K) (hR : RC x K M H) (hS : va_S (AC K0) s.heap H locs) (hl : lv_has ls 6 [(0, .ref x0)]) : W p l e R s m args below meth c H locs (kz K - kz K0) (ku K - ku K0) (TQ sV (aQV x K0) (zQV K0) "java/lang/IllegalStateException" x K0 below args s o) (F0 m 487 ls [.ref s1, .ref s0]) := by
  obtain ⟨CX, hno, hlt, hmn⟩ := id CTX
  obtain ⟨hx, hb, hml, hown, hts, hE, hB, hr, hlk⟩ := id CX
  have hcs := nz_le (mbT_X9_init_487  x0 s0 s1 K M hf) hRc
  unfold bT_X9_init_487 at hf
  obtain ⟨hk_s0_10, hf⟩ := gd_some hf
  refine tr_putFR kc_9 CX hmn hR hL hS (v := some s1) ff_X9_197 ⟨rfl, rfl, .inr ⟨_, rfl⟩⟩ hk_s0_10 dX9_init_487 (fun H locs hR hS => ?_)
  refine lv_aload_n hx hb dX9_init_490 rfl (lv_at hl 0 rfl) ?_
  refine lv_sipush (v := 200) hx hb dX9_init_491 (by decide) ?_
  obtain ⟨hq, hf⟩ := gd_some hf
  have hm1 := mbT_X9_init_496 _ _ _ _ _ hf
  have hb1 := nz_le hm1 hRc
  refine tr_newai CX hL hR hS hq hb1 dX9_init_494 (fun H hR hS => ?_)
  exact (wbT_X9_init_496 CTX hRm hRc) _ _ _ _ _ _ _ _ hf (hL.tr (kNew_le _ _ _ _)) hR hS (lv_sub hl [0] rfl)
def bT_X9_init_478 (N : Nat) (sa : Nat → Nat) (x0 : Nat) (s0 : Nat) (s1 : Nat) (K : Ka) (M : Cm) : Option ((Ka × Cm) ⊕ (Ka × Cm)) := gd (kd K s0 == 10) (gd (decide (¬ (200 : Int32) < 0 ∧ (200 : Int32).toNatClampNeg ≤ 1000000)) ((bT_X9_init_487 N sa) x0 x0 (kz K) (kNew K 22 (200 : Int32).toNatClampNeg (200 : Int32).toNatClampNeg) (mZ (wR M s0 78 (some s1)) (kz K))))
theorem mbT_X9_init_478 {o : (Ka × Cm) ⊕ (Ka × Cm)} {N : Nat} {sa : Nat → Nat}  (x0 : Nat) (s0 : Nat) (s1 : Nat) (K : Ka) (M : Cm) (hf : bT_X9_init_478 N sa x0 s0 s1 K M = some o) : KLe K (oK sV o) := by
  unfold bT_X9_init_478 at hf
  obtain ⟨-, hf⟩ := gd_some hf
  obtain ⟨-, hf⟩ := gd_some hf
  exact (kNew_le _ _ _ _).tr (mbT_X9_init_487 _ _ _ _ _ hf)
set_option maxRecDepth 100000 in
set_option maxHeartbeats 4000000 in
theorem wbT_X9_init_478 {p : Program} {l : Launch} {e : Env} {R : Room} {s : State} {m : MethodId} {args : Array Value} {below : List Frame} {meth : Method} {c : Code} {x : Xc} {K0 : Ka} {o : (Ka × Cm) ⊕ (Ka × Cm)} {N : Nat}  (CTX : CT p l s m args meth c x K0 RX9 "<init>" cX9_init 6 none) (hRm : 6 ≤ R.frames ∧ 95 ≤ R.locals) (hRc : nz sV K0 o ≤ R.cells ∧ nu sV K0 o ≤ R.slots) (x0 : Nat) (s0 : Nat) (s1 : Nat) (K : Ka) (M : Cm) (H : Heap) (locs : List Loc) (ls : Array Slot) (hf : bT_X9_init_478 N x.2.2.1 x0 s0 s1 K M = some o) (hL : KLe K0 K) (hR : RC x K M H) (hS : va_S (AC K0) s.heap H locs) (hl : lv_has ls 6 [(0, .ref x0)]) : W p l e R s m args below meth c H locs (kz K - kz K0) (ku K - ku K0) (TQ sV (aQV x K0) (zQV K0) "java/lang/IllegalStateException" x K0 below args s o) (F0 m 478 ls [.ref s1, .ref s0]) := by
  obtain ⟨CX, hno, hlt, hmn⟩ := id CTX
  obtain ⟨hx, hb, hml, hown, hts, hE, hB, hr, hlk⟩ := id CX
  have hcs := nz_le (mbT_X9_init_478  x0 s0 s1 K M hf) hRc
  unfold bT_X9_init_478 at hf
  obtain ⟨hk_s0_10, hf⟩ := gd_some hf
  refine tr_putFR kc_9 CX hmn hR hL hS (v := some s1) ff_X9_194 ⟨rfl, rfl, .inr ⟨_, rfl⟩⟩ hk_s0_10 dX9_init_478 (fun H locs hR hS => ?_)
  refine lv_aload_n hx hb dX9_init_481 rfl (lv_at hl 0 rfl) ?_
  refine lv_sipush (v := 200) hx hb dX9_init_482 (by decide) ?_
  obtain ⟨hq, hf⟩ := gd_some hf
  have hm1 := mbT_X9_init_487 _ _ _ _ _ hf
  have hb1 := nz_le hm1 hRc
  refine tr_newai CX hL hR hS hq hb1 dX9_init_485 (fun H hR hS => ?_)
  exact (wbT_X9_init_487 CTX hRm hRc) _ _ _ _ _ _ _ _ hf (hL.tr (kNew_le _ _ _ _)) hR hS (lv_sub hl [0] rfl)
def bT_X9_init_469 (N : Nat) (sa : Nat → Nat) (x0 : Nat) (s0 : Nat) (s1 : Nat) (K : Ka) (M : Cm) : Option ((Ka × Cm) ⊕ (Ka × Cm)) := gd (kd K s0 == 10) (gd (decide (¬ (200 : Int32) < 0 ∧ (200 : Int32).toNatClampNeg ≤ 1000000)) ((bT_X9_init_478 N sa) x0 x0 (kz K) (kNew K 22 (200 : Int32).toNatClampNeg (200 : Int32).toNatClampNeg) (mZ (wR M s0 77 (some s1)) (kz K))))
theorem mbT_X9_init_469 {o : (Ka × Cm) ⊕ (Ka × Cm)} {N : Nat} {sa : Nat → Nat}  (x0 : Nat) (s0 : Nat) (s1 : Nat) (K : Ka) (M : Cm) (hf : bT_X9_init_469 N sa x0 s0 s1 K M = some o) : KLe K (oK sV o) := by
  unfold bT_X9_init_469 at hf
  obtain ⟨-, hf⟩ := gd_some hf
  obtain ⟨-, hf⟩ := gd_some hf
  exact (kNew_le _ _ _ _).tr (mbT_X9_init_478 _ _ _ _ _ hf)
set_option maxRecDepth 100000 in
set_option maxHeartbeats 4000000 in
theorem wbT_X9_init_469 {p : Program} {l : Launch} {e : Env} {R : Room} {s : State} {m : MethodId} {args : Array Value} {below : List Frame} {meth : Method} {c : Code} {x : Xc} {K0 : Ka} {o : (Ka × Cm) ⊕ (Ka × Cm)} {N : Nat}  (CTX : CT p l s m args meth c x K0 RX9 "<init>" cX9_init 6 none) (hRm : 6 ≤ R.frames ∧ 95 ≤ R.locals) (hRc : nz sV K0 o ≤ R.cells ∧ nu sV K0 o ≤ R.slots) (x0 : Nat) (s0 : Nat) (s1 : Nat) (K : Ka) (M : Cm) (H : Heap) (locs : List Loc) (ls : Array Slot) (hf : bT_X9_init_469 N x.2.2.1 x0 s0 s1 K M = some o) (hL : KLe K0 K) (hR : RC x K M H) (hS : va_S (AC K0) s.heap H locs) (hl : lv_has ls 6 [(0, .ref x0)]) : W p l e R s m args below meth c H locs (kz K - kz K0) (ku K - ku K0) (TQ sV (aQV x K0) (zQV K0) "java/lang/IllegalStateException" x K0 below args s o) (F0 m 469 ls [.ref s1, .ref s0]) := by
  obtain ⟨CX, hno, hlt, hmn⟩ := id CTX
  obtain ⟨hx, hb, hml, hown, hts, hE, hB, hr, hlk⟩ := id CX
  have hcs := nz_le (mbT_X9_init_469  x0 s0 s1 K M hf) hRc
  unfold bT_X9_init_469 at hf
  obtain ⟨hk_s0_10, hf⟩ := gd_some hf
  refine tr_putFR kc_9 CX hmn hR hL hS (v := some s1) ff_X9_191 ⟨rfl, rfl, .inr ⟨_, rfl⟩⟩ hk_s0_10 dX9_init_469 (fun H locs hR hS => ?_)
  refine lv_aload_n hx hb dX9_init_472 rfl (lv_at hl 0 rfl) ?_
  refine lv_sipush (v := 200) hx hb dX9_init_473 (by decide) ?_
  obtain ⟨hq, hf⟩ := gd_some hf
  have hm1 := mbT_X9_init_478 _ _ _ _ _ hf
  have hb1 := nz_le hm1 hRc
  refine tr_newai CX hL hR hS hq hb1 dX9_init_476 (fun H hR hS => ?_)
  exact (wbT_X9_init_478 CTX hRm hRc) _ _ _ _ _ _ _ _ hf (hL.tr (kNew_le _ _ _ _)) hR hS (lv_sub hl [0] rfl)
def bT_X9_init_460 (N : Nat) (sa : Nat → Nat) (x0 : Nat) (s0 : Nat) (s1 : Nat) (K : Ka) (M : Cm) : Option ((Ka × Cm) ⊕ (Ka × Cm)) := gd (kd K s0 == 10) (gd (decide (¬ (200 : Int32) < 0 ∧ (200 : Int32).toNatClampNeg ≤ 1000000)) ((bT_X9_init_469 N sa) x0 x0 (kz K) (kNew K 22 (200 : Int32).toNatClampNeg (200 : Int32).toNatClampNeg) (mZ (wR M s0 76 (some s1)) (kz K))))
theorem mbT_X9_init_460 {o : (Ka × Cm) ⊕ (Ka × Cm)} {N : Nat} {sa : Nat → Nat}  (x0 : Nat) (s0 : Nat) (s1 : Nat) (K : Ka) (M : Cm) (hf : bT_X9_init_460 N sa x0 s0 s1 K M = some o) : KLe K (oK sV o) := by
  unfold bT_X9_init_460 at hf
  obtain ⟨-, hf⟩ := gd_some hf
  obtain ⟨-, hf⟩ := gd_some hf
  exact (kNew_le _ _ _ _).tr (mbT_X9_init_469 _ _ _ _ _ hf)
set_option maxRecDepth 100000 in
set_option maxHeartbeats 4000000 in
theorem wbT_X9_init_460 {p : Program} {l : Launch} {e : Env} {R : Room} {s : State} {m : MethodId} {args : Array Value} {below : List Frame} {meth : Method} {c : Code} {x : Xc} {K0 : Ka} {o : (Ka × Cm) ⊕ (Ka × Cm)} {N : Nat}  (CTX : CT p l s m args meth c x K0 RX9 "<init>" cX9_init 6 none) (hRm : 6 ≤ R.frames ∧ 95 ≤ R.locals) (hRc : nz sV K0 o ≤ R.cells ∧ nu sV K0 o ≤ R.slots) (x0 : Nat) (s0 : Nat) (s1 : Nat) (K : Ka) (M : Cm) (H : Heap) (locs : List Loc) (ls : Array Slot) (hf : bT_X9_init_460 N x.2.2.1 x0 s0 s1 K M = some o) (hL : KLe K0 K) (hR : RC x K M H) (hS : va_S (AC K0) s.heap H locs) (hl : lv_has ls 6 [(0, .ref x0)]) : W p l e R s m args below meth c H locs (kz K - kz K0) (ku K - ku K0) (TQ sV (aQV x K0) (zQV K0) "java/lang/IllegalStateException" x K0 below args s o) (F0 m 460 ls [.ref s1, .ref s0]) := by
  obtain ⟨CX, hno, hlt, hmn⟩ := id CTX
  obtain ⟨hx, hb, hml, hown, hts, hE, hB, hr, hlk⟩ := id CX
  have hcs := nz_le (mbT_X9_init_460  x0 s0 s1 K M hf) hRc
  unfold bT_X9_init_460 at hf
  obtain ⟨hk_s0_10, hf⟩ := gd_some hf
  refine tr_putFR kc_9 CX hmn hR hL hS (v := some s1) ff_X9_188 ⟨rfl, rfl, .inr ⟨_, rfl⟩⟩ hk_s0_10 dX9_init_460 (fun H locs hR hS => ?_)
  refine lv_aload_n hx hb dX9_init_463 rfl (lv_at hl 0 rfl) ?_
  refine lv_sipush (v := 200) hx hb dX9_init_464 (by decide) ?_
  obtain ⟨hq, hf⟩ := gd_some hf
  have hm1 := mbT_X9_init_469 _ _ _ _ _ hf
  have hb1 := nz_le hm1 hRc
  refine tr_newai CX hL hR hS hq hb1 dX9_init_467 (fun H hR hS => ?_)
  exact (wbT_X9_init_469 CTX hRm hRc) _ _ _ _ _ _ _ _ hf (hL.tr (kNew_le _ _ _ _)) hR hS (lv_sub hl [0] rfl)
def bT_X9_init_451 (N : Nat) (sa : Nat → Nat) (x0 : Nat) (s0 : Nat) (s1 : Nat) (K : Ka) (M : Cm) : Option ((Ka × Cm) ⊕ (Ka × Cm)) := gd (kd K s0 == 10) (gd (decide (¬ (200 : Int32) < 0 ∧ (200 : Int32).toNatClampNeg ≤ 1000000)) ((bT_X9_init_460 N sa) x0 x0 (kz K) (kNew K 22 (200 : Int32).toNatClampNeg (200 : Int32).toNatClampNeg) (mZ (wR M s0 74 (some s1)) (kz K))))
theorem mbT_X9_init_451 {o : (Ka × Cm) ⊕ (Ka × Cm)} {N : Nat} {sa : Nat → Nat}  (x0 : Nat) (s0 : Nat) (s1 : Nat) (K : Ka) (M : Cm) (hf : bT_X9_init_451 N sa x0 s0 s1 K M = some o) : KLe K (oK sV o) := by
  unfold bT_X9_init_451 at hf
  obtain ⟨-, hf⟩ := gd_some hf
  obtain ⟨-, hf⟩ := gd_some hf
  exact (kNew_le _ _ _ _).tr (mbT_X9_init_460 _ _ _ _ _ hf)
set_option maxRecDepth 100000 in
set_option maxHeartbeats 4000000 in
theorem wbT_X9_init_451 {p : Program} {l : Launch} {e : Env} {R : Room} {s : State} {m : MethodId} {args : Array Value} {below : List Frame} {meth : Method} {c : Code} {x : Xc} {K0 : Ka} {o : (Ka × Cm) ⊕ (Ka × Cm)} {N : Nat}  (CTX : CT p l s m args meth c x K0 RX9 "<init>" cX9_init 6 none) (hRm : 6 ≤ R.frames ∧ 95 ≤ R.locals) (hRc : nz sV K0 o ≤ R.cells ∧ nu sV K0 o ≤ R.slots) (x0 : Nat) (s0 : Nat) (s1 : Nat) (K : Ka) (M : Cm) (H : Heap) (locs : List Loc) (ls : Array Slot) (hf : bT_X9_init_451 N x.2.2.1 x0 s0 s1 K M = some o) (hL : KLe K0 K) (hR : RC x K M H) (hS : va_S (AC K0) s.heap H locs) (hl : lv_has ls 6 [(0, .ref x0)]) : W p l e R s m args below meth c H locs (kz K - kz K0) (ku K - ku K0) (TQ sV (aQV x K0) (zQV K0) "java/lang/IllegalStateException" x K0 below args s o) (F0 m 451 ls [.ref s1, .ref s0]) := by
  obtain ⟨CX, hno, hlt, hmn⟩ := id CTX
  obtain ⟨hx, hb, hml, hown, hts, hE, hB, hr, hlk⟩ := id CX
  have hcs := nz_le (mbT_X9_init_451  x0 s0 s1 K M hf) hRc
  unfold bT_X9_init_451 at hf
  obtain ⟨hk_s0_10, hf⟩ := gd_some hf
  refine tr_putFR kc_9 CX hmn hR hL hS (v := some s1) ff_X9_185 ⟨rfl, rfl, .inr ⟨_, rfl⟩⟩ hk_s0_10 dX9_init_451 (fun H locs hR hS => ?_)
  refine lv_aload_n hx hb dX9_init_454 rfl (lv_at hl 0 rfl) ?_
  refine lv_sipush (v := 200) hx hb dX9_init_455 (by decide) ?_
  obtain ⟨hq, hf⟩ := gd_some hf
  have hm1 := mbT_X9_init_460 _ _ _ _ _ hf
  have hb1 := nz_le hm1 hRc
  refine tr_newai CX hL hR hS hq hb1 dX9_init_458 (fun H hR hS => ?_)
  exact (wbT_X9_init_460 CTX hRm hRc) _ _ _ _ _ _ _ _ hf (hL.tr (kNew_le _ _ _ _)) hR hS (lv_sub hl [0] rfl)
def bT_X9_init_442 (N : Nat) (sa : Nat → Nat) (x0 : Nat) (s0 : Nat) (s1 : Nat) (K : Ka) (M : Cm) : Option ((Ka × Cm) ⊕ (Ka × Cm)) := gd (kd K s0 == 10) (gd (decide (¬ (800 : Int32) < 0 ∧ (800 : Int32).toNatClampNeg ≤ 1000000)) ((bT_X9_init_451 N sa) x0 x0 (kz K) (kNew K 22 (800 : Int32).toNatClampNeg (800 : Int32).toNatClampNeg) (mZ (wR M s0 73 (some s1)) (kz K))))
theorem mbT_X9_init_442 {o : (Ka × Cm) ⊕ (Ka × Cm)} {N : Nat} {sa : Nat → Nat}  (x0 : Nat) (s0 : Nat) (s1 : Nat) (K : Ka) (M : Cm) (hf : bT_X9_init_442 N sa x0 s0 s1 K M = some o) : KLe K (oK sV o) := by
  unfold bT_X9_init_442 at hf
  obtain ⟨-, hf⟩ := gd_some hf
  obtain ⟨-, hf⟩ := gd_some hf
  exact (kNew_le _ _ _ _).tr (mbT_X9_init_451 _ _ _ _ _ hf)
set_option maxRecDepth 100000 in
set_option maxHeartbeats 4000000 in
theorem wbT_X9_init_442 {p : Program} {l : Launch} {e : Env} {R : Room} {s : State} {m : MethodId} {args : Array Value} {below : List Frame} {meth : Method} {c : Code} {x : Xc} {K0 : Ka} {o : (Ka × Cm) ⊕ (Ka × Cm)} {N : Nat}  (CTX : CT p l s m args meth c x K0 RX9 "<init>" cX9_init 6 none) (hRm : 6 ≤ R.frames ∧ 95 ≤ R.locals) (hRc : nz sV K0 o ≤ R.cells ∧ nu sV K0 o ≤ R.slots) (x0 : Nat) (s0 : Nat) (s1 : Nat) (K : Ka) (M : Cm) (H : Heap) (locs : List Loc) (ls : Array Slot) (hf : bT_X9_init_442 N x.2.2.1 x0 s0 s1 K M = some o) (hL : KLe K0 K) (hR : RC x K M H) (hS : va_S (AC K0) s.heap H locs) (hl : lv_has ls 6 [(0, .ref x0)]) : W p l e R s m args below meth c H locs (kz K - kz K0) (ku K - ku K0) (TQ sV (aQV x K0) (zQV K0) "java/lang/IllegalStateException" x K0 below args s o) (F0 m 442 ls [.ref s1, .ref s0]) := by
  obtain ⟨CX, hno, hlt, hmn⟩ := id CTX
  obtain ⟨hx, hb, hml, hown, hts, hE, hB, hr, hlk⟩ := id CX
  have hcs := nz_le (mbT_X9_init_442  x0 s0 s1 K M hf) hRc
  unfold bT_X9_init_442 at hf
  obtain ⟨hk_s0_10, hf⟩ := gd_some hf
  refine tr_putFR kc_9 CX hmn hR hL hS (v := some s1) ff_X9_182 ⟨rfl, rfl, .inr ⟨_, rfl⟩⟩ hk_s0_10 dX9_init_442 (fun H locs hR hS => ?_)
  refine lv_aload_n hx hb dX9_init_445 rfl (lv_at hl 0 rfl) ?_
  refine lv_sipush (v := 800) hx hb dX9_init_446 (by decide) ?_
  obtain ⟨hq, hf⟩ := gd_some hf
  have hm1 := mbT_X9_init_451 _ _ _ _ _ hf
  have hb1 := nz_le hm1 hRc
  refine tr_newai CX hL hR hS hq hb1 dX9_init_449 (fun H hR hS => ?_)
  exact (wbT_X9_init_451 CTX hRm hRc) _ _ _ _ _ _ _ _ hf (hL.tr (kNew_le _ _ _ _)) hR hS (lv_sub hl [0] rfl)
def bT_X9_init_433 (N : Nat) (sa : Nat → Nat) (x0 : Nat) (s0 : Nat) (s1 : Nat) (K : Ka) (M : Cm) : Option ((Ka × Cm) ⊕ (Ka × Cm)) := gd (kd K s0 == 10) (gd (decide (¬ (800 : Int32) < 0 ∧ (800 : Int32).toNatClampNeg ≤ 1000000)) ((bT_X9_init_442 N sa) x0 x0 (kz K) (kNew K 22 (800 : Int32).toNatClampNeg (800 : Int32).toNatClampNeg) (mZ (wR M s0 72 (some s1)) (kz K))))
theorem mbT_X9_init_433 {o : (Ka × Cm) ⊕ (Ka × Cm)} {N : Nat} {sa : Nat → Nat}  (x0 : Nat) (s0 : Nat) (s1 : Nat) (K : Ka) (M : Cm) (hf : bT_X9_init_433 N sa x0 s0 s1 K M = some o) : KLe K (oK sV o) := by
  unfold bT_X9_init_433 at hf
  obtain ⟨-, hf⟩ := gd_some hf
  obtain ⟨-, hf⟩ := gd_some hf
  exact (kNew_le _ _ _ _).tr (mbT_X9_init_442 _ _ _ _ _ hf)
set_option maxRecDepth 100000 in
set_option maxHeartbeats 4000000 in
theorem wbT_X9_init_433 {p : Program} {l : Launch} {e : Env} {R : Room} {s : State} {m : MethodId} {args : Array Value} {below : List Frame} {meth : Method} {c : Code} {x : Xc} {K0 : Ka} {o : (Ka × Cm) ⊕ (Ka × Cm)} {N : Nat}  (CTX : CT p l s m args meth c x K0 RX9 "<init>" cX9_init 6 none) (hRm : 6 ≤ R.frames ∧ 95 ≤ R.locals) (hRc : nz sV K0 o ≤ R.cells ∧ nu sV K0 o ≤ R.slots) (x0 : Nat) (s0 : Nat) (s1 : Nat) (K : Ka) (M : Cm) (H : Heap) (locs : List Loc) (ls : Array Slot) (hf : bT_X9_init_433 N x.2.2.1 x0 s0 s1 K M = some o) (hL : KLe K0 K) (hR : RC x K M H) (hS : va_S (AC K0) s.heap H locs) (hl : lv_has ls 6 [(0, .ref x0)]) : W p l e R s m args below meth c H locs (kz K - kz K0) (ku K - ku K0) (TQ sV (aQV x K0) (zQV K0) "java/lang/IllegalStateException" x K0 below args s o) (F0 m 433 ls [.ref s1, .ref s0]) := by
  obtain ⟨CX, hno, hlt, hmn⟩ := id CTX
  obtain ⟨hx, hb, hml, hown, hts, hE, hB, hr, hlk⟩ := id CX
  have hcs := nz_le (mbT_X9_init_433  x0 s0 s1 K M hf) hRc
  unfold bT_X9_init_433 at hf
  obtain ⟨hk_s0_10, hf⟩ := gd_some hf
  refine tr_putFR kc_9 CX hmn hR hL hS (v := some s1) ff_X9_179 ⟨rfl, rfl, .inr ⟨_, rfl⟩⟩ hk_s0_10 dX9_init_433 (fun H locs hR hS => ?_)
  refine lv_aload_n hx hb dX9_init_436 rfl (lv_at hl 0 rfl) ?_
  refine lv_sipush (v := 800) hx hb dX9_init_437 (by decide) ?_
  obtain ⟨hq, hf⟩ := gd_some hf
  have hm1 := mbT_X9_init_442 _ _ _ _ _ hf
  have hb1 := nz_le hm1 hRc
  refine tr_newai CX hL hR hS hq hb1 dX9_init_440 (fun H hR hS => ?_)
  exact (wbT_X9_init_442 CTX hRm hRc) _ _ _ _ _ _ _ _ hf (hL.tr (kNew_le _ _ _ _)) hR hS (lv_sub hl [0] rfl)
def bT_X9_init_424 (N : Nat) (sa : Nat → Nat) (x0 : Nat) (s0 : Nat) (s1 : Nat) (K : Ka) (M : Cm) : Option ((Ka × Cm) ⊕ (Ka × Cm)) := gd (kd K s0 == 10) (gd (decide (¬ (800 : Int32) < 0 ∧ (800 : Int32).toNatClampNeg ≤ 1000000)) ((bT_X9_init_433 N sa) x0 x0 (kz K) (kNew K 22 (800 : Int32).toNatClampNeg (800 : Int32).toNatClampNeg) (mZ (wR M s0 70 (some s1)) (kz K))))
theorem mbT_X9_init_424 {o : (Ka × Cm) ⊕ (Ka × Cm)} {N : Nat} {sa : Nat → Nat}  (x0 : Nat) (s0 : Nat) (s1 : Nat) (K : Ka) (M : Cm) (hf : bT_X9_init_424 N sa x0 s0 s1 K M = some o) : KLe K (oK sV o) := by
  unfold bT_X9_init_424 at hf
  obtain ⟨-, hf⟩ := gd_some hf
  obtain ⟨-, hf⟩ := gd_some hf
  exact (kNew_le _ _ _ _).tr (mbT_X9_init_433 _ _ _ _ _ hf)
set_option maxRecDepth 100000 in
set_option maxHeartbeats 4000000 in
theorem wbT_X9_init_424 {p : Program} {l : Launch} {e : Env} {R : Room} {s : State} {m : MethodId} {args : Array Value} {below : List Frame} {meth : Method} {c : Code} {x : Xc} {K0 : Ka} {o : (Ka × Cm) ⊕ (Ka × Cm)} {N : Nat}  (CTX : CT p l s m args meth c x K0 RX9 "<init>" cX9_init 6 none) (hRm : 6 ≤ R.frames ∧ 95 ≤ R.locals) (hRc : nz sV K0 o ≤ R.cells ∧ nu sV K0 o ≤ R.slots) (x0 : Nat) (s0 : Nat) (s1 : Nat) (K : Ka) (M : Cm) (H : Heap) (locs : List Loc) (ls : Array Slot) (hf : bT_X9_init_424 N x.2.2.1 x0 s0 s1 K M = some o) (hL : KLe K0 K) (hR : RC x K M H) (hS : va_S (AC K0) s.heap H locs) (hl : lv_has ls 6 [(0, .ref x0)]) : W p l e R s m args below meth c H locs (kz K - kz K0) (ku K - ku K0) (TQ sV (aQV x K0) (zQV K0) "java/lang/IllegalStateException" x K0 below args s o) (F0 m 424 ls [.ref s1, .ref s0]) := by
  obtain ⟨CX, hno, hlt, hmn⟩ := id CTX
  obtain ⟨hx, hb, hml, hown, hts, hE, hB, hr, hlk⟩ := id CX
  have hcs := nz_le (mbT_X9_init_424  x0 s0 s1 K M hf) hRc
  unfold bT_X9_init_424 at hf
  obtain ⟨hk_s0_10, hf⟩ := gd_some hf
  refine tr_putFR kc_9 CX hmn hR hL hS (v := some s1) ff_X9_176 ⟨rfl, rfl, .inr ⟨_, rfl⟩⟩ hk_s0_10 dX9_init_424 (fun H locs hR hS => ?_)
  refine lv_aload_n hx hb dX9_init_427 rfl (lv_at hl 0 rfl) ?_
  refine lv_sipush (v := 800) hx hb dX9_init_428 (by decide) ?_
  obtain ⟨hq, hf⟩ := gd_some hf
  have hm1 := mbT_X9_init_433 _ _ _ _ _ hf
  have hb1 := nz_le hm1 hRc
  refine tr_newai CX hL hR hS hq hb1 dX9_init_431 (fun H hR hS => ?_)
  exact (wbT_X9_init_433 CTX hRm hRc) _ _ _ _ _ _ _ _ hf (hL.tr (kNew_le _ _ _ _)) hR hS (lv_sub hl [0] rfl)
def bT_X9_init_416 (N : Nat) (sa : Nat → Nat) (x0 : Nat) (s0 : Nat) (s1 : Nat) (K : Ka) (M : Cm) : Option ((Ka × Cm) ⊕ (Ka × Cm)) := gd (kd K s0 == 10) (gd (decide (¬ (40 : Int32) < 0 ∧ (40 : Int32).toNatClampNeg ≤ 1000000)) ((bT_X9_init_424 N sa) x0 x0 (kz K) (kNew K 22 (40 : Int32).toNatClampNeg (40 : Int32).toNatClampNeg) (mZ (wR M s0 69 (some s1)) (kz K))))
theorem mbT_X9_init_416 {o : (Ka × Cm) ⊕ (Ka × Cm)} {N : Nat} {sa : Nat → Nat}  (x0 : Nat) (s0 : Nat) (s1 : Nat) (K : Ka) (M : Cm) (hf : bT_X9_init_416 N sa x0 s0 s1 K M = some o) : KLe K (oK sV o) := by
  unfold bT_X9_init_416 at hf
  obtain ⟨-, hf⟩ := gd_some hf
  obtain ⟨-, hf⟩ := gd_some hf
  exact (kNew_le _ _ _ _).tr (mbT_X9_init_424 _ _ _ _ _ hf)
set_option maxRecDepth 100000 in
set_option maxHeartbeats 4000000 in
theorem wbT_X9_init_416 {p : Program} {l : Launch} {e : Env} {R : Room} {s : State} {m : MethodId} {args : Array Value} {below : List Frame} {meth : Method} {c : Code} {x : Xc} {K0 : Ka} {o : (Ka × Cm) ⊕ (Ka × Cm)} {N : Nat}  (CTX : CT p l s m args meth c x K0 RX9 "<init>" cX9_init 6 none) (hRm : 6 ≤ R.frames ∧ 95 ≤ R.locals) (hRc : nz sV K0 o ≤ R.cells ∧ nu sV K0 o ≤ R.slots) (x0 : Nat) (s0 : Nat) (s1 : Nat) (K : Ka) (M : Cm) (H : Heap) (locs : List Loc) (ls : Array Slot) (hf : bT_X9_init_416 N x.2.2.1 x0 s0 s1 K M = some o) (hL : KLe K0 K) (hR : RC x K M H) (hS : va_S (AC K0) s.heap H locs) (hl : lv_has ls 6 [(0, .ref x0)]) : W p l e R s m args below meth c H locs (kz K - kz K0) (ku K - ku K0) (TQ sV (aQV x K0) (zQV K0) "java/lang/IllegalStateException" x K0 below args s o) (F0 m 416 ls [.ref s1, .ref s0]) := by
  obtain ⟨CX, hno, hlt, hmn⟩ := id CTX
  obtain ⟨hx, hb, hml, hown, hts, hE, hB, hr, hlk⟩ := id CX
  have hcs := nz_le (mbT_X9_init_416  x0 s0 s1 K M hf) hRc
  unfold bT_X9_init_416 at hf
  obtain ⟨hk_s0_10, hf⟩ := gd_some hf
  refine tr_putFR kc_9 CX hmn hR hL hS (v := some s1) ff_X9_173 ⟨rfl, rfl, .inr ⟨_, rfl⟩⟩ hk_s0_10 dX9_init_416 (fun H locs hR hS => ?_)
  refine lv_aload_n hx hb dX9_init_419 rfl (lv_at hl 0 rfl) ?_
  refine lv_bipush (v := 40) hx hb dX9_init_420 (by decide) ?_
  obtain ⟨hq, hf⟩ := gd_some hf
  have hm1 := mbT_X9_init_424 _ _ _ _ _ hf
  have hb1 := nz_le hm1 hRc
  refine tr_newai CX hL hR hS hq hb1 dX9_init_422 (fun H hR hS => ?_)
  exact (wbT_X9_init_424 CTX hRm hRc) _ _ _ _ _ _ _ _ hf (hL.tr (kNew_le _ _ _ _)) hR hS (lv_sub hl [0] rfl)
def bT_X9_init_408 (N : Nat) (sa : Nat → Nat) (x0 : Nat) (s0 : Nat) (s1 : Nat) (K : Ka) (M : Cm) : Option ((Ka × Cm) ⊕ (Ka × Cm)) := gd (kd K s0 == 10) (gd (decide (¬ (40 : Int32) < 0 ∧ (40 : Int32).toNatClampNeg ≤ 1000000)) ((bT_X9_init_416 N sa) x0 x0 (kz K) (kNew K 22 (40 : Int32).toNatClampNeg (40 : Int32).toNatClampNeg) (mZ (wR M s0 62 (some s1)) (kz K))))
theorem mbT_X9_init_408 {o : (Ka × Cm) ⊕ (Ka × Cm)} {N : Nat} {sa : Nat → Nat}  (x0 : Nat) (s0 : Nat) (s1 : Nat) (K : Ka) (M : Cm) (hf : bT_X9_init_408 N sa x0 s0 s1 K M = some o) : KLe K (oK sV o) := by
  unfold bT_X9_init_408 at hf
  obtain ⟨-, hf⟩ := gd_some hf
  obtain ⟨-, hf⟩ := gd_some hf
  exact (kNew_le _ _ _ _).tr (mbT_X9_init_416 _ _ _ _ _ hf)
set_option maxRecDepth 100000 in
set_option maxHeartbeats 4000000 in
theorem wbT_X9_init_408 {p : Program} {l : Launch} {e : Env} {R : Room} {s : State} {m : MethodId} {args : Array Value} {below : List Frame} {meth : Method} {c : Code} {x : Xc} {K0 : Ka} {o : (Ka × Cm) ⊕ (Ka × Cm)} {N : Nat}  (CTX : CT p l s m args meth c x K0 RX9 "<init>" cX9_init 6 none) (hRm : 6 ≤ R.frames ∧ 95 ≤ R.locals) (hRc : nz sV K0 o ≤ R.cells ∧ nu sV K0 o ≤ R.slots) (x0 : Nat) (s0 : Nat) (s1 : Nat) (K : Ka) (M : Cm) (H : Heap) (locs : List Loc) (ls : Array Slot) (hf : bT_X9_init_408 N x.2.2.1 x0 s0 s1 K M = some o) (hL : KLe K0 K) (hR : RC x K M H) (hS : va_S (AC K0) s.heap H locs) (hl : lv_has ls 6 [(0, .ref x0)]) : W p l e R s m args below meth c H locs (kz K - kz K0) (ku K - ku K0) (TQ sV (aQV x K0) (zQV K0) "java/lang/IllegalStateException" x K0 below args s o) (F0 m 408 ls [.ref s1, .ref s0]) := by
  obtain ⟨CX, hno, hlt, hmn⟩ := id CTX
  obtain ⟨hx, hb, hml, hown, hts, hE, hB, hr, hlk⟩ := id CX
  have hcs := nz_le (mbT_X9_init_408  x0 s0 s1 K M hf) hRc
  unfold bT_X9_init_408 at hf
  obtain ⟨hk_s0_10, hf⟩ := gd_some hf
  refine tr_putFR kc_9 CX hmn hR hL hS (v := some s1) ff_X9_170 ⟨rfl, rfl, .inr ⟨_, rfl⟩⟩ hk_s0_10 dX9_init_408 (fun H locs hR hS => ?_)
  refine lv_aload_n hx hb dX9_init_411 rfl (lv_at hl 0 rfl) ?_
  refine lv_bipush (v := 40) hx hb dX9_init_412 (by decide) ?_
  obtain ⟨hq, hf⟩ := gd_some hf
  have hm1 := mbT_X9_init_416 _ _ _ _ _ hf
  have hb1 := nz_le hm1 hRc
  refine tr_newai CX hL hR hS hq hb1 dX9_init_414 (fun H hR hS => ?_)
  exact (wbT_X9_init_416 CTX hRm hRc) _ _ _ _ _ _ _ _ hf (hL.tr (kNew_le _ _ _ _)) hR hS (lv_sub hl [0] rfl)
def bT_X9_init_400 (N : Nat) (sa : Nat → Nat) (x0 : Nat) (s0 : Nat) (s1 : Nat) (K : Ka) (M : Cm) : Option ((Ka × Cm) ⊕ (Ka × Cm)) := gd (kd K s0 == 10) (gd (decide (¬ (24 : Int32) < 0 ∧ (24 : Int32).toNatClampNeg ≤ 1000000)) ((bT_X9_init_408 N sa) x0 x0 (kz K) (kNew K 22 (24 : Int32).toNatClampNeg (24 : Int32).toNatClampNeg) (mZ (wR M s0 61 (some s1)) (kz K))))
theorem mbT_X9_init_400 {o : (Ka × Cm) ⊕ (Ka × Cm)} {N : Nat} {sa : Nat → Nat}  (x0 : Nat) (s0 : Nat) (s1 : Nat) (K : Ka) (M : Cm) (hf : bT_X9_init_400 N sa x0 s0 s1 K M = some o) : KLe K (oK sV o) := by
  unfold bT_X9_init_400 at hf
  obtain ⟨-, hf⟩ := gd_some hf
  obtain ⟨-, hf⟩ := gd_some hf
  exact (kNew_le _ _ _ _).tr (mbT_X9_init_408 _ _ _ _ _ hf)
set_option maxRecDepth 100000 in
set_option maxHeartbeats 4000000 in
theorem wbT_X9_init_400 {p : Program} {l : Launch} {e : Env} {R : Room} {s : State} {m : MethodId} {args : Array Value} {below : List Frame} {meth : Method} {c : Code} {x : Xc} {K0 : Ka} {o : (Ka × Cm) ⊕ (Ka × Cm)} {N : Nat}  (CTX : CT p l s m args meth c x K0 RX9 "<init>" cX9_init 6 none) (hRm : 6 ≤ R.frames ∧ 95 ≤ R.locals) (hRc : nz sV K0 o ≤ R.cells ∧ nu sV K0 o ≤ R.slots) (x0 : Nat) (s0 : Nat) (s1 : Nat) (K : Ka) (M : Cm) (H : Heap) (locs : List Loc) (ls : Array Slot) (hf : bT_X9_init_400 N x.2.2.1 x0 s0 s1 K M = some o) (hL : KLe K0 K) (hR : RC x K M H) (hS : va_S (AC K0) s.heap H locs) (hl : lv_has ls 6 [(0, .ref x0)]) : W p l e R s m args below meth c H locs (kz K - kz K0) (ku K - ku K0) (TQ sV (aQV x K0) (zQV K0) "java/lang/IllegalStateException" x K0 below args s o) (F0 m 400 ls [.ref s1, .ref s0]) := by
  obtain ⟨CX, hno, hlt, hmn⟩ := id CTX
  obtain ⟨hx, hb, hml, hown, hts, hE, hB, hr, hlk⟩ := id CX
  have hcs := nz_le (mbT_X9_init_400  x0 s0 s1 K M hf) hRc
  unfold bT_X9_init_400 at hf
  obtain ⟨hk_s0_10, hf⟩ := gd_some hf
  refine tr_putFR kc_9 CX hmn hR hL hS (v := some s1) ff_X9_167 ⟨rfl, rfl, .inr ⟨_, rfl⟩⟩ hk_s0_10 dX9_init_400 (fun H locs hR hS => ?_)
  refine lv_aload_n hx hb dX9_init_403 rfl (lv_at hl 0 rfl) ?_
  refine lv_bipush (v := 24) hx hb dX9_init_404 (by decide) ?_
  obtain ⟨hq, hf⟩ := gd_some hf
  have hm1 := mbT_X9_init_408 _ _ _ _ _ hf
  have hb1 := nz_le hm1 hRc
  refine tr_newai CX hL hR hS hq hb1 dX9_init_406 (fun H hR hS => ?_)
  exact (wbT_X9_init_408 CTX hRm hRc) _ _ _ _ _ _ _ _ hf (hL.tr (kNew_le _ _ _ _)) hR hS (lv_sub hl [0] rfl)
def bT_X9_init_392 (N : Nat) (sa : Nat → Nat) (x0 : Nat) (s0 : Nat) (s1 : Nat) (K : Ka) (M : Cm) : Option ((Ka × Cm) ⊕ (Ka × Cm)) := gd (kd K s0 == 10) (gd (decide (¬ (24 : Int32) < 0 ∧ (24 : Int32).toNatClampNeg ≤ 1000000)) ((bT_X9_init_400 N sa) x0 x0 (kz K) (kNew K 22 (24 : Int32).toNatClampNeg (24 : Int32).toNatClampNeg) (mZ (wR M s0 60 (some s1)) (kz K))))
theorem mbT_X9_init_392 {o : (Ka × Cm) ⊕ (Ka × Cm)} {N : Nat} {sa : Nat → Nat}  (x0 : Nat) (s0 : Nat) (s1 : Nat) (K : Ka) (M : Cm) (hf : bT_X9_init_392 N sa x0 s0 s1 K M = some o) : KLe K (oK sV o) := by
  unfold bT_X9_init_392 at hf
  obtain ⟨-, hf⟩ := gd_some hf
  obtain ⟨-, hf⟩ := gd_some hf
  exact (kNew_le _ _ _ _).tr (mbT_X9_init_400 _ _ _ _ _ hf)
set_option maxRecDepth 100000 in
set_option maxHeartbeats 4000000 in
theorem wbT_X9_init_392 {p : Program} {l : Launch} {e : Env} {R : Room} {s : State} {m : MethodId} {args : Array Value} {below : List Frame} {meth : Method} {c : Code} {x : Xc} {K0 : Ka} {o : (Ka × Cm) ⊕ (Ka × Cm)} {N : Nat}  (CTX : CT p l s m args meth c x K0 RX9 "<init>" cX9_init 6 none) (hRm : 6 ≤ R.frames ∧ 95 ≤ R.locals) (hRc : nz sV K0 o ≤ R.cells ∧ nu sV K0 o ≤ R.slots) (x0 : Nat) (s0 : Nat) (s1 : Nat) (K : Ka) (M : Cm) (H : Heap) (locs : List Loc) (ls : Array Slot) (hf : bT_X9_init_392 N x.2.2.1 x0 s0 s1 K M = some o) (hL : KLe K0 K) (hR : RC x K M H) (hS : va_S (AC K0) s.heap H locs) (hl : lv_has ls 6 [(0, .ref x0)]) : W p l e R s m args below meth c H locs (kz K - kz K0) (ku K - ku K0) (TQ sV (aQV x K0) (zQV K0) "java/lang/IllegalStateException" x K0 below args s o) (F0 m 392 ls [.ref s1, .ref s0]) := by
  obtain ⟨CX, hno, hlt, hmn⟩ := id CTX
  obtain ⟨hx, hb, hml, hown, hts, hE, hB, hr, hlk⟩ := id CX
  have hcs := nz_le (mbT_X9_init_392  x0 s0 s1 K M hf) hRc
  unfold bT_X9_init_392 at hf
  obtain ⟨hk_s0_10, hf⟩ := gd_some hf
  refine tr_putFR kc_9 CX hmn hR hL hS (v := some s1) ff_X9_164 ⟨rfl, rfl, .inr ⟨_, rfl⟩⟩ hk_s0_10 dX9_init_392 (fun H locs hR hS => ?_)
  refine lv_aload_n hx hb dX9_init_395 rfl (lv_at hl 0 rfl) ?_
  refine lv_bipush (v := 24) hx hb dX9_init_396 (by decide) ?_
  obtain ⟨hq, hf⟩ := gd_some hf
  have hm1 := mbT_X9_init_400 _ _ _ _ _ hf
  have hb1 := nz_le hm1 hRc
  refine tr_newai CX hL hR hS hq hb1 dX9_init_398 (fun H hR hS => ?_)
  exact (wbT_X9_init_400 CTX hRm hRc) _ _ _ _ _ _ _ _ hf (hL.tr (kNew_le _ _ _ _)) hR hS (lv_sub hl [0] rfl)
def bT_X9_init_384 (N : Nat) (sa : Nat → Nat) (x0 : Nat) (s0 : Nat) (s1 : Nat) (K : Ka) (M : Cm) : Option ((Ka × Cm) ⊕ (Ka × Cm)) := gd (kd K s0 == 10) (gd (decide (¬ (24 : Int32) < 0 ∧ (24 : Int32).toNatClampNeg ≤ 1000000)) ((bT_X9_init_392 N sa) x0 x0 (kz K) (kNew K 22 (24 : Int32).toNatClampNeg (24 : Int32).toNatClampNeg) (mZ (wR M s0 59 (some s1)) (kz K))))
theorem mbT_X9_init_384 {o : (Ka × Cm) ⊕ (Ka × Cm)} {N : Nat} {sa : Nat → Nat}  (x0 : Nat) (s0 : Nat) (s1 : Nat) (K : Ka) (M : Cm) (hf : bT_X9_init_384 N sa x0 s0 s1 K M = some o) : KLe K (oK sV o) := by
  unfold bT_X9_init_384 at hf
  obtain ⟨-, hf⟩ := gd_some hf
  obtain ⟨-, hf⟩ := gd_some hf
  exact (kNew_le _ _ _ _).tr (mbT_X9_init_392 _ _ _ _ _ hf)
set_option maxRecDepth 100000 in
set_option maxHeartbeats 4000000 in
theorem wbT_X9_init_384 {p : Program} {l : Launch} {e : Env} {R : Room} {s : State} {m : MethodId} {args : Array Value} {below : List Frame} {meth : Method} {c : Code} {x : Xc} {K0 : Ka} {o : (Ka × Cm) ⊕ (Ka × Cm)} {N : Nat}  (CTX : CT p l s m args meth c x K0 RX9 "<init>" cX9_init 6 none) (hRm : 6 ≤ R.frames ∧ 95 ≤ R.locals) (hRc : nz sV K0 o ≤ R.cells ∧ nu sV K0 o ≤ R.slots) (x0 : Nat) (s0 : Nat) (s1 : Nat) (K : Ka) (M : Cm) (H : Heap) (locs : List Loc) (ls : Array Slot) (hf : bT_X9_init_384 N x.2.2.1 x0 s0 s1 K M = some o) (hL : KLe K0 K) (hR : RC x K M H) (hS : va_S (AC K0) s.heap H locs) (hl : lv_has ls 6 [(0, .ref x0)]) : W p l e R s m args below meth c H locs (kz K - kz K0) (ku K - ku K0) (TQ sV (aQV x K0) (zQV K0) "java/lang/IllegalStateException" x K0 below args s o) (F0 m 384 ls [.ref s1, .ref s0]) := by
  obtain ⟨CX, hno, hlt, hmn⟩ := id CTX
  obtain ⟨hx, hb, hml, hown, hts, hE, hB, hr, hlk⟩ := id CX
  have hcs := nz_le (mbT_X9_init_384  x0 s0 s1 K M hf) hRc
  unfold bT_X9_init_384 at hf
  obtain ⟨hk_s0_10, hf⟩ := gd_some hf
  refine tr_putFR kc_9 CX hmn hR hL hS (v := some s1) ff_X9_161 ⟨rfl, rfl, .inr ⟨_, rfl⟩⟩ hk_s0_10 dX9_init_384 (fun H locs hR hS => ?_)
  refine lv_aload_n hx hb dX9_init_387 rfl (lv_at hl 0 rfl) ?_
  refine lv_bipush (v := 24) hx hb dX9_init_388 (by decide) ?_
  obtain ⟨hq, hf⟩ := gd_some hf
  have hm1 := mbT_X9_init_392 _ _ _ _ _ hf
  have hb1 := nz_le hm1 hRc
  refine tr_newai CX hL hR hS hq hb1 dX9_init_390 (fun H hR hS => ?_)
  exact (wbT_X9_init_392 CTX hRm hRc) _ _ _ _ _ _ _ _ hf (hL.tr (kNew_le _ _ _ _)) hR hS (lv_sub hl [0] rfl)
def bT_X9_init_375 (N : Nat) (sa : Nat → Nat) (x0 : Nat) (s0 : Nat) (s1 : Nat) (K : Ka) (M : Cm) : Option ((Ka × Cm) ⊕ (Ka × Cm)) := gd (kd K s0 == 10) (gd (decide (¬ (576 : Int32) < 0 ∧ (576 : Int32).toNatClampNeg ≤ 1000000)) ((bT_X9_init_384 N sa) x0 x0 (kz K) (kNew K 22 (576 : Int32).toNatClampNeg (576 : Int32).toNatClampNeg) (mZ (wR M s0 58 (some s1)) (kz K))))
theorem mbT_X9_init_375 {o : (Ka × Cm) ⊕ (Ka × Cm)} {N : Nat} {sa : Nat → Nat}  (x0 : Nat) (s0 : Nat) (s1 : Nat) (K : Ka) (M : Cm) (hf : bT_X9_init_375 N sa x0 s0 s1 K M = some o) : KLe K (oK sV o) := by
  unfold bT_X9_init_375 at hf
  obtain ⟨-, hf⟩ := gd_some hf
  obtain ⟨-, hf⟩ := gd_some hf
  exact (kNew_le _ _ _ _).tr (mbT_X9_init_384 _ _ _ _ _ hf)
set_option maxRecDepth 100000 in
set_option maxHeartbeats 4000000 in
theorem wbT_X9_init_375 {p : Program} {l : Launch} {e : Env} {R : Room} {s : State} {m : MethodId} {args : Array Value} {below : List Frame} {meth : Method} {c : Code} {x : Xc} {K0 : Ka} {o : (Ka × Cm) ⊕ (Ka × Cm)} {N : Nat}  (CTX : CT p l s m args meth c x K0 RX9 "<init>" cX9_init 6 none) (hRm : 6 ≤ R.frames ∧ 95 ≤ R.locals) (hRc : nz sV K0 o ≤ R.cells ∧ nu sV K0 o ≤ R.slots) (x0 : Nat) (s0 : Nat) (s1 : Nat) (K : Ka) (M : Cm) (H : Heap) (locs : List Loc) (ls : Array Slot) (hf : bT_X9_init_375 N x.2.2.1 x0 s0 s1 K M = some o) (hL : KLe K0 K) (hR : RC x K M H) (hS : va_S (AC K0) s.heap H locs) (hl : lv_has ls 6 [(0, .ref x0)]) : W p l e R s m args below meth c H locs (kz K - kz K0) (ku K - ku K0) (TQ sV (aQV x K0) (zQV K0) "java/lang/IllegalStateException" x K0 below args s o) (F0 m 375 ls [.ref s1, .ref s0]) := by
  obtain ⟨CX, hno, hlt, hmn⟩ := id CTX
  obtain ⟨hx, hb, hml, hown, hts, hE, hB, hr, hlk⟩ := id CX
  have hcs := nz_le (mbT_X9_init_375  x0 s0 s1 K M hf) hRc
  unfold bT_X9_init_375 at hf
  obtain ⟨hk_s0_10, hf⟩ := gd_some hf
  refine tr_putFR kc_9 CX hmn hR hL hS (v := some s1) ff_X9_158 ⟨rfl, rfl, .inr ⟨_, rfl⟩⟩ hk_s0_10 dX9_init_375 (fun H locs hR hS => ?_)
  refine lv_aload_n hx hb dX9_init_378 rfl (lv_at hl 0 rfl) ?_
  refine lv_sipush (v := 576) hx hb dX9_init_379 (by decide) ?_
  obtain ⟨hq, hf⟩ := gd_some hf
  have hm1 := mbT_X9_init_384 _ _ _ _ _ hf
  have hb1 := nz_le hm1 hRc
  refine tr_newai CX hL hR hS hq hb1 dX9_init_382 (fun H hR hS => ?_)
  exact (wbT_X9_init_384 CTX hRm hRc) _ _ _ _ _ _ _ _ hf (hL.tr (kNew_le _ _ _ _)) hR hS (lv_sub hl [0] rfl)
def bT_X9_init_367 (N : Nat) (sa : Nat → Nat) (x0 : Nat) (s0 : Nat) (s1 : Nat) (K : Ka) (M : Cm) : Option ((Ka × Cm) ⊕ (Ka × Cm)) := gd (kd K s0 == 10) (gd (decide (¬ (24 : Int32) < 0 ∧ (24 : Int32).toNatClampNeg ≤ 1000000)) ((bT_X9_init_375 N sa) x0 x0 (kz K) (kNew K 22 (24 : Int32).toNatClampNeg (24 : Int32).toNatClampNeg) (mZ (wR M s0 57 (some s1)) (kz K))))
theorem mbT_X9_init_367 {o : (Ka × Cm) ⊕ (Ka × Cm)} {N : Nat} {sa : Nat → Nat}  (x0 : Nat) (s0 : Nat) (s1 : Nat) (K : Ka) (M : Cm) (hf : bT_X9_init_367 N sa x0 s0 s1 K M = some o) : KLe K (oK sV o) := by
  unfold bT_X9_init_367 at hf
  obtain ⟨-, hf⟩ := gd_some hf
  obtain ⟨-, hf⟩ := gd_some hf
  exact (kNew_le _ _ _ _).tr (mbT_X9_init_375 _ _ _ _ _ hf)
set_option maxRecDepth 100000 in
set_option maxHeartbeats 4000000 in
theorem wbT_X9_init_367 {p : Program} {l : Launch} {e : Env} {R : Room} {s : State} {m : MethodId} {args : Array Value} {below : List Frame} {meth : Method} {c : Code} {x : Xc} {K0 : Ka} {o : (Ka × Cm) ⊕ (Ka × Cm)} {N : Nat}  (CTX : CT p l s m args meth c x K0 RX9 "<init>" cX9_init 6 none) (hRm : 6 ≤ R.frames ∧ 95 ≤ R.locals) (hRc : nz sV K0 o ≤ R.cells ∧ nu sV K0 o ≤ R.slots) (x0 : Nat) (s0 : Nat) (s1 : Nat) (K : Ka) (M : Cm) (H : Heap) (locs : List Loc) (ls : Array Slot) (hf : bT_X9_init_367 N x.2.2.1 x0 s0 s1 K M = some o) (hL : KLe K0 K) (hR : RC x K M H) (hS : va_S (AC K0) s.heap H locs) (hl : lv_has ls 6 [(0, .ref x0)]) : W p l e R s m args below meth c H locs (kz K - kz K0) (ku K - ku K0) (TQ sV (aQV x K0) (zQV K0) "java/lang/IllegalStateException" x K0 below args s o) (F0 m 367 ls [.ref s1, .ref s0]) := by
  obtain ⟨CX, hno, hlt, hmn⟩ := id CTX
  obtain ⟨hx, hb, hml, hown, hts, hE, hB, hr, hlk⟩ := id CX
  have hcs := nz_le (mbT_X9_init_367  x0 s0 s1 K M hf) hRc
  unfold bT_X9_init_367 at hf
  obtain ⟨hk_s0_10, hf⟩ := gd_some hf
  refine tr_putFR kc_9 CX hmn hR hL hS (v := some s1) ff_X9_155 ⟨rfl, rfl, .inr ⟨_, rfl⟩⟩ hk_s0_10 dX9_init_367 (fun H locs hR hS => ?_)
  refine lv_aload_n hx hb dX9_init_370 rfl (lv_at hl 0 rfl) ?_
  refine lv_bipush (v := 24) hx hb dX9_init_371 (by decide) ?_
  obtain ⟨hq, hf⟩ := gd_some hf
  have hm1 := mbT_X9_init_375 _ _ _ _ _ hf
  have hb1 := nz_le hm1 hRc
  refine tr_newai CX hL hR hS hq hb1 dX9_init_373 (fun H hR hS => ?_)
  exact (wbT_X9_init_375 CTX hRm hRc) _ _ _ _ _ _ _ _ hf (hL.tr (kNew_le _ _ _ _)) hR hS (lv_sub hl [0] rfl)
def bT_X9_init_359 (N : Nat) (sa : Nat → Nat) (x0 : Nat) (s0 : Nat) (s1 : Nat) (K : Ka) (M : Cm) : Option ((Ka × Cm) ⊕ (Ka × Cm)) := gd (kd K s0 == 10) (gd (decide (¬ (24 : Int32) < 0 ∧ (24 : Int32).toNatClampNeg ≤ 1000000)) ((bT_X9_init_367 N sa) x0 x0 (kz K) (kNew K 22 (24 : Int32).toNatClampNeg (24 : Int32).toNatClampNeg) (mZ (wR M s0 56 (some s1)) (kz K))))
theorem mbT_X9_init_359 {o : (Ka × Cm) ⊕ (Ka × Cm)} {N : Nat} {sa : Nat → Nat}  (x0 : Nat) (s0 : Nat) (s1 : Nat) (K : Ka) (M : Cm) (hf : bT_X9_init_359 N sa x0 s0 s1 K M = some o) : KLe K (oK sV o) := by
  unfold bT_X9_init_359 at hf
  obtain ⟨-, hf⟩ := gd_some hf
  obtain ⟨-, hf⟩ := gd_some hf
  exact (kNew_le _ _ _ _).tr (mbT_X9_init_367 _ _ _ _ _ hf)
set_option maxRecDepth 100000 in
set_option maxHeartbeats 4000000 in
theorem wbT_X9_init_359 {p : Program} {l : Launch} {e : Env} {R : Room} {s : State} {m : MethodId} {args : Array Value} {below : List Frame} {meth : Method} {c : Code} {x : Xc} {K0 : Ka} {o : (Ka × Cm) ⊕ (Ka × Cm)} {N : Nat}  (CTX : CT p l s m args meth c x K0 RX9 "<init>" cX9_init 6 none) (hRm : 6 ≤ R.frames ∧ 95 ≤ R.locals) (hRc : nz sV K0 o ≤ R.cells ∧ nu sV K0 o ≤ R.slots) (x0 : Nat) (s0 : Nat) (s1 : Nat) (K : Ka) (M : Cm) (H : Heap) (locs : List Loc) (ls : Array Slot) (hf : bT_X9_init_359 N x.2.2.1 x0 s0 s1 K M = some o) (hL : KLe K0 K) (hR : RC x K M H) (hS : va_S (AC K0) s.heap H locs) (hl : lv_has ls 6 [(0, .ref x0)]) : W p l e R s m args below meth c H locs (kz K - kz K0) (ku K - ku K0) (TQ sV (aQV x K0) (zQV K0) "java/lang/IllegalStateException" x K0 below args s o) (F0 m 359 ls [.ref s1, .ref s0]) := by
  obtain ⟨CX, hno, hlt, hmn⟩ := id CTX
  obtain ⟨hx, hb, hml, hown, hts, hE, hB, hr, hlk⟩ := id CX
  have hcs := nz_le (mbT_X9_init_359  x0 s0 s1 K M hf) hRc
  unfold bT_X9_init_359 at hf
  obtain ⟨hk_s0_10, hf⟩ := gd_some hf
  refine tr_putFR kc_9 CX hmn hR hL hS (v := some s1) ff_X9_152 ⟨rfl, rfl, .inr ⟨_, rfl⟩⟩ hk_s0_10 dX9_init_359 (fun H locs hR hS => ?_)
  refine lv_aload_n hx hb dX9_init_362 rfl (lv_at hl 0 rfl) ?_
  refine lv_bipush (v := 24) hx hb dX9_init_363 (by decide) ?_
  obtain ⟨hq, hf⟩ := gd_some hf
  have hm1 := mbT_X9_init_367 _ _ _ _ _ hf
  have hb1 := nz_le hm1 hRc
  refine tr_newai CX hL hR hS hq hb1 dX9_init_365 (fun H hR hS => ?_)
  exact (wbT_X9_init_367 CTX hRm hRc) _ _ _ _ _ _ _ _ hf (hL.tr (kNew_le _ _ _ _)) hR hS (lv_sub hl [0] rfl)
def bT_X9_init_350 (N : Nat) (sa : Nat → Nat) (x0 : Nat) (s0 : Nat) (s1 : Nat) (K : Ka) (M : Cm) : Option ((Ka × Cm) ⊕ (Ka × Cm)) := gd (kd K s0 == 10) (gd (decide (¬ (192 : Int32) < 0 ∧ (192 : Int32).toNatClampNeg ≤ 1000000)) ((bT_X9_init_359 N sa) x0 x0 (kz K) (kNew K 22 (192 : Int32).toNatClampNeg (192 : Int32).toNatClampNeg) (mZ (wR M s0 55 (some s1)) (kz K))))
theorem mbT_X9_init_350 {o : (Ka × Cm) ⊕ (Ka × Cm)} {N : Nat} {sa : Nat → Nat}  (x0 : Nat) (s0 : Nat) (s1 : Nat) (K : Ka) (M : Cm) (hf : bT_X9_init_350 N sa x0 s0 s1 K M = some o) : KLe K (oK sV o) := by
  unfold bT_X9_init_350 at hf
  obtain ⟨-, hf⟩ := gd_some hf
  obtain ⟨-, hf⟩ := gd_some hf
  exact (kNew_le _ _ _ _).tr (mbT_X9_init_359 _ _ _ _ _ hf)
set_option maxRecDepth 100000 in
set_option maxHeartbeats 4000000 in
theorem wbT_X9_init_350 {p : Program} {l : Launch} {e : Env} {R : Room} {s : State} {m : MethodId} {args : Array Value} {below : List Frame} {meth : Method} {c : Code} {x : Xc} {K0 : Ka} {o : (Ka × Cm) ⊕ (Ka × Cm)} {N : Nat}  (CTX : CT p l s m args meth c x K0 RX9 "<init>" cX9_init 6 none) (hRm : 6 ≤ R.frames ∧ 95 ≤ R.locals) (hRc : nz sV K0 o ≤ R.cells ∧ nu sV K0 o ≤ R.slots) (x0 : Nat) (s0 : Nat) (s1 : Nat) (K : Ka) (M : Cm) (H : Heap) (locs : List Loc) (ls : Array Slot) (hf : bT_X9_init_350 N x.2.2.1 x0 s0 s1 K M = some o) (hL : KLe K0 K) (hR : RC x K M H) (hS : va_S (AC K0) s.heap H locs) (hl : lv_has ls 6 [(0, .ref x0)]) : W p l e R s m args below meth c H locs (kz K - kz K0) (ku K - ku K0) (TQ sV (aQV x K0) (zQV K0) "java/lang/IllegalStateException" x K0 below args s o) (F0 m 350 ls [.ref s1, .ref s0]) := by
  obtain ⟨CX, hno, hlt, hmn⟩ := id CTX
  obtain ⟨hx, hb, hml, hown, hts, hE, hB, hr, hlk⟩ := id CX
  have hcs := nz_le (mbT_X9_init_350  x0 s0 s1 K M hf) hRc
  unfold bT_X9_init_350 at hf
  obtain ⟨hk_s0_10, hf⟩ := gd_some hf
  refine tr_putFR kc_9 CX hmn hR hL hS (v := some s1) ff_X9_149 ⟨rfl, rfl, .inr ⟨_, rfl⟩⟩ hk_s0_10 dX9_init_350 (fun H locs hR hS => ?_)
  refine lv_aload_n hx hb dX9_init_353 rfl (lv_at hl 0 rfl) ?_
  refine lv_sipush (v := 192) hx hb dX9_init_354 (by decide) ?_
  obtain ⟨hq, hf⟩ := gd_some hf
  have hm1 := mbT_X9_init_359 _ _ _ _ _ hf
  have hb1 := nz_le hm1 hRc
  refine tr_newai CX hL hR hS hq hb1 dX9_init_357 (fun H hR hS => ?_)
  exact (wbT_X9_init_359 CTX hRm hRc) _ _ _ _ _ _ _ _ hf (hL.tr (kNew_le _ _ _ _)) hR hS (lv_sub hl [0] rfl)
def bT_X9_init_342 (N : Nat) (sa : Nat → Nat) (x0 : Nat) (s0 : Nat) (s1 : Nat) (K : Ka) (M : Cm) : Option ((Ka × Cm) ⊕ (Ka × Cm)) := gd (kd K s0 == 10) (gd (decide (¬ (24 : Int32) < 0 ∧ (24 : Int32).toNatClampNeg ≤ 1000000)) ((bT_X9_init_350 N sa) x0 x0 (kz K) (kNew K 22 (24 : Int32).toNatClampNeg (24 : Int32).toNatClampNeg) (mZ (wR M s0 54 (some s1)) (kz K))))
theorem mbT_X9_init_342 {o : (Ka × Cm) ⊕ (Ka × Cm)} {N : Nat} {sa : Nat → Nat}  (x0 : Nat) (s0 : Nat) (s1 : Nat) (K : Ka) (M : Cm) (hf : bT_X9_init_342 N sa x0 s0 s1 K M = some o) : KLe K (oK sV o) := by
  unfold bT_X9_init_342 at hf
  obtain ⟨-, hf⟩ := gd_some hf
  obtain ⟨-, hf⟩ := gd_some hf
  exact (kNew_le _ _ _ _).tr (mbT_X9_init_350 _ _ _ _ _ hf)
set_option maxRecDepth 100000 in
set_option maxHeartbeats 4000000 in
theorem wbT_X9_init_342 {p : Program} {l : Launch} {e : Env} {R : Room} {s : State} {m : MethodId} {args : Array Value} {below : List Frame} {meth : Method} {c : Code} {x : Xc} {K0 : Ka} {o : (Ka × Cm) ⊕ (Ka × Cm)} {N : Nat}  (CTX : CT p l s m args meth c x K0 RX9 "<init>" cX9_init 6 none) (hRm : 6 ≤ R.frames ∧ 95 ≤ R.locals) (hRc : nz sV K0 o ≤ R.cells ∧ nu sV K0 o ≤ R.slots) (x0 : Nat) (s0 : Nat) (s1 : Nat) (K : Ka) (M : Cm) (H : Heap) (locs : List Loc) (ls : Array Slot) (hf : bT_X9_init_342 N x.2.2.1 x0 s0 s1 K M = some o) (hL : KLe K0 K) (hR : RC x K M H) (hS : va_S (AC K0) s.heap H locs) (hl : lv_has ls 6 [(0, .ref x0)]) : W p l e R s m args below meth c H locs (kz K - kz K0) (ku K - ku K0) (TQ sV (aQV x K0) (zQV K0) "java/lang/IllegalStateException" x K0 below args s o) (F0 m 342 ls [.ref s1, .ref s0]) := by
  obtain ⟨CX, hno, hlt, hmn⟩ := id CTX
  obtain ⟨hx, hb, hml, hown, hts, hE, hB, hr, hlk⟩ := id CX
  have hcs := nz_le (mbT_X9_init_342  x0 s0 s1 K M hf) hRc
  unfold bT_X9_init_342 at hf
  obtain ⟨hk_s0_10, hf⟩ := gd_some hf
  refine tr_putFR kc_9 CX hmn hR hL hS (v := some s1) ff_X9_146 ⟨rfl, rfl, .inr ⟨_, rfl⟩⟩ hk_s0_10 dX9_init_342 (fun H locs hR hS => ?_)
  refine lv_aload_n hx hb dX9_init_345 rfl (lv_at hl 0 rfl) ?_
  refine lv_bipush (v := 24) hx hb dX9_init_346 (by decide) ?_
  obtain ⟨hq, hf⟩ := gd_some hf
  have hm1 := mbT_X9_init_350 _ _ _ _ _ hf
  have hb1 := nz_le hm1 hRc
  refine tr_newai CX hL hR hS hq hb1 dX9_init_348 (fun H hR hS => ?_)
  exact (wbT_X9_init_350 CTX hRm hRc) _ _ _ _ _ _ _ _ hf (hL.tr (kNew_le _ _ _ _)) hR hS (lv_sub hl [0] rfl)
def bT_X9_init_334 (N : Nat) (sa : Nat → Nat) (x0 : Nat) (s0 : Nat) (s1 : Nat) (K : Ka) (M : Cm) : Option ((Ka × Cm) ⊕ (Ka × Cm)) := gd (kd K s0 == 10) (gd (decide (¬ (24 : Int32) < 0 ∧ (24 : Int32).toNatClampNeg ≤ 1000000)) ((bT_X9_init_342 N sa) x0 x0 (kz K) (kNew K 22 (24 : Int32).toNatClampNeg (24 : Int32).toNatClampNeg) (mZ (wR M s0 53 (some s1)) (kz K))))
theorem mbT_X9_init_334 {o : (Ka × Cm) ⊕ (Ka × Cm)} {N : Nat} {sa : Nat → Nat}  (x0 : Nat) (s0 : Nat) (s1 : Nat) (K : Ka) (M : Cm) (hf : bT_X9_init_334 N sa x0 s0 s1 K M = some o) : KLe K (oK sV o) := by
  unfold bT_X9_init_334 at hf
  obtain ⟨-, hf⟩ := gd_some hf
  obtain ⟨-, hf⟩ := gd_some hf
  exact (kNew_le _ _ _ _).tr (mbT_X9_init_342 _ _ _ _ _ hf)
set_option maxRecDepth 100000 in
set_option maxHeartbeats 4000000 in
theorem wbT_X9_init_334 {p : Program} {l : Launch} {e : Env} {R : Room} {s : State} {m : MethodId} {args : Array Value} {below : List Frame} {meth : Method} {c : Code} {x : Xc} {K0 : Ka} {o : (Ka × Cm) ⊕ (Ka × Cm)} {N : Nat}  (CTX : CT p l s m args meth c x K0 RX9 "<init>" cX9_init 6 none) (hRm : 6 ≤ R.frames ∧ 95 ≤ R.locals) (hRc : nz sV K0 o ≤ R.cells ∧ nu sV K0 o ≤ R.slots) (x0 : Nat) (s0 : Nat) (s1 : Nat) (K : Ka) (M : Cm) (H : Heap) (locs : List Loc) (ls : Array Slot) (hf : bT_X9_init_334 N x.2.2.1 x0 s0 s1 K M = some o) (hL : KLe K0 K) (hR : RC x K M H) (hS : va_S (AC K0) s.heap H locs) (hl : lv_has ls 6 [(0, .ref x0)]) : W p l e R s m args below meth c H locs (kz K - kz K0) (ku K - ku K0) (TQ sV (aQV x K0) (zQV K0) "java/lang/IllegalStateException" x K0 below args s o) (F0 m 334 ls [.ref s1, .ref s0]) := by
  obtain ⟨CX, hno, hlt, hmn⟩ := id CTX
  obtain ⟨hx, hb, hml, hown, hts, hE, hB, hr, hlk⟩ := id CX
  have hcs := nz_le (mbT_X9_init_334  x0 s0 s1 K M hf) hRc
  unfold bT_X9_init_334 at hf
  obtain ⟨hk_s0_10, hf⟩ := gd_some hf
  refine tr_putFR kc_9 CX hmn hR hL hS (v := some s1) ff_X9_143 ⟨rfl, rfl, .inr ⟨_, rfl⟩⟩ hk_s0_10 dX9_init_334 (fun H locs hR hS => ?_)
  refine lv_aload_n hx hb dX9_init_337 rfl (lv_at hl 0 rfl) ?_
  refine lv_bipush (v := 24) hx hb dX9_init_338 (by decide) ?_
  obtain ⟨hq, hf⟩ := gd_some hf
  have hm1 := mbT_X9_init_342 _ _ _ _ _ hf
  have hb1 := nz_le hm1 hRc
  refine tr_newai CX hL hR hS hq hb1 dX9_init_340 (fun H hR hS => ?_)
  exact (wbT_X9_init_342 CTX hRm hRc) _ _ _ _ _ _ _ _ hf (hL.tr (kNew_le _ _ _ _)) hR hS (lv_sub hl [0] rfl)
def bT_X9_init_326 (N : Nat) (sa : Nat → Nat) (x0 : Nat) (s0 : Nat) (s1 : Nat) (K : Ka) (M : Cm) : Option ((Ka × Cm) ⊕ (Ka × Cm)) := gd (kd K s0 == 10) (gd (decide (¬ (24 : Int32) < 0 ∧ (24 : Int32).toNatClampNeg ≤ 1000000)) ((bT_X9_init_334 N sa) x0 x0 (kz K) (kNew K 24 (24 : Int32).toNatClampNeg (24 : Int32).toNatClampNeg) (mZ (wR M s0 47 (some s1)) (kz K))))
theorem mbT_X9_init_326 {o : (Ka × Cm) ⊕ (Ka × Cm)} {N : Nat} {sa : Nat → Nat}  (x0 : Nat) (s0 : Nat) (s1 : Nat) (K : Ka) (M : Cm) (hf : bT_X9_init_326 N sa x0 s0 s1 K M = some o) : KLe K (oK sV o) := by
  unfold bT_X9_init_326 at hf
  obtain ⟨-, hf⟩ := gd_some hf
  obtain ⟨-, hf⟩ := gd_some hf
  exact (kNew_le _ _ _ _).tr (mbT_X9_init_334 _ _ _ _ _ hf)
set_option maxRecDepth 100000 in
set_option maxHeartbeats 4000000 in
theorem wbT_X9_init_326 {p : Program} {l : Launch} {e : Env} {R : Room} {s : State} {m : MethodId} {args : Array Value} {below : List Frame} {meth : Method} {c : Code} {x : Xc} {K0 : Ka} {o : (Ka × Cm) ⊕ (Ka × Cm)} {N : Nat}  (CTX : CT p l s m args meth c x K0 RX9 "<init>" cX9_init 6 none) (hRm : 6 ≤ R.frames ∧ 95 ≤ R.locals) (hRc : nz sV K0 o ≤ R.cells ∧ nu sV K0 o ≤ R.slots) (x0 : Nat) (s0 : Nat) (s1 : Nat) (K : Ka) (M : Cm) (H : Heap) (locs : List Loc) (ls : Array Slot) (hf : bT_X9_init_326 N x.2.2.1 x0 s0 s1 K M = some o) (hL : KLe K0 K) (hR : RC x K M H) (hS : va_S (AC K0) s.heap H locs) (hl : lv_has ls 6 [(0, .ref x0)]) : W p l e R s m args below meth c H locs (kz K - kz K0) (ku K - ku K0) (TQ sV (aQV x K0) (zQV K0) "java/lang/IllegalStateException" x K0 below args s o) (F0 m 326 ls [.ref s1, .ref s0]) := by
  obtain ⟨CX, hno, hlt, hmn⟩ := id CTX
  obtain ⟨hx, hb, hml, hown, hts, hE, hB, hr, hlk⟩ := id CX
  have hcs := nz_le (mbT_X9_init_326  x0 s0 s1 K M hf) hRc
  unfold bT_X9_init_326 at hf
  obtain ⟨hk_s0_10, hf⟩ := gd_some hf
  refine tr_putFR kc_9 CX hmn hR hL hS (v := some s1) ff_X9_140 ⟨rfl, rfl, .inr ⟨_, rfl⟩⟩ hk_s0_10 dX9_init_326 (fun H locs hR hS => ?_)
  refine lv_aload_n hx hb dX9_init_329 rfl (lv_at hl 0 rfl) ?_
  refine lv_bipush (v := 24) hx hb dX9_init_330 (by decide) ?_
  obtain ⟨hq, hf⟩ := gd_some hf
  have hm1 := mbT_X9_init_334 _ _ _ _ _ hf
  have hb1 := nz_le hm1 hRc
  refine tr_newaz CX hL hR hS hq hb1 dX9_init_332 (fun H hR hS => ?_)
  exact (wbT_X9_init_334 CTX hRm hRc) _ _ _ _ _ _ _ _ hf (hL.tr (kNew_le _ _ _ _)) hR hS (lv_sub hl [0] rfl)
def bT_X9_init_317 (N : Nat) (sa : Nat → Nat) (x0 : Nat) (s0 : Nat) (s1 : Nat) (K : Ka) (M : Cm) : Option ((Ka × Cm) ⊕ (Ka × Cm)) := gd (kd K s0 == 10) (gd (decide (¬ (2000 : Int32) < 0 ∧ (2000 : Int32).toNatClampNeg ≤ 1000000)) ((bT_X9_init_326 N sa) x0 x0 (kz K) (kNew K 22 (2000 : Int32).toNatClampNeg (2000 : Int32).toNatClampNeg) (mZ (wR M s0 46 (some s1)) (kz K))))
theorem mbT_X9_init_317 {o : (Ka × Cm) ⊕ (Ka × Cm)} {N : Nat} {sa : Nat → Nat}  (x0 : Nat) (s0 : Nat) (s1 : Nat) (K : Ka) (M : Cm) (hf : bT_X9_init_317 N sa x0 s0 s1 K M = some o) : KLe K (oK sV o) := by
  unfold bT_X9_init_317 at hf
  obtain ⟨-, hf⟩ := gd_some hf
  obtain ⟨-, hf⟩ := gd_some hf
  exact (kNew_le _ _ _ _).tr (mbT_X9_init_326 _ _ _ _ _ hf)
set_option maxRecDepth 100000 in
set_option maxHeartbeats 4000000 in
theorem wbT_X9_init_317 {p : Program} {l : Launch} {e : Env} {R : Room} {s : State} {m : MethodId} {args : Array Value} {below : List Frame} {meth : Method} {c : Code} {x : Xc} {K0 : Ka} {o : (Ka × Cm) ⊕ (Ka × Cm)} {N : Nat}  (CTX : CT p l s m args meth c x K0 RX9 "<init>" cX9_init 6 none) (hRm : 6 ≤ R.frames ∧ 95 ≤ R.locals) (hRc : nz sV K0 o ≤ R.cells ∧ nu sV K0 o ≤ R.slots) (x0 : Nat) (s0 : Nat) (s1 : Nat) (K : Ka) (M : Cm) (H : Heap) (locs : List Loc) (ls : Array Slot) (hf : bT_X9_init_317 N x.2.2.1 x0 s0 s1 K M = some o) (hL : KLe K0 K) (hR : RC x K M H) (hS : va_S (AC K0) s.heap H locs) (hl : lv_has ls 6 [(0, .ref x0)]) : W p l e R s m args below meth c H locs (kz K - kz K0) (ku K - ku K0) (TQ sV (aQV x K0) (zQV K0) "java/lang/IllegalStateException" x K0 below args s o) (F0 m 317 ls [.ref s1, .ref s0]) := by
  obtain ⟨CX, hno, hlt, hmn⟩ := id CTX
  obtain ⟨hx, hb, hml, hown, hts, hE, hB, hr, hlk⟩ := id CX
  have hcs := nz_le (mbT_X9_init_317  x0 s0 s1 K M hf) hRc
  unfold bT_X9_init_317 at hf
  obtain ⟨hk_s0_10, hf⟩ := gd_some hf
  refine tr_putFR kc_9 CX hmn hR hL hS (v := some s1) ff_X9_137 ⟨rfl, rfl, .inr ⟨_, rfl⟩⟩ hk_s0_10 dX9_init_317 (fun H locs hR hS => ?_)
  refine lv_aload_n hx hb dX9_init_320 rfl (lv_at hl 0 rfl) ?_
  refine lv_sipush (v := 2000) hx hb dX9_init_321 (by decide) ?_
  obtain ⟨hq, hf⟩ := gd_some hf
  have hm1 := mbT_X9_init_326 _ _ _ _ _ hf
  have hb1 := nz_le hm1 hRc
  refine tr_newai CX hL hR hS hq hb1 dX9_init_324 (fun H hR hS => ?_)
  exact (wbT_X9_init_326 CTX hRm hRc) _ _ _ _ _ _ _ _ hf (hL.tr (kNew_le _ _ _ _)) hR hS (lv_sub hl [0] rfl)
def bT_X9_init_308 (N : Nat) (sa : Nat → Nat) (x0 : Nat) (s0 : Nat) (s1 : Nat) (K : Ka) (M : Cm) : Option ((Ka × Cm) ⊕ (Ka × Cm)) := gd (kd K s0 == 10) (gd (decide (¬ (2000 : Int32) < 0 ∧ (2000 : Int32).toNatClampNeg ≤ 1000000)) ((bT_X9_init_317 N sa) x0 x0 (kz K) (kNew K 24 (2000 : Int32).toNatClampNeg (2000 : Int32).toNatClampNeg) (mZ (wR M s0 45 (some s1)) (kz K))))
theorem mbT_X9_init_308 {o : (Ka × Cm) ⊕ (Ka × Cm)} {N : Nat} {sa : Nat → Nat}  (x0 : Nat) (s0 : Nat) (s1 : Nat) (K : Ka) (M : Cm) (hf : bT_X9_init_308 N sa x0 s0 s1 K M = some o) : KLe K (oK sV o) := by
  unfold bT_X9_init_308 at hf
  obtain ⟨-, hf⟩ := gd_some hf
  obtain ⟨-, hf⟩ := gd_some hf
  exact (kNew_le _ _ _ _).tr (mbT_X9_init_317 _ _ _ _ _ hf)
set_option maxRecDepth 100000 in
set_option maxHeartbeats 4000000 in
theorem wbT_X9_init_308 {p : Program} {l : Launch} {e : Env} {R : Room} {s : State} {m : MethodId} {args : Array Value} {below : List Frame} {meth : Method} {c : Code} {x : Xc} {K0 : Ka} {o : (Ka × Cm) ⊕ (Ka × Cm)} {N : Nat}  (CTX : CT p l s m args meth c x K0 RX9 "<init>" cX9_init 6 none) (hRm : 6 ≤ R.frames ∧ 95 ≤ R.locals) (hRc : nz sV K0 o ≤ R.cells ∧ nu sV K0 o ≤ R.slots) (x0 : Nat) (s0 : Nat) (s1 : Nat) (K : Ka) (M : Cm) (H : Heap) (locs : List Loc) (ls : Array Slot) (hf : bT_X9_init_308 N x.2.2.1 x0 s0 s1 K M = some o) (hL : KLe K0 K) (hR : RC x K M H) (hS : va_S (AC K0) s.heap H locs) (hl : lv_has ls 6 [(0, .ref x0)]) : W p l e R s m args below meth c H locs (kz K - kz K0) (ku K - ku K0) (TQ sV (aQV x K0) (zQV K0) "java/lang/IllegalStateException" x K0 below args s o) (F0 m 308 ls [.ref s1, .ref s0]) := by
  obtain ⟨CX, hno, hlt, hmn⟩ := id CTX
  obtain ⟨hx, hb, hml, hown, hts, hE, hB, hr, hlk⟩ := id CX
  have hcs := nz_le (mbT_X9_init_308  x0 s0 s1 K M hf) hRc
  unfold bT_X9_init_308 at hf
  obtain ⟨hk_s0_10, hf⟩ := gd_some hf
  refine tr_putFR kc_9 CX hmn hR hL hS (v := some s1) ff_X9_134 ⟨rfl, rfl, .inr ⟨_, rfl⟩⟩ hk_s0_10 dX9_init_308 (fun H locs hR hS => ?_)
  refine lv_aload_n hx hb dX9_init_311 rfl (lv_at hl 0 rfl) ?_
  refine lv_sipush (v := 2000) hx hb dX9_init_312 (by decide) ?_
  obtain ⟨hq, hf⟩ := gd_some hf
  have hm1 := mbT_X9_init_317 _ _ _ _ _ hf
  have hb1 := nz_le hm1 hRc
  refine tr_newaz CX hL hR hS hq hb1 dX9_init_315 (fun H hR hS => ?_)
  exact (wbT_X9_init_317 CTX hRm hRc) _ _ _ _ _ _ _ _ hf (hL.tr (kNew_le _ _ _ _)) hR hS (lv_sub hl [0] rfl)
def bT_X9_init_299 (N : Nat) (sa : Nat → Nat) (x0 : Nat) (s0 : Nat) (s1 : Nat) (K : Ka) (M : Cm) : Option ((Ka × Cm) ⊕ (Ka × Cm)) := gd (kd K s0 == 10) (gd (decide (¬ (2000 : Int32) < 0 ∧ (2000 : Int32).toNatClampNeg ≤ 1000000)) ((bT_X9_init_308 N sa) x0 x0 (kz K) (kNew K 22 (2000 : Int32).toNatClampNeg (2000 : Int32).toNatClampNeg) (mZ (wR M s0 44 (some s1)) (kz K))))
theorem mbT_X9_init_299 {o : (Ka × Cm) ⊕ (Ka × Cm)} {N : Nat} {sa : Nat → Nat}  (x0 : Nat) (s0 : Nat) (s1 : Nat) (K : Ka) (M : Cm) (hf : bT_X9_init_299 N sa x0 s0 s1 K M = some o) : KLe K (oK sV o) := by
  unfold bT_X9_init_299 at hf
  obtain ⟨-, hf⟩ := gd_some hf
  obtain ⟨-, hf⟩ := gd_some hf
  exact (kNew_le _ _ _ _).tr (mbT_X9_init_308 _ _ _ _ _ hf)
set_option maxRecDepth 100000 in
set_option maxHeartbeats 4000000 in
theorem wbT_X9_init_299 {p : Program} {l : Launch} {e : Env} {R : Room} {s : State} {m : MethodId} {args : Array Value} {below : List Frame} {meth : Method} {c : Code} {x : Xc} {K0 : Ka} {o : (Ka × Cm) ⊕ (Ka × Cm)} {N : Nat}  (CTX : CT p l s m args meth c x K0 RX9 "<init>" cX9_init 6 none) (hRm : 6 ≤ R.frames ∧ 95 ≤ R.locals) (hRc : nz sV K0 o ≤ R.cells ∧ nu sV K0 o ≤ R.slots) (x0 : Nat) (s0 : Nat) (s1 : Nat) (K : Ka) (M : Cm) (H : Heap) (locs : List Loc) (ls : Array Slot) (hf : bT_X9_init_299 N x.2.2.1 x0 s0 s1 K M = some o) (hL : KLe K0 K) (hR : RC x K M H) (hS : va_S (AC K0) s.heap H locs) (hl : lv_has ls 6 [(0, .ref x0)]) : W p l e R s m args below meth c H locs (kz K - kz K0) (ku K - ku K0) (TQ sV (aQV x K0) (zQV K0) "java/lang/IllegalStateException" x K0 below args s o) (F0 m 299 ls [.ref s1, .ref s0]) := by
  obtain ⟨CX, hno, hlt, hmn⟩ := id CTX
  obtain ⟨hx, hb, hml, hown, hts, hE, hB, hr, hlk⟩ := id CX
  have hcs := nz_le (mbT_X9_init_299  x0 s0 s1 K M hf) hRc
  unfold bT_X9_init_299 at hf
  obtain ⟨hk_s0_10, hf⟩ := gd_some hf
  refine tr_putFR kc_9 CX hmn hR hL hS (v := some s1) ff_X9_131 ⟨rfl, rfl, .inr ⟨_, rfl⟩⟩ hk_s0_10 dX9_init_299 (fun H locs hR hS => ?_)
  refine lv_aload_n hx hb dX9_init_302 rfl (lv_at hl 0 rfl) ?_
  refine lv_sipush (v := 2000) hx hb dX9_init_303 (by decide) ?_
  obtain ⟨hq, hf⟩ := gd_some hf
  have hm1 := mbT_X9_init_308 _ _ _ _ _ hf
  have hb1 := nz_le hm1 hRc
  refine tr_newai CX hL hR hS hq hb1 dX9_init_306 (fun H hR hS => ?_)
  exact (wbT_X9_init_308 CTX hRm hRc) _ _ _ _ _ _ _ _ hf (hL.tr (kNew_le _ _ _ _)) hR hS (lv_sub hl [0] rfl)
def bT_X9_init_290 (N : Nat) (sa : Nat → Nat) (x0 : Nat) (s0 : Nat) (s1 : Nat) (K : Ka) (M : Cm) : Option ((Ka × Cm) ⊕ (Ka × Cm)) := gd (kd K s0 == 10) (gd (decide (¬ (2000 : Int32) < 0 ∧ (2000 : Int32).toNatClampNeg ≤ 1000000)) ((bT_X9_init_299 N sa) x0 x0 (kz K) (kNew K 22 (2000 : Int32).toNatClampNeg (2000 : Int32).toNatClampNeg) (mZ (wR M s0 43 (some s1)) (kz K))))
theorem mbT_X9_init_290 {o : (Ka × Cm) ⊕ (Ka × Cm)} {N : Nat} {sa : Nat → Nat}  (x0 : Nat) (s0 : Nat) (s1 : Nat) (K : Ka) (M : Cm) (hf : bT_X9_init_290 N sa x0 s0 s1 K M = some o) : KLe K (oK sV o) := by
  unfold bT_X9_init_290 at hf
  obtain ⟨-, hf⟩ := gd_some hf
  obtain ⟨-, hf⟩ := gd_some hf
  exact (kNew_le _ _ _ _).tr (mbT_X9_init_299 _ _ _ _ _ hf)
set_option maxRecDepth 100000 in
set_option maxHeartbeats 4000000 in
theorem wbT_X9_init_290 {p : Program} {l : Launch} {e : Env} {R : Room} {s : State} {m : MethodId} {args : Array Value} {below : List Frame} {meth : Method} {c : Code} {x : Xc} {K0 : Ka} {o : (Ka × Cm) ⊕ (Ka × Cm)} {N : Nat}  (CTX : CT p l s m args meth c x K0 RX9 "<init>" cX9_init 6 none) (hRm : 6 ≤ R.frames ∧ 95 ≤ R.locals) (hRc : nz sV K0 o ≤ R.cells ∧ nu sV K0 o ≤ R.slots) (x0 : Nat) (s0 : Nat) (s1 : Nat) (K : Ka) (M : Cm) (H : Heap) (locs : List Loc) (ls : Array Slot) (hf : bT_X9_init_290 N x.2.2.1 x0 s0 s1 K M = some o) (hL : KLe K0 K) (hR : RC x K M H) (hS : va_S (AC K0) s.heap H locs) (hl : lv_has ls 6 [(0, .ref x0)]) : W p l e R s m args below meth c H locs (kz K - kz K0) (ku K - ku K0) (TQ sV (aQV x K0) (zQV K0) "java/lang/IllegalStateException" x K0 below args s o) (F0 m 290 ls [.ref s1, .ref s0]) := by
  obtain ⟨CX, hno, hlt, hmn⟩ := id CTX
  obtain ⟨hx, hb, hml, hown, hts, hE, hB, hr, hlk⟩ := id CX
  have hcs := nz_le (mbT_X9_init_290  x0 s0 s1 K M hf) hRc
  unfold bT_X9_init_290 at hf
  obtain ⟨hk_s0_10, hf⟩ := gd_some hf
  refine tr_putFR kc_9 CX hmn hR hL hS (v := some s1) ff_X9_128 ⟨rfl, rfl, .inr ⟨_, rfl⟩⟩ hk_s0_10 dX9_init_290 (fun H locs hR hS => ?_)
  refine lv_aload_n hx hb dX9_init_293 rfl (lv_at hl 0 rfl) ?_
  refine lv_sipush (v := 2000) hx hb dX9_init_294 (by decide) ?_
  obtain ⟨hq, hf⟩ := gd_some hf
  have hm1 := mbT_X9_init_299 _ _ _ _ _ hf
  have hb1 := nz_le hm1 hRc
  refine tr_newai CX hL hR hS hq hb1 dX9_init_297 (fun H hR hS => ?_)
  exact (wbT_X9_init_299 CTX hRm hRc) _ _ _ _ _ _ _ _ hf (hL.tr (kNew_le _ _ _ _)) hR hS (lv_sub hl [0] rfl)
def bT_X9_init_281 (N : Nat) (sa : Nat → Nat) (x0 : Nat) (s0 : Nat) (s1 : Nat) (K : Ka) (M : Cm) : Option ((Ka × Cm) ⊕ (Ka × Cm)) := gd (kd K s0 == 10) (gd (decide (¬ (2000 : Int32) < 0 ∧ (2000 : Int32).toNatClampNeg ≤ 1000000)) ((bT_X9_init_290 N sa) x0 x0 (kz K) (kNew K 22 (2000 : Int32).toNatClampNeg (2000 : Int32).toNatClampNeg) (mZ (wR M s0 41 (some s1)) (kz K))))
theorem mbT_X9_init_281 {o : (Ka × Cm) ⊕ (Ka × Cm)} {N : Nat} {sa : Nat → Nat}  (x0 : Nat) (s0 : Nat) (s1 : Nat) (K : Ka) (M : Cm) (hf : bT_X9_init_281 N sa x0 s0 s1 K M = some o) : KLe K (oK sV o) := by
  unfold bT_X9_init_281 at hf
  obtain ⟨-, hf⟩ := gd_some hf
  obtain ⟨-, hf⟩ := gd_some hf
  exact (kNew_le _ _ _ _).tr (mbT_X9_init_290 _ _ _ _ _ hf)
set_option maxRecDepth 100000 in
set_option maxHeartbeats 4000000 in
theorem wbT_X9_init_281 {p : Program} {l : Launch} {e : Env} {R : Room} {s : State} {m : MethodId} {args : Array Value} {below : List Frame} {meth : Method} {c : Code} {x : Xc} {K0 : Ka} {o : (Ka × Cm) ⊕ (Ka × Cm)} {N : Nat}  (CTX : CT p l s m args meth c x K0 RX9 "<init>" cX9_init 6 none) (hRm : 6 ≤ R.frames ∧ 95 ≤ R.locals) (hRc : nz sV K0 o ≤ R.cells ∧ nu sV K0 o ≤ R.slots) (x0 : Nat) (s0 : Nat) (s1 : Nat) (K : Ka) (M : Cm) (H : Heap) (locs : List Loc) (ls : Array Slot) (hf : bT_X9_init_281 N x.2.2.1 x0 s0 s1 K M = some o) (hL : KLe K0 K) (hR : RC x K M H) (hS : va_S (AC K0) s.heap H locs) (hl : lv_has ls 6 [(0, .ref x0)]) : W p l e R s m args below meth c H locs (kz K - kz K0) (ku K - ku K0) (TQ sV (aQV x K0) (zQV K0) "java/lang/IllegalStateException" x K0 below args s o) (F0 m 281 ls [.ref s1, .ref s0]) := by
  obtain ⟨CX, hno, hlt, hmn⟩ := id CTX
  obtain ⟨hx, hb, hml, hown, hts, hE, hB, hr, hlk⟩ := id CX
  have hcs := nz_le (mbT_X9_init_281  x0 s0 s1 K M hf) hRc
  unfold bT_X9_init_281 at hf
  obtain ⟨hk_s0_10, hf⟩ := gd_some hf
  refine tr_putFR kc_9 CX hmn hR hL hS (v := some s1) ff_X9_125 ⟨rfl, rfl, .inr ⟨_, rfl⟩⟩ hk_s0_10 dX9_init_281 (fun H locs hR hS => ?_)
  refine lv_aload_n hx hb dX9_init_284 rfl (lv_at hl 0 rfl) ?_
  refine lv_sipush (v := 2000) hx hb dX9_init_285 (by decide) ?_
  obtain ⟨hq, hf⟩ := gd_some hf
  have hm1 := mbT_X9_init_290 _ _ _ _ _ hf
  have hb1 := nz_le hm1 hRc
  refine tr_newai CX hL hR hS hq hb1 dX9_init_288 (fun H hR hS => ?_)
  exact (wbT_X9_init_290 CTX hRm hRc) _ _ _ _ _ _ _ _ hf (hL.tr (kNew_le _ _ _ _)) hR hS (lv_sub hl [0] rfl)
def bT_X9_init_272 (N : Nat) (sa : Nat → Nat) (x0 : Nat) (s0 : Nat) (s1 : Nat) (K : Ka) (M : Cm) : Option ((Ka × Cm) ⊕ (Ka × Cm)) := gd (kd K s0 == 10) (gd (decide (¬ (20000 : Int32) < 0 ∧ (20000 : Int32).toNatClampNeg ≤ 1000000)) ((bT_X9_init_281 N sa) x0 x0 (kz K) (kNew K 22 (20000 : Int32).toNatClampNeg (20000 : Int32).toNatClampNeg) (mZ (wR M s0 40 (some s1)) (kz K))))
theorem mbT_X9_init_272 {o : (Ka × Cm) ⊕ (Ka × Cm)} {N : Nat} {sa : Nat → Nat}  (x0 : Nat) (s0 : Nat) (s1 : Nat) (K : Ka) (M : Cm) (hf : bT_X9_init_272 N sa x0 s0 s1 K M = some o) : KLe K (oK sV o) := by
  unfold bT_X9_init_272 at hf
  obtain ⟨-, hf⟩ := gd_some hf
  obtain ⟨-, hf⟩ := gd_some hf
  exact (kNew_le _ _ _ _).tr (mbT_X9_init_281 _ _ _ _ _ hf)
set_option maxRecDepth 100000 in
set_option maxHeartbeats 4000000 in
theorem wbT_X9_init_272 {p : Program} {l : Launch} {e : Env} {R : Room} {s : State} {m : MethodId} {args : Array Value} {below : List Frame} {meth : Method} {c : Code} {x : Xc} {K0 : Ka} {o : (Ka × Cm) ⊕ (Ka × Cm)} {N : Nat}  (CTX : CT p l s m args meth c x K0 RX9 "<init>" cX9_init 6 none) (hRm : 6 ≤ R.frames ∧ 95 ≤ R.locals) (hRc : nz sV K0 o ≤ R.cells ∧ nu sV K0 o ≤ R.slots) (x0 : Nat) (s0 : Nat) (s1 : Nat) (K : Ka) (M : Cm) (H : Heap) (locs : List Loc) (ls : Array Slot) (hf : bT_X9_init_272 N x.2.2.1 x0 s0 s1 K M = some o) (hL : KLe K0 K) (hR : RC x K M H) (hS : va_S (AC K0) s.heap H locs) (hl : lv_has ls 6 [(0, .ref x0)]) : W p l e R s m args below meth c H locs (kz K - kz K0) (ku K - ku K0) (TQ sV (aQV x K0) (zQV K0) "java/lang/IllegalStateException" x K0 below args s o) (F0 m 272 ls [.ref s1, .ref s0]) := by
  obtain ⟨CX, hno, hlt, hmn⟩ := id CTX
  obtain ⟨hx, hb, hml, hown, hts, hE, hB, hr, hlk⟩ := id CX
  have hcs := nz_le (mbT_X9_init_272  x0 s0 s1 K M hf) hRc
  unfold bT_X9_init_272 at hf
  obtain ⟨hk_s0_10, hf⟩ := gd_some hf
  refine tr_putFR kc_9 CX hmn hR hL hS (v := some s1) ff_X9_122 ⟨rfl, rfl, .inr ⟨_, rfl⟩⟩ hk_s0_10 dX9_init_272 (fun H locs hR hS => ?_)
  refine lv_aload_n hx hb dX9_init_275 rfl (lv_at hl 0 rfl) ?_
  refine lv_sipush (v := 20000) hx hb dX9_init_276 (by decide) ?_
  obtain ⟨hq, hf⟩ := gd_some hf
  have hm1 := mbT_X9_init_281 _ _ _ _ _ hf
  have hb1 := nz_le hm1 hRc
  refine tr_newai CX hL hR hS hq hb1 dX9_init_279 (fun H hR hS => ?_)
  exact (wbT_X9_init_281 CTX hRm hRc) _ _ _ _ _ _ _ _ hf (hL.tr (kNew_le _ _ _ _)) hR hS (lv_sub hl [0] rfl)
def bT_X9_init_263 (N : Nat) (sa : Nat → Nat) (x0 : Nat) (s0 : Nat) (s1 : Nat) (K : Ka) (M : Cm) : Option ((Ka × Cm) ⊕ (Ka × Cm)) := gd (kd K s0 == 10) (gd (decide (¬ (20000 : Int32) < 0 ∧ (20000 : Int32).toNatClampNeg ≤ 1000000)) ((bT_X9_init_272 N sa) x0 x0 (kz K) (kNew K 22 (20000 : Int32).toNatClampNeg (20000 : Int32).toNatClampNeg) (mZ (wR M s0 39 (some s1)) (kz K))))
theorem mbT_X9_init_263 {o : (Ka × Cm) ⊕ (Ka × Cm)} {N : Nat} {sa : Nat → Nat}  (x0 : Nat) (s0 : Nat) (s1 : Nat) (K : Ka) (M : Cm) (hf : bT_X9_init_263 N sa x0 s0 s1 K M = some o) : KLe K (oK sV o) := by
  unfold bT_X9_init_263 at hf
  obtain ⟨-, hf⟩ := gd_some hf
  obtain ⟨-, hf⟩ := gd_some hf
  exact (kNew_le _ _ _ _).tr (mbT_X9_init_272 _ _ _ _ _ hf)
set_option maxRecDepth 100000 in
set_option maxHeartbeats 4000000 in
theorem wbT_X9_init_263 {p : Program} {l : Launch} {e : Env} {R : Room} {s : State} {m : MethodId} {args : Array Value} {below : List Frame} {meth : Method} {c : Code} {x : Xc} {K0 : Ka} {o : (Ka × Cm) ⊕ (Ka × Cm)} {N : Nat}  (CTX : CT p l s m args meth c x K0 RX9 "<init>" cX9_init 6 none) (hRm : 6 ≤ R.frames ∧ 95 ≤ R.locals) (hRc : nz sV K0 o ≤ R.cells ∧ nu sV K0 o ≤ R.slots) (x0 : Nat) (s0 : Nat) (s1 : Nat) (K : Ka) (M : Cm) (H : Heap) (locs : List Loc) (ls : Array Slot) (hf : bT_X9_init_263 N x.2.2.1 x0 s0 s1 K M = some o) (hL : KLe K0 K) (hR : RC x K M H) (hS : va_S (AC K0) s.heap H locs) (hl : lv_has ls 6 [(0, .ref x0)]) : W p l e R s m args below meth c H locs (kz K - kz K0) (ku K - ku K0) (TQ sV (aQV x K0) (zQV K0) "java/lang/IllegalStateException" x K0 below args s o) (F0 m 263 ls [.ref s1, .ref s0]) := by
  obtain ⟨CX, hno, hlt, hmn⟩ := id CTX
  obtain ⟨hx, hb, hml, hown, hts, hE, hB, hr, hlk⟩ := id CX
  have hcs := nz_le (mbT_X9_init_263  x0 s0 s1 K M hf) hRc
  unfold bT_X9_init_263 at hf
  obtain ⟨hk_s0_10, hf⟩ := gd_some hf
  refine tr_putFR kc_9 CX hmn hR hL hS (v := some s1) ff_X9_119 ⟨rfl, rfl, .inr ⟨_, rfl⟩⟩ hk_s0_10 dX9_init_263 (fun H locs hR hS => ?_)
  refine lv_aload_n hx hb dX9_init_266 rfl (lv_at hl 0 rfl) ?_
  refine lv_sipush (v := 20000) hx hb dX9_init_267 (by decide) ?_
  obtain ⟨hq, hf⟩ := gd_some hf
  have hm1 := mbT_X9_init_272 _ _ _ _ _ hf
  have hb1 := nz_le hm1 hRc
  refine tr_newai CX hL hR hS hq hb1 dX9_init_270 (fun H hR hS => ?_)
  exact (wbT_X9_init_272 CTX hRm hRc) _ _ _ _ _ _ _ _ hf (hL.tr (kNew_le _ _ _ _)) hR hS (lv_sub hl [0] rfl)
def bT_X9_init_254 (N : Nat) (sa : Nat → Nat) (x0 : Nat) (s0 : Nat) (s1 : Nat) (K : Ka) (M : Cm) : Option ((Ka × Cm) ⊕ (Ka × Cm)) := gd (kd K s0 == 10) (gd (decide (¬ (20000 : Int32) < 0 ∧ (20000 : Int32).toNatClampNeg ≤ 1000000)) ((bT_X9_init_263 N sa) x0 x0 (kz K) (kNew K 22 (20000 : Int32).toNatClampNeg (20000 : Int32).toNatClampNeg) (mZ (wR M s0 37 (some s1)) (kz K))))
theorem mbT_X9_init_254 {o : (Ka × Cm) ⊕ (Ka × Cm)} {N : Nat} {sa : Nat → Nat}  (x0 : Nat) (s0 : Nat) (s1 : Nat) (K : Ka) (M : Cm) (hf : bT_X9_init_254 N sa x0 s0 s1 K M = some o) : KLe K (oK sV o) := by
  unfold bT_X9_init_254 at hf
  obtain ⟨-, hf⟩ := gd_some hf
  obtain ⟨-, hf⟩ := gd_some hf
  exact (kNew_le _ _ _ _).tr (mbT_X9_init_263 _ _ _ _ _ hf)
set_option maxRecDepth 100000 in
set_option maxHeartbeats 4000000 in
theorem wbT_X9_init_254 {p : Program} {l : Launch} {e : Env} {R : Room} {s : State} {m : MethodId} {args : Array Value} {below : List Frame} {meth : Method} {c : Code} {x : Xc} {K0 : Ka} {o : (Ka × Cm) ⊕ (Ka × Cm)} {N : Nat}  (CTX : CT p l s m args meth c x K0 RX9 "<init>" cX9_init 6 none) (hRm : 6 ≤ R.frames ∧ 95 ≤ R.locals) (hRc : nz sV K0 o ≤ R.cells ∧ nu sV K0 o ≤ R.slots) (x0 : Nat) (s0 : Nat) (s1 : Nat) (K : Ka) (M : Cm) (H : Heap) (locs : List Loc) (ls : Array Slot) (hf : bT_X9_init_254 N x.2.2.1 x0 s0 s1 K M = some o) (hL : KLe K0 K) (hR : RC x K M H) (hS : va_S (AC K0) s.heap H locs) (hl : lv_has ls 6 [(0, .ref x0)]) : W p l e R s m args below meth c H locs (kz K - kz K0) (ku K - ku K0) (TQ sV (aQV x K0) (zQV K0) "java/lang/IllegalStateException" x K0 below args s o) (F0 m 254 ls [.ref s1, .ref s0]) := by
  obtain ⟨CX, hno, hlt, hmn⟩ := id CTX
  obtain ⟨hx, hb, hml, hown, hts, hE, hB, hr, hlk⟩ := id CX
  have hcs := nz_le (mbT_X9_init_254  x0 s0 s1 K M hf) hRc
  unfold bT_X9_init_254 at hf
  obtain ⟨hk_s0_10, hf⟩ := gd_some hf
  refine tr_putFR kc_9 CX hmn hR hL hS (v := some s1) ff_X9_116 ⟨rfl, rfl, .inr ⟨_, rfl⟩⟩ hk_s0_10 dX9_init_254 (fun H locs hR hS => ?_)
  refine lv_aload_n hx hb dX9_init_257 rfl (lv_at hl 0 rfl) ?_
  refine lv_sipush (v := 20000) hx hb dX9_init_258 (by decide) ?_
  obtain ⟨hq, hf⟩ := gd_some hf
  have hm1 := mbT_X9_init_263 _ _ _ _ _ hf
  have hb1 := nz_le hm1 hRc
  refine tr_newai CX hL hR hS hq hb1 dX9_init_261 (fun H hR hS => ?_)
  exact (wbT_X9_init_263 CTX hRm hRc) _ _ _ _ _ _ _ _ hf (hL.tr (kNew_le _ _ _ _)) hR hS (lv_sub hl [0] rfl)
def bT_X9_init_246 (N : Nat) (sa : Nat → Nat) (x0 : Nat) (s0 : Nat) (s1 : Nat) (K : Ka) (M : Cm) : Option ((Ka × Cm) ⊕ (Ka × Cm)) := gd (kd K s0 == 10) (gd (decide (¬ (40 : Int32) < 0 ∧ (40 : Int32).toNatClampNeg ≤ 1000000)) ((bT_X9_init_254 N sa) x0 x0 (kz K) (kNew K 22 (40 : Int32).toNatClampNeg (40 : Int32).toNatClampNeg) (mZ (wR M s0 36 (some s1)) (kz K))))
theorem mbT_X9_init_246 {o : (Ka × Cm) ⊕ (Ka × Cm)} {N : Nat} {sa : Nat → Nat}  (x0 : Nat) (s0 : Nat) (s1 : Nat) (K : Ka) (M : Cm) (hf : bT_X9_init_246 N sa x0 s0 s1 K M = some o) : KLe K (oK sV o) := by
  unfold bT_X9_init_246 at hf
  obtain ⟨-, hf⟩ := gd_some hf
  obtain ⟨-, hf⟩ := gd_some hf
  exact (kNew_le _ _ _ _).tr (mbT_X9_init_254 _ _ _ _ _ hf)
set_option maxRecDepth 100000 in
set_option maxHeartbeats 4000000 in
theorem wbT_X9_init_246 {p : Program} {l : Launch} {e : Env} {R : Room} {s : State} {m : MethodId} {args : Array Value} {below : List Frame} {meth : Method} {c : Code} {x : Xc} {K0 : Ka} {o : (Ka × Cm) ⊕ (Ka × Cm)} {N : Nat}  (CTX : CT p l s m args meth c x K0 RX9 "<init>" cX9_init 6 none) (hRm : 6 ≤ R.frames ∧ 95 ≤ R.locals) (hRc : nz sV K0 o ≤ R.cells ∧ nu sV K0 o ≤ R.slots) (x0 : Nat) (s0 : Nat) (s1 : Nat) (K : Ka) (M : Cm) (H : Heap) (locs : List Loc) (ls : Array Slot) (hf : bT_X9_init_246 N x.2.2.1 x0 s0 s1 K M = some o) (hL : KLe K0 K) (hR : RC x K M H) (hS : va_S (AC K0) s.heap H locs) (hl : lv_has ls 6 [(0, .ref x0)]) : W p l e R s m args below meth c H locs (kz K - kz K0) (ku K - ku K0) (TQ sV (aQV x K0) (zQV K0) "java/lang/IllegalStateException" x K0 below args s o) (F0 m 246 ls [.ref s1, .ref s0]) := by
  obtain ⟨CX, hno, hlt, hmn⟩ := id CTX
  obtain ⟨hx, hb, hml, hown, hts, hE, hB, hr, hlk⟩ := id CX
  have hcs := nz_le (mbT_X9_init_246  x0 s0 s1 K M hf) hRc
  unfold bT_X9_init_246 at hf
  obtain ⟨hk_s0_10, hf⟩ := gd_some hf
  refine tr_putFR kc_9 CX hmn hR hL hS (v := some s1) ff_X9_113 ⟨rfl, rfl, .inr ⟨_, rfl⟩⟩ hk_s0_10 dX9_init_246 (fun H locs hR hS => ?_)
  refine lv_aload_n hx hb dX9_init_249 rfl (lv_at hl 0 rfl) ?_
  refine lv_bipush (v := 40) hx hb dX9_init_250 (by decide) ?_
  obtain ⟨hq, hf⟩ := gd_some hf
  have hm1 := mbT_X9_init_254 _ _ _ _ _ hf
  have hb1 := nz_le hm1 hRc
  refine tr_newai CX hL hR hS hq hb1 dX9_init_252 (fun H hR hS => ?_)
  exact (wbT_X9_init_254 CTX hRm hRc) _ _ _ _ _ _ _ _ hf (hL.tr (kNew_le _ _ _ _)) hR hS (lv_sub hl [0] rfl)
def bT_X9_init_238 (N : Nat) (sa : Nat → Nat) (x0 : Nat) (s0 : Nat) (s1 : Nat) (K : Ka) (M : Cm) : Option ((Ka × Cm) ⊕ (Ka × Cm)) := gd (kd K s0 == 10) (gd (decide (¬ (40 : Int32) < 0 ∧ (40 : Int32).toNatClampNeg ≤ 1000000)) ((bT_X9_init_246 N sa) x0 x0 (kz K) (kNew K 23 (40 : Int32).toNatClampNeg (40 : Int32).toNatClampNeg) (mZ (wR M s0 35 (some s1)) (kz K))))
theorem mbT_X9_init_238 {o : (Ka × Cm) ⊕ (Ka × Cm)} {N : Nat} {sa : Nat → Nat}  (x0 : Nat) (s0 : Nat) (s1 : Nat) (K : Ka) (M : Cm) (hf : bT_X9_init_238 N sa x0 s0 s1 K M = some o) : KLe K (oK sV o) := by
  unfold bT_X9_init_238 at hf
  obtain ⟨-, hf⟩ := gd_some hf
  obtain ⟨-, hf⟩ := gd_some hf
  exact (kNew_le _ _ _ _).tr (mbT_X9_init_246 _ _ _ _ _ hf)
set_option maxRecDepth 100000 in
set_option maxHeartbeats 4000000 in
theorem wbT_X9_init_238 {p : Program} {l : Launch} {e : Env} {R : Room} {s : State} {m : MethodId} {args : Array Value} {below : List Frame} {meth : Method} {c : Code} {x : Xc} {K0 : Ka} {o : (Ka × Cm) ⊕ (Ka × Cm)} {N : Nat}  (CTX : CT p l s m args meth c x K0 RX9 "<init>" cX9_init 6 none) (hRm : 6 ≤ R.frames ∧ 95 ≤ R.locals) (hRc : nz sV K0 o ≤ R.cells ∧ nu sV K0 o ≤ R.slots) (x0 : Nat) (s0 : Nat) (s1 : Nat) (K : Ka) (M : Cm) (H : Heap) (locs : List Loc) (ls : Array Slot) (hf : bT_X9_init_238 N x.2.2.1 x0 s0 s1 K M = some o) (hL : KLe K0 K) (hR : RC x K M H) (hS : va_S (AC K0) s.heap H locs) (hl : lv_has ls 6 [(0, .ref x0)]) : W p l e R s m args below meth c H locs (kz K - kz K0) (ku K - ku K0) (TQ sV (aQV x K0) (zQV K0) "java/lang/IllegalStateException" x K0 below args s o) (F0 m 238 ls [.ref s1, .ref s0]) := by
  obtain ⟨CX, hno, hlt, hmn⟩ := id CTX
  obtain ⟨hx, hb, hml, hown, hts, hE, hB, hr, hlk⟩ := id CX
  have hcs := nz_le (mbT_X9_init_238  x0 s0 s1 K M hf) hRc
  unfold bT_X9_init_238 at hf
  obtain ⟨hk_s0_10, hf⟩ := gd_some hf
  refine tr_putFR kc_9 CX hmn hR hL hS (v := some s1) ff_X9_110 ⟨rfl, rfl, .inr ⟨_, rfl⟩⟩ hk_s0_10 dX9_init_238 (fun H locs hR hS => ?_)
  refine lv_aload_n hx hb dX9_init_241 rfl (lv_at hl 0 rfl) ?_
  refine lv_bipush (v := 40) hx hb dX9_init_242 (by decide) ?_
  obtain ⟨hq, hf⟩ := gd_some hf
  have hm1 := mbT_X9_init_246 _ _ _ _ _ hf
  have hb1 := nz_le hm1 hRc
  refine tr_newal CX hL hR hS hq hb1 dX9_init_244 (fun H hR hS => ?_)
  exact (wbT_X9_init_246 CTX hRm hRc) _ _ _ _ _ _ _ _ hf (hL.tr (kNew_le _ _ _ _)) hR hS (lv_sub hl [0] rfl)
def bT_X9_init_231 (N : Nat) (sa : Nat → Nat) (x0 : Nat) (s0 : Nat) (s1 : Nat) (K : Ka) (M : Cm) : Option ((Ka × Cm) ⊕ (Ka × Cm)) := gd (kd K s0 == 10) (gd (decide (¬ (2 : Int32) < 0 ∧ (2 : Int32).toNatClampNeg ≤ 1000000)) ((bT_X9_init_238 N sa) x0 x0 (kz K) (kNew K 22 (2 : Int32).toNatClampNeg (2 : Int32).toNatClampNeg) (mZ (wR M s0 34 (some s1)) (kz K))))
theorem mbT_X9_init_231 {o : (Ka × Cm) ⊕ (Ka × Cm)} {N : Nat} {sa : Nat → Nat}  (x0 : Nat) (s0 : Nat) (s1 : Nat) (K : Ka) (M : Cm) (hf : bT_X9_init_231 N sa x0 s0 s1 K M = some o) : KLe K (oK sV o) := by
  unfold bT_X9_init_231 at hf
  obtain ⟨-, hf⟩ := gd_some hf
  obtain ⟨-, hf⟩ := gd_some hf
  exact (kNew_le _ _ _ _).tr (mbT_X9_init_238 _ _ _ _ _ hf)
set_option maxRecDepth 100000 in
set_option maxHeartbeats 4000000 in
theorem wbT_X9_init_231 {p : Program} {l : Launch} {e : Env} {R : Room} {s : State} {m : MethodId} {args : Array Value} {below : List Frame} {meth : Method} {c : Code} {x : Xc} {K0 : Ka} {o : (Ka × Cm) ⊕ (Ka × Cm)} {N : Nat}  (CTX : CT p l s m args meth c x K0 RX9 "<init>" cX9_init 6 none) (hRm : 6 ≤ R.frames ∧ 95 ≤ R.locals) (hRc : nz sV K0 o ≤ R.cells ∧ nu sV K0 o ≤ R.slots) (x0 : Nat) (s0 : Nat) (s1 : Nat) (K : Ka) (M : Cm) (H : Heap) (locs : List Loc) (ls : Array Slot) (hf : bT_X9_init_231 N x.2.2.1 x0 s0 s1 K M = some o) (hL : KLe K0 K) (hR : RC x K M H) (hS : va_S (AC K0) s.heap H locs) (hl : lv_has ls 6 [(0, .ref x0)]) : W p l e R s m args below meth c H locs (kz K - kz K0) (ku K - ku K0) (TQ sV (aQV x K0) (zQV K0) "java/lang/IllegalStateException" x K0 below args s o) (F0 m 231 ls [.ref s1, .ref s0]) := by
  obtain ⟨CX, hno, hlt, hmn⟩ := id CTX
  obtain ⟨hx, hb, hml, hown, hts, hE, hB, hr, hlk⟩ := id CX
  have hcs := nz_le (mbT_X9_init_231  x0 s0 s1 K M hf) hRc
  unfold bT_X9_init_231 at hf
  obtain ⟨hk_s0_10, hf⟩ := gd_some hf
  refine tr_putFR kc_9 CX hmn hR hL hS (v := some s1) ff_X9_107 ⟨rfl, rfl, .inr ⟨_, rfl⟩⟩ hk_s0_10 dX9_init_231 (fun H locs hR hS => ?_)
  refine lv_aload_n hx hb dX9_init_234 rfl (lv_at hl 0 rfl) ?_
  refine lv_iconst (v := 2) hx hb dX9_init_235 (by decide) ?_
  obtain ⟨hq, hf⟩ := gd_some hf
  have hm1 := mbT_X9_init_238 _ _ _ _ _ hf
  have hb1 := nz_le hm1 hRc
  refine tr_newai CX hL hR hS hq hb1 dX9_init_236 (fun H hR hS => ?_)
  exact (wbT_X9_init_238 CTX hRm hRc) _ _ _ _ _ _ _ _ hf (hL.tr (kNew_le _ _ _ _)) hR hS (lv_sub hl [0] rfl)
def bT_X9_init_222 (N : Nat) (sa : Nat → Nat) (x0 : Nat) (s0 : Nat) (s1 : Nat) (K : Ka) (M : Cm) : Option ((Ka × Cm) ⊕ (Ka × Cm)) := gd (kd K s0 == 10) (gd (decide (¬ (1152 : Int32) < 0 ∧ (1152 : Int32).toNatClampNeg ≤ 1000000)) ((bT_X9_init_231 N sa) x0 x0 (kz K) (kNew K 24 (1152 : Int32).toNatClampNeg (1152 : Int32).toNatClampNeg) (mZ (wR M s0 33 (some s1)) (kz K))))
theorem mbT_X9_init_222 {o : (Ka × Cm) ⊕ (Ka × Cm)} {N : Nat} {sa : Nat → Nat}  (x0 : Nat) (s0 : Nat) (s1 : Nat) (K : Ka) (M : Cm) (hf : bT_X9_init_222 N sa x0 s0 s1 K M = some o) : KLe K (oK sV o) := by
  unfold bT_X9_init_222 at hf
  obtain ⟨-, hf⟩ := gd_some hf
  obtain ⟨-, hf⟩ := gd_some hf
  exact (kNew_le _ _ _ _).tr (mbT_X9_init_231 _ _ _ _ _ hf)
set_option maxRecDepth 100000 in
set_option maxHeartbeats 4000000 in
theorem wbT_X9_init_222 {p : Program} {l : Launch} {e : Env} {R : Room} {s : State} {m : MethodId} {args : Array Value} {below : List Frame} {meth : Method} {c : Code} {x : Xc} {K0 : Ka} {o : (Ka × Cm) ⊕ (Ka × Cm)} {N : Nat}  (CTX : CT p l s m args meth c x K0 RX9 "<init>" cX9_init 6 none) (hRm : 6 ≤ R.frames ∧ 95 ≤ R.locals) (hRc : nz sV K0 o ≤ R.cells ∧ nu sV K0 o ≤ R.slots) (x0 : Nat) (s0 : Nat) (s1 : Nat) (K : Ka) (M : Cm) (H : Heap) (locs : List Loc) (ls : Array Slot) (hf : bT_X9_init_222 N x.2.2.1 x0 s0 s1 K M = some o) (hL : KLe K0 K) (hR : RC x K M H) (hS : va_S (AC K0) s.heap H locs) (hl : lv_has ls 6 [(0, .ref x0)]) : W p l e R s m args below meth c H locs (kz K - kz K0) (ku K - ku K0) (TQ sV (aQV x K0) (zQV K0) "java/lang/IllegalStateException" x K0 below args s o) (F0 m 222 ls [.ref s1, .ref s0]) := by
  obtain ⟨CX, hno, hlt, hmn⟩ := id CTX
  obtain ⟨hx, hb, hml, hown, hts, hE, hB, hr, hlk⟩ := id CX
  have hcs := nz_le (mbT_X9_init_222  x0 s0 s1 K M hf) hRc
  unfold bT_X9_init_222 at hf
  obtain ⟨hk_s0_10, hf⟩ := gd_some hf
  refine tr_putFR kc_9 CX hmn hR hL hS (v := some s1) ff_X9_104 ⟨rfl, rfl, .inr ⟨_, rfl⟩⟩ hk_s0_10 dX9_init_222 (fun H locs hR hS => ?_)
  refine lv_aload_n hx hb dX9_init_225 rfl (lv_at hl 0 rfl) ?_
  refine lv_sipush (v := 1152) hx hb dX9_init_226 (by decide) ?_
  obtain ⟨hq, hf⟩ := gd_some hf
  have hm1 := mbT_X9_init_231 _ _ _ _ _ hf
  have hb1 := nz_le hm1 hRc
  refine tr_newaz CX hL hR hS hq hb1 dX9_init_229 (fun H hR hS => ?_)
  exact (wbT_X9_init_231 CTX hRm hRc) _ _ _ _ _ _ _ _ hf (hL.tr (kNew_le _ _ _ _)) hR hS (lv_sub hl [0] rfl)
def bT_X9_init_214 (N : Nat) (sa : Nat → Nat) (x0 : Nat) (s0 : Nat) (s1 : Nat) (K : Ka) (M : Cm) : Option ((Ka × Cm) ⊕ (Ka × Cm)) := gd (kd K s0 == 10) (gd (decide (¬ (48 : Int32) < 0 ∧ (48 : Int32).toNatClampNeg ≤ 1000000)) ((bT_X9_init_222 N sa) x0 x0 (kz K) (kNew K 22 (48 : Int32).toNatClampNeg (48 : Int32).toNatClampNeg) (mZ (wR M s0 32 (some s1)) (kz K))))
theorem mbT_X9_init_214 {o : (Ka × Cm) ⊕ (Ka × Cm)} {N : Nat} {sa : Nat → Nat}  (x0 : Nat) (s0 : Nat) (s1 : Nat) (K : Ka) (M : Cm) (hf : bT_X9_init_214 N sa x0 s0 s1 K M = some o) : KLe K (oK sV o) := by
  unfold bT_X9_init_214 at hf
  obtain ⟨-, hf⟩ := gd_some hf
  obtain ⟨-, hf⟩ := gd_some hf
  exact (kNew_le _ _ _ _).tr (mbT_X9_init_222 _ _ _ _ _ hf)
set_option maxRecDepth 100000 in
set_option maxHeartbeats 4000000 in
theorem wbT_X9_init_214 {p : Program} {l : Launch} {e : Env} {R : Room} {s : State} {m : MethodId} {args : Array Value} {below : List Frame} {meth : Method} {c : Code} {x : Xc} {K0 : Ka} {o : (Ka × Cm) ⊕ (Ka × Cm)} {N : Nat}  (CTX : CT p l s m args meth c x K0 RX9 "<init>" cX9_init 6 none) (hRm : 6 ≤ R.frames ∧ 95 ≤ R.locals) (hRc : nz sV K0 o ≤ R.cells ∧ nu sV K0 o ≤ R.slots) (x0 : Nat) (s0 : Nat) (s1 : Nat) (K : Ka) (M : Cm) (H : Heap) (locs : List Loc) (ls : Array Slot) (hf : bT_X9_init_214 N x.2.2.1 x0 s0 s1 K M = some o) (hL : KLe K0 K) (hR : RC x K M H) (hS : va_S (AC K0) s.heap H locs) (hl : lv_has ls 6 [(0, .ref x0)]) : W p l e R s m args below meth c H locs (kz K - kz K0) (ku K - ku K0) (TQ sV (aQV x K0) (zQV K0) "java/lang/IllegalStateException" x K0 below args s o) (F0 m 214 ls [.ref s1, .ref s0]) := by
  obtain ⟨CX, hno, hlt, hmn⟩ := id CTX
  obtain ⟨hx, hb, hml, hown, hts, hE, hB, hr, hlk⟩ := id CX
  have hcs := nz_le (mbT_X9_init_214  x0 s0 s1 K M hf) hRc
  unfold bT_X9_init_214 at hf
  obtain ⟨hk_s0_10, hf⟩ := gd_some hf
  refine tr_putFR kc_9 CX hmn hR hL hS (v := some s1) ff_X9_101 ⟨rfl, rfl, .inr ⟨_, rfl⟩⟩ hk_s0_10 dX9_init_214 (fun H locs hR hS => ?_)
  refine lv_aload_n hx hb dX9_init_217 rfl (lv_at hl 0 rfl) ?_
  refine lv_bipush (v := 48) hx hb dX9_init_218 (by decide) ?_
  obtain ⟨hq, hf⟩ := gd_some hf
  have hm1 := mbT_X9_init_222 _ _ _ _ _ hf
  have hb1 := nz_le hm1 hRc
  refine tr_newai CX hL hR hS hq hb1 dX9_init_220 (fun H hR hS => ?_)
  exact (wbT_X9_init_222 CTX hRm hRc) _ _ _ _ _ _ _ _ hf (hL.tr (kNew_le _ _ _ _)) hR hS (lv_sub hl [0] rfl)
def bT_X9_init_206 (N : Nat) (sa : Nat → Nat) (x0 : Nat) (s0 : Nat) (s1 : Nat) (K : Ka) (M : Cm) : Option ((Ka × Cm) ⊕ (Ka × Cm)) := gd (kd K s0 == 10) (gd (decide (¬ (48 : Int32) < 0 ∧ (48 : Int32).toNatClampNeg ≤ 1000000)) ((bT_X9_init_214 N sa) x0 x0 (kz K) (kNew K 22 (48 : Int32).toNatClampNeg (48 : Int32).toNatClampNeg) (mZ (wR M s0 31 (some s1)) (kz K))))
theorem mbT_X9_init_206 {o : (Ka × Cm) ⊕ (Ka × Cm)} {N : Nat} {sa : Nat → Nat}  (x0 : Nat) (s0 : Nat) (s1 : Nat) (K : Ka) (M : Cm) (hf : bT_X9_init_206 N sa x0 s0 s1 K M = some o) : KLe K (oK sV o) := by
  unfold bT_X9_init_206 at hf
  obtain ⟨-, hf⟩ := gd_some hf
  obtain ⟨-, hf⟩ := gd_some hf
  exact (kNew_le _ _ _ _).tr (mbT_X9_init_214 _ _ _ _ _ hf)
set_option maxRecDepth 100000 in
set_option maxHeartbeats 4000000 in
theorem wbT_X9_init_206 {p : Program} {l : Launch} {e : Env} {R : Room} {s : State} {m : MethodId} {args : Array Value} {below : List Frame} {meth : Method} {c : Code} {x : Xc} {K0 : Ka} {o : (Ka × Cm) ⊕ (Ka × Cm)} {N : Nat}  (CTX : CT p l s m args meth c x K0 RX9 "<init>" cX9_init 6 none) (hRm : 6 ≤ R.frames ∧ 95 ≤ R.locals) (hRc : nz sV K0 o ≤ R.cells ∧ nu sV K0 o ≤ R.slots) (x0 : Nat) (s0 : Nat) (s1 : Nat) (K : Ka) (M : Cm) (H : Heap) (locs : List Loc) (ls : Array Slot) (hf : bT_X9_init_206 N x.2.2.1 x0 s0 s1 K M = some o) (hL : KLe K0 K) (hR : RC x K M H) (hS : va_S (AC K0) s.heap H locs) (hl : lv_has ls 6 [(0, .ref x0)]) : W p l e R s m args below meth c H locs (kz K - kz K0) (ku K - ku K0) (TQ sV (aQV x K0) (zQV K0) "java/lang/IllegalStateException" x K0 below args s o) (F0 m 206 ls [.ref s1, .ref s0]) := by
  obtain ⟨CX, hno, hlt, hmn⟩ := id CTX
  obtain ⟨hx, hb, hml, hown, hts, hE, hB, hr, hlk⟩ := id CX
  have hcs := nz_le (mbT_X9_init_206  x0 s0 s1 K M hf) hRc
  unfold bT_X9_init_206 at hf
  obtain ⟨hk_s0_10, hf⟩ := gd_some hf
  refine tr_putFR kc_9 CX hmn hR hL hS (v := some s1) ff_X9_98 ⟨rfl, rfl, .inr ⟨_, rfl⟩⟩ hk_s0_10 dX9_init_206 (fun H locs hR hS => ?_)
  refine lv_aload_n hx hb dX9_init_209 rfl (lv_at hl 0 rfl) ?_
  refine lv_bipush (v := 48) hx hb dX9_init_210 (by decide) ?_
  obtain ⟨hq, hf⟩ := gd_some hf
  have hm1 := mbT_X9_init_214 _ _ _ _ _ hf
  have hb1 := nz_le hm1 hRc
  refine tr_newai CX hL hR hS hq hb1 dX9_init_212 (fun H hR hS => ?_)
  exact (wbT_X9_init_214 CTX hRm hRc) _ _ _ _ _ _ _ _ hf (hL.tr (kNew_le _ _ _ _)) hR hS (lv_sub hl [0] rfl)
def bT_X9_init_198 (N : Nat) (sa : Nat → Nat) (x0 : Nat) (s0 : Nat) (s1 : Nat) (K : Ka) (M : Cm) : Option ((Ka × Cm) ⊕ (Ka × Cm)) := gd (kd K s0 == 10) (gd (decide (¬ (48 : Int32) < 0 ∧ (48 : Int32).toNatClampNeg ≤ 1000000)) ((bT_X9_init_206 N sa) x0 x0 (kz K) (kNew K 22 (48 : Int32).toNatClampNeg (48 : Int32).toNatClampNeg) (mZ (wR M s0 30 (some s1)) (kz K))))
theorem mbT_X9_init_198 {o : (Ka × Cm) ⊕ (Ka × Cm)} {N : Nat} {sa : Nat → Nat}  (x0 : Nat) (s0 : Nat) (s1 : Nat) (K : Ka) (M : Cm) (hf : bT_X9_init_198 N sa x0 s0 s1 K M = some o) : KLe K (oK sV o) := by
  unfold bT_X9_init_198 at hf
  obtain ⟨-, hf⟩ := gd_some hf
  obtain ⟨-, hf⟩ := gd_some hf
  exact (kNew_le _ _ _ _).tr (mbT_X9_init_206 _ _ _ _ _ hf)
set_option maxRecDepth 100000 in
set_option maxHeartbeats 4000000 in
theorem wbT_X9_init_198 {p : Program} {l : Launch} {e : Env} {R : Room} {s : State} {m : MethodId} {args : Array Value} {below : List Frame} {meth : Method} {c : Code} {x : Xc} {K0 : Ka} {o : (Ka × Cm) ⊕ (Ka × Cm)} {N : Nat}  (CTX : CT p l s m args meth c x K0 RX9 "<init>" cX9_init 6 none) (hRm : 6 ≤ R.frames ∧ 95 ≤ R.locals) (hRc : nz sV K0 o ≤ R.cells ∧ nu sV K0 o ≤ R.slots) (x0 : Nat) (s0 : Nat) (s1 : Nat) (K : Ka) (M : Cm) (H : Heap) (locs : List Loc) (ls : Array Slot) (hf : bT_X9_init_198 N x.2.2.1 x0 s0 s1 K M = some o) (hL : KLe K0 K) (hR : RC x K M H) (hS : va_S (AC K0) s.heap H locs) (hl : lv_has ls 6 [(0, .ref x0)]) : W p l e R s m args below meth c H locs (kz K - kz K0) (ku K - ku K0) (TQ sV (aQV x K0) (zQV K0) "java/lang/IllegalStateException" x K0 below args s o) (F0 m 198 ls [.ref s1, .ref s0]) := by
  obtain ⟨CX, hno, hlt, hmn⟩ := id CTX
  obtain ⟨hx, hb, hml, hown, hts, hE, hB, hr, hlk⟩ := id CX
  have hcs := nz_le (mbT_X9_init_198  x0 s0 s1 K M hf) hRc
  unfold bT_X9_init_198 at hf
  obtain ⟨hk_s0_10, hf⟩ := gd_some hf
  refine tr_putFR kc_9 CX hmn hR hL hS (v := some s1) ff_X9_95 ⟨rfl, rfl, .inr ⟨_, rfl⟩⟩ hk_s0_10 dX9_init_198 (fun H locs hR hS => ?_)
  refine lv_aload_n hx hb dX9_init_201 rfl (lv_at hl 0 rfl) ?_
  refine lv_bipush (v := 48) hx hb dX9_init_202 (by decide) ?_
  obtain ⟨hq, hf⟩ := gd_some hf
  have hm1 := mbT_X9_init_206 _ _ _ _ _ hf
  have hb1 := nz_le hm1 hRc
  refine tr_newai CX hL hR hS hq hb1 dX9_init_204 (fun H hR hS => ?_)
  exact (wbT_X9_init_206 CTX hRm hRc) _ _ _ _ _ _ _ _ hf (hL.tr (kNew_le _ _ _ _)) hR hS (lv_sub hl [0] rfl)
def bT_X9_init_190 (N : Nat) (sa : Nat → Nat) (x0 : Nat) (s0 : Nat) (s1 : Nat) (K : Ka) (M : Cm) : Option ((Ka × Cm) ⊕ (Ka × Cm)) := gd (kd K s0 == 10) (gd (decide (¬ (48 : Int32) < 0 ∧ (48 : Int32).toNatClampNeg ≤ 1000000)) ((bT_X9_init_198 N sa) x0 x0 (kz K) (kNew K 22 (48 : Int32).toNatClampNeg (48 : Int32).toNatClampNeg) (mZ (wR M s0 29 (some s1)) (kz K))))
theorem mbT_X9_init_190 {o : (Ka × Cm) ⊕ (Ka × Cm)} {N : Nat} {sa : Nat → Nat}  (x0 : Nat) (s0 : Nat) (s1 : Nat) (K : Ka) (M : Cm) (hf : bT_X9_init_190 N sa x0 s0 s1 K M = some o) : KLe K (oK sV o) := by
  unfold bT_X9_init_190 at hf
  obtain ⟨-, hf⟩ := gd_some hf
  obtain ⟨-, hf⟩ := gd_some hf
  exact (kNew_le _ _ _ _).tr (mbT_X9_init_198 _ _ _ _ _ hf)
set_option maxRecDepth 100000 in
set_option maxHeartbeats 4000000 in
theorem wbT_X9_init_190 {p : Program} {l : Launch} {e : Env} {R : Room} {s : State} {m : MethodId} {args : Array Value} {below : List Frame} {meth : Method} {c : Code} {x : Xc} {K0 : Ka} {o : (Ka × Cm) ⊕ (Ka × Cm)} {N : Nat}  (CTX : CT p l s m args meth c x K0 RX9 "<init>" cX9_init 6 none) (hRm : 6 ≤ R.frames ∧ 95 ≤ R.locals) (hRc : nz sV K0 o ≤ R.cells ∧ nu sV K0 o ≤ R.slots) (x0 : Nat) (s0 : Nat) (s1 : Nat) (K : Ka) (M : Cm) (H : Heap) (locs : List Loc) (ls : Array Slot) (hf : bT_X9_init_190 N x.2.2.1 x0 s0 s1 K M = some o) (hL : KLe K0 K) (hR : RC x K M H) (hS : va_S (AC K0) s.heap H locs) (hl : lv_has ls 6 [(0, .ref x0)]) : W p l e R s m args below meth c H locs (kz K - kz K0) (ku K - ku K0) (TQ sV (aQV x K0) (zQV K0) "java/lang/IllegalStateException" x K0 below args s o) (F0 m 190 ls [.ref s1, .ref s0]) := by
  obtain ⟨CX, hno, hlt, hmn⟩ := id CTX
  obtain ⟨hx, hb, hml, hown, hts, hE, hB, hr, hlk⟩ := id CX
  have hcs := nz_le (mbT_X9_init_190  x0 s0 s1 K M hf) hRc
  unfold bT_X9_init_190 at hf
  obtain ⟨hk_s0_10, hf⟩ := gd_some hf
  refine tr_putFR kc_9 CX hmn hR hL hS (v := some s1) ff_X9_92 ⟨rfl, rfl, .inr ⟨_, rfl⟩⟩ hk_s0_10 dX9_init_190 (fun H locs hR hS => ?_)
  refine lv_aload_n hx hb dX9_init_193 rfl (lv_at hl 0 rfl) ?_
  refine lv_bipush (v := 48) hx hb dX9_init_194 (by decide) ?_
  obtain ⟨hq, hf⟩ := gd_some hf
  have hm1 := mbT_X9_init_198 _ _ _ _ _ hf
  have hb1 := nz_le hm1 hRc
  refine tr_newai CX hL hR hS hq hb1 dX9_init_196 (fun H hR hS => ?_)
  exact (wbT_X9_init_198 CTX hRm hRc) _ _ _ _ _ _ _ _ hf (hL.tr (kNew_le _ _ _ _)) hR hS (lv_sub hl [0] rfl)
def bT_X9_init_181 (N : Nat) (sa : Nat → Nat) (x0 : Nat) (s0 : Nat) (s1 : Nat) (K : Ka) (M : Cm) : Option ((Ka × Cm) ⊕ (Ka × Cm)) := gd (kd K s0 == 10) (gd (decide (¬ (384 : Int32) < 0 ∧ (384 : Int32).toNatClampNeg ≤ 1000000)) ((bT_X9_init_190 N sa) x0 x0 (kz K) (kNew K 22 (384 : Int32).toNatClampNeg (384 : Int32).toNatClampNeg) (mZ (wR M s0 28 (some s1)) (kz K))))
theorem mbT_X9_init_181 {o : (Ka × Cm) ⊕ (Ka × Cm)} {N : Nat} {sa : Nat → Nat}  (x0 : Nat) (s0 : Nat) (s1 : Nat) (K : Ka) (M : Cm) (hf : bT_X9_init_181 N sa x0 s0 s1 K M = some o) : KLe K (oK sV o) := by
  unfold bT_X9_init_181 at hf
  obtain ⟨-, hf⟩ := gd_some hf
  obtain ⟨-, hf⟩ := gd_some hf
  exact (kNew_le _ _ _ _).tr (mbT_X9_init_190 _ _ _ _ _ hf)
set_option maxRecDepth 100000 in
set_option maxHeartbeats 4000000 in
theorem wbT_X9_init_181 {p : Program} {l : Launch} {e : Env} {R : Room} {s : State} {m : MethodId} {args : Array Value} {below : List Frame} {meth : Method} {c : Code} {x : Xc} {K0 : Ka} {o : (Ka × Cm) ⊕ (Ka × Cm)} {N : Nat}  (CTX : CT p l s m args meth c x K0 RX9 "<init>" cX9_init 6 none) (hRm : 6 ≤ R.frames ∧ 95 ≤ R.locals) (hRc : nz sV K0 o ≤ R.cells ∧ nu sV K0 o ≤ R.slots) (x0 : Nat) (s0 : Nat) (s1 : Nat) (K : Ka) (M : Cm) (H : Heap) (locs : List Loc) (ls : Array Slot) (hf : bT_X9_init_181 N x.2.2.1 x0 s0 s1 K M = some o) (hL : KLe K0 K) (hR : RC x K M H) (hS : va_S (AC K0) s.heap H locs) (hl : lv_has ls 6 [(0, .ref x0)]) : W p l e R s m args below meth c H locs (kz K - kz K0) (ku K - ku K0) (TQ sV (aQV x K0) (zQV K0) "java/lang/IllegalStateException" x K0 below args s o) (F0 m 181 ls [.ref s1, .ref s0]) := by
  obtain ⟨CX, hno, hlt, hmn⟩ := id CTX
  obtain ⟨hx, hb, hml, hown, hts, hE, hB, hr, hlk⟩ := id CX
  have hcs := nz_le (mbT_X9_init_181  x0 s0 s1 K M hf) hRc
  unfold bT_X9_init_181 at hf
  obtain ⟨hk_s0_10, hf⟩ := gd_some hf
  refine tr_putFR kc_9 CX hmn hR hL hS (v := some s1) ff_X9_89 ⟨rfl, rfl, .inr ⟨_, rfl⟩⟩ hk_s0_10 dX9_init_181 (fun H locs hR hS => ?_)
  refine lv_aload_n hx hb dX9_init_184 rfl (lv_at hl 0 rfl) ?_
  refine lv_sipush (v := 384) hx hb dX9_init_185 (by decide) ?_
  obtain ⟨hq, hf⟩ := gd_some hf
  have hm1 := mbT_X9_init_190 _ _ _ _ _ hf
  have hb1 := nz_le hm1 hRc
  refine tr_newai CX hL hR hS hq hb1 dX9_init_188 (fun H hR hS => ?_)
  exact (wbT_X9_init_190 CTX hRm hRc) _ _ _ _ _ _ _ _ hf (hL.tr (kNew_le _ _ _ _)) hR hS (lv_sub hl [0] rfl)
def bT_X9_init_172 (N : Nat) (sa : Nat → Nat) (x0 : Nat) (s0 : Nat) (s1 : Nat) (K : Ka) (M : Cm) : Option ((Ka × Cm) ⊕ (Ka × Cm)) := gd (kd K s0 == 10) (gd (decide (¬ (384 : Int32) < 0 ∧ (384 : Int32).toNatClampNeg ≤ 1000000)) ((bT_X9_init_181 N sa) x0 x0 (kz K) (kNew K 22 (384 : Int32).toNatClampNeg (384 : Int32).toNatClampNeg) (mZ (wR M s0 27 (some s1)) (kz K))))
theorem mbT_X9_init_172 {o : (Ka × Cm) ⊕ (Ka × Cm)} {N : Nat} {sa : Nat → Nat}  (x0 : Nat) (s0 : Nat) (s1 : Nat) (K : Ka) (M : Cm) (hf : bT_X9_init_172 N sa x0 s0 s1 K M = some o) : KLe K (oK sV o) := by
  unfold bT_X9_init_172 at hf
  obtain ⟨-, hf⟩ := gd_some hf
  obtain ⟨-, hf⟩ := gd_some hf
  exact (kNew_le _ _ _ _).tr (mbT_X9_init_181 _ _ _ _ _ hf)
set_option maxRecDepth 100000 in
set_option maxHeartbeats 4000000 in
theorem wbT_X9_init_172 {p : Program} {l : Launch} {e : Env} {R : Room} {s : State} {m : MethodId} {args : Array Value} {below : List Frame} {meth : Method} {c : Code} {x : Xc} {K0 : Ka} {o : (Ka × Cm) ⊕ (Ka × Cm)} {N : Nat}  (CTX : CT p l s m args meth c x K0 RX9 "<init>" cX9_init 6 none) (hRm : 6 ≤ R.frames ∧ 95 ≤ R.locals) (hRc : nz sV K0 o ≤ R.cells ∧ nu sV K0 o ≤ R.slots) (x0 : Nat) (s0 : Nat) (s1 : Nat) (K : Ka) (M : Cm) (H : Heap) (locs : List Loc) (ls : Array Slot) (hf : bT_X9_init_172 N x.2.2.1 x0 s0 s1 K M = some o) (hL : KLe K0 K) (hR : RC x K M H) (hS : va_S (AC K0) s.heap H locs) (hl : lv_has ls 6 [(0, .ref x0)]) : W p l e R s m args below meth c H locs (kz K - kz K0) (ku K - ku K0) (TQ sV (aQV x K0) (zQV K0) "java/lang/IllegalStateException" x K0 below args s o) (F0 m 172 ls [.ref s1, .ref s0]) := by
  obtain ⟨CX, hno, hlt, hmn⟩ := id CTX
  obtain ⟨hx, hb, hml, hown, hts, hE, hB, hr, hlk⟩ := id CX
  have hcs := nz_le (mbT_X9_init_172  x0 s0 s1 K M hf) hRc
  unfold bT_X9_init_172 at hf
  obtain ⟨hk_s0_10, hf⟩ := gd_some hf
  refine tr_putFR kc_9 CX hmn hR hL hS (v := some s1) ff_X9_86 ⟨rfl, rfl, .inr ⟨_, rfl⟩⟩ hk_s0_10 dX9_init_172 (fun H locs hR hS => ?_)
  refine lv_aload_n hx hb dX9_init_175 rfl (lv_at hl 0 rfl) ?_
  refine lv_sipush (v := 384) hx hb dX9_init_176 (by decide) ?_
  obtain ⟨hq, hf⟩ := gd_some hf
  have hm1 := mbT_X9_init_181 _ _ _ _ _ hf
  have hb1 := nz_le hm1 hRc
  refine tr_newai CX hL hR hS hq hb1 dX9_init_179 (fun H hR hS => ?_)
  exact (wbT_X9_init_181 CTX hRm hRc) _ _ _ _ _ _ _ _ hf (hL.tr (kNew_le _ _ _ _)) hR hS (lv_sub hl [0] rfl)
def bT_X9_init_163 (N : Nat) (sa : Nat → Nat) (x0 : Nat) (s0 : Nat) (s1 : Nat) (K : Ka) (M : Cm) : Option ((Ka × Cm) ⊕ (Ka × Cm)) := gd (kd K s0 == 10) (gd (decide (¬ (384 : Int32) < 0 ∧ (384 : Int32).toNatClampNeg ≤ 1000000)) ((bT_X9_init_172 N sa) x0 x0 (kz K) (kNew K 24 (384 : Int32).toNatClampNeg (384 : Int32).toNatClampNeg) (mZ (wR M s0 26 (some s1)) (kz K))))
theorem mbT_X9_init_163 {o : (Ka × Cm) ⊕ (Ka × Cm)} {N : Nat} {sa : Nat → Nat}  (x0 : Nat) (s0 : Nat) (s1 : Nat) (K : Ka) (M : Cm) (hf : bT_X9_init_163 N sa x0 s0 s1 K M = some o) : KLe K (oK sV o) := by
  unfold bT_X9_init_163 at hf
  obtain ⟨-, hf⟩ := gd_some hf
  obtain ⟨-, hf⟩ := gd_some hf
  exact (kNew_le _ _ _ _).tr (mbT_X9_init_172 _ _ _ _ _ hf)
set_option maxRecDepth 100000 in
set_option maxHeartbeats 4000000 in
theorem wbT_X9_init_163 {p : Program} {l : Launch} {e : Env} {R : Room} {s : State} {m : MethodId} {args : Array Value} {below : List Frame} {meth : Method} {c : Code} {x : Xc} {K0 : Ka} {o : (Ka × Cm) ⊕ (Ka × Cm)} {N : Nat}  (CTX : CT p l s m args meth c x K0 RX9 "<init>" cX9_init 6 none) (hRm : 6 ≤ R.frames ∧ 95 ≤ R.locals) (hRc : nz sV K0 o ≤ R.cells ∧ nu sV K0 o ≤ R.slots) (x0 : Nat) (s0 : Nat) (s1 : Nat) (K : Ka) (M : Cm) (H : Heap) (locs : List Loc) (ls : Array Slot) (hf : bT_X9_init_163 N x.2.2.1 x0 s0 s1 K M = some o) (hL : KLe K0 K) (hR : RC x K M H) (hS : va_S (AC K0) s.heap H locs) (hl : lv_has ls 6 [(0, .ref x0)]) : W p l e R s m args below meth c H locs (kz K - kz K0) (ku K - ku K0) (TQ sV (aQV x K0) (zQV K0) "java/lang/IllegalStateException" x K0 below args s o) (F0 m 163 ls [.ref s1, .ref s0]) := by
  obtain ⟨CX, hno, hlt, hmn⟩ := id CTX
  obtain ⟨hx, hb, hml, hown, hts, hE, hB, hr, hlk⟩ := id CX
  have hcs := nz_le (mbT_X9_init_163  x0 s0 s1 K M hf) hRc
  unfold bT_X9_init_163 at hf
  obtain ⟨hk_s0_10, hf⟩ := gd_some hf
  refine tr_putFR kc_9 CX hmn hR hL hS (v := some s1) ff_X9_83 ⟨rfl, rfl, .inr ⟨_, rfl⟩⟩ hk_s0_10 dX9_init_163 (fun H locs hR hS => ?_)
  refine lv_aload_n hx hb dX9_init_166 rfl (lv_at hl 0 rfl) ?_
  refine lv_sipush (v := 384) hx hb dX9_init_167 (by decide) ?_
  obtain ⟨hq, hf⟩ := gd_some hf
  have hm1 := mbT_X9_init_172 _ _ _ _ _ hf
  have hb1 := nz_le hm1 hRc
  refine tr_newaz CX hL hR hS hq hb1 dX9_init_170 (fun H hR hS => ?_)
  exact (wbT_X9_init_172 CTX hRm hRc) _ _ _ _ _ _ _ _ hf (hL.tr (kNew_le _ _ _ _)) hR hS (lv_sub hl [0] rfl)
def bT_X9_init_154 (N : Nat) (sa : Nat → Nat) (x0 : Nat) (s0 : Nat) (s1 : Nat) (K : Ka) (M : Cm) : Option ((Ka × Cm) ⊕ (Ka × Cm)) := gd (kd K s0 == 10) (gd (decide (¬ (384 : Int32) < 0 ∧ (384 : Int32).toNatClampNeg ≤ 1000000)) ((bT_X9_init_163 N sa) x0 x0 (kz K) (kNew K 23 (384 : Int32).toNatClampNeg (384 : Int32).toNatClampNeg) (mZ (wR M s0 25 (some s1)) (kz K))))
theorem mbT_X9_init_154 {o : (Ka × Cm) ⊕ (Ka × Cm)} {N : Nat} {sa : Nat → Nat}  (x0 : Nat) (s0 : Nat) (s1 : Nat) (K : Ka) (M : Cm) (hf : bT_X9_init_154 N sa x0 s0 s1 K M = some o) : KLe K (oK sV o) := by
  unfold bT_X9_init_154 at hf
  obtain ⟨-, hf⟩ := gd_some hf
  obtain ⟨-, hf⟩ := gd_some hf
  exact (kNew_le _ _ _ _).tr (mbT_X9_init_163 _ _ _ _ _ hf)
set_option maxRecDepth 100000 in
set_option maxHeartbeats 4000000 in
theorem wbT_X9_init_154 {p : Program} {l : Launch} {e : Env} {R : Room} {s : State} {m : MethodId} {args : Array Value} {below : List Frame} {meth : Method} {c : Code} {x : Xc} {K0 : Ka} {o : (Ka × Cm) ⊕ (Ka × Cm)} {N : Nat}  (CTX : CT p l s m args meth c x K0 RX9 "<init>" cX9_init 6 none) (hRm : 6 ≤ R.frames ∧ 95 ≤ R.locals) (hRc : nz sV K0 o ≤ R.cells ∧ nu sV K0 o ≤ R.slots) (x0 : Nat) (s0 : Nat) (s1 : Nat) (K : Ka) (M : Cm) (H : Heap) (locs : List Loc) (ls : Array Slot) (hf : bT_X9_init_154 N x.2.2.1 x0 s0 s1 K M = some o) (hL : KLe K0 K) (hR : RC x K M H) (hS : va_S (AC K0) s.heap H locs) (hl : lv_has ls 6 [(0, .ref x0)]) : W p l e R s m args below meth c H locs (kz K - kz K0) (ku K - ku K0) (TQ sV (aQV x K0) (zQV K0) "java/lang/IllegalStateException" x K0 below args s o) (F0 m 154 ls [.ref s1, .ref s0]) := by
  obtain ⟨CX, hno, hlt, hmn⟩ := id CTX
  obtain ⟨hx, hb, hml, hown, hts, hE, hB, hr, hlk⟩ := id CX
  have hcs := nz_le (mbT_X9_init_154  x0 s0 s1 K M hf) hRc
  unfold bT_X9_init_154 at hf
  obtain ⟨hk_s0_10, hf⟩ := gd_some hf
  refine tr_putFR kc_9 CX hmn hR hL hS (v := some s1) ff_X9_80 ⟨rfl, rfl, .inr ⟨_, rfl⟩⟩ hk_s0_10 dX9_init_154 (fun H locs hR hS => ?_)
  refine lv_aload_n hx hb dX9_init_157 rfl (lv_at hl 0 rfl) ?_
  refine lv_sipush (v := 384) hx hb dX9_init_158 (by decide) ?_
  obtain ⟨hq, hf⟩ := gd_some hf
  have hm1 := mbT_X9_init_163 _ _ _ _ _ hf
  have hb1 := nz_le hm1 hRc
  refine tr_newal CX hL hR hS hq hb1 dX9_init_161 (fun H hR hS => ?_)
  exact (wbT_X9_init_163 CTX hRm hRc) _ _ _ _ _ _ _ _ hf (hL.tr (kNew_le _ _ _ _)) hR hS (lv_sub hl [0] rfl)
def bT_X9_init_146 (N : Nat) (sa : Nat → Nat) (x0 : Nat) (s0 : Nat) (s1 : Nat) (K : Ka) (M : Cm) : Option ((Ka × Cm) ⊕ (Ka × Cm)) := gd (kd K s0 == 10) (gd (decide (¬ (48 : Int32) < 0 ∧ (48 : Int32).toNatClampNeg ≤ 1000000)) ((bT_X9_init_154 N sa) x0 x0 (kz K) (kNew K 22 (48 : Int32).toNatClampNeg (48 : Int32).toNatClampNeg) (mZ (wR M s0 24 (some s1)) (kz K))))
theorem mbT_X9_init_146 {o : (Ka × Cm) ⊕ (Ka × Cm)} {N : Nat} {sa : Nat → Nat}  (x0 : Nat) (s0 : Nat) (s1 : Nat) (K : Ka) (M : Cm) (hf : bT_X9_init_146 N sa x0 s0 s1 K M = some o) : KLe K (oK sV o) := by
  unfold bT_X9_init_146 at hf
  obtain ⟨-, hf⟩ := gd_some hf
  obtain ⟨-, hf⟩ := gd_some hf
  exact (kNew_le _ _ _ _).tr (mbT_X9_init_154 _ _ _ _ _ hf)
set_option maxRecDepth 100000 in
set_option maxHeartbeats 4000000 in
theorem wbT_X9_init_146 {p : Program} {l : Launch} {e : Env} {R : Room} {s : State} {m : MethodId} {args : Array Value} {below : List Frame} {meth : Method} {c : Code} {x : Xc} {K0 : Ka} {o : (Ka × Cm) ⊕ (Ka × Cm)} {N : Nat}  (CTX : CT p l s m args meth c x K0 RX9 "<init>" cX9_init 6 none) (hRm : 6 ≤ R.frames ∧ 95 ≤ R.locals) (hRc : nz sV K0 o ≤ R.cells ∧ nu sV K0 o ≤ R.slots) (x0 : Nat) (s0 : Nat) (s1 : Nat) (K : Ka) (M : Cm) (H : Heap) (locs : List Loc) (ls : Array Slot) (hf : bT_X9_init_146 N x.2.2.1 x0 s0 s1 K M = some o) (hL : KLe K0 K) (hR : RC x K M H) (hS : va_S (AC K0) s.heap H locs) (hl : lv_has ls 6 [(0, .ref x0)]) : W p l e R s m args below meth c H locs (kz K - kz K0) (ku K - ku K0) (TQ sV (aQV x K0) (zQV K0) "java/lang/IllegalStateException" x K0 below args s o) (F0 m 146 ls [.ref s1, .ref s0]) := by
  obtain ⟨CX, hno, hlt, hmn⟩ := id CTX
  obtain ⟨hx, hb, hml, hown, hts, hE, hB, hr, hlk⟩ := id CX
  have hcs := nz_le (mbT_X9_init_146  x0 s0 s1 K M hf) hRc
  unfold bT_X9_init_146 at hf
  obtain ⟨hk_s0_10, hf⟩ := gd_some hf
  refine tr_putFR kc_9 CX hmn hR hL hS (v := some s1) ff_X9_77 ⟨rfl, rfl, .inr ⟨_, rfl⟩⟩ hk_s0_10 dX9_init_146 (fun H locs hR hS => ?_)
  refine lv_aload_n hx hb dX9_init_149 rfl (lv_at hl 0 rfl) ?_
  refine lv_bipush (v := 48) hx hb dX9_init_150 (by decide) ?_
  obtain ⟨hq, hf⟩ := gd_some hf
  have hm1 := mbT_X9_init_154 _ _ _ _ _ hf
  have hb1 := nz_le hm1 hRc
  refine tr_newai CX hL hR hS hq hb1 dX9_init_152 (fun H hR hS => ?_)
  exact (wbT_X9_init_154 CTX hRm hRc) _ _ _ _ _ _ _ _ hf (hL.tr (kNew_le _ _ _ _)) hR hS (lv_sub hl [0] rfl)
def bT_X9_init_137 (N : Nat) (sa : Nat → Nat) (x0 : Nat) (s0 : Nat) (s1 : Nat) (K : Ka) (M : Cm) : Option ((Ka × Cm) ⊕ (Ka × Cm)) := gd (kd K s0 == 10) (gd (decide (¬ (288 : Int32) < 0 ∧ (288 : Int32).toNatClampNeg ≤ 1000000)) ((bT_X9_init_146 N sa) x0 x0 (kz K) (kNew K 22 (288 : Int32).toNatClampNeg (288 : Int32).toNatClampNeg) (mZ (wR M s0 23 (some s1)) (kz K))))
theorem mbT_X9_init_137 {o : (Ka × Cm) ⊕ (Ka × Cm)} {N : Nat} {sa : Nat → Nat}  (x0 : Nat) (s0 : Nat) (s1 : Nat) (K : Ka) (M : Cm) (hf : bT_X9_init_137 N sa x0 s0 s1 K M = some o) : KLe K (oK sV o) := by
  unfold bT_X9_init_137 at hf
  obtain ⟨-, hf⟩ := gd_some hf
  obtain ⟨-, hf⟩ := gd_some hf
  exact (kNew_le _ _ _ _).tr (mbT_X9_init_146 _ _ _ _ _ hf)
set_option maxRecDepth 100000 in
set_option maxHeartbeats 4000000 in
theorem wbT_X9_init_137 {p : Program} {l : Launch} {e : Env} {R : Room} {s : State} {m : MethodId} {args : Array Value} {below : List Frame} {meth : Method} {c : Code} {x : Xc} {K0 : Ka} {o : (Ka × Cm) ⊕ (Ka × Cm)} {N : Nat}  (CTX : CT p l s m args meth c x K0 RX9 "<init>" cX9_init 6 none) (hRm : 6 ≤ R.frames ∧ 95 ≤ R.locals) (hRc : nz sV K0 o ≤ R.cells ∧ nu sV K0 o ≤ R.slots) (x0 : Nat) (s0 : Nat) (s1 : Nat) (K : Ka) (M : Cm) (H : Heap) (locs : List Loc) (ls : Array Slot) (hf : bT_X9_init_137 N x.2.2.1 x0 s0 s1 K M = some o) (hL : KLe K0 K) (hR : RC x K M H) (hS : va_S (AC K0) s.heap H locs) (hl : lv_has ls 6 [(0, .ref x0)]) : W p l e R s m args below meth c H locs (kz K - kz K0) (ku K - ku K0) (TQ sV (aQV x K0) (zQV K0) "java/lang/IllegalStateException" x K0 below args s o) (F0 m 137 ls [.ref s1, .ref s0]) := by
  obtain ⟨CX, hno, hlt, hmn⟩ := id CTX
  obtain ⟨hx, hb, hml, hown, hts, hE, hB, hr, hlk⟩ := id CX
  have hcs := nz_le (mbT_X9_init_137  x0 s0 s1 K M hf) hRc
  unfold bT_X9_init_137 at hf
  obtain ⟨hk_s0_10, hf⟩ := gd_some hf
  refine tr_putFR kc_9 CX hmn hR hL hS (v := some s1) ff_X9_74 ⟨rfl, rfl, .inr ⟨_, rfl⟩⟩ hk_s0_10 dX9_init_137 (fun H locs hR hS => ?_)
  refine lv_aload_n hx hb dX9_init_140 rfl (lv_at hl 0 rfl) ?_
  refine lv_sipush (v := 288) hx hb dX9_init_141 (by decide) ?_
  obtain ⟨hq, hf⟩ := gd_some hf
  have hm1 := mbT_X9_init_146 _ _ _ _ _ hf
  have hb1 := nz_le hm1 hRc
  refine tr_newai CX hL hR hS hq hb1 dX9_init_144 (fun H hR hS => ?_)
  exact (wbT_X9_init_146 CTX hRm hRc) _ _ _ _ _ _ _ _ hf (hL.tr (kNew_le _ _ _ _)) hR hS (lv_sub hl [0] rfl)
def bT_X9_init_129 (N : Nat) (sa : Nat → Nat) (x0 : Nat) (s0 : Nat) (s1 : Nat) (K : Ka) (M : Cm) : Option ((Ka × Cm) ⊕ (Ka × Cm)) := gd (kd K s0 == 10) (gd (decide (¬ (48 : Int32) < 0 ∧ (48 : Int32).toNatClampNeg ≤ 1000000)) ((bT_X9_init_137 N sa) x0 x0 (kz K) (kNew K 22 (48 : Int32).toNatClampNeg (48 : Int32).toNatClampNeg) (mZ (wR M s0 22 (some s1)) (kz K))))
theorem mbT_X9_init_129 {o : (Ka × Cm) ⊕ (Ka × Cm)} {N : Nat} {sa : Nat → Nat}  (x0 : Nat) (s0 : Nat) (s1 : Nat) (K : Ka) (M : Cm) (hf : bT_X9_init_129 N sa x0 s0 s1 K M = some o) : KLe K (oK sV o) := by
  unfold bT_X9_init_129 at hf
  obtain ⟨-, hf⟩ := gd_some hf
  obtain ⟨-, hf⟩ := gd_some hf
  exact (kNew_le _ _ _ _).tr (mbT_X9_init_137 _ _ _ _ _ hf)
set_option maxRecDepth 100000 in
set_option maxHeartbeats 4000000 in
theorem wbT_X9_init_129 {p : Program} {l : Launch} {e : Env} {R : Room} {s : State} {m : MethodId} {args : Array Value} {below : List Frame} {meth : Method} {c : Code} {x : Xc} {K0 : Ka} {o : (Ka × Cm) ⊕ (Ka × Cm)} {N : Nat}  (CTX : CT p l s m args meth c x K0 RX9 "<init>" cX9_init 6 none) (hRm : 6 ≤ R.frames ∧ 95 ≤ R.locals) (hRc : nz sV K0 o ≤ R.cells ∧ nu sV K0 o ≤ R.slots) (x0 : Nat) (s0 : Nat) (s1 : Nat) (K : Ka) (M : Cm) (H : Heap) (locs : List Loc) (ls : Array Slot) (hf : bT_X9_init_129 N x.2.2.1 x0 s0 s1 K M = some o) (hL : KLe K0 K) (hR : RC x K M H) (hS : va_S (AC K0) s.heap H locs) (hl : lv_has ls 6 [(0, .ref x0)]) : W p l e R s m args below meth c H locs (kz K - kz K0) (ku K - ku K0) (TQ sV (aQV x K0) (zQV K0) "java/lang/IllegalStateException" x K0 below args s o) (F0 m 129 ls [.ref s1, .ref s0]) := by
  obtain ⟨CX, hno, hlt, hmn⟩ := id CTX
  obtain ⟨hx, hb, hml, hown, hts, hE, hB, hr, hlk⟩ := id CX
  have hcs := nz_le (mbT_X9_init_129  x0 s0 s1 K M hf) hRc
  unfold bT_X9_init_129 at hf
  obtain ⟨hk_s0_10, hf⟩ := gd_some hf
  refine tr_putFR kc_9 CX hmn hR hL hS (v := some s1) ff_X9_71 ⟨rfl, rfl, .inr ⟨_, rfl⟩⟩ hk_s0_10 dX9_init_129 (fun H locs hR hS => ?_)
  refine lv_aload_n hx hb dX9_init_132 rfl (lv_at hl 0 rfl) ?_
  refine lv_bipush (v := 48) hx hb dX9_init_133 (by decide) ?_
  obtain ⟨hq, hf⟩ := gd_some hf
  have hm1 := mbT_X9_init_137 _ _ _ _ _ hf
  have hb1 := nz_le hm1 hRc
  refine tr_newai CX hL hR hS hq hb1 dX9_init_135 (fun H hR hS => ?_)
  exact (wbT_X9_init_137 CTX hRm hRc) _ _ _ _ _ _ _ _ hf (hL.tr (kNew_le _ _ _ _)) hR hS (lv_sub hl [0] rfl)
def bT_X9_init_121 (N : Nat) (sa : Nat → Nat) (x0 : Nat) (s0 : Nat) (s1 : Nat) (K : Ka) (M : Cm) : Option ((Ka × Cm) ⊕ (Ka × Cm)) := gd (kd K s0 == 10) (gd (decide (¬ (48 : Int32) < 0 ∧ (48 : Int32).toNatClampNeg ≤ 1000000)) ((bT_X9_init_129 N sa) x0 x0 (kz K) (kNew K 22 (48 : Int32).toNatClampNeg (48 : Int32).toNatClampNeg) (mZ (wR M s0 21 (some s1)) (kz K))))
theorem mbT_X9_init_121 {o : (Ka × Cm) ⊕ (Ka × Cm)} {N : Nat} {sa : Nat → Nat}  (x0 : Nat) (s0 : Nat) (s1 : Nat) (K : Ka) (M : Cm) (hf : bT_X9_init_121 N sa x0 s0 s1 K M = some o) : KLe K (oK sV o) := by
  unfold bT_X9_init_121 at hf
  obtain ⟨-, hf⟩ := gd_some hf
  obtain ⟨-, hf⟩ := gd_some hf
  exact (kNew_le _ _ _ _).tr (mbT_X9_init_129 _ _ _ _ _ hf)
set_option maxRecDepth 100000 in
set_option maxHeartbeats 4000000 in
theorem wbT_X9_init_121 {p : Program} {l : Launch} {e : Env} {R : Room} {s : State} {m : MethodId} {args : Array Value} {below : List Frame} {meth : Method} {c : Code} {x : Xc} {K0 : Ka} {o : (Ka × Cm) ⊕ (Ka × Cm)} {N : Nat}  (CTX : CT p l s m args meth c x K0 RX9 "<init>" cX9_init 6 none) (hRm : 6 ≤ R.frames ∧ 95 ≤ R.locals) (hRc : nz sV K0 o ≤ R.cells ∧ nu sV K0 o ≤ R.slots) (x0 : Nat) (s0 : Nat) (s1 : Nat) (K : Ka) (M : Cm) (H : Heap) (locs : List Loc) (ls : Array Slot) (hf : bT_X9_init_121 N x.2.2.1 x0 s0 s1 K M = some o) (hL : KLe K0 K) (hR : RC x K M H) (hS : va_S (AC K0) s.heap H locs) (hl : lv_has ls 6 [(0, .ref x0)]) : W p l e R s m args below meth c H locs (kz K - kz K0) (ku K - ku K0) (TQ sV (aQV x K0) (zQV K0) "java/lang/IllegalStateException" x K0 below args s o) (F0 m 121 ls [.ref s1, .ref s0]) := by
  obtain ⟨CX, hno, hlt, hmn⟩ := id CTX
  obtain ⟨hx, hb, hml, hown, hts, hE, hB, hr, hlk⟩ := id CX
  have hcs := nz_le (mbT_X9_init_121  x0 s0 s1 K M hf) hRc
  unfold bT_X9_init_121 at hf
  obtain ⟨hk_s0_10, hf⟩ := gd_some hf
  refine tr_putFR kc_9 CX hmn hR hL hS (v := some s1) ff_X9_68 ⟨rfl, rfl, .inr ⟨_, rfl⟩⟩ hk_s0_10 dX9_init_121 (fun H locs hR hS => ?_)
  refine lv_aload_n hx hb dX9_init_124 rfl (lv_at hl 0 rfl) ?_
  refine lv_bipush (v := 48) hx hb dX9_init_125 (by decide) ?_
  obtain ⟨hq, hf⟩ := gd_some hf
  have hm1 := mbT_X9_init_129 _ _ _ _ _ hf
  have hb1 := nz_le hm1 hRc
  refine tr_newai CX hL hR hS hq hb1 dX9_init_127 (fun H hR hS => ?_)
  exact (wbT_X9_init_129 CTX hRm hRc) _ _ _ _ _ _ _ _ hf (hL.tr (kNew_le _ _ _ _)) hR hS (lv_sub hl [0] rfl)
def bT_X9_init_113 (N : Nat) (sa : Nat → Nat) (x0 : Nat) (s0 : Nat) (s1 : Nat) (K : Ka) (M : Cm) : Option ((Ka × Cm) ⊕ (Ka × Cm)) := gd (kd K s0 == 10) (gd (decide (¬ (48 : Int32) < 0 ∧ (48 : Int32).toNatClampNeg ≤ 1000000)) ((bT_X9_init_121 N sa) x0 x0 (kz K) (kNew K 24 (48 : Int32).toNatClampNeg (48 : Int32).toNatClampNeg) (mZ (wR M s0 20 (some s1)) (kz K))))
theorem mbT_X9_init_113 {o : (Ka × Cm) ⊕ (Ka × Cm)} {N : Nat} {sa : Nat → Nat}  (x0 : Nat) (s0 : Nat) (s1 : Nat) (K : Ka) (M : Cm) (hf : bT_X9_init_113 N sa x0 s0 s1 K M = some o) : KLe K (oK sV o) := by
  unfold bT_X9_init_113 at hf
  obtain ⟨-, hf⟩ := gd_some hf
  obtain ⟨-, hf⟩ := gd_some hf
  exact (kNew_le _ _ _ _).tr (mbT_X9_init_121 _ _ _ _ _ hf)
set_option maxRecDepth 100000 in
set_option maxHeartbeats 4000000 in
theorem wbT_X9_init_113 {p : Program} {l : Launch} {e : Env} {R : Room} {s : State} {m : MethodId} {args : Array Value} {below : List Frame} {meth : Method} {c : Code} {x : Xc} {K0 : Ka} {o : (Ka × Cm) ⊕ (Ka × Cm)} {N : Nat}  (CTX : CT p l s m args meth c x K0 RX9 "<init>" cX9_init 6 none) (hRm : 6 ≤ R.frames ∧ 95 ≤ R.locals) (hRc : nz sV K0 o ≤ R.cells ∧ nu sV K0 o ≤ R.slots) (x0 : Nat) (s0 : Nat) (s1 : Nat) (K : Ka) (M : Cm) (H : Heap) (locs : List Loc) (ls : Array Slot) (hf : bT_X9_init_113 N x.2.2.1 x0 s0 s1 K M = some o) (hL : KLe K0 K) (hR : RC x K M H) (hS : va_S (AC K0) s.heap H locs) (hl : lv_has ls 6 [(0, .ref x0)]) : W p l e R s m args below meth c H locs (kz K - kz K0) (ku K - ku K0) (TQ sV (aQV x K0) (zQV K0) "java/lang/IllegalStateException" x K0 below args s o) (F0 m 113 ls [.ref s1, .ref s0]) := by
  obtain ⟨CX, hno, hlt, hmn⟩ := id CTX
  obtain ⟨hx, hb, hml, hown, hts, hE, hB, hr, hlk⟩ := id CX
  have hcs := nz_le (mbT_X9_init_113  x0 s0 s1 K M hf) hRc
  unfold bT_X9_init_113 at hf
  obtain ⟨hk_s0_10, hf⟩ := gd_some hf
  refine tr_putFR kc_9 CX hmn hR hL hS (v := some s1) ff_X9_64 ⟨rfl, rfl, .inr ⟨_, rfl⟩⟩ hk_s0_10 dX9_init_113 (fun H locs hR hS => ?_)
  refine lv_aload_n hx hb dX9_init_116 rfl (lv_at hl 0 rfl) ?_
  refine lv_bipush (v := 48) hx hb dX9_init_117 (by decide) ?_
  obtain ⟨hq, hf⟩ := gd_some hf
  have hm1 := mbT_X9_init_121 _ _ _ _ _ hf
  have hb1 := nz_le hm1 hRc
  refine tr_newaz CX hL hR hS hq hb1 dX9_init_119 (fun H hR hS => ?_)
  exact (wbT_X9_init_121 CTX hRm hRc) _ _ _ _ _ _ _ _ hf (hL.tr (kNew_le _ _ _ _)) hR hS (lv_sub hl [0] rfl)
def bT_X9_init_105 (N : Nat) (sa : Nat → Nat) (x0 : Nat) (s0 : Nat) (s1 : Nat) (K : Ka) (M : Cm) : Option ((Ka × Cm) ⊕ (Ka × Cm)) := gd (kd K s0 == 10) (gd (decide (¬ (48 : Int32) < 0 ∧ (48 : Int32).toNatClampNeg ≤ 1000000)) ((bT_X9_init_113 N sa) x0 x0 (kz K) (kNew K 24 (48 : Int32).toNatClampNeg (48 : Int32).toNatClampNeg) (mZ (wR M s0 19 (some s1)) (kz K))))
theorem mbT_X9_init_105 {o : (Ka × Cm) ⊕ (Ka × Cm)} {N : Nat} {sa : Nat → Nat}  (x0 : Nat) (s0 : Nat) (s1 : Nat) (K : Ka) (M : Cm) (hf : bT_X9_init_105 N sa x0 s0 s1 K M = some o) : KLe K (oK sV o) := by
  unfold bT_X9_init_105 at hf
  obtain ⟨-, hf⟩ := gd_some hf
  obtain ⟨-, hf⟩ := gd_some hf
  exact (kNew_le _ _ _ _).tr (mbT_X9_init_113 _ _ _ _ _ hf)
set_option maxRecDepth 100000 in
set_option maxHeartbeats 4000000 in
theorem wbT_X9_init_105 {p : Program} {l : Launch} {e : Env} {R : Room} {s : State} {m : MethodId} {args : Array Value} {below : List Frame} {meth : Method} {c : Code} {x : Xc} {K0 : Ka} {o : (Ka × Cm) ⊕ (Ka × Cm)} {N : Nat}  (CTX : CT p l s m args meth c x K0 RX9 "<init>" cX9_init 6 none) (hRm : 6 ≤ R.frames ∧ 95 ≤ R.locals) (hRc : nz sV K0 o ≤ R.cells ∧ nu sV K0 o ≤ R.slots) (x0 : Nat) (s0 : Nat) (s1 : Nat) (K : Ka) (M : Cm) (H : Heap) (locs : List Loc) (ls : Array Slot) (hf : bT_X9_init_105 N x.2.2.1 x0 s0 s1 K M = some o) (hL : KLe K0 K) (hR : RC x K M H) (hS : va_S (AC K0) s.heap H locs) (hl : lv_has ls 6 [(0, .ref x0)]) : W p l e R s m args below meth c H locs (kz K - kz K0) (ku K - ku K0) (TQ sV (aQV x K0) (zQV K0) "java/lang/IllegalStateException" x K0 below args s o) (F0 m 105 ls [.ref s1, .ref s0]) := by
  obtain ⟨CX, hno, hlt, hmn⟩ := id CTX
  obtain ⟨hx, hb, hml, hown, hts, hE, hB, hr, hlk⟩ := id CX
  have hcs := nz_le (mbT_X9_init_105  x0 s0 s1 K M hf) hRc
  unfold bT_X9_init_105 at hf
  obtain ⟨hk_s0_10, hf⟩ := gd_some hf
  refine tr_putFR kc_9 CX hmn hR hL hS (v := some s1) ff_X9_61 ⟨rfl, rfl, .inr ⟨_, rfl⟩⟩ hk_s0_10 dX9_init_105 (fun H locs hR hS => ?_)
  refine lv_aload_n hx hb dX9_init_108 rfl (lv_at hl 0 rfl) ?_
  refine lv_bipush (v := 48) hx hb dX9_init_109 (by decide) ?_
  obtain ⟨hq, hf⟩ := gd_some hf
  have hm1 := mbT_X9_init_113 _ _ _ _ _ hf
  have hb1 := nz_le hm1 hRc
  refine tr_newaz CX hL hR hS hq hb1 dX9_init_111 (fun H hR hS => ?_)
  exact (wbT_X9_init_113 CTX hRm hRc) _ _ _ _ _ _ _ _ hf (hL.tr (kNew_le _ _ _ _)) hR hS (lv_sub hl [0] rfl)
def bT_X9_init_97 (N : Nat) (sa : Nat → Nat) (x0 : Nat) (s0 : Nat) (s1 : Nat) (K : Ka) (M : Cm) : Option ((Ka × Cm) ⊕ (Ka × Cm)) := gd (kd K s0 == 10) (gd (decide (¬ (48 : Int32) < 0 ∧ (48 : Int32).toNatClampNeg ≤ 1000000)) ((bT_X9_init_105 N sa) x0 x0 (kz K) (kNew K 23 (48 : Int32).toNatClampNeg (48 : Int32).toNatClampNeg) (mZ (wR M s0 18 (some s1)) (kz K))))
theorem mbT_X9_init_97 {o : (Ka × Cm) ⊕ (Ka × Cm)} {N : Nat} {sa : Nat → Nat}  (x0 : Nat) (s0 : Nat) (s1 : Nat) (K : Ka) (M : Cm) (hf : bT_X9_init_97 N sa x0 s0 s1 K M = some o) : KLe K (oK sV o) := by
  unfold bT_X9_init_97 at hf
  obtain ⟨-, hf⟩ := gd_some hf
  obtain ⟨-, hf⟩ := gd_some hf
  exact (kNew_le _ _ _ _).tr (mbT_X9_init_105 _ _ _ _ _ hf)
set_option maxRecDepth 100000 in
set_option maxHeartbeats 4000000 in
theorem wbT_X9_init_97 {p : Program} {l : Launch} {e : Env} {R : Room} {s : State} {m : MethodId} {args : Array Value} {below : List Frame} {meth : Method} {c : Code} {x : Xc} {K0 : Ka} {o : (Ka × Cm) ⊕ (Ka × Cm)} {N : Nat}  (CTX : CT p l s m args meth c x K0 RX9 "<init>" cX9_init 6 none) (hRm : 6 ≤ R.frames ∧ 95 ≤ R.locals) (hRc : nz sV K0 o ≤ R.cells ∧ nu sV K0 o ≤ R.slots) (x0 : Nat) (s0 : Nat) (s1 : Nat) (K : Ka) (M : Cm) (H : Heap) (locs : List Loc) (ls : Array Slot) (hf : bT_X9_init_97 N x.2.2.1 x0 s0 s1 K M = some o) (hL : KLe K0 K) (hR : RC x K M H) (hS : va_S (AC K0) s.heap H locs) (hl : lv_has ls 6 [(0, .ref x0)]) : W p l e R s m args below meth c H locs (kz K - kz K0) (ku K - ku K0) (TQ sV (aQV x K0) (zQV K0) "java/lang/IllegalStateException" x K0 below args s o) (F0 m 97 ls [.ref s1, .ref s0]) := by
  obtain ⟨CX, hno, hlt, hmn⟩ := id CTX
  obtain ⟨hx, hb, hml, hown, hts, hE, hB, hr, hlk⟩ := id CX
  have hcs := nz_le (mbT_X9_init_97  x0 s0 s1 K M hf) hRc
  unfold bT_X9_init_97 at hf
  obtain ⟨hk_s0_10, hf⟩ := gd_some hf
  refine tr_putFR kc_9 CX hmn hR hL hS (v := some s1) ff_X9_58 ⟨rfl, rfl, .inr ⟨_, rfl⟩⟩ hk_s0_10 dX9_init_97 (fun H locs hR hS => ?_)
  refine lv_aload_n hx hb dX9_init_100 rfl (lv_at hl 0 rfl) ?_
  refine lv_bipush (v := 48) hx hb dX9_init_101 (by decide) ?_
  obtain ⟨hq, hf⟩ := gd_some hf
  have hm1 := mbT_X9_init_105 _ _ _ _ _ hf
  have hb1 := nz_le hm1 hRc
  refine tr_newal CX hL hR hS hq hb1 dX9_init_103 (fun H hR hS => ?_)
  exact (wbT_X9_init_105 CTX hRm hRc) _ _ _ _ _ _ _ _ hf (hL.tr (kNew_le _ _ _ _)) hR hS (lv_sub hl [0] rfl)
def bT_X9_init_90 (N : Nat) (sa : Nat → Nat) (x0 : Nat) (s0 : Nat) (s1 : Nat) (K : Ka) (M : Cm) : Option ((Ka × Cm) ⊕ (Ka × Cm)) := gd (kd K s0 == 10) (gd (decide (¬ (2 : Int32) < 0 ∧ (2 : Int32).toNatClampNeg ≤ 1000000)) ((bT_X9_init_97 N sa) x0 x0 (kz K) (kNew K 22 (2 : Int32).toNatClampNeg (2 : Int32).toNatClampNeg) (mZ (wR M s0 17 (some s1)) (kz K))))
theorem mbT_X9_init_90 {o : (Ka × Cm) ⊕ (Ka × Cm)} {N : Nat} {sa : Nat → Nat}  (x0 : Nat) (s0 : Nat) (s1 : Nat) (K : Ka) (M : Cm) (hf : bT_X9_init_90 N sa x0 s0 s1 K M = some o) : KLe K (oK sV o) := by
  unfold bT_X9_init_90 at hf
  obtain ⟨-, hf⟩ := gd_some hf
  obtain ⟨-, hf⟩ := gd_some hf
  exact (kNew_le _ _ _ _).tr (mbT_X9_init_97 _ _ _ _ _ hf)
set_option maxRecDepth 100000 in
set_option maxHeartbeats 4000000 in
theorem wbT_X9_init_90 {p : Program} {l : Launch} {e : Env} {R : Room} {s : State} {m : MethodId} {args : Array Value} {below : List Frame} {meth : Method} {c : Code} {x : Xc} {K0 : Ka} {o : (Ka × Cm) ⊕ (Ka × Cm)} {N : Nat}  (CTX : CT p l s m args meth c x K0 RX9 "<init>" cX9_init 6 none) (hRm : 6 ≤ R.frames ∧ 95 ≤ R.locals) (hRc : nz sV K0 o ≤ R.cells ∧ nu sV K0 o ≤ R.slots) (x0 : Nat) (s0 : Nat) (s1 : Nat) (K : Ka) (M : Cm) (H : Heap) (locs : List Loc) (ls : Array Slot) (hf : bT_X9_init_90 N x.2.2.1 x0 s0 s1 K M = some o) (hL : KLe K0 K) (hR : RC x K M H) (hS : va_S (AC K0) s.heap H locs) (hl : lv_has ls 6 [(0, .ref x0)]) : W p l e R s m args below meth c H locs (kz K - kz K0) (ku K - ku K0) (TQ sV (aQV x K0) (zQV K0) "java/lang/IllegalStateException" x K0 below args s o) (F0 m 90 ls [.ref s1, .ref s0]) := by
  obtain ⟨CX, hno, hlt, hmn⟩ := id CTX
  obtain ⟨hx, hb, hml, hown, hts, hE, hB, hr, hlk⟩ := id CX
  have hcs := nz_le (mbT_X9_init_90  x0 s0 s1 K M hf) hRc
  unfold bT_X9_init_90 at hf
  obtain ⟨hk_s0_10, hf⟩ := gd_some hf
  refine tr_putFR kc_9 CX hmn hR hL hS (v := some s1) ff_X9_55 ⟨rfl, rfl, .inr ⟨_, rfl⟩⟩ hk_s0_10 dX9_init_90 (fun H locs hR hS => ?_)
  refine lv_aload_n hx hb dX9_init_93 rfl (lv_at hl 0 rfl) ?_
  refine lv_iconst (v := 2) hx hb dX9_init_94 (by decide) ?_
  obtain ⟨hq, hf⟩ := gd_some hf
  have hm1 := mbT_X9_init_97 _ _ _ _ _ hf
  have hb1 := nz_le hm1 hRc
  refine tr_newai CX hL hR hS hq hb1 dX9_init_95 (fun H hR hS => ?_)
  exact (wbT_X9_init_97 CTX hRm hRc) _ _ _ _ _ _ _ _ hf (hL.tr (kNew_le _ _ _ _)) hR hS (lv_sub hl [0] rfl)
def bT_X9_init_82 (N : Nat) (sa : Nat → Nat) (x0 : Nat) (s0 : Nat) (s1 : Nat) (K : Ka) (M : Cm) : Option ((Ka × Cm) ⊕ (Ka × Cm)) := gd (kd K s0 == 10) (gd (decide (¬ (48 : Int32) < 0 ∧ (48 : Int32).toNatClampNeg ≤ 1000000)) ((bT_X9_init_90 N sa) x0 x0 (kz K) (kNew K 22 (48 : Int32).toNatClampNeg (48 : Int32).toNatClampNeg) (mZ (wR M s0 16 (some s1)) (kz K))))
theorem mbT_X9_init_82 {o : (Ka × Cm) ⊕ (Ka × Cm)} {N : Nat} {sa : Nat → Nat}  (x0 : Nat) (s0 : Nat) (s1 : Nat) (K : Ka) (M : Cm) (hf : bT_X9_init_82 N sa x0 s0 s1 K M = some o) : KLe K (oK sV o) := by
  unfold bT_X9_init_82 at hf
  obtain ⟨-, hf⟩ := gd_some hf
  obtain ⟨-, hf⟩ := gd_some hf
  exact (kNew_le _ _ _ _).tr (mbT_X9_init_90 _ _ _ _ _ hf)
set_option maxRecDepth 100000 in
set_option maxHeartbeats 4000000 in
theorem wbT_X9_init_82 {p : Program} {l : Launch} {e : Env} {R : Room} {s : State} {m : MethodId} {args : Array Value} {below : List Frame} {meth : Method} {c : Code} {x : Xc} {K0 : Ka} {o : (Ka × Cm) ⊕ (Ka × Cm)} {N : Nat}  (CTX : CT p l s m args meth c x K0 RX9 "<init>" cX9_init 6 none) (hRm : 6 ≤ R.frames ∧ 95 ≤ R.locals) (hRc : nz sV K0 o ≤ R.cells ∧ nu sV K0 o ≤ R.slots) (x0 : Nat) (s0 : Nat) (s1 : Nat) (K : Ka) (M : Cm) (H : Heap) (locs : List Loc) (ls : Array Slot) (hf : bT_X9_init_82 N x.2.2.1 x0 s0 s1 K M = some o) (hL : KLe K0 K) (hR : RC x K M H) (hS : va_S (AC K0) s.heap H locs) (hl : lv_has ls 6 [(0, .ref x0)]) : W p l e R s m args below meth c H locs (kz K - kz K0) (ku K - ku K0) (TQ sV (aQV x K0) (zQV K0) "java/lang/IllegalStateException" x K0 below args s o) (F0 m 82 ls [.ref s1, .ref s0]) := by
  obtain ⟨CX, hno, hlt, hmn⟩ := id CTX
  obtain ⟨hx, hb, hml, hown, hts, hE, hB, hr, hlk⟩ := id CX
  have hcs := nz_le (mbT_X9_init_82  x0 s0 s1 K M hf) hRc
  unfold bT_X9_init_82 at hf
  obtain ⟨hk_s0_10, hf⟩ := gd_some hf
  refine tr_putFR kc_9 CX hmn hR hL hS (v := some s1) ff_X9_52 ⟨rfl, rfl, .inr ⟨_, rfl⟩⟩ hk_s0_10 dX9_init_82 (fun H locs hR hS => ?_)
  refine lv_aload_n hx hb dX9_init_85 rfl (lv_at hl 0 rfl) ?_
  refine lv_bipush (v := 48) hx hb dX9_init_86 (by decide) ?_
  obtain ⟨hq, hf⟩ := gd_some hf
  have hm1 := mbT_X9_init_90 _ _ _ _ _ hf
  have hb1 := nz_le hm1 hRc
  refine tr_newai CX hL hR hS hq hb1 dX9_init_88 (fun H hR hS => ?_)
  exact (wbT_X9_init_90 CTX hRm hRc) _ _ _ _ _ _ _ _ hf (hL.tr (kNew_le _ _ _ _)) hR hS (lv_sub hl [0] rfl)
def bT_X9_init_74 (N : Nat) (sa : Nat → Nat) (x0 : Nat) (s0 : Nat) (s1 : Nat) (K : Ka) (M : Cm) : Option ((Ka × Cm) ⊕ (Ka × Cm)) := gd (kd K s0 == 10) (gd (decide (¬ (48 : Int32) < 0 ∧ (48 : Int32).toNatClampNeg ≤ 1000000)) ((bT_X9_init_82 N sa) x0 x0 (kz K) (kNew K 22 (48 : Int32).toNatClampNeg (48 : Int32).toNatClampNeg) (mZ (wR M s0 15 (some s1)) (kz K))))
theorem mbT_X9_init_74 {o : (Ka × Cm) ⊕ (Ka × Cm)} {N : Nat} {sa : Nat → Nat}  (x0 : Nat) (s0 : Nat) (s1 : Nat) (K : Ka) (M : Cm) (hf : bT_X9_init_74 N sa x0 s0 s1 K M = some o) : KLe K (oK sV o) := by
  unfold bT_X9_init_74 at hf
  obtain ⟨-, hf⟩ := gd_some hf
  obtain ⟨-, hf⟩ := gd_some hf
  exact (kNew_le _ _ _ _).tr (mbT_X9_init_82 _ _ _ _ _ hf)
set_option maxRecDepth 100000 in
set_option maxHeartbeats 4000000 in
theorem wbT_X9_init_74 {p : Program} {l : Launch} {e : Env} {R : Room} {s : State} {m : MethodId} {args : Array Value} {below : List Frame} {meth : Method} {c : Code} {x : Xc} {K0 : Ka} {o : (Ka × Cm) ⊕ (Ka × Cm)} {N : Nat}  (CTX : CT p l s m args meth c x K0 RX9 "<init>" cX9_init 6 none) (hRm : 6 ≤ R.frames ∧ 95 ≤ R.locals) (hRc : nz sV K0 o ≤ R.cells ∧ nu sV K0 o ≤ R.slots) (x0 : Nat) (s0 : Nat) (s1 : Nat) (K : Ka) (M : Cm) (H : Heap) (locs : List Loc) (ls : Array Slot) (hf : bT_X9_init_74 N x.2.2.1 x0 s0 s1 K M = some o) (hL : KLe K0 K) (hR : RC x K M H) (hS : va_S (AC K0) s.heap H locs) (hl : lv_has ls 6 [(0, .ref x0)]) : W p l e R s m args below meth c H locs (kz K - kz K0) (ku K - ku K0) (TQ sV (aQV x K0) (zQV K0) "java/lang/IllegalStateException" x K0 below args s o) (F0 m 74 ls [.ref s1, .ref s0]) := by
  obtain ⟨CX, hno, hlt, hmn⟩ := id CTX
  obtain ⟨hx, hb, hml, hown, hts, hE, hB, hr, hlk⟩ := id CX
  have hcs := nz_le (mbT_X9_init_74  x0 s0 s1 K M hf) hRc
  unfold bT_X9_init_74 at hf
  obtain ⟨hk_s0_10, hf⟩ := gd_some hf
  refine tr_putFR kc_9 CX hmn hR hL hS (v := some s1) ff_X9_49 ⟨rfl, rfl, .inr ⟨_, rfl⟩⟩ hk_s0_10 dX9_init_74 (fun H locs hR hS => ?_)
  refine lv_aload_n hx hb dX9_init_77 rfl (lv_at hl 0 rfl) ?_
  refine lv_bipush (v := 48) hx hb dX9_init_78 (by decide) ?_
  obtain ⟨hq, hf⟩ := gd_some hf
  have hm1 := mbT_X9_init_82 _ _ _ _ _ hf
  have hb1 := nz_le hm1 hRc
  refine tr_newai CX hL hR hS hq hb1 dX9_init_80 (fun H hR hS => ?_)
  exact (wbT_X9_init_82 CTX hRm hRc) _ _ _ _ _ _ _ _ hf (hL.tr (kNew_le _ _ _ _)) hR hS (lv_sub hl [0] rfl)
def bT_X9_init_66 (N : Nat) (sa : Nat → Nat) (x0 : Nat) (s0 : Nat) (s1 : Nat) (K : Ka) (M : Cm) : Option ((Ka × Cm) ⊕ (Ka × Cm)) := gd (kd K s0 == 10) (gd (decide (¬ (48 : Int32) < 0 ∧ (48 : Int32).toNatClampNeg ≤ 1000000)) ((bT_X9_init_74 N sa) x0 x0 (kz K) (kNew K 22 (48 : Int32).toNatClampNeg (48 : Int32).toNatClampNeg) (mZ (wR M s0 14 (some s1)) (kz K))))
theorem mbT_X9_init_66 {o : (Ka × Cm) ⊕ (Ka × Cm)} {N : Nat} {sa : Nat → Nat}  (x0 : Nat) (s0 : Nat) (s1 : Nat) (K : Ka) (M : Cm) (hf : bT_X9_init_66 N sa x0 s0 s1 K M = some o) : KLe K (oK sV o) := by
  unfold bT_X9_init_66 at hf
  obtain ⟨-, hf⟩ := gd_some hf
  obtain ⟨-, hf⟩ := gd_some hf
  exact (kNew_le _ _ _ _).tr (mbT_X9_init_74 _ _ _ _ _ hf)
set_option maxRecDepth 100000 in
set_option maxHeartbeats 4000000 in
theorem wbT_X9_init_66 {p : Program} {l : Launch} {e : Env} {R : Room} {s : State} {m : MethodId} {args : Array Value} {below : List Frame} {meth : Method} {c : Code} {x : Xc} {K0 : Ka} {o : (Ka × Cm) ⊕ (Ka × Cm)} {N : Nat}  (CTX : CT p l s m args meth c x K0 RX9 "<init>" cX9_init 6 none) (hRm : 6 ≤ R.frames ∧ 95 ≤ R.locals) (hRc : nz sV K0 o ≤ R.cells ∧ nu sV K0 o ≤ R.slots) (x0 : Nat) (s0 : Nat) (s1 : Nat) (K : Ka) (M : Cm) (H : Heap) (locs : List Loc) (ls : Array Slot) (hf : bT_X9_init_66 N x.2.2.1 x0 s0 s1 K M = some o) (hL : KLe K0 K) (hR : RC x K M H) (hS : va_S (AC K0) s.heap H locs) (hl : lv_has ls 6 [(0, .ref x0)]) : W p l e R s m args below meth c H locs (kz K - kz K0) (ku K - ku K0) (TQ sV (aQV x K0) (zQV K0) "java/lang/IllegalStateException" x K0 below args s o) (F0 m 66 ls [.ref s1, .ref s0]) := by
  obtain ⟨CX, hno, hlt, hmn⟩ := id CTX
  obtain ⟨hx, hb, hml, hown, hts, hE, hB, hr, hlk⟩ := id CX
  have hcs := nz_le (mbT_X9_init_66  x0 s0 s1 K M hf) hRc
  unfold bT_X9_init_66 at hf
  obtain ⟨hk_s0_10, hf⟩ := gd_some hf
  refine tr_putFR kc_9 CX hmn hR hL hS (v := some s1) ff_X9_46 ⟨rfl, rfl, .inr ⟨_, rfl⟩⟩ hk_s0_10 dX9_init_66 (fun H locs hR hS => ?_)
  refine lv_aload_n hx hb dX9_init_69 rfl (lv_at hl 0 rfl) ?_
  refine lv_bipush (v := 48) hx hb dX9_init_70 (by decide) ?_
  obtain ⟨hq, hf⟩ := gd_some hf
  have hm1 := mbT_X9_init_74 _ _ _ _ _ hf
  have hb1 := nz_le hm1 hRc
  refine tr_newai CX hL hR hS hq hb1 dX9_init_72 (fun H hR hS => ?_)
  exact (wbT_X9_init_74 CTX hRm hRc) _ _ _ _ _ _ _ _ hf (hL.tr (kNew_le _ _ _ _)) hR hS (lv_sub hl [0] rfl)
def bT_X9_init_58 (N : Nat) (sa : Nat → Nat) (x0 : Nat) (s0 : Nat) (s1 : Nat) (K : Ka) (M : Cm) : Option ((Ka × Cm) ⊕ (Ka × Cm)) := gd (kd K s0 == 10) (gd (decide (¬ (48 : Int32) < 0 ∧ (48 : Int32).toNatClampNeg ≤ 1000000)) ((bT_X9_init_66 N sa) x0 x0 (kz K) (kNew K 23 (48 : Int32).toNatClampNeg (48 : Int32).toNatClampNeg) (mZ (wR M s0 13 (some s1)) (kz K))))
theorem mbT_X9_init_58 {o : (Ka × Cm) ⊕ (Ka × Cm)} {N : Nat} {sa : Nat → Nat}  (x0 : Nat) (s0 : Nat) (s1 : Nat) (K : Ka) (M : Cm) (hf : bT_X9_init_58 N sa x0 s0 s1 K M = some o) : KLe K (oK sV o) := by
  unfold bT_X9_init_58 at hf
  obtain ⟨-, hf⟩ := gd_some hf
  obtain ⟨-, hf⟩ := gd_some hf
  exact (kNew_le _ _ _ _).tr (mbT_X9_init_66 _ _ _ _ _ hf)
set_option maxRecDepth 100000 in
set_option maxHeartbeats 4000000 in
theorem wbT_X9_init_58 {p : Program} {l : Launch} {e : Env} {R : Room} {s : State} {m : MethodId} {args : Array Value} {below : List Frame} {meth : Method} {c : Code} {x : Xc} {K0 : Ka} {o : (Ka × Cm) ⊕ (Ka × Cm)} {N : Nat}  (CTX : CT p l s m args meth c x K0 RX9 "<init>" cX9_init 6 none) (hRm : 6 ≤ R.frames ∧ 95 ≤ R.locals) (hRc : nz sV K0 o ≤ R.cells ∧ nu sV K0 o ≤ R.slots) (x0 : Nat) (s0 : Nat) (s1 : Nat) (K : Ka) (M : Cm) (H : Heap) (locs : List Loc) (ls : Array Slot) (hf : bT_X9_init_58 N x.2.2.1 x0 s0 s1 K M = some o) (hL : KLe K0 K) (hR : RC x K M H) (hS : va_S (AC K0) s.heap H locs) (hl : lv_has ls 6 [(0, .ref x0)]) : W p l e R s m args below meth c H locs (kz K - kz K0) (ku K - ku K0) (TQ sV (aQV x K0) (zQV K0) "java/lang/IllegalStateException" x K0 below args s o) (F0 m 58 ls [.ref s1, .ref s0]) := by
  obtain ⟨CX, hno, hlt, hmn⟩ := id CTX
  obtain ⟨hx, hb, hml, hown, hts, hE, hB, hr, hlk⟩ := id CX
  have hcs := nz_le (mbT_X9_init_58  x0 s0 s1 K M hf) hRc
  unfold bT_X9_init_58 at hf
  obtain ⟨hk_s0_10, hf⟩ := gd_some hf
  refine tr_putFR kc_9 CX hmn hR hL hS (v := some s1) ff_X9_43 ⟨rfl, rfl, .inr ⟨_, rfl⟩⟩ hk_s0_10 dX9_init_58 (fun H locs hR hS => ?_)
  refine lv_aload_n hx hb dX9_init_61 rfl (lv_at hl 0 rfl) ?_
  refine lv_bipush (v := 48) hx hb dX9_init_62 (by decide) ?_
  obtain ⟨hq, hf⟩ := gd_some hf
  have hm1 := mbT_X9_init_66 _ _ _ _ _ hf
  have hb1 := nz_le hm1 hRc
  refine tr_newal CX hL hR hS hq hb1 dX9_init_64 (fun H hR hS => ?_)
  exact (wbT_X9_init_66 CTX hRm hRc) _ _ _ _ _ _ _ _ hf (hL.tr (kNew_le _ _ _ _)) hR hS (lv_sub hl [0] rfl)
def bT_X9_init_51 (N : Nat) (sa : Nat → Nat) (x0 : Nat) (s0 : Nat) (s1 : Nat) (K : Ka) (M : Cm) : Option ((Ka × Cm) ⊕ (Ka × Cm)) := gd (kd K s0 == 10) (gd (decide (¬ (2 : Int32) < 0 ∧ (2 : Int32).toNatClampNeg ≤ 1000000)) ((bT_X9_init_58 N sa) x0 x0 (kz K) (kNew K 22 (2 : Int32).toNatClampNeg (2 : Int32).toNatClampNeg) (mZ (wR M s0 10 (some s1)) (kz K))))
theorem mbT_X9_init_51 {o : (Ka × Cm) ⊕ (Ka × Cm)} {N : Nat} {sa : Nat → Nat}  (x0 : Nat) (s0 : Nat) (s1 : Nat) (K : Ka) (M : Cm) (hf : bT_X9_init_51 N sa x0 s0 s1 K M = some o) : KLe K (oK sV o) := by
  unfold bT_X9_init_51 at hf
  obtain ⟨-, hf⟩ := gd_some hf
  obtain ⟨-, hf⟩ := gd_some hf
  exact (kNew_le _ _ _ _).tr (mbT_X9_init_58 _ _ _ _ _ hf)
set_option maxRecDepth 100000 in
set_option maxHeartbeats 4000000 in
theorem wbT_X9_init_51 {p : Program} {l : Launch} {e : Env} {R : Room} {s : State} {m : MethodId} {args : Array Value} {below : List Frame} {meth : Method} {c : Code} {x : Xc} {K0 : Ka} {o : (Ka × Cm) ⊕ (Ka × Cm)} {N : Nat}  (CTX : CT p l s m args meth c x K0 RX9 "<init>" cX9_init 6 none) (hRm : 6 ≤ R.frames ∧ 95 ≤ R.locals) (hRc : nz sV K0 o ≤ R.cells ∧ nu sV K0 o ≤ R.slots) (x0 : Nat) (s0 : Nat) (s1 : Nat) (K : Ka) (M : Cm) (H : Heap) (locs : List Loc) (ls : Array Slot) (hf : bT_X9_init_51 N x.2.2.1 x0 s0 s1 K M = some o) (hL : KLe K0 K) (hR : RC x K M H) (hS : va_S (AC K0) s.heap H locs) (hl : lv_has ls 6 [(0, .ref x0)]) : W p l e R s m args below meth c H locs (kz K - kz K0) (ku K - ku K0) (TQ sV (aQV x K0) (zQV K0) "java/lang/IllegalStateException" x K0 below args s o) (F0 m 51 ls [.ref s1, .ref s0]) := by
  obtain ⟨CX, hno, hlt, hmn⟩ := id CTX
  obtain ⟨hx, hb, hml, hown, hts, hE, hB, hr, hlk⟩ := id CX
  have hcs := nz_le (mbT_X9_init_51  x0 s0 s1 K M hf) hRc
  unfold bT_X9_init_51 at hf
  obtain ⟨hk_s0_10, hf⟩ := gd_some hf
  refine tr_putFR kc_9 CX hmn hR hL hS (v := some s1) ff_X9_40 ⟨rfl, rfl, .inr ⟨_, rfl⟩⟩ hk_s0_10 dX9_init_51 (fun H locs hR hS => ?_)
  refine lv_aload_n hx hb dX9_init_54 rfl (lv_at hl 0 rfl) ?_
  refine lv_iconst (v := 2) hx hb dX9_init_55 (by decide) ?_
  obtain ⟨hq, hf⟩ := gd_some hf
  have hm1 := mbT_X9_init_58 _ _ _ _ _ hf
  have hb1 := nz_le hm1 hRc
  refine tr_newai CX hL hR hS hq hb1 dX9_init_56 (fun H hR hS => ?_)
  exact (wbT_X9_init_58 CTX hRm hRc) _ _ _ _ _ _ _ _ hf (hL.tr (kNew_le _ _ _ _)) hR hS (lv_sub hl [0] rfl)
def bT_X9_init_37 (N : Nat) (sa : Nat → Nat) (x0 : Nat) (s0 : Nat) (s1 : Nat) (K : Ka) (M : Cm) : Option ((Ka × Cm) ⊕ (Ka × Cm)) := gd (kd K s0 == 10) (gd (kd K x0 == 10) (gd (decide (¬ (26 : Int32) < 0 ∧ (26 : Int32).toNatClampNeg ≤ 1000000)) ((bT_X9_init_51 N sa) x0 x0 (kz K) (kNew K 23 (26 : Int32).toNatClampNeg (26 : Int32).toNatClampNeg) (mZ (wR (wR M s0 6 (some s1)) x0 9 (some (sa 0))) (kz K)))))
theorem mbT_X9_init_37 {o : (Ka × Cm) ⊕ (Ka × Cm)} {N : Nat} {sa : Nat → Nat}  (x0 : Nat) (s0 : Nat) (s1 : Nat) (K : Ka) (M : Cm) (hf : bT_X9_init_37 N sa x0 s0 s1 K M = some o) : KLe K (oK sV o) := by
  unfold bT_X9_init_37 at hf
  obtain ⟨-, hf⟩ := gd_some hf
  obtain ⟨-, hf⟩ := gd_some hf
  obtain ⟨-, hf⟩ := gd_some hf
  exact (kNew_le _ _ _ _).tr (mbT_X9_init_51 _ _ _ _ _ hf)
set_option maxRecDepth 100000 in
set_option maxHeartbeats 4000000 in
theorem wbT_X9_init_37 {p : Program} {l : Launch} {e : Env} {R : Room} {s : State} {m : MethodId} {args : Array Value} {below : List Frame} {meth : Method} {c : Code} {x : Xc} {K0 : Ka} {o : (Ka × Cm) ⊕ (Ka × Cm)} {N : Nat}  (CTX : CT p l s m args meth c x K0 RX9 "<init>" cX9_init 6 none) (hRm : 6 ≤ R.frames ∧ 95 ≤ R.locals) (hRc : nz sV K0 o ≤ R.cells ∧ nu sV K0 o ≤ R.slots) (x0 : Nat) (s0 : Nat) (s1 : Nat) (K : Ka) (M : Cm) (H : Heap) (locs : List Loc) (ls : Array Slot) (hf : bT_X9_init_37 N x.2.2.1 x0 s0 s1 K M = some o) (hL : KLe K0 K) (hR : RC x K M H) (hS : va_S (AC K0) s.heap H locs) (hl : lv_has ls 6 [(0, .ref x0)]) : W p l e R s m args below meth c H locs (kz K - kz K0) (ku K - ku K0) (TQ sV (aQV x K0) (zQV K0) "java/lang/IllegalStateException" x K0 below args s o) (F0 m 37 ls [.ref s1, .ref s0]) := by
  obtain ⟨CX, hno, hlt, hmn⟩ := id CTX
  obtain ⟨hx, hb, hml, hown, hts, hE, hB, hr, hlk⟩ := id CX
  have hcs := nz_le (mbT_X9_init_37  x0 s0 s1 K M hf) hRc
  unfold bT_X9_init_37 at hf
  obtain ⟨hk_s0_10, hf⟩ := gd_some hf
  refine tr_putFR kc_9 CX hmn hR hL hS (v := some s1) ff_X9_30 ⟨rfl, rfl, .inr ⟨_, rfl⟩⟩ hk_s0_10 dX9_init_37 (fun H locs hR hS => ?_)
  refine lv_aload_n hx hb dX9_init_40 rfl (lv_at hl 0 rfl) ?_
  refine ss_ldc (i := 0) CX (by decide) dX9_init_41 ?_
  obtain ⟨hk_x0_10, hf⟩ := gd_some hf
  refine tr_putFR kc_9 CX hmn hR hL hS (v := some (x.2.2.1 0)) ff_X9_36 ⟨rfl, rfl, .inl ⟨_, rfl⟩⟩ hk_x0_10 dX9_init_43 (fun H locs hR hS => ?_)
  refine lv_aload_n hx hb dX9_init_46 rfl (lv_at hl 0 rfl) ?_
  refine lv_bipush (v := 26) hx hb dX9_init_47 (by decide) ?_
  obtain ⟨hq, hf⟩ := gd_some hf
  have hm1 := mbT_X9_init_51 _ _ _ _ _ hf
  have hb1 := nz_le hm1 hRc
  refine tr_newal CX hL hR hS hq hb1 dX9_init_49 (fun H hR hS => ?_)
  exact (wbT_X9_init_51 CTX hRm hRc) _ _ _ _ _ _ _ _ hf (hL.tr (kNew_le _ _ _ _)) hR hS (lv_sub hl [0] rfl)
def bT_X9_init_28 (N : Nat) (sa : Nat → Nat) (x0 : Nat) (s0 : Nat) (s1 : Nat) (K : Ka) (M : Cm) : Option ((Ka × Cm) ⊕ (Ka × Cm)) := gd (kd K s0 == 10) (gd (decide (¬ (4002 : Int32) < 0 ∧ (4002 : Int32).toNatClampNeg ≤ 1000000)) ((bT_X9_init_37 N sa) x0 x0 (kz K) (kNew K 23 (4002 : Int32).toNatClampNeg (4002 : Int32).toNatClampNeg) (mZ (wR M s0 5 (some s1)) (kz K))))
theorem mbT_X9_init_28 {o : (Ka × Cm) ⊕ (Ka × Cm)} {N : Nat} {sa : Nat → Nat}  (x0 : Nat) (s0 : Nat) (s1 : Nat) (K : Ka) (M : Cm) (hf : bT_X9_init_28 N sa x0 s0 s1 K M = some o) : KLe K (oK sV o) := by
  unfold bT_X9_init_28 at hf
  obtain ⟨-, hf⟩ := gd_some hf
  obtain ⟨-, hf⟩ := gd_some hf
  exact (kNew_le _ _ _ _).tr (mbT_X9_init_37 _ _ _ _ _ hf)
set_option maxRecDepth 100000 in
set_option maxHeartbeats 4000000 in
theorem wbT_X9_init_28 {p : Program} {l : Launch} {e : Env} {R : Room} {s : State} {m : MethodId} {args : Array Value} {below : List Frame} {meth : Method} {c : Code} {x : Xc} {K0 : Ka} {o : (Ka × Cm) ⊕ (Ka × Cm)} {N : Nat}  (CTX : CT p l s m args meth c x K0 RX9 "<init>" cX9_init 6 none) (hRm : 6 ≤ R.frames ∧ 95 ≤ R.locals) (hRc : nz sV K0 o ≤ R.cells ∧ nu sV K0 o ≤ R.slots) (x0 : Nat) (s0 : Nat) (s1 : Nat) (K : Ka) (M : Cm) (H : Heap) (locs : List Loc) (ls : Array Slot) (hf : bT_X9_init_28 N x.2.2.1 x0 s0 s1 K M = some o) (hL : KLe K0 K) (hR : RC x K M H) (hS : va_S (AC K0) s.heap H locs) (hl : lv_has ls 6 [(0, .ref x0)]) : W p l e R s m args below meth c H locs (kz K - kz K0) (ku K - ku K0) (TQ sV (aQV x K0) (zQV K0) "java/lang/IllegalStateException" x K0 below args s o) (F0 m 28 ls [.ref s1, .ref s0]) := by
  obtain ⟨CX, hno, hlt, hmn⟩ := id CTX
  obtain ⟨hx, hb, hml, hown, hts, hE, hB, hr, hlk⟩ := id CX
  have hcs := nz_le (mbT_X9_init_28  x0 s0 s1 K M hf) hRc
  unfold bT_X9_init_28 at hf
  obtain ⟨hk_s0_10, hf⟩ := gd_some hf
  refine tr_putFR kc_9 CX hmn hR hL hS (v := some s1) ff_X9_27 ⟨rfl, rfl, .inr ⟨_, rfl⟩⟩ hk_s0_10 dX9_init_28 (fun H locs hR hS => ?_)
  refine lv_aload_n hx hb dX9_init_31 rfl (lv_at hl 0 rfl) ?_
  refine lv_sipush (v := 4002) hx hb dX9_init_32 (by decide) ?_
  obtain ⟨hq, hf⟩ := gd_some hf
  have hm1 := mbT_X9_init_37 _ _ _ _ _ hf
  have hb1 := nz_le hm1 hRc
  refine tr_newal CX hL hR hS hq hb1 dX9_init_35 (fun H hR hS => ?_)
  exact (wbT_X9_init_37 CTX hRm hRc) _ _ _ _ _ _ _ _ hf (hL.tr (kNew_le _ _ _ _)) hR hS (lv_sub hl [0] rfl)
def bT_X9_init_19 (N : Nat) (sa : Nat → Nat) (x0 : Nat) (s0 : Nat) (s1 : Nat) (K : Ka) (M : Cm) : Option ((Ka × Cm) ⊕ (Ka × Cm)) := gd (kd K s0 == 10) (gd (decide (¬ (4002 : Int32) < 0 ∧ (4002 : Int32).toNatClampNeg ≤ 1000000)) ((bT_X9_init_28 N sa) x0 x0 (kz K) (kNew K 22 (4002 : Int32).toNatClampNeg (4002 : Int32).toNatClampNeg) (mZ (wR M s0 4 (some s1)) (kz K))))
theorem mbT_X9_init_19 {o : (Ka × Cm) ⊕ (Ka × Cm)} {N : Nat} {sa : Nat → Nat}  (x0 : Nat) (s0 : Nat) (s1 : Nat) (K : Ka) (M : Cm) (hf : bT_X9_init_19 N sa x0 s0 s1 K M = some o) : KLe K (oK sV o) := by
  unfold bT_X9_init_19 at hf
  obtain ⟨-, hf⟩ := gd_some hf
  obtain ⟨-, hf⟩ := gd_some hf
  exact (kNew_le _ _ _ _).tr (mbT_X9_init_28 _ _ _ _ _ hf)
set_option maxRecDepth 100000 in
set_option maxHeartbeats 4000000 in
theorem wbT_X9_init_19 {p : Program} {l : Launch} {e : Env} {R : Room} {s : State} {m : MethodId} {args : Array Value} {below : List Frame} {meth : Method} {c : Code} {x : Xc} {K0 : Ka} {o : (Ka × Cm) ⊕ (Ka × Cm)} {N : Nat}  (CTX : CT p l s m args meth c x K0 RX9 "<init>" cX9_init 6 none) (hRm : 6 ≤ R.frames ∧ 95 ≤ R.locals) (hRc : nz sV K0 o ≤ R.cells ∧ nu sV K0 o ≤ R.slots) (x0 : Nat) (s0 : Nat) (s1 : Nat) (K : Ka) (M : Cm) (H : Heap) (locs : List Loc) (ls : Array Slot) (hf : bT_X9_init_19 N x.2.2.1 x0 s0 s1 K M = some o) (hL : KLe K0 K) (hR : RC x K M H) (hS : va_S (AC K0) s.heap H locs) (hl : lv_has ls 6 [(0, .ref x0)]) : W p l e R s m args below meth c H locs (kz K - kz K0) (ku K - ku K0) (TQ sV (aQV x K0) (zQV K0) "java/lang/IllegalStateException" x K0 below args s o) (F0 m 19 ls [.ref s1, .ref s0]) := by
  obtain ⟨CX, hno, hlt, hmn⟩ := id CTX
  obtain ⟨hx, hb, hml, hown, hts, hE, hB, hr, hlk⟩ := id CX
  have hcs := nz_le (mbT_X9_init_19  x0 s0 s1 K M hf) hRc
  unfold bT_X9_init_19 at hf
  obtain ⟨hk_s0_10, hf⟩ := gd_some hf
  refine tr_putFR kc_9 CX hmn hR hL hS (v := some s1) ff_X9_24 ⟨rfl, rfl, .inr ⟨_, rfl⟩⟩ hk_s0_10 dX9_init_19 (fun H locs hR hS => ?_)
  refine lv_aload_n hx hb dX9_init_22 rfl (lv_at hl 0 rfl) ?_
  refine lv_sipush (v := 4002) hx hb dX9_init_23 (by decide) ?_
  obtain ⟨hq, hf⟩ := gd_some hf
  have hm1 := mbT_X9_init_28 _ _ _ _ _ hf
  have hb1 := nz_le hm1 hRc
  refine tr_newai CX hL hR hS hq hb1 dX9_init_26 (fun H hR hS => ?_)
  exact (wbT_X9_init_28 CTX hRm hRc) _ _ _ _ _ _ _ _ hf (hL.tr (kNew_le _ _ _ _)) hR hS (lv_sub hl [0] rfl)
def bT_X9_init_10 (N : Nat) (sa : Nat → Nat) (x0 : Nat) (s0 : Nat) (s1 : Nat) (K : Ka) (M : Cm) : Option ((Ka × Cm) ⊕ (Ka × Cm)) := gd (kd K s0 == 10) (gd (decide (¬ (4002 : Int32) < 0 ∧ (4002 : Int32).toNatClampNeg ≤ 1000000)) ((bT_X9_init_19 N sa) x0 x0 (kz K) (kNew K 22 (4002 : Int32).toNatClampNeg (4002 : Int32).toNatClampNeg) (mZ (wR M s0 1 (some s1)) (kz K))))
theorem mbT_X9_init_10 {o : (Ka × Cm) ⊕ (Ka × Cm)} {N : Nat} {sa : Nat → Nat}  (x0 : Nat) (s0 : Nat) (s1 : Nat) (K : Ka) (M : Cm) (hf : bT_X9_init_10 N sa x0 s0 s1 K M = some o) : KLe K (oK sV o) := by
  unfold bT_X9_init_10 at hf
  obtain ⟨-, hf⟩ := gd_some hf
  obtain ⟨-, hf⟩ := gd_some hf
  exact (kNew_le _ _ _ _).tr (mbT_X9_init_19 _ _ _ _ _ hf)
set_option maxRecDepth 100000 in
set_option maxHeartbeats 4000000 in
theorem wbT_X9_init_10 {p : Program} {l : Launch} {e : Env} {R : Room} {s : State} {m : MethodId} {args : Array Value} {below : List Frame} {meth : Method} {c : Code} {x : Xc} {K0 : Ka} {o : (Ka × Cm) ⊕ (Ka × Cm)} {N : Nat}  (CTX : CT p l s m args meth c x K0 RX9 "<init>" cX9_init 6 none) (hRm : 6 ≤ R.frames ∧ 95 ≤ R.locals) (hRc : nz sV K0 o ≤ R.cells ∧ nu sV K0 o ≤ R.slots) (x0 : Nat) (s0 : Nat) (s1 : Nat) (K : Ka) (M : Cm) (H : Heap) (locs : List Loc) (ls : Array Slot) (hf : bT_X9_init_10 N x.2.2.1 x0 s0 s1 K M = some o) (hL : KLe K0 K) (hR : RC x K M H) (hS : va_S (AC K0) s.heap H locs) (hl : lv_has ls 6 [(0, .ref x0)]) : W p l e R s m args below meth c H locs (kz K - kz K0) (ku K - ku K0) (TQ sV (aQV x K0) (zQV K0) "java/lang/IllegalStateException" x K0 below args s o) (F0 m 10 ls [.ref s1, .ref s0]) := by
  obtain ⟨CX, hno, hlt, hmn⟩ := id CTX
  obtain ⟨hx, hb, hml, hown, hts, hE, hB, hr, hlk⟩ := id CX
  have hcs := nz_le (mbT_X9_init_10  x0 s0 s1 K M hf) hRc
  unfold bT_X9_init_10 at hf
  obtain ⟨hk_s0_10, hf⟩ := gd_some hf
  refine tr_putFR kc_9 CX hmn hR hL hS (v := some s1) ff_X9_14 ⟨rfl, rfl, .inr ⟨_, rfl⟩⟩ hk_s0_10 dX9_init_10 (fun H locs hR hS => ?_)
  refine lv_aload_n hx hb dX9_init_13 rfl (lv_at hl 0 rfl) ?_
  refine lv_sipush (v := 4002) hx hb dX9_init_14 (by decide) ?_
  obtain ⟨hq, hf⟩ := gd_some hf
  have hm1 := mbT_X9_init_19 _ _ _ _ _ hf
  have hb1 := nz_le hm1 hRc
  refine tr_newai CX hL hR hS hq hb1 dX9_init_17 (fun H hR hS => ?_)
  exact (wbT_X9_init_19 CTX hRm hRc) _ _ _ _ _ _ _ _ hf (hL.tr (kNew_le _ _ _ _)) hR hS (lv_sub hl [0] rfl)
def fT_X9_init (N : Nat) (sa : Nat → Nat) (x0 : Nat) (K : Ka) (M : Cm) : Option ((Ka × Cm) ⊕ (Ka × Cm)) := gd (decide (¬ (4000 : Int32) < 0 ∧ (4000 : Int32).toNatClampNeg ≤ 1000000)) ((bT_X9_init_10 N sa) x0 x0 (kz K) (kNew K 22 (4000 : Int32).toNatClampNeg (4000 : Int32).toNatClampNeg) (mZ M (kz K)))
theorem mfT_X9_init {o : (Ka × Cm) ⊕ (Ka × Cm)} {N : Nat} {sa : Nat → Nat}  (x0 : Nat) (K : Ka) (M : Cm) (hf : fT_X9_init N sa x0 K M = some o) : KLe K (oK sV o) := by
  unfold fT_X9_init at hf
  obtain ⟨-, hf⟩ := gd_some hf
  exact (kNew_le _ _ _ _).tr (mbT_X9_init_10 _ _ _ _ _ hf)
set_option maxRecDepth 100000 in
set_option maxHeartbeats 4000000 in
theorem wfT_X9_init {p : Program} {l : Launch} {e : Env} {R : Room} {s : State} {m : MethodId} {args : Array Value} {below : List Frame} {meth : Method} {c : Code} {x : Xc} {K0 : Ka} {o : (Ka × Cm) ⊕ (Ka × Cm)} {N : Nat}  (CTX : CT p l s m args meth c x K0 RX9 "<init>" cX9_init 6 none) (hRm : 6 ≤ R.frames ∧ 95 ≤ R.locals) (hRc : nz sV K0 o ≤ R.cells ∧ nu sV K0 o ≤ R.slots) (x0 : Nat) (K : Ka) (M : Cm) (H : Heap) (locs : List Loc) (ls : Array Slot) (hf : fT_X9_init N x.2.2.1 x0 K M = some o) (hL : KLe K0 K) (hR : RC x K M H) (hS : va_S (AC K0) s.heap H locs) (hl : lv_has ls 6 [(0, .ref x0)]) : W p l e R s m args below meth c H locs (kz K - kz K0) (ku K - ku K0) (TQ sV (aQV x K0) (zQV K0) "java/lang/IllegalStateException" x K0 below args s o) (F0 m 0 ls []) := by
  obtain ⟨CX, hno, hlt, hmn⟩ := id CTX
  obtain ⟨hx, hb, hml, hown, hts, hE, hB, hr, hlk⟩ := id CX
  have hcs := nz_le (mfT_X9_init  x0 K M hf) hRc
  unfold fT_X9_init at hf
  refine lv_aload_n hx hb dX9_init_0 rfl (lv_at hl 0 rfl) ?_
  refine tr_objInit CX wi_X9_18 hl.1 (by omega) (by omega) (Nat.le_of_ble_eq_true rfl) dX9_init_1 ?_
  refine lv_aload_n hx hb dX9_init_4 rfl (lv_at hl 0 rfl) ?_
  refine lv_sipush (v := 4000) hx hb dX9_init_5 (by decide) ?_
  obtain ⟨hq, hf⟩ := gd_some hf
  have hm1 := mbT_X9_init_10 _ _ _ _ _ hf
  have hb1 := nz_le hm1 hRc
  refine tr_newai CX hL hR hS hq hb1 dX9_init_8 (fun H hR hS => ?_)
  exact (wbT_X9_init_10 CTX hRm hRc) _ _ _ _ _ _ _ _ hf (hL.tr (kNew_le _ _ _ _)) hR hS (lv_sub hl [0] rfl)
theorem MT_X9_init (l : Launch) (x : Xc) (hlt : l.stackTraces = false) (N : Nat) (x0 : Nat) (K : Ka) (M : Cm) (o : (Ka × Cm) ⊕ (Ka × Cm)) (hf : fT_X9_init N x.2.2.1 x0 K M = some o) : Tc sV (aQV x K) (zQV K) "java/lang/IllegalStateException" l x yX9_init cX9_init 6 none 6 95 [.ref x0] K M o :=
  tr_met RX9 "<init>" hlt (by decide) rfl rfl (Nat.le_of_ble_eq_true rfl) (fun p e s m args below meth c ls CTX hR hl => wfT_X9_init CTX ⟨Nat.le_refl _, Nat.le_refl _⟩ ⟨Nat.le_refl _, Nat.le_refl _⟩ x0 K M s.heap [] ls hf (KLe.rf K) hR va_S.rf hl)
