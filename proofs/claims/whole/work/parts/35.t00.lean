def bC_X9_isLetter_17 (N : Nat) (K : Ka) (s0 : Int32) (M : Cm) : Option (Int32 × Cm) := gd (is01 s0) (some (s0, M))
set_option maxRecDepth 100000 in
set_option maxHeartbeats 4000000 in
theorem wbC_X9_isLetter_17 {p : Program} {l : Launch} {e : Env} {R : Room} {s : State} {m : MethodId} {args : Array Value} {below : List Frame} {meth : Method} {c : Code} {x : Xc} {o : Int32 × Cm} {N : Nat} {K : Ka} (CX : CC p s m args meth c x K RX9 cX9_isLetter 1 (some .boolean)) (hRm : 0 ≤ R.frames ∧ 0 ≤ R.locals) (s0 : Int32) (M : Cm) (H : Heap) (locs : List Loc) (ls : Array Slot) (hf : bC_X9_isLetter_17 N K s0 M = some o) (hR : RC x K M H) (hS : va_S (AC K) s.heap H locs) (hl : lv_has ls 1 []) : W p l e R s m args below meth c H locs 0 0 (MQ below (CQI x K o) args s 0 0 (AC K)) (F0 m 17 ls [.int s0]) := by
  obtain ⟨hx, hb, hml, hown, hts, hE, hB, hr, hlk⟩ := id CX
  have hL : KLe K K := KLe.rf K
  have hcs : 0 ≤ R.cells ∧ 0 ≤ R.slots := ⟨Nat.zero_le _, Nat.zero_le _⟩
  unfold bC_X9_isLetter_17 at hf
  obtain ⟨hz, hf⟩ := gd_some hf
  exact cr_zret CX hR hS hz hf dX9_isLetter_17
def bC_X9_isLetter_16 (N : Nat) (K : Ka)  (M : Cm) : Option (Int32 × Cm) := (bC_X9_isLetter_17 N K) 0 M
set_option maxRecDepth 100000 in
set_option maxHeartbeats 4000000 in
theorem wbC_X9_isLetter_16 {p : Program} {l : Launch} {e : Env} {R : Room} {s : State} {m : MethodId} {args : Array Value} {below : List Frame} {meth : Method} {c : Code} {x : Xc} {o : Int32 × Cm} {N : Nat} {K : Ka} (CX : CC p s m args meth c x K RX9 cX9_isLetter 1 (some .boolean)) (hRm : 0 ≤ R.frames ∧ 0 ≤ R.locals)  (M : Cm) (H : Heap) (locs : List Loc) (ls : Array Slot) (hf : bC_X9_isLetter_16 N K  M = some o) (hR : RC x K M H) (hS : va_S (AC K) s.heap H locs) (hl : lv_has ls 1 []) : W p l e R s m args below meth c H locs 0 0 (MQ below (CQI x K o) args s 0 0 (AC K)) (F0 m 16 ls []) := by
  obtain ⟨hx, hb, hml, hown, hts, hE, hB, hr, hlk⟩ := id CX
  have hL : KLe K K := KLe.rf K
  have hcs : 0 ≤ R.cells ∧ 0 ≤ R.slots := ⟨Nat.zero_le _, Nat.zero_le _⟩
  unfold bC_X9_isLetter_16 at hf
  refine lv_iconst (v := 0) hx hb dX9_isLetter_16 (by decide) ?_
  exact (wbC_X9_isLetter_17 CX hRm) _ _ _ _ _ hf hR hS (lv_sub hl [] rfl)
def fC_X9_isLetter (N : Nat) (K : Ka) (x0 : Int32) (M : Cm) : Option (Int32 × Cm) := if x0 < 97 then ((bC_X9_isLetter_16 N K) M) else (if 122 < x0 then ((bC_X9_isLetter_16 N K) M) else ((bC_X9_isLetter_17 N K) 1 M))
set_option maxRecDepth 100000 in
set_option maxHeartbeats 4000000 in
theorem wfC_X9_isLetter {p : Program} {l : Launch} {e : Env} {R : Room} {s : State} {m : MethodId} {args : Array Value} {below : List Frame} {meth : Method} {c : Code} {x : Xc} {o : Int32 × Cm} {N : Nat} {K : Ka} (CX : CC p s m args meth c x K RX9 cX9_isLetter 1 (some .boolean)) (hRm : 0 ≤ R.frames ∧ 0 ≤ R.locals) (x0 : Int32) (M : Cm) (H : Heap) (locs : List Loc) (ls : Array Slot) (hf : fC_X9_isLetter N K x0 M = some o) (hR : RC x K M H) (hS : va_S (AC K) s.heap H locs) (hl : lv_has ls 1 [(0, .int x0)]) : W p l e R s m args below meth c H locs 0 0 (MQ below (CQI x K o) args s 0 0 (AC K)) (F0 m 0 ls []) := by
  obtain ⟨hx, hb, hml, hown, hts, hE, hB, hr, hlk⟩ := id CX
  have hL : KLe K K := KLe.rf K
  have hcs : 0 ≤ R.cells ∧ 0 ≤ R.slots := ⟨Nat.zero_le _, Nat.zero_le _⟩
  unfold fC_X9_isLetter at hf
  refine lv_iload_n hx hb dX9_isLetter_0 rfl (lv_at hl 0 rfl) ?_
  refine lv_bipush (v := 97) hx hb dX9_isLetter_1 (by decide) ?_
  refine lv_icmp_lt (tgt := 16) hx hb dX9_isLetter_3 (by decide) (fun hc => ?_) (fun hc => ?_)
  · rw [if_pos hc] at hf
    exact (wbC_X9_isLetter_16 CX hRm) _ _ _ _ hf hR hS (lv_sub hl [] rfl)
  · rw [if_neg hc] at hf
    refine lv_iload_n hx hb dX9_isLetter_6 rfl (lv_at hl 0 rfl) ?_
    refine lv_bipush (v := 122) hx hb dX9_isLetter_7 (by decide) ?_
    refine lv_icmp_gt (tgt := 16) hx hb dX9_isLetter_9 (by decide) (fun hc => ?_) (fun hc => ?_)
    · rw [if_pos hc] at hf
      exact (wbC_X9_isLetter_16 CX hRm) _ _ _ _ hf hR hS (lv_sub hl [] rfl)
    · rw [if_neg hc] at hf
      refine lv_iconst (v := 1) hx hb dX9_isLetter_12 (by decide) ?_
      refine lv_goto (tgt := 17) hx hb dX9_isLetter_13 (by decide) ?_
      exact (wbC_X9_isLetter_17 CX hRm) _ _ _ _ _ hf hR hS (lv_sub hl [] rfl)
theorem MC_X9_isLetter (l : Launch) (x : Xc) (N : Nat) (K : Ka) (x0 : Int32) (M : Cm) (o : Int32 × Cm) (hf : fC_X9_isLetter N K x0 M = some o) : CtI l x yX9_isLetter cX9_isLetter 1 (some .boolean) 0 0 [.int x0] K M o :=
  cr_metI RX9 (by decide) rfl (Nat.le_of_ble_eq_true rfl) (fun p e s m args below meth c ls CX hR hl => wfC_X9_isLetter CX ⟨Nat.le_refl _, Nat.le_refl _⟩ x0 M s.heap [] ls hf hR va_S.rf hl)
def bC_X9_rank_18 (N : Nat) (K : Ka) (s0 : Int32) (M : Cm) : Option (Int32 × Cm) := some (s0, M)
set_option maxRecDepth 100000 in
set_option maxHeartbeats 4000000 in
theorem wbC_X9_rank_18 {p : Program} {l : Launch} {e : Env} {R : Room} {s : State} {m : MethodId} {args : Array Value} {below : List Frame} {meth : Method} {c : Code} {x : Xc} {o : Int32 × Cm} {N : Nat} {K : Ka} (CX : CC p s m args meth c x K RX9 cX9_rank 1 (some .int)) (hRm : 1 ≤ R.frames ∧ 20 ≤ R.locals) (s0 : Int32) (M : Cm) (H : Heap) (locs : List Loc) (ls : Array Slot) (hf : bC_X9_rank_18 N K s0 M = some o) (hR : RC x K M H) (hS : va_S (AC K) s.heap H locs) (hl : lv_has ls 1 []) : W p l e R s m args below meth c H locs 0 0 (MQ below (CQI x K o) args s 0 0 (AC K)) (F0 m 18 ls [.int s0]) := by
  obtain ⟨hx, hb, hml, hown, hts, hE, hB, hr, hlk⟩ := id CX
  have hL : KLe K K := KLe.rf K
  have hcs : 0 ≤ R.cells ∧ 0 ≤ R.slots := ⟨Nat.zero_le _, Nat.zero_le _⟩
  unfold bC_X9_rank_18 at hf
  exact cr_iret CX hR hS hf dX9_rank_18
def fC_X9_rank (N : Nat) (K : Ka) (x0 : Int32) (M : Cm) : Option (Int32 × Cm) := (fC_X9_isLetter N K x0 M).bind fun o1 => if o1.1 = 0 then ((bC_X9_rank_18 N K) (x0 - 21) o1.2) else ((bC_X9_rank_18 N K) (x0 - 96) o1.2)
set_option maxRecDepth 100000 in
set_option maxHeartbeats 4000000 in
theorem wfC_X9_rank {p : Program} {l : Launch} {e : Env} {R : Room} {s : State} {m : MethodId} {args : Array Value} {below : List Frame} {meth : Method} {c : Code} {x : Xc} {o : Int32 × Cm} {N : Nat} {K : Ka} (CX : CC p s m args meth c x K RX9 cX9_rank 1 (some .int)) (hRm : 1 ≤ R.frames ∧ 20 ≤ R.locals) (x0 : Int32) (M : Cm) (H : Heap) (locs : List Loc) (ls : Array Slot) (hf : fC_X9_rank N K x0 M = some o) (hR : RC x K M H) (hS : va_S (AC K) s.heap H locs) (hl : lv_has ls 1 [(0, .int x0)]) : W p l e R s m args below meth c H locs 0 0 (MQ below (CQI x K o) args s 0 0 (AC K)) (F0 m 0 ls []) := by
  obtain ⟨hx, hb, hml, hown, hts, hE, hB, hr, hlk⟩ := id CX
  have hL : KLe K K := KLe.rf K
  have hcs : 0 ≤ R.cells ∧ 0 ≤ R.slots := ⟨Nat.zero_le _, Nat.zero_le _⟩
  unfold fC_X9_rank at hf
  refine lv_iload_n hx hb dX9_rank_0 rfl (lv_at hl 0 rfl) ?_
  obtain ⟨o1, ho1, hf⟩ := bnd_some hf
  refine cr_callIs CX hR hL hS (As := [.int x0]) (rest := []) (MC_X9_isLetter l x N K x0 M o1 ho1) cs_X9_261 ⟨by omega, by omega⟩ rfl rfl (Nat.le_of_ble_eq_true rfl) hl.1 dX9_rank_1 hcs (fun H locs hR hS => ?_)
  refine lv_if_eq (tgt := 14) hx hb dX9_rank_4 (by decide) (fun hc => ?_) (fun hc => ?_)
  · rw [if_pos hc] at hf
    refine lv_iload_n hx hb dX9_rank_14 rfl (lv_at hl 0 rfl) ?_
    refine lv_bipush (v := 21) hx hb dX9_rank_15 (by decide) ?_
    refine lv_isub hx hb dX9_rank_17 ?_
    exact (wbC_X9_rank_18 CX hRm) _ _ _ _ _ hf hR hS (lv_sub hl [] rfl)
  · rw [if_neg hc] at hf
    refine lv_iload_n hx hb dX9_rank_7 rfl (lv_at hl 0 rfl) ?_
    refine lv_bipush (v := 96) hx hb dX9_rank_8 (by decide) ?_
    refine lv_isub hx hb dX9_rank_10 ?_
    refine lv_goto (tgt := 18) hx hb dX9_rank_11 (by decide) ?_
    exact (wbC_X9_rank_18 CX hRm) _ _ _ _ _ hf hR hS (lv_sub hl [] rfl)
theorem MC_X9_rank (l : Launch) (x : Xc) (N : Nat) (K : Ka) (x0 : Int32) (M : Cm) (o : Int32 × Cm) (hf : fC_X9_rank N K x0 M = some o) : CtI l x yX9_rank cX9_rank 1 (some .int) 1 20 [.int x0] K M o :=
  cr_metI RX9 (by decide) rfl (Nat.le_of_ble_eq_true rfl) (fun p e s m args below meth c ls CX hR hl => wfC_X9_rank CX ⟨Nat.le_refl _, Nat.le_refl _⟩ x0 M s.heap [] ls hf hR va_S.rf hl)
def bT_J7_copyOf_59c91_17 (N : Nat) (x0 : Nat) (x1 : Int32) (s0 : Nat) (K : Ka) (M : Cm) : Option ((Nat × Ka × Cm) ⊕ (Ka × Cm)) := gd (kd K x0 == 22) (gd (kd K s0 == 22) (gd (cpok 0 0 (if x1 < (nI (le K x0)) then x1 else (nI (le K x0))) (le K x0) (le K s0)) (some (.inl (s0, K, wCp M x0 s0 (0 : Int32).toNatClampNeg (0 : Int32).toNatClampNeg ((if x1 < (nI (le K x0)) then x1 else (nI (le K x0))) : Int32).toNatClampNeg)))))
theorem mbT_J7_copyOf_59c91_17 {o : (Nat × Ka × Cm) ⊕ (Ka × Cm)} {N : Nat}  (x0 : Nat) (x1 : Int32) (s0 : Nat) (K : Ka) (M : Cm) (hf : bT_J7_copyOf_59c91_17 N x0 x1 s0 K M = some o) : KLe K (oK sT o) := by
  unfold bT_J7_copyOf_59c91_17 at hf
  obtain ⟨-, hf⟩ := gd_some hf
  obtain ⟨-, hf⟩ := gd_some hf
  obtain ⟨-, hf⟩ := gd_some hf
  cases hf
  exact KLe.rf _
set_option maxRecDepth 100000 in
set_option maxHeartbeats 4000000 in
theorem wbT_J7_copyOf_59c91_17 {p : Program} {l : Launch} {e : Env} {R : Room} {s : State} {m : MethodId} {args : Array Value} {below : List Frame} {meth : Method} {c : Code} {x : Xc} {K0 : Ka} {o : (Nat × Ka × Cm) ⊕ (Ka × Cm)} {N : Nat} (CTX : CT p l s m args meth c x K0 RJ7 "copyOf" cJ7_copyOf_59c91 3 (some (.array .int))) (hRm : 6 ≤ R.frames ∧ 95 ≤ R.locals) (hRc : nz sT K0 o ≤ R.cells ∧ nu sT K0 o ≤ R.slots) (x0 : Nat) (x1 : Int32) (s0 : Nat) (K : Ka) (M : Cm) (H : Heap) (locs : List Loc) (ls : Array Slot) (hf : bT_J7_copyOf_59c91_17 N x0 x1 s0 K M = some o) (hL : KLe K0 K) (hR : RC x K M H) (hS : va_S (AC K0) s.heap H locs) (hl : lv_has ls 3 [(0, .ref x0), (1, .int x1)]) : W p l e R s m args below meth c H locs (kz K - kz K0) (ku K - ku K0) (TQ sT (aQA x K0) (zQV K0) "java/lang/IllegalStateException" x K0 below args s o) (F0 m 17 ls [.ref s0]) := by
  obtain ⟨CX, hno, hlt, hmn⟩ := id CTX
  obtain ⟨hx, hb, hml, hown, hts, hE, hB, hr, hlk⟩ := id CX
  have hcs := nz_le (mbT_J7_copyOf_59c91_17  x0 x1 s0 K M hf) hRc
  unfold bT_J7_copyOf_59c91_17 at hf
  refine lv_astore_n (lv' := [(2, .ref s0), (0, .ref x0), (1, .int x1)]) hx hb dJ7_copyOf_59c91_17 rfl hl (by decide) rfl (fun ls hl => ?_)
  refine lv_aload_n hx hb dJ7_copyOf_59c91_18 rfl (lv_at hl 1 rfl) ?_
  refine lv_iconst (v := 0) hx hb dJ7_copyOf_59c91_19 (by decide) ?_
  refine lv_aload_n hx hb dJ7_copyOf_59c91_20 rfl (lv_at hl 0 rfl) ?_
  refine lv_iconst (v := 0) hx hb dJ7_copyOf_59c91_21 (by decide) ?_
  refine lv_aload_n hx hb dJ7_copyOf_59c91_22 rfl (lv_at hl 1 rfl) ?_
  obtain ⟨hk_x0_22, hf⟩ := gd_some hf
  refine cr_ilen CX hR hk_x0_22 dJ7_copyOf_59c91_23 ?_
  refine lv_iload_n hx hb dJ7_copyOf_59c91_24 rfl (lv_at hl 2 rfl) ?_
  refine cr_minI CX wl_J7_304 hl.1 (by omega) (by omega) (Nat.le_of_ble_eq_true rfl) hcs dJ7_copyOf_59c91_25 ?_
  obtain ⟨hk_s0_22, hf⟩ := gd_some hf
  obtain ⟨hq, hf⟩ := gd_some hf
  refine cr_copyi CX hR hL hS hk_x0_22 hk_s0_22 hq wn_J7_150 hl.1 (by omega) (by omega) (Nat.le_of_ble_eq_true rfl) dJ7_copyOf_59c91_28 (fun H locs hR hS => ?_)
  refine lv_aload_n hx hb dJ7_copyOf_59c91_31 rfl (lv_at hl 0 rfl) ?_
  exact tr_aret CX ⟨rfl, .inr ⟨_, rfl⟩⟩ hR hS hf dJ7_copyOf_59c91_32
def fT_J7_copyOf_59c91 (N : Nat) (x0 : Nat) (x1 : Int32) (K : Ka) (M : Cm) : Option ((Nat × Ka × Cm) ⊕ (Ka × Cm)) := gd (kd K x0 == 22) (if x1 = (nI (le K x0)) then (some (.inl (kz K, kNew K 22 (le K x0) (le K x0), mCl M x0 (kz K)))) else (gd (decide (¬ (x1 : Int32) < 0 ∧ (x1 : Int32).toNatClampNeg ≤ 1000000)) ((bT_J7_copyOf_59c91_17 N) x0 x1 (kz K) (kNew K 22 (x1 : Int32).toNatClampNeg (x1 : Int32).toNatClampNeg) (mZ M (kz K)))))
theorem mfT_J7_copyOf_59c91 {o : (Nat × Ka × Cm) ⊕ (Ka × Cm)} {N : Nat}  (x0 : Nat) (x1 : Int32) (K : Ka) (M : Cm) (hf : fT_J7_copyOf_59c91 N x0 x1 K M = some o) : KLe K (oK sT o) := by
  unfold fT_J7_copyOf_59c91 at hf
  obtain ⟨-, hf⟩ := gd_some hf
  by_cases hc : x1 = (nI (le K x0))
  · rw [if_pos hc] at hf
    cases hf
    exact kNew_le _ _ _ _
  · rw [if_neg hc] at hf
    obtain ⟨-, hf⟩ := gd_some hf
    exact (kNew_le _ _ _ _).tr (mbT_J7_copyOf_59c91_17 _ _ _ _ _ hf)
set_option maxRecDepth 100000 in
set_option maxHeartbeats 4000000 in
theorem wfT_J7_copyOf_59c91 {p : Program} {l : Launch} {e : Env} {R : Room} {s : State} {m : MethodId} {args : Array Value} {below : List Frame} {meth : Method} {c : Code} {x : Xc} {K0 : Ka} {o : (Nat × Ka × Cm) ⊕ (Ka × Cm)} {N : Nat} (CTX : CT p l s m args meth c x K0 RJ7 "copyOf" cJ7_copyOf_59c91 3 (some (.array .int))) (hRm : 6 ≤ R.frames ∧ 95 ≤ R.locals) (hRc : nz sT K0 o ≤ R.cells ∧ nu sT K0 o ≤ R.slots) (x0 : Nat) (x1 : Int32) (K : Ka) (M : Cm) (H : Heap) (locs : List Loc) (ls : Array Slot) (hf : fT_J7_copyOf_59c91 N x0 x1 K M = some o) (hL : KLe K0 K) (hR : RC x K M H) (hS : va_S (AC K0) s.heap H locs) (hl : lv_has ls 3 [(0, .ref x0), (1, .int x1)]) : W p l e R s m args below meth c H locs (kz K - kz K0) (ku K - ku K0) (TQ sT (aQA x K0) (zQV K0) "java/lang/IllegalStateException" x K0 below args s o) (F0 m 0 ls []) := by
  obtain ⟨CX, hno, hlt, hmn⟩ := id CTX
  obtain ⟨hx, hb, hml, hown, hts, hE, hB, hr, hlk⟩ := id CX
  have hcs := nz_le (mfT_J7_copyOf_59c91  x0 x1 K M hf) hRc
  unfold fT_J7_copyOf_59c91 at hf
  refine lv_iload_n hx hb dJ7_copyOf_59c91_0 rfl (lv_at hl 1 rfl) ?_
  refine lv_aload_n hx hb dJ7_copyOf_59c91_1 rfl (lv_at hl 0 rfl) ?_
  obtain ⟨hk_x0_22, hf⟩ := gd_some hf
  refine cr_ilen CX hR hk_x0_22 dJ7_copyOf_59c91_2 ?_
  refine lv_icmp_ne (tgt := 14) hx hb dJ7_copyOf_59c91_3 (by decide) (fun hc => ?_) (fun hc => ?_)
  · rw [if_neg hc] at hf
    refine lv_iload_n hx hb dJ7_copyOf_59c91_14 rfl (lv_at hl 1 rfl) ?_
    obtain ⟨hq, hf⟩ := gd_some hf
    have hm1 := mbT_J7_copyOf_59c91_17 _ _ _ _ _ hf
    have hb1 := nz_le hm1 hRc
    refine tr_newai CX hL hR hS hq hb1 dJ7_copyOf_59c91_15 (fun H hR hS => ?_)
    exact (wbT_J7_copyOf_59c91_17 CTX hRm hRc) _ _ _ _ _ _ _ _ hf (hL.tr (kNew_le _ _ _ _)) hR hS (lv_sub hl [0, 1] rfl)
  · rw [if_pos hc] at hf
    refine lv_aload_n hx hb dJ7_copyOf_59c91_6 rfl (lv_at hl 0 rfl) ?_
    have hm1 : KLe (kNew K 22 (le K x0) (le K x0)) (oK sT o) := by
      cases hf
      exact KLe.rf _
    have hb1 := nz_le hm1 hRc
    refine tr_clonei CX hL hR hS (by simpa using hk_x0_22) hl.1 (by omega) (by omega) (Nat.le_of_ble_eq_true rfl) hb1 dJ7_copyOf_59c91_7 dJ7_copyOf_59c91_10 (fun H hR hS => ?_)
    exact tr_aret CX ⟨rfl, .inr ⟨_, rfl⟩⟩ hR hS hf dJ7_copyOf_59c91_13
theorem MT_J7_copyOf_59c91 (l : Launch) (x : Xc) (hlt : l.stackTraces = false) (N : Nat) (x0 : Nat) (x1 : Int32) (K : Ka) (M : Cm) (o : (Nat × Ka × Cm) ⊕ (Ka × Cm)) (hf : fT_J7_copyOf_59c91 N x0 x1 K M = some o) : Tc sT (aQA x K) (zQV K) "java/lang/IllegalStateException" l x yJ7_copyOf_59c91 cJ7_copyOf_59c91 3 (some (.array .int)) 6 95 [.ref x0, .int x1] K M o :=
  tr_met RJ7 "copyOf" hlt (by decide) rfl rfl (Nat.le_of_ble_eq_true rfl) (fun p e s m args below meth c ls CTX hR hl => wfT_J7_copyOf_59c91 CTX ⟨Nat.le_refl _, Nat.le_refl _⟩ ⟨Nat.le_refl _, Nat.le_refl _⟩ x0 x1 K M s.heap [] ls hf (KLe.rf K) hR va_S.rf hl)
def bT_J7_copyOf_c38d5_17 (N : Nat) (x0 : Nat) (x1 : Int32) (s0 : Nat) (K : Ka) (M : Cm) : Option ((Nat × Ka × Cm) ⊕ (Ka × Cm)) := gd (kd K x0 == 23) (gd (kd K s0 == 23) (gd (cpok 0 0 (if x1 < (nI (le K x0)) then x1 else (nI (le K x0))) (le K x0) (le K s0)) (some (.inl (s0, K, wCpL M x0 s0 (0 : Int32).toNatClampNeg (0 : Int32).toNatClampNeg ((if x1 < (nI (le K x0)) then x1 else (nI (le K x0))) : Int32).toNatClampNeg)))))
theorem mbT_J7_copyOf_c38d5_17 {o : (Nat × Ka × Cm) ⊕ (Ka × Cm)} {N : Nat}  (x0 : Nat) (x1 : Int32) (s0 : Nat) (K : Ka) (M : Cm) (hf : bT_J7_copyOf_c38d5_17 N x0 x1 s0 K M = some o) : KLe K (oK sT o) := by
  unfold bT_J7_copyOf_c38d5_17 at hf
  obtain ⟨-, hf⟩ := gd_some hf
  obtain ⟨-, hf⟩ := gd_some hf
  obtain ⟨-, hf⟩ := gd_some hf
  cases hf
  exact KLe.rf _
set_option maxRecDepth 100000 in
set_option maxHeartbeats 4000000 in
theorem wbT_J7_copyOf_c38d5_17 {p : Program} {l : Launch} {e : Env} {R : Room} {s : State} {m : MethodId} {args : Array Value} {below : List Frame} {meth : Method} {c : Code} {x : Xc} {K0 : Ka} {o : (Nat × Ka × Cm) ⊕ (Ka × Cm)} {N : Nat} (CTX : CT p l s m args meth c x K0 RJ7 "copyOf" cJ7_copyOf_c38d5 3 (some (.array .long))) (hRm : 6 ≤ R.frames ∧ 95 ≤ R.locals) (hRc : nz sT K0 o ≤ R.cells ∧ nu sT K0 o ≤ R.slots) (x0 : Nat) (x1 : Int32) (s0 : Nat) (K : Ka) (M : Cm) (H : Heap) (locs : List Loc) (ls : Array Slot) (hf : bT_J7_copyOf_c38d5_17 N x0 x1 s0 K M = some o) (hL : KLe K0 K) (hR : RC x K M H) (hS : va_S (AC K0) s.heap H locs) (hl : lv_has ls 3 [(0, .ref x0), (1, .int x1)]) : W p l e R s m args below meth c H locs (kz K - kz K0) (ku K - ku K0) (TQ sT (aQA x K0) (zQV K0) "java/lang/IllegalStateException" x K0 below args s o) (F0 m 17 ls [.ref s0]) := by
  obtain ⟨CX, hno, hlt, hmn⟩ := id CTX
  obtain ⟨hx, hb, hml, hown, hts, hE, hB, hr, hlk⟩ := id CX
  have hcs := nz_le (mbT_J7_copyOf_c38d5_17  x0 x1 s0 K M hf) hRc
  unfold bT_J7_copyOf_c38d5_17 at hf
  refine lv_astore_n (lv' := [(2, .ref s0), (0, .ref x0), (1, .int x1)]) hx hb dJ7_copyOf_c38d5_17 rfl hl (by decide) rfl (fun ls hl => ?_)
  refine lv_aload_n hx hb dJ7_copyOf_c38d5_18 rfl (lv_at hl 1 rfl) ?_
  refine lv_iconst (v := 0) hx hb dJ7_copyOf_c38d5_19 (by decide) ?_
  refine lv_aload_n hx hb dJ7_copyOf_c38d5_20 rfl (lv_at hl 0 rfl) ?_
  refine lv_iconst (v := 0) hx hb dJ7_copyOf_c38d5_21 (by decide) ?_
  refine lv_aload_n hx hb dJ7_copyOf_c38d5_22 rfl (lv_at hl 1 rfl) ?_
  obtain ⟨hk_x0_23, hf⟩ := gd_some hf
  refine cr_llen CX hR hk_x0_23 dJ7_copyOf_c38d5_23 ?_
  refine lv_iload_n hx hb dJ7_copyOf_c38d5_24 rfl (lv_at hl 2 rfl) ?_
  refine cr_minI CX wl_J7_304 hl.1 (by omega) (by omega) (Nat.le_of_ble_eq_true rfl) hcs dJ7_copyOf_c38d5_25 ?_
  obtain ⟨hk_s0_23, hf⟩ := gd_some hf
  obtain ⟨hq, hf⟩ := gd_some hf
  refine cr_copyl CX hR hL hS hk_x0_23 hk_s0_23 hq wn_J7_150 hl.1 (by omega) (by omega) (Nat.le_of_ble_eq_true rfl) dJ7_copyOf_c38d5_28 (fun H locs hR hS => ?_)
  refine lv_aload_n hx hb dJ7_copyOf_c38d5_31 rfl (lv_at hl 0 rfl) ?_
  exact tr_aret CX ⟨rfl, .inr ⟨_, rfl⟩⟩ hR hS hf dJ7_copyOf_c38d5_32
def fT_J7_copyOf_c38d5 (N : Nat) (x0 : Nat) (x1 : Int32) (K : Ka) (M : Cm) : Option ((Nat × Ka × Cm) ⊕ (Ka × Cm)) := gd (kd K x0 == 23) (if x1 = (nI (le K x0)) then (none) else (gd (decide (¬ (x1 : Int32) < 0 ∧ (x1 : Int32).toNatClampNeg ≤ 1000000)) ((bT_J7_copyOf_c38d5_17 N) x0 x1 (kz K) (kNew K 23 (x1 : Int32).toNatClampNeg (x1 : Int32).toNatClampNeg) (mZ M (kz K)))))
theorem mfT_J7_copyOf_c38d5 {o : (Nat × Ka × Cm) ⊕ (Ka × Cm)} {N : Nat}  (x0 : Nat) (x1 : Int32) (K : Ka) (M : Cm) (hf : fT_J7_copyOf_c38d5 N x0 x1 K M = some o) : KLe K (oK sT o) := by
  unfold fT_J7_copyOf_c38d5 at hf
  obtain ⟨-, hf⟩ := gd_some hf
  by_cases hc : x1 = (nI (le K x0))
  · rw [if_pos hc] at hf
    cases hf
  · rw [if_neg hc] at hf
    obtain ⟨-, hf⟩ := gd_some hf
    exact (kNew_le _ _ _ _).tr (mbT_J7_copyOf_c38d5_17 _ _ _ _ _ hf)
set_option maxRecDepth 100000 in
set_option maxHeartbeats 4000000 in
theorem wfT_J7_copyOf_c38d5 {p : Program} {l : Launch} {e : Env} {R : Room} {s : State} {m : MethodId} {args : Array Value} {below : List Frame} {meth : Method} {c : Code} {x : Xc} {K0 : Ka} {o : (Nat × Ka × Cm) ⊕ (Ka × Cm)} {N : Nat} (CTX : CT p l s m args meth c x K0 RJ7 "copyOf" cJ7_copyOf_c38d5 3 (some (.array .long))) (hRm : 6 ≤ R.frames ∧ 95 ≤ R.locals) (hRc : nz sT K0 o ≤ R.cells ∧ nu sT K0 o ≤ R.slots) (x0 : Nat) (x1 : Int32) (K : Ka) (M : Cm) (H : Heap) (locs : List Loc) (ls : Array Slot) (hf : fT_J7_copyOf_c38d5 N x0 x1 K M = some o) (hL : KLe K0 K) (hR : RC x K M H) (hS : va_S (AC K0) s.heap H locs) (hl : lv_has ls 3 [(0, .ref x0), (1, .int x1)]) : W p l e R s m args below meth c H locs (kz K - kz K0) (ku K - ku K0) (TQ sT (aQA x K0) (zQV K0) "java/lang/IllegalStateException" x K0 below args s o) (F0 m 0 ls []) := by
  obtain ⟨CX, hno, hlt, hmn⟩ := id CTX
  obtain ⟨hx, hb, hml, hown, hts, hE, hB, hr, hlk⟩ := id CX
  have hcs := nz_le (mfT_J7_copyOf_c38d5  x0 x1 K M hf) hRc
  unfold fT_J7_copyOf_c38d5 at hf
  refine lv_iload_n hx hb dJ7_copyOf_c38d5_0 rfl (lv_at hl 1 rfl) ?_
  refine lv_aload_n hx hb dJ7_copyOf_c38d5_1 rfl (lv_at hl 0 rfl) ?_
  obtain ⟨hk_x0_23, hf⟩ := gd_some hf
  refine cr_llen CX hR hk_x0_23 dJ7_copyOf_c38d5_2 ?_
  refine lv_icmp_ne (tgt := 14) hx hb dJ7_copyOf_c38d5_3 (by decide) (fun hc => ?_) (fun hc => ?_)
  · rw [if_neg hc] at hf
    refine lv_iload_n hx hb dJ7_copyOf_c38d5_14 rfl (lv_at hl 1 rfl) ?_
    obtain ⟨hq, hf⟩ := gd_some hf
    have hm1 := mbT_J7_copyOf_c38d5_17 _ _ _ _ _ hf
    have hb1 := nz_le hm1 hRc
    refine tr_newal CX hL hR hS hq hb1 dJ7_copyOf_c38d5_15 (fun H hR hS => ?_)
    exact (wbT_J7_copyOf_c38d5_17 CTX hRm hRc) _ _ _ _ _ _ _ _ hf (hL.tr (kNew_le _ _ _ _)) hR hS (lv_sub hl [0, 1] rfl)
  · rw [if_pos hc] at hf
    refine lv_aload_n hx hb dJ7_copyOf_c38d5_6 rfl (lv_at hl 0 rfl) ?_
    cases hf
theorem MT_J7_copyOf_c38d5 (l : Launch) (x : Xc) (hlt : l.stackTraces = false) (N : Nat) (x0 : Nat) (x1 : Int32) (K : Ka) (M : Cm) (o : (Nat × Ka × Cm) ⊕ (Ka × Cm)) (hf : fT_J7_copyOf_c38d5 N x0 x1 K M = some o) : Tc sT (aQA x K) (zQV K) "java/lang/IllegalStateException" l x yJ7_copyOf_c38d5 cJ7_copyOf_c38d5 3 (some (.array .long)) 6 95 [.ref x0, .int x1] K M o :=
  tr_met RJ7 "copyOf" hlt (by decide) rfl rfl (Nat.le_of_ble_eq_true rfl) (fun p e s m args below meth c ls CTX hR hl => wfT_J7_copyOf_c38d5 CTX ⟨Nat.le_refl _, Nat.le_refl _⟩ ⟨Nat.le_refl _, Nat.le_refl _⟩ x0 x1 K M s.heap [] ls hf (KLe.rf K) hR va_S.rf hl)
def bT_X0_init_36 (N : Nat) (x0 : Nat) (s0 : Nat) (s1 : Nat) (K : Ka) (M : Cm) : Option ((Ka × Cm) ⊕ (Ka × Cm)) := gd (kd K s0 == 1) (gd (kd K x0 == 1) (some (.inl (K, wI (wI (wI (wI (wR M s0 3 (some s1)) x0 4 0) x0 5 0) x0 6 0) x0 7 0))))
theorem mbT_X0_init_36 {o : (Ka × Cm) ⊕ (Ka × Cm)} {N : Nat}  (x0 : Nat) (s0 : Nat) (s1 : Nat) (K : Ka) (M : Cm) (hf : bT_X0_init_36 N x0 s0 s1 K M = some o) : KLe K (oK sV o) := by
  unfold bT_X0_init_36 at hf
  obtain ⟨-, hf⟩ := gd_some hf
  obtain ⟨-, hf⟩ := gd_some hf
  cases hf
  exact KLe.rf _
set_option maxRecDepth 100000 in
set_option maxHeartbeats 4000000 in
theorem wbT_X0_init_36 {p : Program} {l : Launch} {e : Env} {R : Room} {s : State} {m : MethodId} {args : Array Value} {below : List Frame} {meth : Method} {c : Code} {x : Xc} {K0 : Ka} {o : (Ka × Cm) ⊕ (Ka × Cm)} {N : Nat} (CTX : CT p l s m args meth c x K0 RX0 "<init>" cX0_init 1 none) (hRm : 6 ≤ R.frames ∧ 95 ≤ R.locals) (hRc : nz sV K0 o ≤ R.cells ∧ nu sV K0 o ≤ R.slots) (x0 : Nat) (s0 : Nat) (s1 : Nat) (K : Ka) (M : Cm) (H : Heap) (locs : List Loc) (ls : Array Slot) (hf : bT_X0_init_36 N x0 s0 s1 K M = some o) (hL : KLe K0 K) (hR : RC x K M H) (hS : va_S (AC K0) s.heap H locs) (hl : lv_has ls 1 [(0, .ref x0)]) : W p l e R s m args below meth c H locs (kz K - kz K0) (ku K - ku K0) (TQ sV (aQV x K0) (zQV K0) "java/lang/IllegalStateException" x K0 below args s o) (F0 m 36 ls [.ref s1, .ref s0]) := by
  obtain ⟨CX, hno, hlt, hmn⟩ := id CTX
  obtain ⟨hx, hb, hml, hown, hts, hE, hB, hr, hlk⟩ := id CX
  have hcs := nz_le (mbT_X0_init_36  x0 s0 s1 K M hf) hRc
  unfold bT_X0_init_36 at hf
  obtain ⟨hk_s0_1, hf⟩ := gd_some hf
  refine tr_putFR kc_0 CX hmn hR hL hS (v := some s1) ff_X0_21 ⟨rfl, rfl, .inr ⟨_, rfl⟩⟩ hk_s0_1 dX0_init_36 (fun H locs hR hS => ?_)
  refine lv_aload_n hx hb dX0_init_39 rfl (lv_at hl 0 rfl) ?_
  refine lv_iconst (v := 0) hx hb dX0_init_40 (by decide) ?_
  obtain ⟨hk_x0_1, hf⟩ := gd_some hf
  refine cr_putI kc_0 CX hR hL hS fa_X0_24 ⟨rfl, rfl, rfl⟩ hk_x0_1 dX0_init_41 (fun H locs hR hS => ?_)
  refine lv_aload_n hx hb dX0_init_44 rfl (lv_at hl 0 rfl) ?_
  refine lv_iconst (v := 0) hx hb dX0_init_45 (by decide) ?_
  refine cr_putI kc_0 CX hR hL hS fa_X0_28 ⟨rfl, rfl, rfl⟩ hk_x0_1 dX0_init_46 (fun H locs hR hS => ?_)
  refine lv_aload_n hx hb dX0_init_49 rfl (lv_at hl 0 rfl) ?_
  refine lv_iconst (v := 0) hx hb dX0_init_50 (by decide) ?_
  refine cr_putI kc_0 CX hR hL hS fa_X0_31 ⟨rfl, rfl, rfl⟩ hk_x0_1 dX0_init_51 (fun H locs hR hS => ?_)
  refine lv_aload_n hx hb dX0_init_54 rfl (lv_at hl 0 rfl) ?_
  refine lv_iconst (v := 0) hx hb dX0_init_55 (by decide) ?_
  refine cr_putI kc_0 CX hR hL hS fa_X0_34 ⟨rfl, rfl, rfl⟩ hk_x0_1 dX0_init_56 (fun H locs hR hS => ?_)
  exact tr_vret CX hR hS hf dX0_init_59
def bT_X0_init_28 (N : Nat) (x0 : Nat) (s0 : Nat) (s1 : Nat) (K : Ka) (M : Cm) : Option ((Ka × Cm) ⊕ (Ka × Cm)) := gd (kd K s0 == 1) (gd (decide (¬ (48 : Int32) < 0 ∧ (48 : Int32).toNatClampNeg ≤ 1000000)) ((bT_X0_init_36 N) x0 x0 (kz K) (kNew K 22 (48 : Int32).toNatClampNeg (48 : Int32).toNatClampNeg) (mZ (wR M s0 2 (some s1)) (kz K))))
theorem mbT_X0_init_28 {o : (Ka × Cm) ⊕ (Ka × Cm)} {N : Nat}  (x0 : Nat) (s0 : Nat) (s1 : Nat) (K : Ka) (M : Cm) (hf : bT_X0_init_28 N x0 s0 s1 K M = some o) : KLe K (oK sV o) := by
  unfold bT_X0_init_28 at hf
  obtain ⟨-, hf⟩ := gd_some hf
  obtain ⟨-, hf⟩ := gd_some hf
  exact (kNew_le _ _ _ _).tr (mbT_X0_init_36 _ _ _ _ _ hf)
set_option maxRecDepth 100000 in
set_option maxHeartbeats 4000000 in
theorem wbT_X0_init_28 {p : Program} {l : Launch} {e : Env} {R : Room} {s : State} {m : MethodId} {args : Array Value} {below : List Frame} {meth : Method} {c : Code} {x : Xc} {K0 : Ka} {o : (Ka × Cm) ⊕ (Ka × Cm)} {N : Nat} (CTX : CT p l s m args meth c x K0 RX0 "<init>" cX0_init 1 none) (hRm : 6 ≤ R.frames ∧ 95 ≤ R.locals) (hRc : nz sV K0 o ≤ R.cells ∧ nu sV K0 o ≤ R.slots) (x0 : Nat) (s0 : Nat) (s1 : Nat) (K : Ka) (M : Cm) (H : Heap) (locs : List Loc) (ls : Array Slot) (hf : bT_X0_init_28 N x0 s0 s1 K M = some o) (hL : KLe K0 K) (hR : RC x K M H) (hS : va_S (AC K0) s.heap H locs) (hl : lv_has ls 1 [(0, .ref x0)]) : W p l e R s m args below meth c H locs (kz K - kz K0) (ku K - ku K0) (TQ sV (aQV x K0) (zQV K0) "java/lang/IllegalStateException" x K0 below args s o) (F0 m 28 ls [.ref s1, .ref s0]) := by
  obtain ⟨CX, hno, hlt, hmn⟩ := id CTX
  obtain ⟨hx, hb, hml, hown, hts, hE, hB, hr, hlk⟩ := id CX
  have hcs := nz_le (mbT_X0_init_28  x0 s0 s1 K M hf) hRc
  unfold bT_X0_init_28 at hf
  obtain ⟨hk_s0_1, hf⟩ := gd_some hf
  refine tr_putFR kc_0 CX hmn hR hL hS (v := some s1) ff_X0_18 ⟨rfl, rfl, .inr ⟨_, rfl⟩⟩ hk_s0_1 dX0_init_28 (fun H locs hR hS => ?_)
  refine lv_aload_n hx hb dX0_init_31 rfl (lv_at hl 0 rfl) ?_
  refine lv_bipush (v := 48) hx hb dX0_init_32 (by decide) ?_
  obtain ⟨hq, hf⟩ := gd_some hf
  have hm1 := mbT_X0_init_36 _ _ _ _ _ hf
  have hb1 := nz_le hm1 hRc
  refine tr_newai CX hL hR hS hq hb1 dX0_init_34 (fun H hR hS => ?_)
  exact (wbT_X0_init_36 CTX hRm hRc) _ _ _ _ _ _ _ _ hf (hL.tr (kNew_le _ _ _ _)) hR hS (lv_sub hl [0] rfl)
def bT_X0_init_19 (N : Nat) (x0 : Nat) (s0 : Nat) (s1 : Nat) (K : Ka) (M : Cm) : Option ((Ka × Cm) ⊕ (Ka × Cm)) := gd (kd K s0 == 1) (gd (decide (¬ (800 : Int32) < 0 ∧ (800 : Int32).toNatClampNeg ≤ 1000000)) ((bT_X0_init_28 N) x0 x0 (kz K) (kNew K 22 (800 : Int32).toNatClampNeg (800 : Int32).toNatClampNeg) (mZ (wR M s0 1 (some s1)) (kz K))))
theorem mbT_X0_init_19 {o : (Ka × Cm) ⊕ (Ka × Cm)} {N : Nat}  (x0 : Nat) (s0 : Nat) (s1 : Nat) (K : Ka) (M : Cm) (hf : bT_X0_init_19 N x0 s0 s1 K M = some o) : KLe K (oK sV o) := by
  unfold bT_X0_init_19 at hf
  obtain ⟨-, hf⟩ := gd_some hf
  obtain ⟨-, hf⟩ := gd_some hf
  exact (kNew_le _ _ _ _).tr (mbT_X0_init_28 _ _ _ _ _ hf)
set_option maxRecDepth 100000 in
set_option maxHeartbeats 4000000 in
theorem wbT_X0_init_19 {p : Program} {l : Launch} {e : Env} {R : Room} {s : State} {m : MethodId} {args : Array Value} {below : List Frame} {meth : Method} {c : Code} {x : Xc} {K0 : Ka} {o : (Ka × Cm) ⊕ (Ka × Cm)} {N : Nat} (CTX : CT p l s m args meth c x K0 RX0 "<init>" cX0_init 1 none) (hRm : 6 ≤ R.frames ∧ 95 ≤ R.locals) (hRc : nz sV K0 o ≤ R.cells ∧ nu sV K0 o ≤ R.slots) (x0 : Nat) (s0 : Nat) (s1 : Nat) (K : Ka) (M : Cm) (H : Heap) (locs : List Loc) (ls : Array Slot) (hf : bT_X0_init_19 N x0 s0 s1 K M = some o) (hL : KLe K0 K) (hR : RC x K M H) (hS : va_S (AC K0) s.heap H locs) (hl : lv_has ls 1 [(0, .ref x0)]) : W p l e R s m args below meth c H locs (kz K - kz K0) (ku K - ku K0) (TQ sV (aQV x K0) (zQV K0) "java/lang/IllegalStateException" x K0 below args s o) (F0 m 19 ls [.ref s1, .ref s0]) := by
  obtain ⟨CX, hno, hlt, hmn⟩ := id CTX
  obtain ⟨hx, hb, hml, hown, hts, hE, hB, hr, hlk⟩ := id CX
  have hcs := nz_le (mbT_X0_init_19  x0 s0 s1 K M hf) hRc
  unfold bT_X0_init_19 at hf
  obtain ⟨hk_s0_1, hf⟩ := gd_some hf
  refine tr_putFR kc_0 CX hmn hR hL hS (v := some s1) ff_X0_15 ⟨rfl, rfl, .inr ⟨_, rfl⟩⟩ hk_s0_1 dX0_init_19 (fun H locs hR hS => ?_)
  refine lv_aload_n hx hb dX0_init_22 rfl (lv_at hl 0 rfl) ?_
  refine lv_sipush (v := 800) hx hb dX0_init_23 (by decide) ?_
  obtain ⟨hq, hf⟩ := gd_some hf
  have hm1 := mbT_X0_init_28 _ _ _ _ _ hf
  have hb1 := nz_le hm1 hRc
  refine tr_newai CX hL hR hS hq hb1 dX0_init_26 (fun H hR hS => ?_)
  exact (wbT_X0_init_28 CTX hRm hRc) _ _ _ _ _ _ _ _ hf (hL.tr (kNew_le _ _ _ _)) hR hS (lv_sub hl [0] rfl)
def bT_X0_init_10 (N : Nat) (x0 : Nat) (s0 : Nat) (s1 : Nat) (K : Ka) (M : Cm) : Option ((Ka × Cm) ⊕ (Ka × Cm)) := gd (kd K s0 == 1) (gd (decide (¬ (600 : Int32) < 0 ∧ (600 : Int32).toNatClampNeg ≤ 1000000)) ((bT_X0_init_19 N) x0 x0 (kz K) (kNew K 22 (600 : Int32).toNatClampNeg (600 : Int32).toNatClampNeg) (mZ (wR M s0 0 (some s1)) (kz K))))
theorem mbT_X0_init_10 {o : (Ka × Cm) ⊕ (Ka × Cm)} {N : Nat}  (x0 : Nat) (s0 : Nat) (s1 : Nat) (K : Ka) (M : Cm) (hf : bT_X0_init_10 N x0 s0 s1 K M = some o) : KLe K (oK sV o) := by
  unfold bT_X0_init_10 at hf
  obtain ⟨-, hf⟩ := gd_some hf
  obtain ⟨-, hf⟩ := gd_some hf
  exact (kNew_le _ _ _ _).tr (mbT_X0_init_19 _ _ _ _ _ hf)
set_option maxRecDepth 100000 in
set_option maxHeartbeats 4000000 in
theorem wbT_X0_init_10 {p : Program} {l : Launch} {e : Env} {R : Room} {s : State} {m : MethodId} {args : Array Value} {below : List Frame} {meth : Method} {c : Code} {x : Xc} {K0 : Ka} {o : (Ka × Cm) ⊕ (Ka × Cm)} {N : Nat} (CTX : CT p l s m args meth c x K0 RX0 "<init>" cX0_init 1 none) (hRm : 6 ≤ R.frames ∧ 95 ≤ R.locals) (hRc : nz sV K0 o ≤ R.cells ∧ nu sV K0 o ≤ R.slots) (x0 : Nat) (s0 : Nat) (s1 : Nat) (K : Ka) (M : Cm) (H : Heap) (locs : List Loc) (ls : Array Slot) (hf : bT_X0_init_10 N x0 s0 s1 K M = some o) (hL : KLe K0 K) (hR : RC x K M H) (hS : va_S (AC K0) s.heap H locs) (hl : lv_has ls 1 [(0, .ref x0)]) : W p l e R s m args below meth c H locs (kz K - kz K0) (ku K - ku K0) (TQ sV (aQV x K0) (zQV K0) "java/lang/IllegalStateException" x K0 below args s o) (F0 m 10 ls [.ref s1, .ref s0]) := by
  obtain ⟨CX, hno, hlt, hmn⟩ := id CTX
  obtain ⟨hx, hb, hml, hown, hts, hE, hB, hr, hlk⟩ := id CX
  have hcs := nz_le (mbT_X0_init_10  x0 s0 s1 K M hf) hRc
  unfold bT_X0_init_10 at hf
  obtain ⟨hk_s0_1, hf⟩ := gd_some hf
  refine tr_putFR kc_0 CX hmn hR hL hS (v := some s1) ff_X0_9 ⟨rfl, rfl, .inr ⟨_, rfl⟩⟩ hk_s0_1 dX0_init_10 (fun H locs hR hS => ?_)
  refine lv_aload_n hx hb dX0_init_13 rfl (lv_at hl 0 rfl) ?_
  refine lv_sipush (v := 600) hx hb dX0_init_14 (by decide) ?_
  obtain ⟨hq, hf⟩ := gd_some hf
  have hm1 := mbT_X0_init_19 _ _ _ _ _ hf
  have hb1 := nz_le hm1 hRc
  refine tr_newai CX hL hR hS hq hb1 dX0_init_17 (fun H hR hS => ?_)
  exact (wbT_X0_init_19 CTX hRm hRc) _ _ _ _ _ _ _ _ hf (hL.tr (kNew_le _ _ _ _)) hR hS (lv_sub hl [0] rfl)
def fT_X0_init (N : Nat) (x0 : Nat) (K : Ka) (M : Cm) : Option ((Ka × Cm) ⊕ (Ka × Cm)) := gd (decide (¬ (2232 : Int32) < 0 ∧ (2232 : Int32).toNatClampNeg ≤ 1000000)) ((bT_X0_init_10 N) x0 x0 (kz K) (kNew K 22 (2232 : Int32).toNatClampNeg (2232 : Int32).toNatClampNeg) (mZ M (kz K)))
theorem mfT_X0_init {o : (Ka × Cm) ⊕ (Ka × Cm)} {N : Nat}  (x0 : Nat) (K : Ka) (M : Cm) (hf : fT_X0_init N x0 K M = some o) : KLe K (oK sV o) := by
  unfold fT_X0_init at hf
  obtain ⟨-, hf⟩ := gd_some hf
  exact (kNew_le _ _ _ _).tr (mbT_X0_init_10 _ _ _ _ _ hf)
set_option maxRecDepth 100000 in
set_option maxHeartbeats 4000000 in
theorem wfT_X0_init {p : Program} {l : Launch} {e : Env} {R : Room} {s : State} {m : MethodId} {args : Array Value} {below : List Frame} {meth : Method} {c : Code} {x : Xc} {K0 : Ka} {o : (Ka × Cm) ⊕ (Ka × Cm)} {N : Nat} (CTX : CT p l s m args meth c x K0 RX0 "<init>" cX0_init 1 none) (hRm : 6 ≤ R.frames ∧ 95 ≤ R.locals) (hRc : nz sV K0 o ≤ R.cells ∧ nu sV K0 o ≤ R.slots) (x0 : Nat) (K : Ka) (M : Cm) (H : Heap) (locs : List Loc) (ls : Array Slot) (hf : fT_X0_init N x0 K M = some o) (hL : KLe K0 K) (hR : RC x K M H) (hS : va_S (AC K0) s.heap H locs) (hl : lv_has ls 1 [(0, .ref x0)]) : W p l e R s m args below meth c H locs (kz K - kz K0) (ku K - ku K0) (TQ sV (aQV x K0) (zQV K0) "java/lang/IllegalStateException" x K0 below args s o) (F0 m 0 ls []) := by
  obtain ⟨CX, hno, hlt, hmn⟩ := id CTX
  obtain ⟨hx, hb, hml, hown, hts, hE, hB, hr, hlk⟩ := id CX
  have hcs := nz_le (mfT_X0_init  x0 K M hf) hRc
  unfold fT_X0_init at hf
  refine lv_aload_n hx hb dX0_init_0 rfl (lv_at hl 0 rfl) ?_
  refine tr_objInit CX wi_X0_3 hl.1 (by omega) (by omega) (Nat.le_of_ble_eq_true rfl) dX0_init_1 ?_
  refine lv_aload_n hx hb dX0_init_4 rfl (lv_at hl 0 rfl) ?_
  refine lv_sipush (v := 2232) hx hb dX0_init_5 (by decide) ?_
  obtain ⟨hq, hf⟩ := gd_some hf
  have hm1 := mbT_X0_init_10 _ _ _ _ _ hf
  have hb1 := nz_le hm1 hRc
  refine tr_newai CX hL hR hS hq hb1 dX0_init_8 (fun H hR hS => ?_)
  exact (wbT_X0_init_10 CTX hRm hRc) _ _ _ _ _ _ _ _ hf (hL.tr (kNew_le _ _ _ _)) hR hS (lv_sub hl [0] rfl)
theorem MT_X0_init (l : Launch) (x : Xc) (hlt : l.stackTraces = false) (N : Nat) (x0 : Nat) (K : Ka) (M : Cm) (o : (Ka × Cm) ⊕ (Ka × Cm)) (hf : fT_X0_init N x0 K M = some o) : Tc sV (aQV x K) (zQV K) "java/lang/IllegalStateException" l x yX0_init cX0_init 1 none 6 95 [.ref x0] K M o :=
  tr_met RX0 "<init>" hlt (by decide) rfl rfl (Nat.le_of_ble_eq_true rfl) (fun p e s m args below meth c ls CTX hR hl => wfT_X0_init CTX ⟨Nat.le_refl _, Nat.le_refl _⟩ ⟨Nat.le_refl _, Nat.le_refl _⟩ x0 K M s.heap [] ls hf (KLe.rf K) hR va_S.rf hl)
def bT_X1_init_9 (N : Nat) (x0 : Nat) (s0 : Nat) (s1 : Nat) (K : Ka) (M : Cm) : Option ((Ka × Cm) ⊕ (Ka × Cm)) := gd (kd K s0 == 2) (gd (kd K x0 == 2) (some (.inl (K, wI (wI (wI (wI (wI (wR M s0 0 (some s1)) x0 1 (-1)) x0 2 0) x0 3 0) x0 4 0) x0 5 0))))
theorem mbT_X1_init_9 {o : (Ka × Cm) ⊕ (Ka × Cm)} {N : Nat}  (x0 : Nat) (s0 : Nat) (s1 : Nat) (K : Ka) (M : Cm) (hf : bT_X1_init_9 N x0 s0 s1 K M = some o) : KLe K (oK sV o) := by
  unfold bT_X1_init_9 at hf
  obtain ⟨-, hf⟩ := gd_some hf
  obtain ⟨-, hf⟩ := gd_some hf
  cases hf
  exact KLe.rf _
set_option maxRecDepth 100000 in
set_option maxHeartbeats 4000000 in
theorem wbT_X1_init_9 {p : Program} {l : Launch} {e : Env} {R : Room} {s : State} {m : MethodId} {args : Array Value} {below : List Frame} {meth : Method} {c : Code} {x : Xc} {K0 : Ka} {o : (Ka × Cm) ⊕ (Ka × Cm)} {N : Nat} (CTX : CT p l s m args meth c x K0 RX1 "<init>" cX1_init 1 none) (hRm : 6 ≤ R.frames ∧ 95 ≤ R.locals) (hRc : nz sV K0 o ≤ R.cells ∧ nu sV K0 o ≤ R.slots) (x0 : Nat) (s0 : Nat) (s1 : Nat) (K : Ka) (M : Cm) (H : Heap) (locs : List Loc) (ls : Array Slot) (hf : bT_X1_init_9 N x0 s0 s1 K M = some o) (hL : KLe K0 K) (hR : RC x K M H) (hS : va_S (AC K0) s.heap H locs) (hl : lv_has ls 1 [(0, .ref x0)]) : W p l e R s m args below meth c H locs (kz K - kz K0) (ku K - ku K0) (TQ sV (aQV x K0) (zQV K0) "java/lang/IllegalStateException" x K0 below args s o) (F0 m 9 ls [.ref s1, .ref s0]) := by
  obtain ⟨CX, hno, hlt, hmn⟩ := id CTX
  obtain ⟨hx, hb, hml, hown, hts, hE, hB, hr, hlk⟩ := id CX
  have hcs := nz_le (mbT_X1_init_9  x0 s0 s1 K M hf) hRc
  unfold bT_X1_init_9 at hf
  obtain ⟨hk_s0_2, hf⟩ := gd_some hf
  refine tr_putFR kc_1 CX hmn hR hL hS (v := some s1) ff_X1_9 ⟨rfl, rfl, .inr ⟨_, rfl⟩⟩ hk_s0_2 dX1_init_9 (fun H locs hR hS => ?_)
  refine lv_aload_n hx hb dX1_init_12 rfl (lv_at hl 0 rfl) ?_
  refine lv_iconst (v := (-1)) hx hb dX1_init_13 (by decide) ?_
  obtain ⟨hk_x0_2, hf⟩ := gd_some hf
  refine cr_putI kc_1 CX hR hL hS fa_X1_15 ⟨rfl, rfl, rfl⟩ hk_x0_2 dX1_init_14 (fun H locs hR hS => ?_)
  refine lv_aload_n hx hb dX1_init_17 rfl (lv_at hl 0 rfl) ?_
  refine lv_iconst (v := 0) hx hb dX1_init_18 (by decide) ?_
  refine cr_putI kc_1 CX hR hL hS fa_X1_19 ⟨rfl, rfl, rfl⟩ hk_x0_2 dX1_init_19 (fun H locs hR hS => ?_)
  refine lv_aload_n hx hb dX1_init_22 rfl (lv_at hl 0 rfl) ?_
  refine lv_iconst (v := 0) hx hb dX1_init_23 (by decide) ?_
  refine cr_putI kc_1 CX hR hL hS fa_X1_22 ⟨rfl, rfl, rfl⟩ hk_x0_2 dX1_init_24 (fun H locs hR hS => ?_)
  refine lv_aload_n hx hb dX1_init_27 rfl (lv_at hl 0 rfl) ?_
  refine lv_iconst (v := 0) hx hb dX1_init_28 (by decide) ?_
  refine cr_putI kc_1 CX hR hL hS fa_X1_25 ⟨rfl, rfl, rfl⟩ hk_x0_2 dX1_init_29 (fun H locs hR hS => ?_)
  refine lv_aload_n hx hb dX1_init_32 rfl (lv_at hl 0 rfl) ?_
  refine lv_iconst (v := 0) hx hb dX1_init_33 (by decide) ?_
  refine cr_putI kc_1 CX hR hL hS fa_X1_28 ⟨rfl, rfl, rfl⟩ hk_x0_2 dX1_init_34 (fun H locs hR hS => ?_)
  exact tr_vret CX hR hS hf dX1_init_37
def fT_X1_init (N : Nat) (x0 : Nat) (K : Ka) (M : Cm) : Option ((Ka × Cm) ⊕ (Ka × Cm)) := gd (decide (¬ (10 : Int32) < 0 ∧ (10 : Int32).toNatClampNeg ≤ 1000000)) ((bT_X1_init_9 N) x0 x0 (kz K) (kNew K 22 (10 : Int32).toNatClampNeg (10 : Int32).toNatClampNeg) (mZ M (kz K)))
theorem mfT_X1_init {o : (Ka × Cm) ⊕ (Ka × Cm)} {N : Nat}  (x0 : Nat) (K : Ka) (M : Cm) (hf : fT_X1_init N x0 K M = some o) : KLe K (oK sV o) := by
  unfold fT_X1_init at hf
  obtain ⟨-, hf⟩ := gd_some hf
  exact (kNew_le _ _ _ _).tr (mbT_X1_init_9 _ _ _ _ _ hf)
set_option maxRecDepth 100000 in
set_option maxHeartbeats 4000000 in
theorem wfT_X1_init {p : Program} {l : Launch} {e : Env} {R : Room} {s : State} {m : MethodId} {args : Array Value} {below : List Frame} {meth : Method} {c : Code} {x : Xc} {K0 : Ka} {o : (Ka × Cm) ⊕ (Ka × Cm)} {N : Nat} (CTX : CT p l s m args meth c x K0 RX1 "<init>" cX1_init 1 none) (hRm : 6 ≤ R.frames ∧ 95 ≤ R.locals) (hRc : nz sV K0 o ≤ R.cells ∧ nu sV K0 o ≤ R.slots) (x0 : Nat) (K : Ka) (M : Cm) (H : Heap) (locs : List Loc) (ls : Array Slot) (hf : fT_X1_init N x0 K M = some o) (hL : KLe K0 K) (hR : RC x K M H) (hS : va_S (AC K0) s.heap H locs) (hl : lv_has ls 1 [(0, .ref x0)]) : W p l e R s m args below meth c H locs (kz K - kz K0) (ku K - ku K0) (TQ sV (aQV x K0) (zQV K0) "java/lang/IllegalStateException" x K0 below args s o) (F0 m 0 ls []) := by
  obtain ⟨CX, hno, hlt, hmn⟩ := id CTX
  obtain ⟨hx, hb, hml, hown, hts, hE, hB, hr, hlk⟩ := id CX
  have hcs := nz_le (mfT_X1_init  x0 K M hf) hRc
  unfold fT_X1_init at hf
  refine lv_aload_n hx hb dX1_init_0 rfl (lv_at hl 0 rfl) ?_
  refine tr_objInit CX wi_X1_3 hl.1 (by omega) (by omega) (Nat.le_of_ble_eq_true rfl) dX1_init_1 ?_
  refine lv_aload_n hx hb dX1_init_4 rfl (lv_at hl 0 rfl) ?_
  refine lv_bipush (v := 10) hx hb dX1_init_5 (by decide) ?_
  obtain ⟨hq, hf⟩ := gd_some hf
  have hm1 := mbT_X1_init_9 _ _ _ _ _ hf
  have hb1 := nz_le hm1 hRc
  refine tr_newai CX hL hR hS hq hb1 dX1_init_7 (fun H hR hS => ?_)
  exact (wbT_X1_init_9 CTX hRm hRc) _ _ _ _ _ _ _ _ hf (hL.tr (kNew_le _ _ _ _)) hR hS (lv_sub hl [0] rfl)
theorem MT_X1_init (l : Launch) (x : Xc) (hlt : l.stackTraces = false) (N : Nat) (x0 : Nat) (K : Ka) (M : Cm) (o : (Ka × Cm) ⊕ (Ka × Cm)) (hf : fT_X1_init N x0 K M = some o) : Tc sV (aQV x K) (zQV K) "java/lang/IllegalStateException" l x yX1_init cX1_init 1 none 6 95 [.ref x0] K M o :=
  tr_met RX1 "<init>" hlt (by decide) rfl rfl (Nat.le_of_ble_eq_true rfl) (fun p e s m args below meth c ls CTX hR hl => wfT_X1_init CTX ⟨Nat.le_refl _, Nat.le_refl _⟩ ⟨Nat.le_refl _, Nat.le_refl _⟩ x0 K M s.heap [] ls hf (KLe.rf K) hR va_S.rf hl)
def bT_X2_init_117 (N : Nat) (r99 : Nat → Int32 → Ka → Cm → Option ((Ka × Cm) ⊕ (Ka × Cm))) (k124 : Nat → Ka → Cm → Option ((Ka × Cm) ⊕ (Ka × Cm))) (x0 : Nat) (x3 : Int32) (s0 : Nat) (s1 : Int32) (s2 : Nat) (K : Ka) (M : Cm) : Option ((Ka × Cm) ⊕ (Ka × Cm)) := gd (kd K s0 == 25) (gd (kd K s2 == 2) (ck s1 (le K s0) (r99 x0 (x3 + 1) K (wR M s0 (s1 : Int32).toNatClampNeg (some s2)))))
theorem mbT_X2_init_117 {o : (Ka × Cm) ⊕ (Ka × Cm)} {N : Nat} {r99 : Nat → Int32 → Ka → Cm → Option ((Ka × Cm) ⊕ (Ka × Cm))} {k124 : Nat → Ka → Cm → Option ((Ka × Cm) ⊕ (Ka × Cm))} (mr99 : ∀ (x0 : Nat) (x3 : Int32) (K : Ka) (M : Cm) , r99 x0 x3 K M = some o → KLe K (oK sV o)) (mk124 : ∀ (x0 : Nat) (K : Ka) (M : Cm) , k124 x0 K M = some o → KLe K (oK sV o)) (x0 : Nat) (x3 : Int32) (s0 : Nat) (s1 : Int32) (s2 : Nat) (K : Ka) (M : Cm) (hf : bT_X2_init_117 N r99 k124 x0 x3 s0 s1 s2 K M = some o) : KLe K (oK sV o) := by
  unfold bT_X2_init_117 at hf
  obtain ⟨-, hf⟩ := gd_some hf
  obtain ⟨-, hf⟩ := gd_some hf
  obtain ⟨-, hf⟩ := ck_some hf
  exact mr99 _ _ _ _ hf
set_option maxRecDepth 100000 in
set_option maxHeartbeats 4000000 in
theorem wbT_X2_init_117 {p : Program} {l : Launch} {e : Env} {R : Room} {s : State} {m : MethodId} {args : Array Value} {below : List Frame} {meth : Method} {c : Code} {x : Xc} {K0 : Ka} {o : (Ka × Cm) ⊕ (Ka × Cm)} {N : Nat} {r99 : Nat → Int32 → Ka → Cm → Option ((Ka × Cm) ⊕ (Ka × Cm))} {k124 : Nat → Ka → Cm → Option ((Ka × Cm) ⊕ (Ka × Cm))} (CTX : CT p l s m args meth c x K0 RX2 "<init>" cX2_init 4 none) (hRm : 7 ≤ R.frames ∧ 115 ≤ R.locals) (hRc : nz sV K0 o ≤ R.cells ∧ nu sV K0 o ≤ R.slots) (mr99 : ∀ (x0 : Nat) (x3 : Int32) (K : Ka) (M : Cm) , r99 x0 x3 K M = some o → KLe K (oK sV o)) (mk124 : ∀ (x0 : Nat) (K : Ka) (M : Cm) , k124 x0 K M = some o → KLe K (oK sV o)) (hr99 : ∀ (x0 : Nat) (x3 : Int32) (K : Ka) (M : Cm) (H : Heap) (locs : List Loc) (ls : Array Slot), r99 x0 x3 K M = some o → KLe K0 K → RC x K M H → va_S (AC K0) s.heap H locs → lv_has ls 4 [(0, .ref x0), (3, .int x3)] → W p l e R s m args below meth c H locs (kz K - kz K0) (ku K - ku K0) (TQ sV (aQV x K0) (zQV K0) "java/lang/IllegalStateException" x K0 below args s o) (F0 m 99 ls [])) (hk124 : ∀ (x0 : Nat) (K : Ka) (M : Cm) (H : Heap) (locs : List Loc) (ls : Array Slot), k124 x0 K M = some o → KLe K0 K → RC x K M H → va_S (AC K0) s.heap H locs → lv_has ls 4 [(0, .ref x0)] → W p l e R s m args below meth c H locs (kz K - kz K0) (ku K - ku K0) (TQ sV (aQV x K0) (zQV K0) "java/lang/IllegalStateException" x K0 below args s o) (F0 m 124 ls [])) (x0 : Nat) (x3 : Int32) (s0 : Nat) (s1 : Int32) (s2 : Nat) (K : Ka) (M : Cm) (H : Heap) (locs : List Loc) (ls : Array Slot) (hf : bT_X2_init_117 N r99 k124 x0 x3 s0 s1 s2 K M = some o) (hL : KLe K0 K) (hR : RC x K M H) (hS : va_S (AC K0) s.heap H locs) (hl : lv_has ls 4 [(0, .ref x0), (3, .int x3)]) : W p l e R s m args below meth c H locs (kz K - kz K0) (ku K - ku K0) (TQ sV (aQV x K0) (zQV K0) "java/lang/IllegalStateException" x K0 below args s o) (F0 m 117 ls [.ref s2, .int s1, .ref s0]) := by
  obtain ⟨CX, hno, hlt, hmn⟩ := id CTX
  obtain ⟨hx, hb, hml, hown, hts, hE, hB, hr, hlk⟩ := id CX
  have hcs := nz_le (mbT_X2_init_117 mr99 mk124 x0 x3 s0 s1 s2 K M hf) hRc
  unfold bT_X2_init_117 at hf
  obtain ⟨hk_s0_25, hf⟩ := gd_some hf
  obtain ⟨hk_s2_2, hf⟩ := gd_some hf
  obtain ⟨hi, hf⟩ := ck_some hf
  refine tr_aastf CX hR hL hS hk_s0_25 hk_s2_2 hi dX2_init_117 (fun H locs hR hS => ?_)
  refine lv_iinc (v := x3 + 1) (lv' := [(3, .int (x3 + 1)), (0, .ref x0)]) hx hb dX2_init_118 hl (k := 1) rfl rfl (by decide) rfl (fun ls hl => ?_)
  refine lv_goto (tgt := 99) hx hb dX2_init_121 (by decide) ?_
  exact hr99 _ _ _ _ _ _ _ hf hL hR hS (lv_sub hl [1, 0] rfl)
def bT_X2_init_113 (N : Nat) (r99 : Nat → Int32 → Ka → Cm → Option ((Ka × Cm) ⊕ (Ka × Cm))) (k124 : Nat → Ka → Cm → Option ((Ka × Cm) ⊕ (Ka × Cm))) (x0 : Nat) (x3 : Int32) (s0 : Nat) (s1 : Int32) (s2 : Nat) (K : Ka) (M : Cm) : Option ((Ka × Cm) ⊕ (Ka × Cm)) := ta (fT_X1_init N s2 K M) fun o114 => (bT_X2_init_117 N r99 k124) x0 x3 s0 s1 s2 o114.1 o114.2
theorem mbT_X2_init_113 {o : (Ka × Cm) ⊕ (Ka × Cm)} {N : Nat} {r99 : Nat → Int32 → Ka → Cm → Option ((Ka × Cm) ⊕ (Ka × Cm))} {k124 : Nat → Ka → Cm → Option ((Ka × Cm) ⊕ (Ka × Cm))} (mr99 : ∀ (x0 : Nat) (x3 : Int32) (K : Ka) (M : Cm) , r99 x0 x3 K M = some o → KLe K (oK sV o)) (mk124 : ∀ (x0 : Nat) (K : Ka) (M : Cm) , k124 x0 K M = some o → KLe K (oK sV o)) (x0 : Nat) (x3 : Int32) (s0 : Nat) (s1 : Int32) (s2 : Nat) (K : Ka) (M : Cm) (hf : bT_X2_init_113 N r99 k124 x0 x3 s0 s1 s2 K M = some o) : KLe K (oK sV o) := by
  unfold bT_X2_init_113 at hf
  obtain ⟨o114, ho, hf⟩ := ta_some hf
  exact KLe.tr (mfT_X1_init _ _ _ ho) ((mbT_X2_init_117 mr99 mk124) _ _ _ _ _ _ _ hf)
set_option maxRecDepth 100000 in
set_option maxHeartbeats 4000000 in
theorem wbT_X2_init_113 {p : Program} {l : Launch} {e : Env} {R : Room} {s : State} {m : MethodId} {args : Array Value} {below : List Frame} {meth : Method} {c : Code} {x : Xc} {K0 : Ka} {o : (Ka × Cm) ⊕ (Ka × Cm)} {N : Nat} {r99 : Nat → Int32 → Ka → Cm → Option ((Ka × Cm) ⊕ (Ka × Cm))} {k124 : Nat → Ka → Cm → Option ((Ka × Cm) ⊕ (Ka × Cm))} (CTX : CT p l s m args meth c x K0 RX2 "<init>" cX2_init 4 none) (hRm : 7 ≤ R.frames ∧ 115 ≤ R.locals) (hRc : nz sV K0 o ≤ R.cells ∧ nu sV K0 o ≤ R.slots) (mr99 : ∀ (x0 : Nat) (x3 : Int32) (K : Ka) (M : Cm) , r99 x0 x3 K M = some o → KLe K (oK sV o)) (mk124 : ∀ (x0 : Nat) (K : Ka) (M : Cm) , k124 x0 K M = some o → KLe K (oK sV o)) (hr99 : ∀ (x0 : Nat) (x3 : Int32) (K : Ka) (M : Cm) (H : Heap) (locs : List Loc) (ls : Array Slot), r99 x0 x3 K M = some o → KLe K0 K → RC x K M H → va_S (AC K0) s.heap H locs → lv_has ls 4 [(0, .ref x0), (3, .int x3)] → W p l e R s m args below meth c H locs (kz K - kz K0) (ku K - ku K0) (TQ sV (aQV x K0) (zQV K0) "java/lang/IllegalStateException" x K0 below args s o) (F0 m 99 ls [])) (hk124 : ∀ (x0 : Nat) (K : Ka) (M : Cm) (H : Heap) (locs : List Loc) (ls : Array Slot), k124 x0 K M = some o → KLe K0 K → RC x K M H → va_S (AC K0) s.heap H locs → lv_has ls 4 [(0, .ref x0)] → W p l e R s m args below meth c H locs (kz K - kz K0) (ku K - ku K0) (TQ sV (aQV x K0) (zQV K0) "java/lang/IllegalStateException" x K0 below args s o) (F0 m 124 ls [])) (x0 : Nat) (x3 : Int32) (s0 : Nat) (s1 : Int32) (s2 : Nat) (K : Ka) (M : Cm) (H : Heap) (locs : List Loc) (ls : Array Slot) (hf : bT_X2_init_113 N r99 k124 x0 x3 s0 s1 s2 K M = some o) (hL : KLe K0 K) (hR : RC x K M H) (hS : va_S (AC K0) s.heap H locs) (hl : lv_has ls 4 [(0, .ref x0), (3, .int x3)]) : W p l e R s m args below meth c H locs (kz K - kz K0) (ku K - ku K0) (TQ sV (aQV x K0) (zQV K0) "java/lang/IllegalStateException" x K0 below args s o) (F0 m 113 ls [.ref s2, .int s1, .ref s0]) := by
  obtain ⟨CX, hno, hlt, hmn⟩ := id CTX
  obtain ⟨hx, hb, hml, hown, hts, hE, hB, hr, hlk⟩ := id CX
  have hcs := nz_le (mbT_X2_init_113 mr99 mk124 x0 x3 s0 s1 s2 K M hf) hRc
  unfold bT_X2_init_113 at hf
  refine lv_dup hx hb dX2_init_113 rfl ?_
  obtain ⟨o114, ho, hf⟩ := ta_some hf
  have hm1 := (mbT_X2_init_117 mr99 mk124) _ _ _ _ _ _ _ hf
  have hb1 := nz_le hm1 hRc
  have hq1 := (mfT_X1_init _ _ _ ho)
  refine ta_callVi CX hL hR hS (As := []) (rest := [.ref s2, .int s1, .ref s0]) (MT_X1_init l x hlt N _ _ _ _ ho) cj_X2_72 ⟨by omega, by omega⟩ rfl (Nat.le_of_ble_eq_true rfl) hl.1 hq1 hb1 rfl dX2_init_114 (fun H locs hR hS => ?_)
  exact (wbT_X2_init_117 CTX hRm hRc mr99 mk124 hr99 hk124) _ _ _ _ _ _ _ _ _ _ hf (hL.tr hq1) hR hS (lv_sub hl [0, 1] rfl)
def lT_X2_init_99 (N : Nat) (k124 : Nat → Ka → Cm → Option ((Ka × Cm) ⊕ (Ka × Cm))) : Nat → Nat → Int32 → Ka → Cm → Option ((Ka × Cm) ⊕ (Ka × Cm))
  | 0, _, _, _, _ => none
  | n + 1, x0, x3, K, M => if 25 ≤ x3 then (k124 x0 K M) else (gd (kd K x0 == 3) (nn (cR M x0 2) fun a1 => (bT_X2_init_113 N (lT_X2_init_99 N k124 n) k124) x0 x3 a1 x3 (kz K) (kNew K 2 0 (cN 1)) (mZ M (kz K))))
theorem mlT_X2_init_99 {o : (Ka × Cm) ⊕ (Ka × Cm)} {N : Nat} {k124 : Nat → Ka → Cm → Option ((Ka × Cm) ⊕ (Ka × Cm))} (mk124 : ∀ (x0 : Nat) (K : Ka) (M : Cm) , k124 x0 K M = some o → KLe K (oK sV o)) : ∀ (n : Nat) (x0 : Nat) (x3 : Int32) (K : Ka) (M : Cm), lT_X2_init_99 N k124 n x0 x3 K M = some o → KLe K (oK sV o) := by
  intro n
  induction n with
  | zero => intro x0 x3 K M hf; cases hf
  | succ n ih =>
    intro x0 x3 K M hf
    rw [lT_X2_init_99] at hf
    by_cases hc : 25 ≤ x3
    · rw [if_pos hc] at hf
      exact mk124 _ _ _ hf
    · rw [if_neg hc] at hf
      obtain ⟨-, hf⟩ := gd_some hf
      obtain ⟨a1, -, hf⟩ := nn_some hf
      exact (kNew_le _ _ _ _).tr ((mbT_X2_init_113 ih mk124) _ _ _ _ _ _ _ hf)
set_option maxRecDepth 100000 in
set_option maxHeartbeats 4000000 in
theorem wlT_X2_init_99 {p : Program} {l : Launch} {e : Env} {R : Room} {s : State} {m : MethodId} {args : Array Value} {below : List Frame} {meth : Method} {c : Code} {x : Xc} {K0 : Ka} {o : (Ka × Cm) ⊕ (Ka × Cm)} {N : Nat} {k124 : Nat → Ka → Cm → Option ((Ka × Cm) ⊕ (Ka × Cm))} (CTX : CT p l s m args meth c x K0 RX2 "<init>" cX2_init 4 none) (hRm : 7 ≤ R.frames ∧ 115 ≤ R.locals) (hRc : nz sV K0 o ≤ R.cells ∧ nu sV K0 o ≤ R.slots) (mk124 : ∀ (x0 : Nat) (K : Ka) (M : Cm) , k124 x0 K M = some o → KLe K (oK sV o)) (hk124 : ∀ (x0 : Nat) (K : Ka) (M : Cm) (H : Heap) (locs : List Loc) (ls : Array Slot), k124 x0 K M = some o → KLe K0 K → RC x K M H → va_S (AC K0) s.heap H locs → lv_has ls 4 [(0, .ref x0)] → W p l e R s m args below meth c H locs (kz K - kz K0) (ku K - ku K0) (TQ sV (aQV x K0) (zQV K0) "java/lang/IllegalStateException" x K0 below args s o) (F0 m 124 ls [])) : ∀ (n : Nat) (x0 : Nat) (x3 : Int32) (K : Ka) (M : Cm) (H : Heap) (locs : List Loc) (ls : Array Slot), lT_X2_init_99 N k124 n x0 x3 K M = some o → KLe K0 K → RC x K M H → va_S (AC K0) s.heap H locs → lv_has ls 4 [(0, .ref x0), (3, .int x3)] → W p l e R s m args below meth c H locs (kz K - kz K0) (ku K - ku K0) (TQ sV (aQV x K0) (zQV K0) "java/lang/IllegalStateException" x K0 below args s o) (F0 m 99 ls []) := by
  obtain ⟨CX, hno, hlt, hmn⟩ := id CTX
  obtain ⟨hx, hb, hml, hown, hts, hE, hB, hr, hlk⟩ := id CX
  intro n
  induction n with
  | zero => intro x0 x3 K M H locs ls hf; cases hf
  | succ n ih =>
    intro x0 x3 K M H locs ls hf hL hR hS hl
    have hcs := nz_le (mlT_X2_init_99 mk124 (n + 1) x0 x3 K M hf) hRc
    rw [lT_X2_init_99] at hf
    refine lv_iload_n hx hb dX2_init_99 rfl (lv_at hl 1 rfl) ?_
    refine lv_bipush (v := 25) hx hb dX2_init_100 (by decide) ?_
    refine lv_icmp_ge (tgt := 124) hx hb dX2_init_102 (by decide) (fun hc => ?_) (fun hc => ?_)
    · rw [if_pos hc] at hf
      exact hk124 _ _ _ _ _ _ hf hL hR hS (lv_sub hl [0] rfl)
    · rw [if_neg hc] at hf
      refine lv_aload_n hx hb dX2_init_105 rfl (lv_at hl 0 rfl) ?_
      obtain ⟨hk_x0_3, hf⟩ := gd_some hf
      refine cr_getR kc_2 CX hR fa_X2_11 rfl hk_x0_3 dX2_init_106 ?_
      refine lv_iload_n hx hb dX2_init_109 rfl (lv_at hl 1 rfl) ?_
      obtain ⟨a1, ha1, hf⟩ := nn_some hf
      refine rf_1 ha1 ?_
      have hm1 := (mbT_X2_init_113 (mlT_X2_init_99 mk124 n) mk124) _ _ _ _ _ _ _ hf
      have hb1 := nz_le hm1 hRc
      refine tr_new kc_1 df_1 CX hL hR hS cn_X2_9 hb1 dX2_init_110 (fun H hR hS => ?_)
      exact (wbT_X2_init_113 CTX hRm hRc (mlT_X2_init_99 mk124 n) mk124 ih hk124) _ _ _ _ _ _ _ _ _ _ hf (hL.tr (kNew_le _ _ _ _)) hR hS (lv_sub hl [0, 1] rfl)
def bT_X2_init_124 (N : Nat) (x0 : Nat) (K : Ka) (M : Cm) : Option ((Ka × Cm) ⊕ (Ka × Cm)) := some (.inl (K, M))
theorem mbT_X2_init_124 {o : (Ka × Cm) ⊕ (Ka × Cm)} {N : Nat}  (x0 : Nat) (K : Ka) (M : Cm) (hf : bT_X2_init_124 N x0 K M = some o) : KLe K (oK sV o) := by
  unfold bT_X2_init_124 at hf
  cases hf
  exact KLe.rf _
set_option maxRecDepth 100000 in
set_option maxHeartbeats 4000000 in
theorem wbT_X2_init_124 {p : Program} {l : Launch} {e : Env} {R : Room} {s : State} {m : MethodId} {args : Array Value} {below : List Frame} {meth : Method} {c : Code} {x : Xc} {K0 : Ka} {o : (Ka × Cm) ⊕ (Ka × Cm)} {N : Nat} (CTX : CT p l s m args meth c x K0 RX2 "<init>" cX2_init 4 none) (hRm : 7 ≤ R.frames ∧ 115 ≤ R.locals) (hRc : nz sV K0 o ≤ R.cells ∧ nu sV K0 o ≤ R.slots) (x0 : Nat) (K : Ka) (M : Cm) (H : Heap) (locs : List Loc) (ls : Array Slot) (hf : bT_X2_init_124 N x0 K M = some o) (hL : KLe K0 K) (hR : RC x K M H) (hS : va_S (AC K0) s.heap H locs) (hl : lv_has ls 4 [(0, .ref x0)]) : W p l e R s m args below meth c H locs (kz K - kz K0) (ku K - ku K0) (TQ sV (aQV x K0) (zQV K0) "java/lang/IllegalStateException" x K0 below args s o) (F0 m 124 ls []) := by
  obtain ⟨CX, hno, hlt, hmn⟩ := id CTX
  obtain ⟨hx, hb, hml, hown, hts, hE, hB, hr, hlk⟩ := id CX
  have hcs := nz_le (mbT_X2_init_124  x0 K M hf) hRc
  unfold bT_X2_init_124 at hf
  exact tr_vret CX hR hS hf dX2_init_124
def bT_X2_init_19 (N : Nat) (x0 : Nat) (x1 : Nat) (x2 : Nat) (s0 : Nat) (s1 : Nat) (K : Ka) (M : Cm) : Option ((Ka × Cm) ⊕ (Ka × Cm)) := gd (kd K s0 == 3) (gd (kd K x0 == 3) (gd (is01 0) (gd (is01 0) (gd (is01 0) ((lT_X2_init_99 N (bT_X2_init_124 N) N) x0 0 K (wR (wR (wI (wI (wI (wI (wI (wI (wI (wI (wI (wI (wI (wR (wR (wR M s0 3 (some s1)) x0 4 (none : Option Nat)) x0 5 (none : Option Nat)) x0 6 0) x0 7 0) x0 8 (-1)) x0 9 0) x0 10 0) x0 11 0) x0 12 0) x0 13 0) x0 14 0) x0 15 0) x0 16 0) x0 0 (some x1)) x0 1 (some x2)))))))
theorem mbT_X2_init_19 {o : (Ka × Cm) ⊕ (Ka × Cm)} {N : Nat}  (x0 : Nat) (x1 : Nat) (x2 : Nat) (s0 : Nat) (s1 : Nat) (K : Ka) (M : Cm) (hf : bT_X2_init_19 N x0 x1 x2 s0 s1 K M = some o) : KLe K (oK sV o) := by
  unfold bT_X2_init_19 at hf
  obtain ⟨-, hf⟩ := gd_some hf
  obtain ⟨-, hf⟩ := gd_some hf
  obtain ⟨-, hf⟩ := gd_some hf
  obtain ⟨-, hf⟩ := gd_some hf
  obtain ⟨-, hf⟩ := gd_some hf
  exact (mlT_X2_init_99 mbT_X2_init_124 N) _ _ _ _ hf
set_option maxRecDepth 100000 in
set_option maxHeartbeats 4000000 in
theorem wbT_X2_init_19 {p : Program} {l : Launch} {e : Env} {R : Room} {s : State} {m : MethodId} {args : Array Value} {below : List Frame} {meth : Method} {c : Code} {x : Xc} {K0 : Ka} {o : (Ka × Cm) ⊕ (Ka × Cm)} {N : Nat} (CTX : CT p l s m args meth c x K0 RX2 "<init>" cX2_init 4 none) (hRm : 7 ≤ R.frames ∧ 115 ≤ R.locals) (hRc : nz sV K0 o ≤ R.cells ∧ nu sV K0 o ≤ R.slots) (x0 : Nat) (x1 : Nat) (x2 : Nat) (s0 : Nat) (s1 : Nat) (K : Ka) (M : Cm) (H : Heap) (locs : List Loc) (ls : Array Slot) (hf : bT_X2_init_19 N x0 x1 x2 s0 s1 K M = some o) (hL : KLe K0 K) (hR : RC x K M H) (hS : va_S (AC K0) s.heap H locs) (hl : lv_has ls 4 [(0, .ref x0), (1, .ref x1), (2, .ref x2)]) : W p l e R s m args below meth c H locs (kz K - kz K0) (ku K - ku K0) (TQ sV (aQV x K0) (zQV K0) "java/lang/IllegalStateException" x K0 below args s o) (F0 m 19 ls [.ref s1, .ref s0]) := by
  obtain ⟨CX, hno, hlt, hmn⟩ := id CTX
  obtain ⟨hx, hb, hml, hown, hts, hE, hB, hr, hlk⟩ := id CX
  have hcs := nz_le (mbT_X2_init_19  x0 x1 x2 s0 s1 K M hf) hRc
  unfold bT_X2_init_19 at hf
  obtain ⟨hk_s0_3, hf⟩ := gd_some hf
  refine tr_putFR kc_2 CX hmn hR hL hS (v := some s1) ff_X2_17 ⟨rfl, rfl, .inr ⟨_, rfl⟩⟩ hk_s0_3 dX2_init_19 (fun H locs hR hS => ?_)
  refine lv_aload_n hx hb dX2_init_22 rfl (lv_at hl 0 rfl) ?_
  refine lv_null hx hb dX2_init_23 ?_
  obtain ⟨hk_x0_3, hf⟩ := gd_some hf
  refine cr_putR kc_2 CX hR hL hS (v := (none : Option Nat)) fa_X2_21 ⟨rfl, rfl, .inl ⟨_, rfl⟩⟩ hk_x0_3 dX2_init_24 (fun H locs hR hS => ?_)
  refine lv_aload_n hx hb dX2_init_27 rfl (lv_at hl 0 rfl) ?_
  refine lv_null hx hb dX2_init_28 ?_
  refine cr_putR kc_2 CX hR hL hS (v := (none : Option Nat)) fa_X2_25 ⟨rfl, rfl, .inl ⟨_, rfl⟩⟩ hk_x0_3 dX2_init_29 (fun H locs hR hS => ?_)
  refine lv_aload_n hx hb dX2_init_32 rfl (lv_at hl 0 rfl) ?_
  refine lv_iconst (v := 0) hx hb dX2_init_33 (by decide) ?_
  refine cr_putI kc_2 CX hR hL hS fa_X2_29 ⟨rfl, rfl, rfl⟩ hk_x0_3 dX2_init_34 (fun H locs hR hS => ?_)
  refine lv_aload_n hx hb dX2_init_37 rfl (lv_at hl 0 rfl) ?_
  refine lv_iconst (v := 0) hx hb dX2_init_38 (by decide) ?_
  refine cr_putI kc_2 CX hR hL hS fa_X2_33 ⟨rfl, rfl, rfl⟩ hk_x0_3 dX2_init_39 (fun H locs hR hS => ?_)
  refine lv_aload_n hx hb dX2_init_42 rfl (lv_at hl 0 rfl) ?_
  refine lv_iconst (v := (-1)) hx hb dX2_init_43 (by decide) ?_
  refine cr_putI kc_2 CX hR hL hS fa_X2_36 ⟨rfl, rfl, rfl⟩ hk_x0_3 dX2_init_44 (fun H locs hR hS => ?_)
  refine lv_aload_n hx hb dX2_init_47 rfl (lv_at hl 0 rfl) ?_
  refine lv_iconst (v := 0) hx hb dX2_init_48 (by decide) ?_
  obtain ⟨hq, hf⟩ := gd_some hf
  refine cr_putZ kc_2 CX hR hL hS fa_X2_39 ⟨rfl, rfl, rfl⟩ hk_x0_3 hq dX2_init_49 (fun H locs hR hS => ?_)
  refine lv_aload_n hx hb dX2_init_52 rfl (lv_at hl 0 rfl) ?_
  refine lv_iconst (v := 0) hx hb dX2_init_53 (by decide) ?_
  refine cr_putI kc_2 CX hR hL hS fa_X2_43 ⟨rfl, rfl, rfl⟩ hk_x0_3 dX2_init_54 (fun H locs hR hS => ?_)
  refine lv_aload_n hx hb dX2_init_57 rfl (lv_at hl 0 rfl) ?_
  refine lv_iconst (v := 0) hx hb dX2_init_58 (by decide) ?_
  refine cr_putI kc_2 CX hR hL hS fa_X2_46 ⟨rfl, rfl, rfl⟩ hk_x0_3 dX2_init_59 (fun H locs hR hS => ?_)
  refine lv_aload_n hx hb dX2_init_62 rfl (lv_at hl 0 rfl) ?_
  refine lv_iconst (v := 0) hx hb dX2_init_63 (by decide) ?_
  refine cr_putI kc_2 CX hR hL hS fa_X2_49 ⟨rfl, rfl, rfl⟩ hk_x0_3 dX2_init_64 (fun H locs hR hS => ?_)
  refine lv_aload_n hx hb dX2_init_67 rfl (lv_at hl 0 rfl) ?_
  refine lv_iconst (v := 0) hx hb dX2_init_68 (by decide) ?_
  obtain ⟨hq, hf⟩ := gd_some hf
  refine cr_putZ kc_2 CX hR hL hS fa_X2_52 ⟨rfl, rfl, rfl⟩ hk_x0_3 hq dX2_init_69 (fun H locs hR hS => ?_)
  refine lv_aload_n hx hb dX2_init_72 rfl (lv_at hl 0 rfl) ?_
  refine lv_iconst (v := 0) hx hb dX2_init_73 (by decide) ?_
  obtain ⟨hq, hf⟩ := gd_some hf
  refine cr_putZ kc_2 CX hR hL hS fa_X2_55 ⟨rfl, rfl, rfl⟩ hk_x0_3 hq dX2_init_74 (fun H locs hR hS => ?_)
  refine lv_aload_n hx hb dX2_init_77 rfl (lv_at hl 0 rfl) ?_
  refine lv_iconst (v := 0) hx hb dX2_init_78 (by decide) ?_
  refine cr_putI kc_2 CX hR hL hS fa_X2_58 ⟨rfl, rfl, rfl⟩ hk_x0_3 dX2_init_79 (fun H locs hR hS => ?_)
  refine lv_aload_n hx hb dX2_init_82 rfl (lv_at hl 0 rfl) ?_
  refine lv_iconst (v := 0) hx hb dX2_init_83 (by decide) ?_
  refine cr_putI kc_2 CX hR hL hS fa_X2_61 ⟨rfl, rfl, rfl⟩ hk_x0_3 dX2_init_84 (fun H locs hR hS => ?_)
  refine lv_aload_n hx hb dX2_init_87 rfl (lv_at hl 0 rfl) ?_
  refine lv_aload_n hx hb dX2_init_88 rfl (lv_at hl 1 rfl) ?_
  refine tr_putFR kc_2 CX hmn hR hL hS (v := some x1) ff_X2_64 ⟨rfl, rfl, .inl ⟨_, rfl⟩⟩ hk_x0_3 dX2_init_89 (fun H locs hR hS => ?_)
  refine lv_aload_n hx hb dX2_init_92 rfl (lv_at hl 0 rfl) ?_
  refine lv_aload_n hx hb dX2_init_93 rfl (lv_at hl 2 rfl) ?_
  refine tr_putFR kc_2 CX hmn hR hL hS (v := some x2) ff_X2_68 ⟨rfl, rfl, .inl ⟨_, rfl⟩⟩ hk_x0_3 dX2_init_94 (fun H locs hR hS => ?_)
  refine lv_iconst (v := 0) hx hb dX2_init_97 (by decide) ?_
  refine lv_istore_n (lv' := [(3, .int 0), (0, .ref x0), (1, .ref x1), (2, .ref x2)]) hx hb dX2_init_98 rfl hl (by decide) rfl (fun ls hl => ?_)
  exact (wlT_X2_init_99 CTX hRm hRc mbT_X2_init_124 (wbT_X2_init_124 CTX hRm hRc) N) _ _ _ _ _ _ _ hf hL hR hS (lv_sub hl [1, 0] rfl)
def bT_X2_init_10 (N : Nat) (x0 : Nat) (x1 : Nat) (x2 : Nat) (s0 : Nat) (s1 : Nat) (K : Ka) (M : Cm) : Option ((Ka × Cm) ⊕ (Ka × Cm)) := gd (kd K s0 == 3) (gd (decide (¬ (850 : Int32) < 0 ∧ (850 : Int32).toNatClampNeg ≤ 1000000)) ((bT_X2_init_19 N) x0 x1 x2 x0 (kz K) (kNew K 22 (850 : Int32).toNatClampNeg (850 : Int32).toNatClampNeg) (mZ (wR M s0 2 (some s1)) (kz K))))
theorem mbT_X2_init_10 {o : (Ka × Cm) ⊕ (Ka × Cm)} {N : Nat}  (x0 : Nat) (x1 : Nat) (x2 : Nat) (s0 : Nat) (s1 : Nat) (K : Ka) (M : Cm) (hf : bT_X2_init_10 N x0 x1 x2 s0 s1 K M = some o) : KLe K (oK sV o) := by
  unfold bT_X2_init_10 at hf
  obtain ⟨-, hf⟩ := gd_some hf
  obtain ⟨-, hf⟩ := gd_some hf
  exact (kNew_le _ _ _ _).tr (mbT_X2_init_19 _ _ _ _ _ _ _ hf)
set_option maxRecDepth 100000 in
set_option maxHeartbeats 4000000 in
theorem wbT_X2_init_10 {p : Program} {l : Launch} {e : Env} {R : Room} {s : State} {m : MethodId} {args : Array Value} {below : List Frame} {meth : Method} {c : Code} {x : Xc} {K0 : Ka} {o : (Ka × Cm) ⊕ (Ka × Cm)} {N : Nat} (CTX : CT p l s m args meth c x K0 RX2 "<init>" cX2_init 4 none) (hRm : 7 ≤ R.frames ∧ 115 ≤ R.locals) (hRc : nz sV K0 o ≤ R.cells ∧ nu sV K0 o ≤ R.slots) (x0 : Nat) (x1 : Nat) (x2 : Nat) (s0 : Nat) (s1 : Nat) (K : Ka) (M : Cm) (H : Heap) (locs : List Loc) (ls : Array Slot) (hf : bT_X2_init_10 N x0 x1 x2 s0 s1 K M = some o) (hL : KLe K0 K) (hR : RC x K M H) (hS : va_S (AC K0) s.heap H locs) (hl : lv_has ls 4 [(0, .ref x0), (1, .ref x1), (2, .ref x2)]) : W p l e R s m args below meth c H locs (kz K - kz K0) (ku K - ku K0) (TQ sV (aQV x K0) (zQV K0) "java/lang/IllegalStateException" x K0 below args s o) (F0 m 10 ls [.ref s1, .ref s0]) := by
  obtain ⟨CX, hno, hlt, hmn⟩ := id CTX
  obtain ⟨hx, hb, hml, hown, hts, hE, hB, hr, hlk⟩ := id CX
  have hcs := nz_le (mbT_X2_init_10  x0 x1 x2 s0 s1 K M hf) hRc
  unfold bT_X2_init_10 at hf
  obtain ⟨hk_s0_3, hf⟩ := gd_some hf
  refine tr_putFR kc_2 CX hmn hR hL hS (v := some s1) ff_X2_11 ⟨rfl, rfl, .inr ⟨_, rfl⟩⟩ hk_s0_3 dX2_init_10 (fun H locs hR hS => ?_)
  refine lv_aload_n hx hb dX2_init_13 rfl (lv_at hl 0 rfl) ?_
  refine lv_sipush (v := 850) hx hb dX2_init_14 (by decide) ?_
  obtain ⟨hq, hf⟩ := gd_some hf
  have hm1 := mbT_X2_init_19 _ _ _ _ _ _ _ hf
  have hb1 := nz_le hm1 hRc
  refine tr_newai CX hL hR hS hq hb1 dX2_init_17 (fun H hR hS => ?_)
  exact (wbT_X2_init_19 CTX hRm hRc) _ _ _ _ _ _ _ _ _ _ hf (hL.tr (kNew_le _ _ _ _)) hR hS (lv_sub hl [0, 1, 2] rfl)
def fT_X2_init (N : Nat) (x0 : Nat) (x1 : Nat) (x2 : Nat) (K : Ka) (M : Cm) : Option ((Ka × Cm) ⊕ (Ka × Cm)) := gd (decide (¬ (25 : Int32) < 0 ∧ (25 : Int32).toNatClampNeg ≤ 1000000)) ((bT_X2_init_10 N) x0 x1 x2 x0 (kz K) (kNew K 25 (25 : Int32).toNatClampNeg (25 : Int32).toNatClampNeg) (mZ M (kz K)))
theorem mfT_X2_init {o : (Ka × Cm) ⊕ (Ka × Cm)} {N : Nat}  (x0 : Nat) (x1 : Nat) (x2 : Nat) (K : Ka) (M : Cm) (hf : fT_X2_init N x0 x1 x2 K M = some o) : KLe K (oK sV o) := by
  unfold fT_X2_init at hf
  obtain ⟨-, hf⟩ := gd_some hf
  exact (kNew_le _ _ _ _).tr (mbT_X2_init_10 _ _ _ _ _ _ _ hf)
set_option maxRecDepth 100000 in
set_option maxHeartbeats 4000000 in
theorem wfT_X2_init {p : Program} {l : Launch} {e : Env} {R : Room} {s : State} {m : MethodId} {args : Array Value} {below : List Frame} {meth : Method} {c : Code} {x : Xc} {K0 : Ka} {o : (Ka × Cm) ⊕ (Ka × Cm)} {N : Nat} (CTX : CT p l s m args meth c x K0 RX2 "<init>" cX2_init 4 none) (hRm : 7 ≤ R.frames ∧ 115 ≤ R.locals) (hRc : nz sV K0 o ≤ R.cells ∧ nu sV K0 o ≤ R.slots) (x0 : Nat) (x1 : Nat) (x2 : Nat) (K : Ka) (M : Cm) (H : Heap) (locs : List Loc) (ls : Array Slot) (hf : fT_X2_init N x0 x1 x2 K M = some o) (hL : KLe K0 K) (hR : RC x K M H) (hS : va_S (AC K0) s.heap H locs) (hl : lv_has ls 4 [(0, .ref x0), (1, .ref x1), (2, .ref x2)]) : W p l e R s m args below meth c H locs (kz K - kz K0) (ku K - ku K0) (TQ sV (aQV x K0) (zQV K0) "java/lang/IllegalStateException" x K0 below args s o) (F0 m 0 ls []) := by
  obtain ⟨CX, hno, hlt, hmn⟩ := id CTX
  obtain ⟨hx, hb, hml, hown, hts, hE, hB, hr, hlk⟩ := id CX
  have hcs := nz_le (mfT_X2_init  x0 x1 x2 K M hf) hRc
  unfold fT_X2_init at hf
  refine lv_aload_n hx hb dX2_init_0 rfl (lv_at hl 0 rfl) ?_
  refine tr_objInit CX wi_X2_3 hl.1 (by omega) (by omega) (Nat.le_of_ble_eq_true rfl) dX2_init_1 ?_
  refine lv_aload_n hx hb dX2_init_4 rfl (lv_at hl 0 rfl) ?_
  refine lv_bipush (v := 25) hx hb dX2_init_5 (by decide) ?_
  obtain ⟨hq, hf⟩ := gd_some hf
  have hm1 := mbT_X2_init_10 _ _ _ _ _ _ _ hf
  have hb1 := nz_le hm1 hRc
  refine tr_anewf CX hL hR hS ac_X2_9 hq hb1 dX2_init_7 (fun H hR hS => ?_)
  exact (wbT_X2_init_10 CTX hRm hRc) _ _ _ _ _ _ _ _ _ _ hf (hL.tr (kNew_le _ _ _ _)) hR hS (lv_sub hl [0, 1, 2] rfl)
theorem MT_X2_init (l : Launch) (x : Xc) (hlt : l.stackTraces = false) (N : Nat) (x0 : Nat) (x1 : Nat) (x2 : Nat) (K : Ka) (M : Cm) (o : (Ka × Cm) ⊕ (Ka × Cm)) (hf : fT_X2_init N x0 x1 x2 K M = some o) : Tc sV (aQV x K) (zQV K) "java/lang/IllegalStateException" l x yX2_init cX2_init 4 none 7 115 [.ref x0, .ref x1, .ref x2] K M o :=
  tr_met RX2 "<init>" hlt (by decide) rfl rfl (Nat.le_of_ble_eq_true rfl) (fun p e s m args below meth c ls CTX hR hl => wfT_X2_init CTX ⟨Nat.le_refl _, Nat.le_refl _⟩ ⟨Nat.le_refl _, Nat.le_refl _⟩ x0 x1 x2 K M s.heap [] ls hf (KLe.rf K) hR va_S.rf hl)
def bT_X5_emit_33 (N : Nat) (x0 : Nat) (x1 : Int64) (K : Ka) (M : Cm) : Option ((Int32 × Ka × Cm) ⊕ (Ka × Cm)) := gd (kd K x0 == 6) (nn (cR M x0 9) fun a1 => gd (kd K a1 == 23) (ck (cI M x0 13) (le K a1) (some (.inl ((cI (wI (wL M a1 (cI M x0 13 : Int32).toNatClampNeg x1) x0 13 ((cI (wL M a1 (cI M x0 13 : Int32).toNatClampNeg x1) x0 13) + 1)) x0 13) - 1, K, wI (wL M a1 (cI M x0 13 : Int32).toNatClampNeg x1) x0 13 ((cI (wL M a1 (cI M x0 13 : Int32).toNatClampNeg x1) x0 13) + 1))))))
theorem mbT_X5_emit_33 {o : (Int32 × Ka × Cm) ⊕ (Ka × Cm)} {N : Nat}  (x0 : Nat) (x1 : Int64) (K : Ka) (M : Cm) (hf : bT_X5_emit_33 N x0 x1 K M = some o) : KLe K (oK sT o) := by
  unfold bT_X5_emit_33 at hf
  obtain ⟨-, hf⟩ := gd_some hf
  obtain ⟨a1, -, hf⟩ := nn_some hf
  obtain ⟨-, hf⟩ := gd_some hf
  obtain ⟨-, hf⟩ := ck_some hf
  cases hf
  exact KLe.rf _
set_option maxRecDepth 100000 in
set_option maxHeartbeats 4000000 in
theorem wbT_X5_emit_33 {p : Program} {l : Launch} {e : Env} {R : Room} {s : State} {m : MethodId} {args : Array Value} {below : List Frame} {meth : Method} {c : Code} {x : Xc} {K0 : Ka} {o : (Int32 × Ka × Cm) ⊕ (Ka × Cm)} {N : Nat} (CTX : CT p l s m args meth c x K0 RX5 "emit" cX5_emit 3 (some .int)) (hRm : 7 ≤ R.frames ∧ 117 ≤ R.locals) (hRc : nz sT K0 o ≤ R.cells ∧ nu sT K0 o ≤ R.slots) (x0 : Nat) (x1 : Int64) (K : Ka) (M : Cm) (H : Heap) (locs : List Loc) (ls : Array Slot) (hf : bT_X5_emit_33 N x0 x1 K M = some o) (hL : KLe K0 K) (hR : RC x K M H) (hS : va_S (AC K0) s.heap H locs) (hl : lv_has ls 3 [(0, .ref x0), (1, .long x1)]) : W p l e R s m args below meth c H locs (kz K - kz K0) (ku K - ku K0) (TQ sT (aQI x K0) (zQV K0) "java/lang/IllegalStateException" x K0 below args s o) (F0 m 33 ls []) := by
  obtain ⟨CX, hno, hlt, hmn⟩ := id CTX
  obtain ⟨hx, hb, hml, hown, hts, hE, hB, hr, hlk⟩ := id CX
  have hcs := nz_le (mbT_X5_emit_33  x0 x1 K M hf) hRc
  unfold bT_X5_emit_33 at hf
  refine lv_aload_n hx hb dX5_emit_33 rfl (lv_at hl 0 rfl) ?_
  obtain ⟨hk_x0_6, hf⟩ := gd_some hf
  refine cr_getR kc_5 CX hR fa_X5_62 rfl hk_x0_6 dX5_emit_34 ?_
  refine lv_aload_n hx hb dX5_emit_37 rfl (lv_at hl 0 rfl) ?_
  refine cr_getI kc_5 CX hR fa_X5_21 rfl hk_x0_6 dX5_emit_38 ?_
  refine lv_lload_n hx hb dX5_emit_41 rfl (lv_at hl 1 rfl) ?_
  obtain ⟨a1, ha1, hf⟩ := nn_some hf
  refine rf_2 ha1 ?_
  obtain ⟨hk_a1_23, hf⟩ := gd_some hf
  obtain ⟨hi, hf⟩ := ck_some hf
  refine cr_last CX hR hL hS hk_a1_23 hi dX5_emit_42 (fun H locs hR hS => ?_)
  refine lv_aload_n hx hb dX5_emit_43 rfl (lv_at hl 0 rfl) ?_
  refine lv_dup hx hb dX5_emit_44 rfl ?_
  refine cr_getI kc_5 CX hR fa_X5_21 rfl hk_x0_6 dX5_emit_45 ?_
  refine lv_iconst (v := 1) hx hb dX5_emit_48 (by decide) ?_
  refine lv_iadd hx hb dX5_emit_49 ?_
  refine cr_putI kc_5 CX hR hL hS fa_X5_21 ⟨rfl, rfl, rfl⟩ hk_x0_6 dX5_emit_50 (fun H locs hR hS => ?_)
  refine lv_aload_n hx hb dX5_emit_53 rfl (lv_at hl 0 rfl) ?_
  refine cr_getI kc_5 CX hR fa_X5_21 rfl hk_x0_6 dX5_emit_54 ?_
  refine lv_iconst (v := 1) hx hb dX5_emit_57 (by decide) ?_
  refine lv_isub hx hb dX5_emit_58 ?_
  exact tr_iret CX hR hS hf dX5_emit_59
def bT_X5_emit_30 (N : Nat) (x0 : Nat) (x1 : Int64) (s0 : Nat) (s1 : Nat) (K : Ka) (M : Cm) : Option ((Int32 × Ka × Cm) ⊕ (Ka × Cm)) := gd (kd K s0 == 6) ((bT_X5_emit_33 N) x0 x1 K (wR M s0 9 (some s1)))
theorem mbT_X5_emit_30 {o : (Int32 × Ka × Cm) ⊕ (Ka × Cm)} {N : Nat}  (x0 : Nat) (x1 : Int64) (s0 : Nat) (s1 : Nat) (K : Ka) (M : Cm) (hf : bT_X5_emit_30 N x0 x1 s0 s1 K M = some o) : KLe K (oK sT o) := by
  unfold bT_X5_emit_30 at hf
  obtain ⟨-, hf⟩ := gd_some hf
  exact mbT_X5_emit_33 _ _ _ _ hf
set_option maxRecDepth 100000 in
set_option maxHeartbeats 4000000 in
theorem wbT_X5_emit_30 {p : Program} {l : Launch} {e : Env} {R : Room} {s : State} {m : MethodId} {args : Array Value} {below : List Frame} {meth : Method} {c : Code} {x : Xc} {K0 : Ka} {o : (Int32 × Ka × Cm) ⊕ (Ka × Cm)} {N : Nat} (CTX : CT p l s m args meth c x K0 RX5 "emit" cX5_emit 3 (some .int)) (hRm : 7 ≤ R.frames ∧ 117 ≤ R.locals) (hRc : nz sT K0 o ≤ R.cells ∧ nu sT K0 o ≤ R.slots) (x0 : Nat) (x1 : Int64) (s0 : Nat) (s1 : Nat) (K : Ka) (M : Cm) (H : Heap) (locs : List Loc) (ls : Array Slot) (hf : bT_X5_emit_30 N x0 x1 s0 s1 K M = some o) (hL : KLe K0 K) (hR : RC x K M H) (hS : va_S (AC K0) s.heap H locs) (hl : lv_has ls 3 [(0, .ref x0), (1, .long x1)]) : W p l e R s m args below meth c H locs (kz K - kz K0) (ku K - ku K0) (TQ sT (aQI x K0) (zQV K0) "java/lang/IllegalStateException" x K0 below args s o) (F0 m 30 ls [.ref s1, .ref s0]) := by
  obtain ⟨CX, hno, hlt, hmn⟩ := id CTX
  obtain ⟨hx, hb, hml, hown, hts, hE, hB, hr, hlk⟩ := id CX
  have hcs := nz_le (mbT_X5_emit_30  x0 x1 s0 s1 K M hf) hRc
  unfold bT_X5_emit_30 at hf
  obtain ⟨hk_s0_6, hf⟩ := gd_some hf
  refine cr_putR kc_5 CX hR hL hS (v := some s1) fa_X5_62 ⟨rfl, rfl, .inr ⟨_, rfl⟩⟩ hk_s0_6 dX5_emit_30 (fun H locs hR hS => ?_)
  exact (wbT_X5_emit_33 CTX hRm hRc) _ _ _ _ _ _ _ hf hL hR hS (lv_sub hl [0, 1] rfl)
def fT_X5_emit (N : Nat) (x0 : Nat) (x1 : Int64) (K : Ka) (M : Cm) : Option ((Int32 × Ka × Cm) ⊕ (Ka × Cm)) := gd (kd K x0 == 6) (nn (cR M x0 9) fun a1 => gd (kd K a1 == 23) (if (cI M x0 13) < (nI (le K a1)) then ((bT_X5_emit_33 N) x0 x1 K M) else (nn (cR M x0 9) fun a2 => gd (kd K a2 == 23) (nn (cR M x0 9) fun a3 => ta (fT_J7_copyOf_c38d5 N a3 (((nI (le K a2)) * 2) + 8) K M) fun o27 => (bT_X5_emit_30 N) x0 x1 x0 o27.1 o27.2.1 o27.2.2))))
theorem mfT_X5_emit {o : (Int32 × Ka × Cm) ⊕ (Ka × Cm)} {N : Nat}  (x0 : Nat) (x1 : Int64) (K : Ka) (M : Cm) (hf : fT_X5_emit N x0 x1 K M = some o) : KLe K (oK sT o) := by
  unfold fT_X5_emit at hf
  obtain ⟨-, hf⟩ := gd_some hf
  obtain ⟨a1, -, hf⟩ := nn_some hf
  obtain ⟨-, hf⟩ := gd_some hf
  by_cases hc : (cI M x0 13) < (nI (le K a1))
  · rw [if_pos hc] at hf
    exact mbT_X5_emit_33 _ _ _ _ hf
  · rw [if_neg hc] at hf
    obtain ⟨a2, -, hf⟩ := nn_some hf
    obtain ⟨-, hf⟩ := gd_some hf
    obtain ⟨a3, -, hf⟩ := nn_some hf
    obtain ⟨o27, ho, hf⟩ := ta_some hf
    exact KLe.tr (mfT_J7_copyOf_c38d5 _ _ _ _ ho) (mbT_X5_emit_30 _ _ _ _ _ _ hf)
set_option maxRecDepth 100000 in
set_option maxHeartbeats 4000000 in
theorem wfT_X5_emit {p : Program} {l : Launch} {e : Env} {R : Room} {s : State} {m : MethodId} {args : Array Value} {below : List Frame} {meth : Method} {c : Code} {x : Xc} {K0 : Ka} {o : (Int32 × Ka × Cm) ⊕ (Ka × Cm)} {N : Nat} (CTX : CT p l s m args meth c x K0 RX5 "emit" cX5_emit 3 (some .int)) (hRm : 7 ≤ R.frames ∧ 117 ≤ R.locals) (hRc : nz sT K0 o ≤ R.cells ∧ nu sT K0 o ≤ R.slots) (x0 : Nat) (x1 : Int64) (K : Ka) (M : Cm) (H : Heap) (locs : List Loc) (ls : Array Slot) (hf : fT_X5_emit N x0 x1 K M = some o) (hL : KLe K0 K) (hR : RC x K M H) (hS : va_S (AC K0) s.heap H locs) (hl : lv_has ls 3 [(0, .ref x0), (1, .long x1)]) : W p l e R s m args below meth c H locs (kz K - kz K0) (ku K - ku K0) (TQ sT (aQI x K0) (zQV K0) "java/lang/IllegalStateException" x K0 below args s o) (F0 m 0 ls []) := by
  obtain ⟨CX, hno, hlt, hmn⟩ := id CTX
  obtain ⟨hx, hb, hml, hown, hts, hE, hB, hr, hlk⟩ := id CX
  have hcs := nz_le (mfT_X5_emit  x0 x1 K M hf) hRc
  unfold fT_X5_emit at hf
  refine lv_aload_n hx hb dX5_emit_0 rfl (lv_at hl 0 rfl) ?_
  obtain ⟨hk_x0_6, hf⟩ := gd_some hf
  refine cr_getI kc_5 CX hR fa_X5_21 rfl hk_x0_6 dX5_emit_1 ?_
  refine lv_aload_n hx hb dX5_emit_4 rfl (lv_at hl 0 rfl) ?_
  refine cr_getR kc_5 CX hR fa_X5_62 rfl hk_x0_6 dX5_emit_5 ?_
  obtain ⟨a1, ha1, hf⟩ := nn_some hf
  refine rf_0 ha1 ?_
  obtain ⟨hk_a1_23, hf⟩ := gd_some hf
  refine cr_llen CX hR hk_a1_23 dX5_emit_8 ?_
  refine lv_icmp_lt (tgt := 33) hx hb dX5_emit_9 (by decide) (fun hc => ?_) (fun hc => ?_)
  · rw [if_pos hc] at hf
    exact (wbT_X5_emit_33 CTX hRm hRc) _ _ _ _ _ _ _ hf hL hR hS (lv_sub hl [0, 1] rfl)
  · rw [if_neg hc] at hf
    refine lv_aload_n hx hb dX5_emit_12 rfl (lv_at hl 0 rfl) ?_
    refine lv_aload_n hx hb dX5_emit_13 rfl (lv_at hl 0 rfl) ?_
    refine cr_getR kc_5 CX hR fa_X5_62 rfl hk_x0_6 dX5_emit_14 ?_
    refine lv_aload_n hx hb dX5_emit_17 rfl (lv_at hl 0 rfl) ?_
    refine cr_getR kc_5 CX hR fa_X5_62 rfl hk_x0_6 dX5_emit_18 ?_
    obtain ⟨a2, ha2, hf⟩ := nn_some hf
    refine rf_0 ha2 ?_
    obtain ⟨hk_a2_23, hf⟩ := gd_some hf
    refine cr_llen CX hR hk_a2_23 dX5_emit_21 ?_
    refine lv_iconst (v := 2) hx hb dX5_emit_22 (by decide) ?_
    refine lv_imul hx hb dX5_emit_23 ?_
    refine lv_bipush (v := 8) hx hb dX5_emit_24 (by decide) ?_
    refine lv_iadd hx hb dX5_emit_26 ?_
    obtain ⟨a3, ha3, hf⟩ := nn_some hf
    refine rf_1 ha3 ?_
    obtain ⟨o27, ho, hf⟩ := ta_some hf
    have hm1 := mbT_X5_emit_30 _ _ _ _ _ _ hf
    have hb1 := nz_le hm1 hRc
    have hq1 := (mfT_J7_copyOf_c38d5 _ _ _ _ ho)
    refine ta_callAs CX hL hR hS (As := [.ref a3, .int (((nI (le K a2)) * 2) + 8)]) (rest := [.ref x0]) (MT_J7_copyOf_c38d5 l x hlt N _ _ _ _ _ ho) cs_X5_130 ⟨by omega, by omega⟩ rfl (Nat.le_of_ble_eq_true rfl) hl.1 hq1 hb1 rfl dX5_emit_27 (fun H locs hR hS => ?_)
    exact (wbT_X5_emit_30 CTX hRm hRc) _ _ _ _ _ _ _ _ _ hf (hL.tr hq1) hR hS (lv_sub hl [0, 1] rfl)
theorem MT_X5_emit (l : Launch) (x : Xc) (hlt : l.stackTraces = false) (N : Nat) (x0 : Nat) (x1 : Int64) (K : Ka) (M : Cm) (o : (Int32 × Ka × Cm) ⊕ (Ka × Cm)) (hf : fT_X5_emit N x0 x1 K M = some o) : Tc sT (aQI x K) (zQV K) "java/lang/IllegalStateException" l x yX5_emit cX5_emit 3 (some .int) 7 117 [.ref x0, .long x1] K M o :=
  tr_met RX5 "emit" hlt (by decide) rfl rfl (Nat.le_of_ble_eq_true rfl) (fun p e s m args below meth c ls CTX hR hl => wfT_X5_emit CTX ⟨Nat.le_refl _, Nat.le_refl _⟩ ⟨Nat.le_refl _, Nat.le_refl _⟩ x0 x1 K M s.heap [] ls hf (KLe.rf K) hR va_S.rf hl)
def bT_X3_emit_13 (N : Nat) (x0 : Nat) (s0 : Int32) (K : Ka) (M : Cm) : Option ((Int32 × Ka × Cm) ⊕ (Ka × Cm)) := some (.inl (s0, K, M))
theorem mbT_X3_emit_13 {o : (Int32 × Ka × Cm) ⊕ (Ka × Cm)} {N : Nat}  (x0 : Nat) (s0 : Int32) (K : Ka) (M : Cm) (hf : bT_X3_emit_13 N x0 s0 K M = some o) : KLe K (oK sT o) := by
  unfold bT_X3_emit_13 at hf
  cases hf
  exact KLe.rf _
set_option maxRecDepth 100000 in
set_option maxHeartbeats 4000000 in
theorem wbT_X3_emit_13 {p : Program} {l : Launch} {e : Env} {R : Room} {s : State} {m : MethodId} {args : Array Value} {below : List Frame} {meth : Method} {c : Code} {x : Xc} {K0 : Ka} {o : (Int32 × Ka × Cm) ⊕ (Ka × Cm)} {N : Nat} (CTX : CT p l s m args meth c x K0 RX3 "emit" cX3_emit 4 (some .int)) (hRm : 8 ≤ R.frames ∧ 139 ≤ R.locals) (hRc : nz sT K0 o ≤ R.cells ∧ nu sT K0 o ≤ R.slots) (x0 : Nat) (s0 : Int32) (K : Ka) (M : Cm) (H : Heap) (locs : List Loc) (ls : Array Slot) (hf : bT_X3_emit_13 N x0 s0 K M = some o) (hL : KLe K0 K) (hR : RC x K M H) (hS : va_S (AC K0) s.heap H locs) (hl : lv_has ls 4 [(0, .ref x0)]) : W p l e R s m args below meth c H locs (kz K - kz K0) (ku K - ku K0) (TQ sT (aQI x K0) (zQV K0) "java/lang/IllegalStateException" x K0 below args s o) (F0 m 13 ls [.int s0]) := by
  obtain ⟨CX, hno, hlt, hmn⟩ := id CTX
  obtain ⟨hx, hb, hml, hown, hts, hE, hB, hr, hlk⟩ := id CX
  have hcs := nz_le (mbT_X3_emit_13  x0 s0 K M hf) hRc
  unfold bT_X3_emit_13 at hf
  exact tr_iret CX hR hS hf dX3_emit_13
def fT_X3_emit (N : Nat) (x0 : Nat) (x1 : Int32) (x2 : Int32) (x3 : Int32) (K : Ka) (M : Cm) : Option ((Int32 × Ka × Cm) ⊕ (Ka × Cm)) := gd (kd K x0 == 4) (nn (cR M x0 1) fun a1 => (fC_X5_word N K x1 x2 x3 M).bind fun o7 => gd (kd K a1 == 6) (ta (fT_X5_emit N a1 o7.1 K o7.2) fun o10 => (bT_X3_emit_13 N) x0 o10.1 o10.2.1 o10.2.2))
theorem mfT_X3_emit {o : (Int32 × Ka × Cm) ⊕ (Ka × Cm)} {N : Nat}  (x0 : Nat) (x1 : Int32) (x2 : Int32) (x3 : Int32) (K : Ka) (M : Cm) (hf : fT_X3_emit N x0 x1 x2 x3 K M = some o) : KLe K (oK sT o) := by
  unfold fT_X3_emit at hf
  obtain ⟨-, hf⟩ := gd_some hf
  obtain ⟨a1, -, hf⟩ := nn_some hf
  obtain ⟨o7, -, hf⟩ := bnd_some hf
  obtain ⟨-, hf⟩ := gd_some hf
  obtain ⟨o10, ho, hf⟩ := ta_some hf
  exact KLe.tr (mfT_X5_emit _ _ _ _ ho) (mbT_X3_emit_13 _ _ _ _ hf)
set_option maxRecDepth 100000 in
set_option maxHeartbeats 4000000 in
theorem wfT_X3_emit {p : Program} {l : Launch} {e : Env} {R : Room} {s : State} {m : MethodId} {args : Array Value} {below : List Frame} {meth : Method} {c : Code} {x : Xc} {K0 : Ka} {o : (Int32 × Ka × Cm) ⊕ (Ka × Cm)} {N : Nat} (CTX : CT p l s m args meth c x K0 RX3 "emit" cX3_emit 4 (some .int)) (hRm : 8 ≤ R.frames ∧ 139 ≤ R.locals) (hRc : nz sT K0 o ≤ R.cells ∧ nu sT K0 o ≤ R.slots) (x0 : Nat) (x1 : Int32) (x2 : Int32) (x3 : Int32) (K : Ka) (M : Cm) (H : Heap) (locs : List Loc) (ls : Array Slot) (hf : fT_X3_emit N x0 x1 x2 x3 K M = some o) (hL : KLe K0 K) (hR : RC x K M H) (hS : va_S (AC K0) s.heap H locs) (hl : lv_has ls 4 [(0, .ref x0), (1, .int x1), (2, .int x2), (3, .int x3)]) : W p l e R s m args below meth c H locs (kz K - kz K0) (ku K - ku K0) (TQ sT (aQI x K0) (zQV K0) "java/lang/IllegalStateException" x K0 below args s o) (F0 m 0 ls []) := by
  obtain ⟨CX, hno, hlt, hmn⟩ := id CTX
  obtain ⟨hx, hb, hml, hown, hts, hE, hB, hr, hlk⟩ := id CX
  have hcs := nz_le (mfT_X3_emit  x0 x1 x2 x3 K M hf) hRc
  unfold fT_X3_emit at hf
  refine lv_aload_n hx hb dX3_emit_0 rfl (lv_at hl 0 rfl) ?_
  obtain ⟨hk_x0_4, hf⟩ := gd_some hf
  refine cr_getR kc_3 CX hR fa_X3_9 rfl hk_x0_4 dX3_emit_1 ?_
  refine lv_iload_n hx hb dX3_emit_4 rfl (lv_at hl 1 rfl) ?_
  refine lv_iload_n hx hb dX3_emit_5 rfl (lv_at hl 2 rfl) ?_
  refine lv_iload_n hx hb dX3_emit_6 rfl (lv_at hl 3 rfl) ?_
  obtain ⟨a1, ha1, hf⟩ := nn_some hf
  refine rf_3 ha1 ?_
  obtain ⟨o7, ho7, hf⟩ := bnd_some hf
  refine cr_callLs CX hR hL hS (As := [.int x1, .int x2, .int x3]) (rest := [.ref a1]) (MC_X5_word l x N K x1 x2 x3 M o7 ho7) cs_X3_80 ⟨by omega, by omega⟩ rfl rfl (Nat.le_of_ble_eq_true rfl) hl.1 dX3_emit_7 hcs (fun H locs hR hS => ?_)
  obtain ⟨hk_a1_6, hf⟩ := gd_some hf
  obtain ⟨o10, ho, hf⟩ := ta_some hf
  have hm1 := mbT_X3_emit_13 _ _ _ _ hf
  have hb1 := nz_le hm1 hRc
  have hq1 := (mfT_X5_emit _ _ _ _ ho)
  refine ta_callIv kc_5 CX hL hR hS (As := [.long o7.1]) (rest := []) hk_a1_6 (MT_X5_emit l x hlt N _ _ _ _ _ ho) cv_X3_84 ⟨by omega, by omega⟩ rfl (Nat.le_of_ble_eq_true rfl) hl.1 hq1 hb1 rfl dX3_emit_10 (fun H locs hR hS => ?_)
  exact (wbT_X3_emit_13 CTX hRm hRc) _ _ _ _ _ _ _ hf (hL.tr hq1) hR hS (lv_sub hl [0] rfl)
theorem MT_X3_emit (l : Launch) (x : Xc) (hlt : l.stackTraces = false) (N : Nat) (x0 : Nat) (x1 : Int32) (x2 : Int32) (x3 : Int32) (K : Ka) (M : Cm) (o : (Int32 × Ka × Cm) ⊕ (Ka × Cm)) (hf : fT_X3_emit N x0 x1 x2 x3 K M = some o) : Tc sT (aQI x K) (zQV K) "java/lang/IllegalStateException" l x yX3_emit cX3_emit 4 (some .int) 8 139 [.ref x0, .int x1, .int x2, .int x3] K M o :=
  tr_met RX3 "emit" hlt (by decide) rfl rfl (Nat.le_of_ble_eq_true rfl) (fun p e s m args below meth c ls CTX hR hl => wfT_X3_emit CTX ⟨Nat.le_refl _, Nat.le_refl _⟩ ⟨Nat.le_refl _, Nat.le_refl _⟩ x0 x1 x2 x3 K M s.heap [] ls hf (KLe.rf K) hR va_S.rf hl)
def bT_X3_emitBringing_71 (N : Nat) (r21 : Nat → Nat → Int32 → Ka → Cm → Option ((Ka × Cm) ⊕ (Ka × Cm))) (k77 : Nat → Ka → Cm → Option ((Ka × Cm) ⊕ (Ka × Cm))) (x0 : Nat) (x1 : Nat) (x2 : Int32) (K : Ka) (M : Cm) : Option ((Ka × Cm) ⊕ (Ka × Cm)) := r21 x0 x1 (x2 + 1) K M
theorem mbT_X3_emitBringing_71 {o : (Ka × Cm) ⊕ (Ka × Cm)} {N : Nat} {r21 : Nat → Nat → Int32 → Ka → Cm → Option ((Ka × Cm) ⊕ (Ka × Cm))} {k77 : Nat → Ka → Cm → Option ((Ka × Cm) ⊕ (Ka × Cm))} (mr21 : ∀ (x0 : Nat) (x1 : Nat) (x2 : Int32) (K : Ka) (M : Cm) , r21 x0 x1 x2 K M = some o → KLe K (oK sV o)) (mk77 : ∀ (x0 : Nat) (K : Ka) (M : Cm) , k77 x0 K M = some o → KLe K (oK sV o)) (x0 : Nat) (x1 : Nat) (x2 : Int32) (K : Ka) (M : Cm) (hf : bT_X3_emitBringing_71 N r21 k77 x0 x1 x2 K M = some o) : KLe K (oK sV o) := by
  unfold bT_X3_emitBringing_71 at hf
  exact mr21 _ _ _ _ _ hf
set_option maxRecDepth 100000 in
set_option maxHeartbeats 4000000 in
theorem wbT_X3_emitBringing_71 {p : Program} {l : Launch} {e : Env} {R : Room} {s : State} {m : MethodId} {args : Array Value} {below : List Frame} {meth : Method} {c : Code} {x : Xc} {K0 : Ka} {o : (Ka × Cm) ⊕ (Ka × Cm)} {N : Nat} {r21 : Nat → Nat → Int32 → Ka → Cm → Option ((Ka × Cm) ⊕ (Ka × Cm))} {k77 : Nat → Ka → Cm → Option ((Ka × Cm) ⊕ (Ka × Cm))} (CTX : CT p l s m args meth c x K0 RX3 "emitBringing" cX3_emitBringing 3 none) (hRm : 9 ≤ R.frames ∧ 162 ≤ R.locals) (hRc : nz sV K0 o ≤ R.cells ∧ nu sV K0 o ≤ R.slots) (mr21 : ∀ (x0 : Nat) (x1 : Nat) (x2 : Int32) (K : Ka) (M : Cm) , r21 x0 x1 x2 K M = some o → KLe K (oK sV o)) (mk77 : ∀ (x0 : Nat) (K : Ka) (M : Cm) , k77 x0 K M = some o → KLe K (oK sV o)) (hr21 : ∀ (x0 : Nat) (x1 : Nat) (x2 : Int32) (K : Ka) (M : Cm) (H : Heap) (locs : List Loc) (ls : Array Slot), r21 x0 x1 x2 K M = some o → KLe K0 K → RC x K M H → va_S (AC K0) s.heap H locs → lv_has ls 3 [(0, .ref x0), (1, .ref x1), (2, .int x2)] → W p l e R s m args below meth c H locs (kz K - kz K0) (ku K - ku K0) (TQ sV (aQV x K0) (zQV K0) "java/lang/IllegalStateException" x K0 below args s o) (F0 m 21 ls [])) (hk77 : ∀ (x0 : Nat) (K : Ka) (M : Cm) (H : Heap) (locs : List Loc) (ls : Array Slot), k77 x0 K M = some o → KLe K0 K → RC x K M H → va_S (AC K0) s.heap H locs → lv_has ls 3 [(0, .ref x0)] → W p l e R s m args below meth c H locs (kz K - kz K0) (ku K - ku K0) (TQ sV (aQV x K0) (zQV K0) "java/lang/IllegalStateException" x K0 below args s o) (F0 m 77 ls [])) (x0 : Nat) (x1 : Nat) (x2 : Int32) (K : Ka) (M : Cm) (H : Heap) (locs : List Loc) (ls : Array Slot) (hf : bT_X3_emitBringing_71 N r21 k77 x0 x1 x2 K M = some o) (hL : KLe K0 K) (hR : RC x K M H) (hS : va_S (AC K0) s.heap H locs) (hl : lv_has ls 3 [(0, .ref x0), (1, .ref x1), (2, .int x2)]) : W p l e R s m args below meth c H locs (kz K - kz K0) (ku K - ku K0) (TQ sV (aQV x K0) (zQV K0) "java/lang/IllegalStateException" x K0 below args s o) (F0 m 71 ls []) := by
  obtain ⟨CX, hno, hlt, hmn⟩ := id CTX
  obtain ⟨hx, hb, hml, hown, hts, hE, hB, hr, hlk⟩ := id CX
  have hcs := nz_le (mbT_X3_emitBringing_71 mr21 mk77 x0 x1 x2 K M hf) hRc
  unfold bT_X3_emitBringing_71 at hf
  refine lv_iinc (v := x2 + 1) (lv' := [(2, .int (x2 + 1)), (0, .ref x0), (1, .ref x1)]) hx hb dX3_emitBringing_71 hl (k := 2) rfl rfl (by decide) rfl (fun ls hl => ?_)
  refine lv_goto (tgt := 21) hx hb dX3_emitBringing_74 (by decide) ?_
  exact hr21 _ _ _ _ _ _ _ _ hf hL hR hS (lv_sub hl [1, 2, 0] rfl)
def bT_X3_emitBringing_70 (N : Nat) (r21 : Nat → Nat → Int32 → Ka → Cm → Option ((Ka × Cm) ⊕ (Ka × Cm))) (k77 : Nat → Ka → Cm → Option ((Ka × Cm) ⊕ (Ka × Cm))) (x0 : Nat) (x1 : Nat) (x2 : Int32) (s0 : Int32) (K : Ka) (M : Cm) : Option ((Ka × Cm) ⊕ (Ka × Cm)) := (bT_X3_emitBringing_71 N r21 k77) x0 x1 x2 K M
theorem mbT_X3_emitBringing_70 {o : (Ka × Cm) ⊕ (Ka × Cm)} {N : Nat} {r21 : Nat → Nat → Int32 → Ka → Cm → Option ((Ka × Cm) ⊕ (Ka × Cm))} {k77 : Nat → Ka → Cm → Option ((Ka × Cm) ⊕ (Ka × Cm))} (mr21 : ∀ (x0 : Nat) (x1 : Nat) (x2 : Int32) (K : Ka) (M : Cm) , r21 x0 x1 x2 K M = some o → KLe K (oK sV o)) (mk77 : ∀ (x0 : Nat) (K : Ka) (M : Cm) , k77 x0 K M = some o → KLe K (oK sV o)) (x0 : Nat) (x1 : Nat) (x2 : Int32) (s0 : Int32) (K : Ka) (M : Cm) (hf : bT_X3_emitBringing_70 N r21 k77 x0 x1 x2 s0 K M = some o) : KLe K (oK sV o) := by
  unfold bT_X3_emitBringing_70 at hf
  exact (mbT_X3_emitBringing_71 mr21 mk77) _ _ _ _ _ hf
set_option maxRecDepth 100000 in
set_option maxHeartbeats 4000000 in
theorem wbT_X3_emitBringing_70 {p : Program} {l : Launch} {e : Env} {R : Room} {s : State} {m : MethodId} {args : Array Value} {below : List Frame} {meth : Method} {c : Code} {x : Xc} {K0 : Ka} {o : (Ka × Cm) ⊕ (Ka × Cm)} {N : Nat} {r21 : Nat → Nat → Int32 → Ka → Cm → Option ((Ka × Cm) ⊕ (Ka × Cm))} {k77 : Nat → Ka → Cm → Option ((Ka × Cm) ⊕ (Ka × Cm))} (CTX : CT p l s m args meth c x K0 RX3 "emitBringing" cX3_emitBringing 3 none) (hRm : 9 ≤ R.frames ∧ 162 ≤ R.locals) (hRc : nz sV K0 o ≤ R.cells ∧ nu sV K0 o ≤ R.slots) (mr21 : ∀ (x0 : Nat) (x1 : Nat) (x2 : Int32) (K : Ka) (M : Cm) , r21 x0 x1 x2 K M = some o → KLe K (oK sV o)) (mk77 : ∀ (x0 : Nat) (K : Ka) (M : Cm) , k77 x0 K M = some o → KLe K (oK sV o)) (hr21 : ∀ (x0 : Nat) (x1 : Nat) (x2 : Int32) (K : Ka) (M : Cm) (H : Heap) (locs : List Loc) (ls : Array Slot), r21 x0 x1 x2 K M = some o → KLe K0 K → RC x K M H → va_S (AC K0) s.heap H locs → lv_has ls 3 [(0, .ref x0), (1, .ref x1), (2, .int x2)] → W p l e R s m args below meth c H locs (kz K - kz K0) (ku K - ku K0) (TQ sV (aQV x K0) (zQV K0) "java/lang/IllegalStateException" x K0 below args s o) (F0 m 21 ls [])) (hk77 : ∀ (x0 : Nat) (K : Ka) (M : Cm) (H : Heap) (locs : List Loc) (ls : Array Slot), k77 x0 K M = some o → KLe K0 K → RC x K M H → va_S (AC K0) s.heap H locs → lv_has ls 3 [(0, .ref x0)] → W p l e R s m args below meth c H locs (kz K - kz K0) (ku K - ku K0) (TQ sV (aQV x K0) (zQV K0) "java/lang/IllegalStateException" x K0 below args s o) (F0 m 77 ls [])) (x0 : Nat) (x1 : Nat) (x2 : Int32) (s0 : Int32) (K : Ka) (M : Cm) (H : Heap) (locs : List Loc) (ls : Array Slot) (hf : bT_X3_emitBringing_70 N r21 k77 x0 x1 x2 s0 K M = some o) (hL : KLe K0 K) (hR : RC x K M H) (hS : va_S (AC K0) s.heap H locs) (hl : lv_has ls 3 [(0, .ref x0), (1, .ref x1), (2, .int x2)]) : W p l e R s m args below meth c H locs (kz K - kz K0) (ku K - ku K0) (TQ sV (aQV x K0) (zQV K0) "java/lang/IllegalStateException" x K0 below args s o) (F0 m 70 ls [.int s0]) := by
  obtain ⟨CX, hno, hlt, hmn⟩ := id CTX
  obtain ⟨hx, hb, hml, hown, hts, hE, hB, hr, hlk⟩ := id CX
  have hcs := nz_le (mbT_X3_emitBringing_70 mr21 mk77 x0 x1 x2 s0 K M hf) hRc
  unfold bT_X3_emitBringing_70 at hf
  refine lv_pop hx hb dX3_emitBringing_70 rfl ?_
  exact (wbT_X3_emitBringing_71 CTX hRm hRc mr21 mk77 hr21 hk77) _ _ _ _ _ _ _ _ hf hL hR hS (lv_sub hl [0, 1, 2] rfl)
def lT_X3_emitBringing_21 (N : Nat) (k77 : Nat → Ka → Cm → Option ((Ka × Cm) ⊕ (Ka × Cm))) : Nat → Nat → Nat → Int32 → Ka → Cm → Option ((Ka × Cm) ⊕ (Ka × Cm))
  | 0, _, _, _, _, _ => none
  | n + 1, x0, x1, x2, K, M => gd (kd K x1 == 8) (if (cI M x1 0) = 0 then (k77 x0 K M) else (nn (cR M x1 11) fun a1 => gd (kd K a1 == 22) (if (nI (le K a1)) ≤ x2 then (k77 x0 K M) else (gd (kd K x0 == 4) (nn (cR M x0 1) fun a2 => gd (kd K a2 == 6) (nn (cR M x1 11) fun a3 => gd (kd K a3 == 22) (ck x2 (le K a3) (nn (cR M a2 5) fun a4 => gd (kd K a4 == 26) (ck (cI M a3 (x2 : Int32).toNatClampNeg) (le K a4) (nn (cR M a4 (cI M a3 (x2 : Int32).toNatClampNeg : Int32).toNatClampNeg) fun a5 => gd (kd K a5 == 8) (if (cI M a5 1) = 0 then ((bT_X3_emitBringing_71 N (lT_X3_emitBringing_21 N k77 n) k77) x0 x1 x2 K M) else (nn (cR M x1 11) fun a6 => gd (kd K a6 == 22) (ck x2 (le K a6) (ta (fT_X3_emit N x0 7 (cI M a6 (x2 : Int32).toNatClampNeg) 0 K M) fun o67 => (bT_X3_emitBringing_70 N (lT_X3_emitBringing_21 N k77 n) k77) x0 x1 x2 o67.1 o67.2.1 o67.2.2))))))))))))))
theorem mlT_X3_emitBringing_21 {o : (Ka × Cm) ⊕ (Ka × Cm)} {N : Nat} {k77 : Nat → Ka → Cm → Option ((Ka × Cm) ⊕ (Ka × Cm))} (mk77 : ∀ (x0 : Nat) (K : Ka) (M : Cm) , k77 x0 K M = some o → KLe K (oK sV o)) : ∀ (n : Nat) (x0 : Nat) (x1 : Nat) (x2 : Int32) (K : Ka) (M : Cm), lT_X3_emitBringing_21 N k77 n x0 x1 x2 K M = some o → KLe K (oK sV o) := by
  intro n
  induction n with
  | zero => intro x0 x1 x2 K M hf; cases hf
  | succ n ih =>
    intro x0 x1 x2 K M hf
    rw [lT_X3_emitBringing_21] at hf
    obtain ⟨-, hf⟩ := gd_some hf
    by_cases hc : (cI M x1 0) = 0
    · rw [if_pos hc] at hf
      exact mk77 _ _ _ hf
    · rw [if_neg hc] at hf
      obtain ⟨a1, -, hf⟩ := nn_some hf
      obtain ⟨-, hf⟩ := gd_some hf
      by_cases hc : (nI (le K a1)) ≤ x2
      · rw [if_pos hc] at hf
        exact mk77 _ _ _ hf
      · rw [if_neg hc] at hf
        obtain ⟨-, hf⟩ := gd_some hf
        obtain ⟨a2, -, hf⟩ := nn_some hf
        obtain ⟨-, hf⟩ := gd_some hf
        obtain ⟨a3, -, hf⟩ := nn_some hf
        obtain ⟨-, hf⟩ := gd_some hf
        obtain ⟨-, hf⟩ := ck_some hf
        obtain ⟨a4, -, hf⟩ := nn_some hf
        obtain ⟨-, hf⟩ := gd_some hf
        obtain ⟨-, hf⟩ := ck_some hf
        obtain ⟨a5, -, hf⟩ := nn_some hf
        obtain ⟨-, hf⟩ := gd_some hf
        by_cases hc : (cI M a5 1) = 0
        · rw [if_pos hc] at hf
          exact (mbT_X3_emitBringing_71 ih mk77) _ _ _ _ _ hf
        · rw [if_neg hc] at hf
          obtain ⟨a6, -, hf⟩ := nn_some hf
          obtain ⟨-, hf⟩ := gd_some hf
          obtain ⟨-, hf⟩ := ck_some hf
          obtain ⟨o67, ho, hf⟩ := ta_some hf
          exact KLe.tr (mfT_X3_emit _ _ _ _ _ _ ho) ((mbT_X3_emitBringing_70 ih mk77) _ _ _ _ _ _ hf)
set_option maxRecDepth 100000 in
set_option maxHeartbeats 4000000 in
theorem wlT_X3_emitBringing_21 {p : Program} {l : Launch} {e : Env} {R : Room} {s : State} {m : MethodId} {args : Array Value} {below : List Frame} {meth : Method} {c : Code} {x : Xc} {K0 : Ka} {o : (Ka × Cm) ⊕ (Ka × Cm)} {N : Nat} {k77 : Nat → Ka → Cm → Option ((Ka × Cm) ⊕ (Ka × Cm))} (CTX : CT p l s m args meth c x K0 RX3 "emitBringing" cX3_emitBringing 3 none) (hRm : 9 ≤ R.frames ∧ 162 ≤ R.locals) (hRc : nz sV K0 o ≤ R.cells ∧ nu sV K0 o ≤ R.slots) (mk77 : ∀ (x0 : Nat) (K : Ka) (M : Cm) , k77 x0 K M = some o → KLe K (oK sV o)) (hk77 : ∀ (x0 : Nat) (K : Ka) (M : Cm) (H : Heap) (locs : List Loc) (ls : Array Slot), k77 x0 K M = some o → KLe K0 K → RC x K M H → va_S (AC K0) s.heap H locs → lv_has ls 3 [(0, .ref x0)] → W p l e R s m args below meth c H locs (kz K - kz K0) (ku K - ku K0) (TQ sV (aQV x K0) (zQV K0) "java/lang/IllegalStateException" x K0 below args s o) (F0 m 77 ls [])) : ∀ (n : Nat) (x0 : Nat) (x1 : Nat) (x2 : Int32) (K : Ka) (M : Cm) (H : Heap) (locs : List Loc) (ls : Array Slot), lT_X3_emitBringing_21 N k77 n x0 x1 x2 K M = some o → KLe K0 K → RC x K M H → va_S (AC K0) s.heap H locs → lv_has ls 3 [(0, .ref x0), (1, .ref x1), (2, .int x2)] → W p l e R s m args below meth c H locs (kz K - kz K0) (ku K - ku K0) (TQ sV (aQV x K0) (zQV K0) "java/lang/IllegalStateException" x K0 below args s o) (F0 m 21 ls []) := by
  obtain ⟨CX, hno, hlt, hmn⟩ := id CTX
  obtain ⟨hx, hb, hml, hown, hts, hE, hB, hr, hlk⟩ := id CX
  intro n
  induction n with
  | zero => intro x0 x1 x2 K M H locs ls hf; cases hf
  | succ n ih =>
    intro x0 x1 x2 K M H locs ls hf hL hR hS hl
    have hcs := nz_le (mlT_X3_emitBringing_21 mk77 (n + 1) x0 x1 x2 K M hf) hRc
    rw [lT_X3_emitBringing_21] at hf
    refine lv_aload_n hx hb dX3_emitBringing_21 rfl (lv_at hl 1 rfl) ?_
    obtain ⟨hk_x1_8, hf⟩ := gd_some hf
    refine cr_getI kc_7 CX hR fa_X3_173 rfl hk_x1_8 dX3_emitBringing_22 ?_
    refine lv_if_eq (tgt := 77) hx hb dX3_emitBringing_25 (by decide) (fun hc => ?_) (fun hc => ?_)
    · rw [if_pos hc] at hf
      exact hk77 _ _ _ _ _ _ hf hL hR hS (lv_sub hl [0] rfl)
    · rw [if_neg hc] at hf
      refine lv_iload_n hx hb dX3_emitBringing_28 rfl (lv_at hl 2 rfl) ?_
      refine lv_aload_n hx hb dX3_emitBringing_29 rfl (lv_at hl 1 rfl) ?_
      refine cr_getR kc_7 CX hR fa_X3_214 rfl hk_x1_8 dX3_emitBringing_30 ?_
      obtain ⟨a1, ha1, hf⟩ := nn_some hf
      refine rf_0 ha1 ?_
      obtain ⟨hk_a1_22, hf⟩ := gd_some hf
      refine cr_ilen CX hR hk_a1_22 dX3_emitBringing_33 ?_
      refine lv_icmp_ge (tgt := 77) hx hb dX3_emitBringing_34 (by decide) (fun hc => ?_) (fun hc => ?_)
      · rw [if_pos hc] at hf
        exact hk77 _ _ _ _ _ _ hf hL hR hS (lv_sub hl [0] rfl)
      · rw [if_neg hc] at hf
        refine lv_aload_n hx hb dX3_emitBringing_37 rfl (lv_at hl 0 rfl) ?_
        obtain ⟨hk_x0_4, hf⟩ := gd_some hf
        refine cr_getR kc_3 CX hR fa_X3_9 rfl hk_x0_4 dX3_emitBringing_38 ?_
        obtain ⟨a2, ha2, hf⟩ := nn_some hf
        refine rf_0 ha2 ?_
        obtain ⟨hk_a2_6, hf⟩ := gd_some hf
        refine cr_getR kc_5 CX hR fa_X3_200 rfl hk_a2_6 dX3_emitBringing_41 ?_
        refine lv_aload_n hx hb dX3_emitBringing_44 rfl (lv_at hl 1 rfl) ?_
        refine cr_getR kc_7 CX hR fa_X3_214 rfl hk_x1_8 dX3_emitBringing_45 ?_
        refine lv_iload_n hx hb dX3_emitBringing_48 rfl (lv_at hl 2 rfl) ?_
        obtain ⟨a3, ha3, hf⟩ := nn_some hf
        refine rf_1 ha3 ?_
        obtain ⟨hk_a3_22, hf⟩ := gd_some hf
        obtain ⟨hi, hf⟩ := ck_some hf
        refine cr_iald CX hR hk_a3_22 hi dX3_emitBringing_49 ?_
        obtain ⟨a4, ha4, hf⟩ := nn_some hf
        refine rf_1 ha4 ?_
        obtain ⟨hk_a4_26, hf⟩ := gd_some hf
        obtain ⟨hi, hf⟩ := ck_some hf
        refine cr_uald CX hR hk_a4_26 hi dX3_emitBringing_50 ?_
        obtain ⟨a5, ha5, hf⟩ := nn_some hf
        refine rf_0 ha5 ?_
        obtain ⟨hk_a5_8, hf⟩ := gd_some hf
        refine cr_getI kc_7 CX hR fa_X3_217 rfl hk_a5_8 dX3_emitBringing_51 ?_
        refine lv_if_eq (tgt := 71) hx hb dX3_emitBringing_54 (by decide) (fun hc => ?_) (fun hc => ?_)
        · rw [if_pos hc] at hf
          exact (wbT_X3_emitBringing_71 CTX hRm hRc (mlT_X3_emitBringing_21 mk77 n) mk77 ih hk77) _ _ _ _ _ _ _ _ hf hL hR hS (lv_sub hl [0, 1, 2] rfl)
        · rw [if_neg hc] at hf
          refine lv_aload_n hx hb dX3_emitBringing_57 rfl (lv_at hl 0 rfl) ?_
          refine lv_bipush (v := 7) hx hb dX3_emitBringing_58 (by decide) ?_
          refine lv_aload_n hx hb dX3_emitBringing_60 rfl (lv_at hl 1 rfl) ?_
          refine cr_getR kc_7 CX hR fa_X3_214 rfl hk_x1_8 dX3_emitBringing_61 ?_
          refine lv_iload_n hx hb dX3_emitBringing_64 rfl (lv_at hl 2 rfl) ?_
          obtain ⟨a6, ha6, hf⟩ := nn_some hf
          refine rf_1 ha6 ?_
          obtain ⟨hk_a6_22, hf⟩ := gd_some hf
          obtain ⟨hi, hf⟩ := ck_some hf
          refine cr_iald CX hR hk_a6_22 hi dX3_emitBringing_65 ?_
          refine lv_iconst (v := 0) hx hb dX3_emitBringing_66 (by decide) ?_
          obtain ⟨o67, ho, hf⟩ := ta_some hf
          have hm1 := (mbT_X3_emitBringing_70 (mlT_X3_emitBringing_21 mk77 n) mk77) _ _ _ _ _ _ hf
          have hb1 := nz_le hm1 hRc
          have hq1 := (mfT_X3_emit _ _ _ _ _ _ ho)
          refine ta_callIv kc_3 CX hL hR hS (As := [.int 7, .int (cI M a6 (x2 : Int32).toNatClampNeg), .int 0]) (rest := []) hk_x0_4 (MT_X3_emit l x hlt N _ _ _ _ _ _ _ ho) cv_X3_144 ⟨by omega, by omega⟩ rfl (Nat.le_of_ble_eq_true rfl) hl.1 hq1 hb1 rfl dX3_emitBringing_67 (fun H locs hR hS => ?_)
          exact (wbT_X3_emitBringing_70 CTX hRm hRc (mlT_X3_emitBringing_21 mk77 n) mk77 ih hk77) _ _ _ _ _ _ _ _ _ hf (hL.tr hq1) hR hS (lv_sub hl [0, 1, 2] rfl)
def bT_X3_emitBringing_85 (N : Nat) (x0 : Nat) (s0 : Int32) (K : Ka) (M : Cm) : Option ((Ka × Cm) ⊕ (Ka × Cm)) := some (.inl (K, M))
theorem mbT_X3_emitBringing_85 {o : (Ka × Cm) ⊕ (Ka × Cm)} {N : Nat}  (x0 : Nat) (s0 : Int32) (K : Ka) (M : Cm) (hf : bT_X3_emitBringing_85 N x0 s0 K M = some o) : KLe K (oK sV o) := by
  unfold bT_X3_emitBringing_85 at hf
  cases hf
  exact KLe.rf _
set_option maxRecDepth 100000 in
set_option maxHeartbeats 4000000 in
theorem wbT_X3_emitBringing_85 {p : Program} {l : Launch} {e : Env} {R : Room} {s : State} {m : MethodId} {args : Array Value} {below : List Frame} {meth : Method} {c : Code} {x : Xc} {K0 : Ka} {o : (Ka × Cm) ⊕ (Ka × Cm)} {N : Nat} (CTX : CT p l s m args meth c x K0 RX3 "emitBringing" cX3_emitBringing 3 none) (hRm : 9 ≤ R.frames ∧ 162 ≤ R.locals) (hRc : nz sV K0 o ≤ R.cells ∧ nu sV K0 o ≤ R.slots) (x0 : Nat) (s0 : Int32) (K : Ka) (M : Cm) (H : Heap) (locs : List Loc) (ls : Array Slot) (hf : bT_X3_emitBringing_85 N x0 s0 K M = some o) (hL : KLe K0 K) (hR : RC x K M H) (hS : va_S (AC K0) s.heap H locs) (hl : lv_has ls 3 [(0, .ref x0)]) : W p l e R s m args below meth c H locs (kz K - kz K0) (ku K - ku K0) (TQ sV (aQV x K0) (zQV K0) "java/lang/IllegalStateException" x K0 below args s o) (F0 m 85 ls [.int s0]) := by
  obtain ⟨CX, hno, hlt, hmn⟩ := id CTX
  obtain ⟨hx, hb, hml, hown, hts, hE, hB, hr, hlk⟩ := id CX
  have hcs := nz_le (mbT_X3_emitBringing_85  x0 s0 K M hf) hRc
  unfold bT_X3_emitBringing_85 at hf
  refine lv_pop hx hb dX3_emitBringing_85 rfl ?_
  exact tr_vret CX hR hS hf dX3_emitBringing_86
def bT_X3_emitBringing_77 (N : Nat) (x0 : Nat) (K : Ka) (M : Cm) : Option ((Ka × Cm) ⊕ (Ka × Cm)) := gd (kd K x0 == 4) (ta (fT_X3_emit N x0 8 0 0 K M) fun o82 => (bT_X3_emitBringing_85 N) x0 o82.1 o82.2.1 o82.2.2)
theorem mbT_X3_emitBringing_77 {o : (Ka × Cm) ⊕ (Ka × Cm)} {N : Nat}  (x0 : Nat) (K : Ka) (M : Cm) (hf : bT_X3_emitBringing_77 N x0 K M = some o) : KLe K (oK sV o) := by
  unfold bT_X3_emitBringing_77 at hf
  obtain ⟨-, hf⟩ := gd_some hf
  obtain ⟨o82, ho, hf⟩ := ta_some hf
  exact KLe.tr (mfT_X3_emit _ _ _ _ _ _ ho) (mbT_X3_emitBringing_85 _ _ _ _ hf)
set_option maxRecDepth 100000 in
set_option maxHeartbeats 4000000 in
theorem wbT_X3_emitBringing_77 {p : Program} {l : Launch} {e : Env} {R : Room} {s : State} {m : MethodId} {args : Array Value} {below : List Frame} {meth : Method} {c : Code} {x : Xc} {K0 : Ka} {o : (Ka × Cm) ⊕ (Ka × Cm)} {N : Nat} (CTX : CT p l s m args meth c x K0 RX3 "emitBringing" cX3_emitBringing 3 none) (hRm : 9 ≤ R.frames ∧ 162 ≤ R.locals) (hRc : nz sV K0 o ≤ R.cells ∧ nu sV K0 o ≤ R.slots) (x0 : Nat) (K : Ka) (M : Cm) (H : Heap) (locs : List Loc) (ls : Array Slot) (hf : bT_X3_emitBringing_77 N x0 K M = some o) (hL : KLe K0 K) (hR : RC x K M H) (hS : va_S (AC K0) s.heap H locs) (hl : lv_has ls 3 [(0, .ref x0)]) : W p l e R s m args below meth c H locs (kz K - kz K0) (ku K - ku K0) (TQ sV (aQV x K0) (zQV K0) "java/lang/IllegalStateException" x K0 below args s o) (F0 m 77 ls []) := by
  obtain ⟨CX, hno, hlt, hmn⟩ := id CTX
  obtain ⟨hx, hb, hml, hown, hts, hE, hB, hr, hlk⟩ := id CX
  have hcs := nz_le (mbT_X3_emitBringing_77  x0 K M hf) hRc
  unfold bT_X3_emitBringing_77 at hf
  refine lv_aload_n hx hb dX3_emitBringing_77 rfl (lv_at hl 0 rfl) ?_
  refine lv_bipush (v := 8) hx hb dX3_emitBringing_78 (by decide) ?_
  refine lv_iconst (v := 0) hx hb dX3_emitBringing_80 (by decide) ?_
  refine lv_iconst (v := 0) hx hb dX3_emitBringing_81 (by decide) ?_
  obtain ⟨hk_x0_4, hf⟩ := gd_some hf
  obtain ⟨o82, ho, hf⟩ := ta_some hf
  have hm1 := mbT_X3_emitBringing_85 _ _ _ _ hf
  have hb1 := nz_le hm1 hRc
  have hq1 := (mfT_X3_emit _ _ _ _ _ _ ho)
  refine ta_callIv kc_3 CX hL hR hS (As := [.int 8, .int 0, .int 0]) (rest := []) hk_x0_4 (MT_X3_emit l x hlt N _ _ _ _ _ _ _ ho) cv_X3_144 ⟨by omega, by omega⟩ rfl (Nat.le_of_ble_eq_true rfl) hl.1 hq1 hb1 rfl dX3_emitBringing_82 (fun H locs hR hS => ?_)
  exact (wbT_X3_emitBringing_85 CTX hRm hRc) _ _ _ _ _ _ _ hf (hL.tr hq1) hR hS (lv_sub hl [0] rfl)
def bT_X3_emitBringing_19 (N : Nat) (x0 : Nat) (x1 : Nat) (K : Ka) (M : Cm) : Option ((Ka × Cm) ⊕ (Ka × Cm)) := (lT_X3_emitBringing_21 N (bT_X3_emitBringing_77 N) N) x0 x1 0 K M
theorem mbT_X3_emitBringing_19 {o : (Ka × Cm) ⊕ (Ka × Cm)} {N : Nat}  (x0 : Nat) (x1 : Nat) (K : Ka) (M : Cm) (hf : bT_X3_emitBringing_19 N x0 x1 K M = some o) : KLe K (oK sV o) := by
  unfold bT_X3_emitBringing_19 at hf
  exact (mlT_X3_emitBringing_21 mbT_X3_emitBringing_77 N) _ _ _ _ _ hf
set_option maxRecDepth 100000 in
set_option maxHeartbeats 4000000 in
theorem wbT_X3_emitBringing_19 {p : Program} {l : Launch} {e : Env} {R : Room} {s : State} {m : MethodId} {args : Array Value} {below : List Frame} {meth : Method} {c : Code} {x : Xc} {K0 : Ka} {o : (Ka × Cm) ⊕ (Ka × Cm)} {N : Nat} (CTX : CT p l s m args meth c x K0 RX3 "emitBringing" cX3_emitBringing 3 none) (hRm : 9 ≤ R.frames ∧ 162 ≤ R.locals) (hRc : nz sV K0 o ≤ R.cells ∧ nu sV K0 o ≤ R.slots) (x0 : Nat) (x1 : Nat) (K : Ka) (M : Cm) (H : Heap) (locs : List Loc) (ls : Array Slot) (hf : bT_X3_emitBringing_19 N x0 x1 K M = some o) (hL : KLe K0 K) (hR : RC x K M H) (hS : va_S (AC K0) s.heap H locs) (hl : lv_has ls 3 [(0, .ref x0), (1, .ref x1)]) : W p l e R s m args below meth c H locs (kz K - kz K0) (ku K - ku K0) (TQ sV (aQV x K0) (zQV K0) "java/lang/IllegalStateException" x K0 below args s o) (F0 m 19 ls []) := by
  obtain ⟨CX, hno, hlt, hmn⟩ := id CTX
  obtain ⟨hx, hb, hml, hown, hts, hE, hB, hr, hlk⟩ := id CX
  have hcs := nz_le (mbT_X3_emitBringing_19  x0 x1 K M hf) hRc
  unfold bT_X3_emitBringing_19 at hf
  refine lv_iconst (v := 0) hx hb dX3_emitBringing_19 (by decide) ?_
  refine lv_istore_n (lv' := [(2, .int 0), (0, .ref x0), (1, .ref x1)]) hx hb dX3_emitBringing_20 rfl hl (by decide) rfl (fun ls hl => ?_)
  exact (wlT_X3_emitBringing_21 CTX hRm hRc mbT_X3_emitBringing_77 (wbT_X3_emitBringing_77 CTX hRm hRc) N) _ _ _ _ _ _ _ _ hf hL hR hS (lv_sub hl [1, 2, 0] rfl)
def bT_X3_emitBringing_18 (N : Nat) (x0 : Nat) (x1 : Nat) (s0 : Int32) (K : Ka) (M : Cm) : Option ((Ka × Cm) ⊕ (Ka × Cm)) := (bT_X3_emitBringing_19 N) x0 x1 K M
theorem mbT_X3_emitBringing_18 {o : (Ka × Cm) ⊕ (Ka × Cm)} {N : Nat}  (x0 : Nat) (x1 : Nat) (s0 : Int32) (K : Ka) (M : Cm) (hf : bT_X3_emitBringing_18 N x0 x1 s0 K M = some o) : KLe K (oK sV o) := by
  unfold bT_X3_emitBringing_18 at hf
  exact mbT_X3_emitBringing_19 _ _ _ _ hf
set_option maxRecDepth 100000 in
set_option maxHeartbeats 4000000 in
theorem wbT_X3_emitBringing_18 {p : Program} {l : Launch} {e : Env} {R : Room} {s : State} {m : MethodId} {args : Array Value} {below : List Frame} {meth : Method} {c : Code} {x : Xc} {K0 : Ka} {o : (Ka × Cm) ⊕ (Ka × Cm)} {N : Nat} (CTX : CT p l s m args meth c x K0 RX3 "emitBringing" cX3_emitBringing 3 none) (hRm : 9 ≤ R.frames ∧ 162 ≤ R.locals) (hRc : nz sV K0 o ≤ R.cells ∧ nu sV K0 o ≤ R.slots) (x0 : Nat) (x1 : Nat) (s0 : Int32) (K : Ka) (M : Cm) (H : Heap) (locs : List Loc) (ls : Array Slot) (hf : bT_X3_emitBringing_18 N x0 x1 s0 K M = some o) (hL : KLe K0 K) (hR : RC x K M H) (hS : va_S (AC K0) s.heap H locs) (hl : lv_has ls 3 [(0, .ref x0), (1, .ref x1)]) : W p l e R s m args below meth c H locs (kz K - kz K0) (ku K - ku K0) (TQ sV (aQV x K0) (zQV K0) "java/lang/IllegalStateException" x K0 below args s o) (F0 m 18 ls [.int s0]) := by
  obtain ⟨CX, hno, hlt, hmn⟩ := id CTX
  obtain ⟨hx, hb, hml, hown, hts, hE, hB, hr, hlk⟩ := id CX
  have hcs := nz_le (mbT_X3_emitBringing_18  x0 x1 s0 K M hf) hRc
  unfold bT_X3_emitBringing_18 at hf
  refine lv_pop hx hb dX3_emitBringing_18 rfl ?_
  exact (wbT_X3_emitBringing_19 CTX hRm hRc) _ _ _ _ _ _ _ hf hL hR hS (lv_sub hl [0, 1] rfl)
def fT_X3_emitBringing (N : Nat) (x0 : Nat) (x1 : Nat) (K : Ka) (M : Cm) : Option ((Ka × Cm) ⊕ (Ka × Cm)) := gd (kd K x1 == 8) (if (cI M x1 6) < 0 then ((bT_X3_emitBringing_19 N) x0 x1 K M) else (gd (kd K x0 == 4) (ta (fT_X3_emit N x0 7 (cI M x1 6) 0 K M) fun o15 => (bT_X3_emitBringing_18 N) x0 x1 o15.1 o15.2.1 o15.2.2)))
theorem mfT_X3_emitBringing {o : (Ka × Cm) ⊕ (Ka × Cm)} {N : Nat}  (x0 : Nat) (x1 : Nat) (K : Ka) (M : Cm) (hf : fT_X3_emitBringing N x0 x1 K M = some o) : KLe K (oK sV o) := by
  unfold fT_X3_emitBringing at hf
  obtain ⟨-, hf⟩ := gd_some hf
  by_cases hc : (cI M x1 6) < 0
  · rw [if_pos hc] at hf
    exact mbT_X3_emitBringing_19 _ _ _ _ hf
  · rw [if_neg hc] at hf
    obtain ⟨-, hf⟩ := gd_some hf
    obtain ⟨o15, ho, hf⟩ := ta_some hf
    exact KLe.tr (mfT_X3_emit _ _ _ _ _ _ ho) (mbT_X3_emitBringing_18 _ _ _ _ _ hf)
set_option maxRecDepth 100000 in
set_option maxHeartbeats 4000000 in
theorem wfT_X3_emitBringing {p : Program} {l : Launch} {e : Env} {R : Room} {s : State} {m : MethodId} {args : Array Value} {below : List Frame} {meth : Method} {c : Code} {x : Xc} {K0 : Ka} {o : (Ka × Cm) ⊕ (Ka × Cm)} {N : Nat} (CTX : CT p l s m args meth c x K0 RX3 "emitBringing" cX3_emitBringing 3 none) (hRm : 9 ≤ R.frames ∧ 162 ≤ R.locals) (hRc : nz sV K0 o ≤ R.cells ∧ nu sV K0 o ≤ R.slots) (x0 : Nat) (x1 : Nat) (K : Ka) (M : Cm) (H : Heap) (locs : List Loc) (ls : Array Slot) (hf : fT_X3_emitBringing N x0 x1 K M = some o) (hL : KLe K0 K) (hR : RC x K M H) (hS : va_S (AC K0) s.heap H locs) (hl : lv_has ls 3 [(0, .ref x0), (1, .ref x1)]) : W p l e R s m args below meth c H locs (kz K - kz K0) (ku K - ku K0) (TQ sV (aQV x K0) (zQV K0) "java/lang/IllegalStateException" x K0 below args s o) (F0 m 0 ls []) := by
  obtain ⟨CX, hno, hlt, hmn⟩ := id CTX
  obtain ⟨hx, hb, hml, hown, hts, hE, hB, hr, hlk⟩ := id CX
  have hcs := nz_le (mfT_X3_emitBringing  x0 x1 K M hf) hRc
  unfold fT_X3_emitBringing at hf
  refine lv_aload_n hx hb dX3_emitBringing_0 rfl (lv_at hl 1 rfl) ?_
  obtain ⟨hk_x1_8, hf⟩ := gd_some hf
  refine cr_getI kc_7 CX hR fa_X3_194 rfl hk_x1_8 dX3_emitBringing_1 ?_
  refine lv_if_lt (tgt := 19) hx hb dX3_emitBringing_4 (by decide) (fun hc => ?_) (fun hc => ?_)
  · rw [if_pos hc] at hf
    exact (wbT_X3_emitBringing_19 CTX hRm hRc) _ _ _ _ _ _ _ hf hL hR hS (lv_sub hl [0, 1] rfl)
  · rw [if_neg hc] at hf
    refine lv_aload_n hx hb dX3_emitBringing_7 rfl (lv_at hl 0 rfl) ?_
    refine lv_bipush (v := 7) hx hb dX3_emitBringing_8 (by decide) ?_
    refine lv_aload_n hx hb dX3_emitBringing_10 rfl (lv_at hl 1 rfl) ?_
    refine cr_getI kc_7 CX hR fa_X3_194 rfl hk_x1_8 dX3_emitBringing_11 ?_
    refine lv_iconst (v := 0) hx hb dX3_emitBringing_14 (by decide) ?_
    obtain ⟨hk_x0_4, hf⟩ := gd_some hf
    obtain ⟨o15, ho, hf⟩ := ta_some hf
    have hm1 := mbT_X3_emitBringing_18 _ _ _ _ _ hf
    have hb1 := nz_le hm1 hRc
    have hq1 := (mfT_X3_emit _ _ _ _ _ _ ho)
    refine ta_callIv kc_3 CX hL hR hS (As := [.int 7, .int (cI M x1 6), .int 0]) (rest := []) hk_x0_4 (MT_X3_emit l x hlt N _ _ _ _ _ _ _ ho) cv_X3_144 ⟨by omega, by omega⟩ rfl (Nat.le_of_ble_eq_true rfl) hl.1 hq1 hb1 rfl dX3_emitBringing_15 (fun H locs hR hS => ?_)
    exact (wbT_X3_emitBringing_18 CTX hRm hRc) _ _ _ _ _ _ _ _ hf (hL.tr hq1) hR hS (lv_sub hl [0, 1] rfl)
theorem MT_X3_emitBringing (l : Launch) (x : Xc) (hlt : l.stackTraces = false) (N : Nat) (x0 : Nat) (x1 : Nat) (K : Ka) (M : Cm) (o : (Ka × Cm) ⊕ (Ka × Cm)) (hf : fT_X3_emitBringing N x0 x1 K M = some o) : Tc sV (aQV x K) (zQV K) "java/lang/IllegalStateException" l x yX3_emitBringing cX3_emitBringing 3 none 9 162 [.ref x0, .ref x1] K M o :=
  tr_met RX3 "emitBringing" hlt (by decide) rfl rfl (Nat.le_of_ble_eq_true rfl) (fun p e s m args below meth c ls CTX hR hl => wfT_X3_emitBringing CTX ⟨Nat.le_refl _, Nat.le_refl _⟩ ⟨Nat.le_refl _, Nat.le_refl _⟩ x0 x1 K M s.heap [] ls hf (KLe.rf K) hR va_S.rf hl)
def fT_X3_init (N : Nat) (x0 : Nat) (x1 : Nat) (K : Ka) (M : Cm) : Option ((Ka × Cm) ⊕ (Ka × Cm)) := gd (kd K x0 == 4) (some (.inl (K, wR (wI (wI (wI (wI (wR M x0 1 (none : Option Nat)) x0 2 0) x0 3 0) x0 4 (-1)) x0 5 0) x0 0 (some x1))))
theorem mfT_X3_init {o : (Ka × Cm) ⊕ (Ka × Cm)} {N : Nat}  (x0 : Nat) (x1 : Nat) (K : Ka) (M : Cm) (hf : fT_X3_init N x0 x1 K M = some o) : KLe K (oK sV o) := by
  unfold fT_X3_init at hf
  obtain ⟨-, hf⟩ := gd_some hf
  cases hf
  exact KLe.rf _
set_option maxRecDepth 100000 in
set_option maxHeartbeats 4000000 in
theorem wfT_X3_init {p : Program} {l : Launch} {e : Env} {R : Room} {s : State} {m : MethodId} {args : Array Value} {below : List Frame} {meth : Method} {c : Code} {x : Xc} {K0 : Ka} {o : (Ka × Cm) ⊕ (Ka × Cm)} {N : Nat} (CTX : CT p l s m args meth c x K0 RX3 "<init>" cX3_init 2 none) (hRm : 6 ≤ R.frames ∧ 95 ≤ R.locals) (hRc : nz sV K0 o ≤ R.cells ∧ nu sV K0 o ≤ R.slots) (x0 : Nat) (x1 : Nat) (K : Ka) (M : Cm) (H : Heap) (locs : List Loc) (ls : Array Slot) (hf : fT_X3_init N x0 x1 K M = some o) (hL : KLe K0 K) (hR : RC x K M H) (hS : va_S (AC K0) s.heap H locs) (hl : lv_has ls 2 [(0, .ref x0), (1, .ref x1)]) : W p l e R s m args below meth c H locs (kz K - kz K0) (ku K - ku K0) (TQ sV (aQV x K0) (zQV K0) "java/lang/IllegalStateException" x K0 below args s o) (F0 m 0 ls []) := by
  obtain ⟨CX, hno, hlt, hmn⟩ := id CTX
  obtain ⟨hx, hb, hml, hown, hts, hE, hB, hr, hlk⟩ := id CX
  have hcs := nz_le (mfT_X3_init  x0 x1 K M hf) hRc
  unfold fT_X3_init at hf
  refine lv_aload_n hx hb dX3_init_0 rfl (lv_at hl 0 rfl) ?_
  refine tr_objInit CX wi_X3_3 hl.1 (by omega) (by omega) (Nat.le_of_ble_eq_true rfl) dX3_init_1 ?_
  refine lv_aload_n hx hb dX3_init_4 rfl (lv_at hl 0 rfl) ?_
  refine lv_null hx hb dX3_init_5 ?_
  obtain ⟨hk_x0_4, hf⟩ := gd_some hf
  refine cr_putR kc_3 CX hR hL hS (v := (none : Option Nat)) fa_X3_9 ⟨rfl, rfl, .inl ⟨_, rfl⟩⟩ hk_x0_4 dX3_init_6 (fun H locs hR hS => ?_)
  refine lv_aload_n hx hb dX3_init_9 rfl (lv_at hl 0 rfl) ?_
  refine lv_iconst (v := 0) hx hb dX3_init_10 (by decide) ?_
  refine cr_putI kc_3 CX hR hL hS fa_X3_15 ⟨rfl, rfl, rfl⟩ hk_x0_4 dX3_init_11 (fun H locs hR hS => ?_)
  refine lv_aload_n hx hb dX3_init_14 rfl (lv_at hl 0 rfl) ?_
  refine lv_iconst (v := 0) hx hb dX3_init_15 (by decide) ?_
  refine cr_putI kc_3 CX hR hL hS fa_X3_19 ⟨rfl, rfl, rfl⟩ hk_x0_4 dX3_init_16 (fun H locs hR hS => ?_)
  refine lv_aload_n hx hb dX3_init_19 rfl (lv_at hl 0 rfl) ?_
  refine lv_iconst (v := (-1)) hx hb dX3_init_20 (by decide) ?_
  refine cr_putI kc_3 CX hR hL hS fa_X3_22 ⟨rfl, rfl, rfl⟩ hk_x0_4 dX3_init_21 (fun H locs hR hS => ?_)
  refine lv_aload_n hx hb dX3_init_24 rfl (lv_at hl 0 rfl) ?_
  refine lv_iconst (v := 0) hx hb dX3_init_25 (by decide) ?_
  refine cr_putI kc_3 CX hR hL hS fa_X3_25 ⟨rfl, rfl, rfl⟩ hk_x0_4 dX3_init_26 (fun H locs hR hS => ?_)
  refine lv_aload_n hx hb dX3_init_29 rfl (lv_at hl 0 rfl) ?_
  refine lv_aload_n hx hb dX3_init_30 rfl (lv_at hl 1 rfl) ?_
  refine tr_putFR kc_3 CX hmn hR hL hS (v := some x1) ff_X3_28 ⟨rfl, rfl, .inl ⟨_, rfl⟩⟩ hk_x0_4 dX3_init_31 (fun H locs hR hS => ?_)
  exact tr_vret CX hR hS hf dX3_init_34
theorem MT_X3_init (l : Launch) (x : Xc) (hlt : l.stackTraces = false) (N : Nat) (x0 : Nat) (x1 : Nat) (K : Ka) (M : Cm) (o : (Ka × Cm) ⊕ (Ka × Cm)) (hf : fT_X3_init N x0 x1 K M = some o) : Tc sV (aQV x K) (zQV K) "java/lang/IllegalStateException" l x yX3_init cX3_init 2 none 6 95 [.ref x0, .ref x1] K M o :=
  tr_met RX3 "<init>" hlt (by decide) rfl rfl (Nat.le_of_ble_eq_true rfl) (fun p e s m args below meth c ls CTX hR hl => wfT_X3_init CTX ⟨Nat.le_refl _, Nat.le_refl _⟩ ⟨Nat.le_refl _, Nat.le_refl _⟩ x0 x1 K M s.heap [] ls hf (KLe.rf K) hR va_S.rf hl)
def bT_X3_refuse_40 (N : Nat) (x0 : Nat) (s0 : Nat) (s1 : Int32) (s2 : Int32) (s3 : Int32) (K : Ka) (M : Cm) : Option ((Ka × Cm) ⊕ (Ka × Cm)) := gd (kd K s0 == 4) (some (.inr (K, wI M s0 5 (s1 + (s2 * s3)))))
theorem mbT_X3_refuse_40 {o : (Ka × Cm) ⊕ (Ka × Cm)} {N : Nat}  (x0 : Nat) (s0 : Nat) (s1 : Int32) (s2 : Int32) (s3 : Int32) (K : Ka) (M : Cm) (hf : bT_X3_refuse_40 N x0 s0 s1 s2 s3 K M = some o) : KLe K (oK sV o) := by
  unfold bT_X3_refuse_40 at hf
  obtain ⟨-, hf⟩ := gd_some hf
  cases hf
  exact KLe.rf _
set_option maxRecDepth 100000 in
set_option maxHeartbeats 4000000 in
theorem wbT_X3_refuse_40 {p : Program} {l : Launch} {e : Env} {R : Room} {s : State} {m : MethodId} {args : Array Value} {below : List Frame} {meth : Method} {c : Code} {x : Xc} {K0 : Ka} {o : (Ka × Cm) ⊕ (Ka × Cm)} {N : Nat} (CTX : CT p l s m args meth c x K0 RX3 "refuse" cX3_refuse 2 none) (hRm : 6 ≤ R.frames ∧ 95 ≤ R.locals) (hRc : nz sV K0 o ≤ R.cells ∧ nu sV K0 o ≤ R.slots) (x0 : Nat) (s0 : Nat) (s1 : Int32) (s2 : Int32) (s3 : Int32) (K : Ka) (M : Cm) (H : Heap) (locs : List Loc) (ls : Array Slot) (hf : bT_X3_refuse_40 N x0 s0 s1 s2 s3 K M = some o) (hL : KLe K0 K) (hR : RC x K M H) (hS : va_S (AC K0) s.heap H locs) (hl : lv_has ls 2 [(0, .ref x0)]) : W p l e R s m args below meth c H locs (kz K - kz K0) (ku K - ku K0) (TQ sV (aQV x K0) (zQV K0) "java/lang/IllegalStateException" x K0 below args s o) (F0 m 40 ls [.int s3, .int s2, .int s1, .ref s0]) := by
  obtain ⟨CX, hno, hlt, hmn⟩ := id CTX
  obtain ⟨hx, hb, hml, hown, hts, hE, hB, hr, hlk⟩ := id CX
  have hcs := nz_le (mbT_X3_refuse_40  x0 s0 s1 s2 s3 K M hf) hRc
  unfold bT_X3_refuse_40 at hf
  refine lv_imul hx hb dX3_refuse_40 ?_
  refine lv_iadd hx hb dX3_refuse_41 ?_
  obtain ⟨hk_s0_4, hf⟩ := gd_some hf
  refine cr_putI kc_3 CX hR hL hS fa_X3_25 ⟨rfl, rfl, rfl⟩ hk_s0_4 dX3_refuse_42 (fun H locs hR hS => ?_)
  cases hf
  exact tr_throw CTX hL hR hS tw_X3_73 (i := 2) (by decide) hl.1 (by omega) (by omega) (Nat.le_of_ble_eq_true rfl) hRc dX3_refuse_45 dX3_refuse_48 dX3_refuse_49 dX3_refuse_51 dX3_refuse_54 rfl
def fT_X3_refuse (N : Nat) (x0 : Nat) (x1 : Int32) (K : Ka) (M : Cm) : Option ((Ka × Cm) ⊕ (Ka × Cm)) := gd (kd K x0 == 4) (nn (cR M x0 0) fun a1 => gd (kd K a1 == 7) (if (cI M a1 6) ≤ (cI M x0 2) then (nn (cR M x0 0) fun a2 => gd (kd K a2 == 7) ((bT_X3_refuse_40 N) x0 x0 x1 16 (cI M a2 5) K M)) else (nn (cR M x0 0) fun a3 => gd (kd K a3 == 7) (nn (cR M a3 2) fun a4 => gd (kd K a4 == 22) (ck (cI M x0 2) (le K a4) ((bT_X3_refuse_40 N) x0 x0 x1 16 (cI M a4 (cI M x0 2 : Int32).toNatClampNeg) K M))))))
theorem mfT_X3_refuse {o : (Ka × Cm) ⊕ (Ka × Cm)} {N : Nat}  (x0 : Nat) (x1 : Int32) (K : Ka) (M : Cm) (hf : fT_X3_refuse N x0 x1 K M = some o) : KLe K (oK sV o) := by
  unfold fT_X3_refuse at hf
  obtain ⟨-, hf⟩ := gd_some hf
  obtain ⟨a1, -, hf⟩ := nn_some hf
  obtain ⟨-, hf⟩ := gd_some hf
  by_cases hc : (cI M a1 6) ≤ (cI M x0 2)
  · rw [if_pos hc] at hf
    obtain ⟨a2, -, hf⟩ := nn_some hf
    obtain ⟨-, hf⟩ := gd_some hf
    exact mbT_X3_refuse_40 _ _ _ _ _ _ _ hf
  · rw [if_neg hc] at hf
    obtain ⟨a3, -, hf⟩ := nn_some hf
    obtain ⟨-, hf⟩ := gd_some hf
    obtain ⟨a4, -, hf⟩ := nn_some hf
    obtain ⟨-, hf⟩ := gd_some hf
    obtain ⟨-, hf⟩ := ck_some hf
    exact mbT_X3_refuse_40 _ _ _ _ _ _ _ hf
set_option maxRecDepth 100000 in
set_option maxHeartbeats 4000000 in
theorem wfT_X3_refuse {p : Program} {l : Launch} {e : Env} {R : Room} {s : State} {m : MethodId} {args : Array Value} {below : List Frame} {meth : Method} {c : Code} {x : Xc} {K0 : Ka} {o : (Ka × Cm) ⊕ (Ka × Cm)} {N : Nat} (CTX : CT p l s m args meth c x K0 RX3 "refuse" cX3_refuse 2 none) (hRm : 6 ≤ R.frames ∧ 95 ≤ R.locals) (hRc : nz sV K0 o ≤ R.cells ∧ nu sV K0 o ≤ R.slots) (x0 : Nat) (x1 : Int32) (K : Ka) (M : Cm) (H : Heap) (locs : List Loc) (ls : Array Slot) (hf : fT_X3_refuse N x0 x1 K M = some o) (hL : KLe K0 K) (hR : RC x K M H) (hS : va_S (AC K0) s.heap H locs) (hl : lv_has ls 2 [(0, .ref x0), (1, .int x1)]) : W p l e R s m args below meth c H locs (kz K - kz K0) (ku K - ku K0) (TQ sV (aQV x K0) (zQV K0) "java/lang/IllegalStateException" x K0 below args s o) (F0 m 0 ls []) := by
  obtain ⟨CX, hno, hlt, hmn⟩ := id CTX
  obtain ⟨hx, hb, hml, hown, hts, hE, hB, hr, hlk⟩ := id CX
  have hcs := nz_le (mfT_X3_refuse  x0 x1 K M hf) hRc
  unfold fT_X3_refuse at hf
  refine lv_aload_n hx hb dX3_refuse_0 rfl (lv_at hl 0 rfl) ?_
  refine lv_iload_n hx hb dX3_refuse_1 rfl (lv_at hl 1 rfl) ?_
  refine lv_bipush (v := 16) hx hb dX3_refuse_2 (by decide) ?_
  refine lv_aload_n hx hb dX3_refuse_4 rfl (lv_at hl 0 rfl) ?_
  obtain ⟨hk_x0_4, hf⟩ := gd_some hf
  refine cr_getI kc_3 CX hR fa_X3_15 rfl hk_x0_4 dX3_refuse_5 ?_
  refine lv_aload_n hx hb dX3_refuse_8 rfl (lv_at hl 0 rfl) ?_
  refine cr_getR kc_3 CX hR fa_X3_28 rfl hk_x0_4 dX3_refuse_9 ?_
  obtain ⟨a1, ha1, hf⟩ := nn_some hf
  refine rf_0 ha1 ?_
  obtain ⟨hk_a1_7, hf⟩ := gd_some hf
  refine cr_getI kc_6 CX hR fa_X3_34 rfl hk_a1_7 dX3_refuse_12 ?_
  refine lv_icmp_ge (tgt := 33) hx hb dX3_refuse_15 (by decide) (fun hc => ?_) (fun hc => ?_)
  · rw [if_pos hc] at hf
    refine lv_aload_n hx hb dX3_refuse_33 rfl (lv_at hl 0 rfl) ?_
    refine cr_getR kc_3 CX hR fa_X3_28 rfl hk_x0_4 dX3_refuse_34 ?_
    obtain ⟨a2, ha2, hf⟩ := nn_some hf
    refine rf_0 ha2 ?_
    obtain ⟨hk_a2_7, hf⟩ := gd_some hf
    refine cr_getI kc_6 CX hR fa_X3_70 rfl hk_a2_7 dX3_refuse_37 ?_
    exact (wbT_X3_refuse_40 CTX hRm hRc) _ _ _ _ _ _ _ _ _ _ hf hL hR hS (lv_sub hl [0] rfl)
  · rw [if_neg hc] at hf
    refine lv_aload_n hx hb dX3_refuse_18 rfl (lv_at hl 0 rfl) ?_
    refine cr_getR kc_3 CX hR fa_X3_28 rfl hk_x0_4 dX3_refuse_19 ?_
    obtain ⟨a3, ha3, hf⟩ := nn_some hf
    refine rf_0 ha3 ?_
    obtain ⟨hk_a3_7, hf⟩ := gd_some hf
    refine cr_getR kc_6 CX hR fa_X3_67 rfl hk_a3_7 dX3_refuse_22 ?_
    refine lv_aload_n hx hb dX3_refuse_25 rfl (lv_at hl 0 rfl) ?_
    refine cr_getI kc_3 CX hR fa_X3_15 rfl hk_x0_4 dX3_refuse_26 ?_
    obtain ⟨a4, ha4, hf⟩ := nn_some hf
    refine rf_1 ha4 ?_
    obtain ⟨hk_a4_22, hf⟩ := gd_some hf
    obtain ⟨hi, hf⟩ := ck_some hf
    refine cr_iald CX hR hk_a4_22 hi dX3_refuse_29 ?_
    refine lv_goto (tgt := 40) hx hb dX3_refuse_30 (by decide) ?_
    exact (wbT_X3_refuse_40 CTX hRm hRc) _ _ _ _ _ _ _ _ _ _ hf hL hR hS (lv_sub hl [0] rfl)
theorem MT_X3_refuse (l : Launch) (x : Xc) (hlt : l.stackTraces = false) (N : Nat) (x0 : Nat) (x1 : Int32) (K : Ka) (M : Cm) (o : (Ka × Cm) ⊕ (Ka × Cm)) (hf : fT_X3_refuse N x0 x1 K M = some o) : Tc sV (aQV x K) (zQV K) "java/lang/IllegalStateException" l x yX3_refuse cX3_refuse 2 none 6 95 [.ref x0, .int x1] K M o :=
  tr_met RX3 "refuse" hlt (by decide) rfl rfl (Nat.le_of_ble_eq_true rfl) (fun p e s m args below meth c ls CTX hR hl => wfT_X3_refuse CTX ⟨Nat.le_refl _, Nat.le_refl _⟩ ⟨Nat.le_refl _, Nat.le_refl _⟩ x0 x1 K M s.heap [] ls hf (KLe.rf K) hR va_S.rf hl)
def bT_X3_take_13 (N : Nat) (x0 : Nat) (K : Ka) (M : Cm) : Option ((Ka × Cm) ⊕ (Ka × Cm)) := gd (kd K x0 == 4) ((fC_X3_moveTo N K x0 ((cI M x0 2) + 1) M).bind fun o20 => some (.inl (K, o20)))
theorem mbT_X3_take_13 {o : (Ka × Cm) ⊕ (Ka × Cm)} {N : Nat}  (x0 : Nat) (K : Ka) (M : Cm) (hf : bT_X3_take_13 N x0 K M = some o) : KLe K (oK sV o) := by
  unfold bT_X3_take_13 at hf
  obtain ⟨-, hf⟩ := gd_some hf
  obtain ⟨o20, -, hf⟩ := bnd_some hf
  cases hf
  exact KLe.rf _
set_option maxRecDepth 100000 in
set_option maxHeartbeats 4000000 in
theorem wbT_X3_take_13 {p : Program} {l : Launch} {e : Env} {R : Room} {s : State} {m : MethodId} {args : Array Value} {below : List Frame} {meth : Method} {c : Code} {x : Xc} {K0 : Ka} {o : (Ka × Cm) ⊕ (Ka × Cm)} {N : Nat} (CTX : CT p l s m args meth c x K0 RX3 "take" cX3_take 2 none) (hRm : 7 ≤ R.frames ∧ 116 ≤ R.locals) (hRc : nz sV K0 o ≤ R.cells ∧ nu sV K0 o ≤ R.slots) (x0 : Nat) (K : Ka) (M : Cm) (H : Heap) (locs : List Loc) (ls : Array Slot) (hf : bT_X3_take_13 N x0 K M = some o) (hL : KLe K0 K) (hR : RC x K M H) (hS : va_S (AC K0) s.heap H locs) (hl : lv_has ls 2 [(0, .ref x0)]) : W p l e R s m args below meth c H locs (kz K - kz K0) (ku K - ku K0) (TQ sV (aQV x K0) (zQV K0) "java/lang/IllegalStateException" x K0 below args s o) (F0 m 13 ls []) := by
  obtain ⟨CX, hno, hlt, hmn⟩ := id CTX
  obtain ⟨hx, hb, hml, hown, hts, hE, hB, hr, hlk⟩ := id CX
  have hcs := nz_le (mbT_X3_take_13  x0 K M hf) hRc
  unfold bT_X3_take_13 at hf
  refine lv_aload_n hx hb dX3_take_13 rfl (lv_at hl 0 rfl) ?_
  refine lv_aload_n hx hb dX3_take_14 rfl (lv_at hl 0 rfl) ?_
  obtain ⟨hk_x0_4, hf⟩ := gd_some hf
  refine cr_getI kc_3 CX hR fa_X3_15 rfl hk_x0_4 dX3_take_15 ?_
  refine lv_iconst (v := 1) hx hb dX3_take_18 (by decide) ?_
  refine lv_iadd hx hb dX3_take_19 ?_
  obtain ⟨o20, ho20, hf⟩ := bnd_some hf
  refine cr_callVv kc_3 CX hR hL hS (As := [.int ((cI M x0 2) + 1)]) (rest := []) hk_x0_4 (MC_X3_moveTo l x N K x0 ((cI M x0 2) + 1) M o20 ho20) cv_X3_42 ⟨by omega, by omega⟩ rfl rfl (Nat.le_of_ble_eq_true rfl) hl.1 dX3_take_20 hcs (fun H locs hR hS => ?_)
  exact tr_vret CX hR hS hf dX3_take_23
def fT_X3_take (N : Nat) (x0 : Nat) (x1 : Int32) (K : Ka) (M : Cm) : Option ((Ka × Cm) ⊕ (Ka × Cm)) := gd (kd K x0 == 4) (if (cI M x0 3) = x1 then ((bT_X3_take_13 N) x0 K M) else (tb (fT_X3_refuse N x0 1 K M) fun o10 => (bT_X3_take_13 N) x0 o10.1 o10.2))
theorem mfT_X3_take {o : (Ka × Cm) ⊕ (Ka × Cm)} {N : Nat}  (x0 : Nat) (x1 : Int32) (K : Ka) (M : Cm) (hf : fT_X3_take N x0 x1 K M = some o) : KLe K (oK sV o) := by
  unfold fT_X3_take at hf
  obtain ⟨-, hf⟩ := gd_some hf
  by_cases hc : (cI M x0 3) = x1
  · rw [if_pos hc] at hf
    exact mbT_X3_take_13 _ _ _ hf
  · rw [if_neg hc] at hf
    rcases tb_some hf with ⟨o10, ho, hf⟩ | ⟨q, ho, rfl⟩
    · exact KLe.tr (mfT_X3_refuse _ _ _ _ ho) (mbT_X3_take_13 _ _ _ hf)
    · exact (mfT_X3_refuse _ _ _ _ ho)
set_option maxRecDepth 100000 in
set_option maxHeartbeats 4000000 in
theorem wfT_X3_take {p : Program} {l : Launch} {e : Env} {R : Room} {s : State} {m : MethodId} {args : Array Value} {below : List Frame} {meth : Method} {c : Code} {x : Xc} {K0 : Ka} {o : (Ka × Cm) ⊕ (Ka × Cm)} {N : Nat} (CTX : CT p l s m args meth c x K0 RX3 "take" cX3_take 2 none) (hRm : 7 ≤ R.frames ∧ 116 ≤ R.locals) (hRc : nz sV K0 o ≤ R.cells ∧ nu sV K0 o ≤ R.slots) (x0 : Nat) (x1 : Int32) (K : Ka) (M : Cm) (H : Heap) (locs : List Loc) (ls : Array Slot) (hf : fT_X3_take N x0 x1 K M = some o) (hL : KLe K0 K) (hR : RC x K M H) (hS : va_S (AC K0) s.heap H locs) (hl : lv_has ls 2 [(0, .ref x0), (1, .int x1)]) : W p l e R s m args below meth c H locs (kz K - kz K0) (ku K - ku K0) (TQ sV (aQV x K0) (zQV K0) "java/lang/IllegalStateException" x K0 below args s o) (F0 m 0 ls []) := by
  obtain ⟨CX, hno, hlt, hmn⟩ := id CTX
  obtain ⟨hx, hb, hml, hown, hts, hE, hB, hr, hlk⟩ := id CX
  have hcs := nz_le (mfT_X3_take  x0 x1 K M hf) hRc
  unfold fT_X3_take at hf
  refine lv_aload_n hx hb dX3_take_0 rfl (lv_at hl 0 rfl) ?_
  obtain ⟨hk_x0_4, hf⟩ := gd_some hf
  refine cr_getI kc_3 CX hR fa_X3_19 rfl hk_x0_4 dX3_take_1 ?_
  refine lv_iload_n hx hb dX3_take_4 rfl (lv_at hl 1 rfl) ?_
  refine lv_icmp_eq (tgt := 13) hx hb dX3_take_5 (by decide) (fun hc => ?_) (fun hc => ?_)
  · rw [if_pos hc] at hf
    exact (wbT_X3_take_13 CTX hRm hRc) _ _ _ _ _ _ hf hL hR hS (lv_sub hl [0] rfl)
  · rw [if_neg hc] at hf
    refine lv_aload_n hx hb dX3_take_8 rfl (lv_at hl 0 rfl) ?_
    refine lv_iconst (v := 1) hx hb dX3_take_9 (by decide) ?_
    rcases tb_some hf with ⟨o10, ho, hf⟩ | ⟨q, ho, rfl⟩
    · have hm1 := mbT_X3_take_13 _ _ _ hf
      have hb1 := nz_le hm1 hRc
      have hq1 := (mfT_X3_refuse _ _ _ _ ho)
      refine ta_callVv kc_3 CX hL hR hS (As := [.int 1]) (rest := []) hk_x0_4 (MT_X3_refuse l x hlt N _ _ _ _ _ ho) cv_X3_54 ⟨by omega, by omega⟩ rfl (Nat.le_of_ble_eq_true rfl) hl.1 hq1 hb1 rfl dX3_take_10 (fun H locs hR hS => ?_)
      exact (wbT_X3_take_13 CTX hRm hRc) _ _ _ _ _ _ hf (hL.tr hq1) hR hS (lv_sub hl [0] rfl)
    · exact tx_callv kc_3 CTX hL hR hS (As := [.int 1]) (rest := []) hk_x0_4 (MT_X3_refuse l x hlt N _ _ _ _ _ ho) cv_X3_54 ⟨by omega, by omega⟩ rfl (Nat.le_of_ble_eq_true rfl) hl.1 (mfT_X3_refuse _ _ _ _ ho) hRc rfl dX3_take_10
theorem MT_X3_take (l : Launch) (x : Xc) (hlt : l.stackTraces = false) (N : Nat) (x0 : Nat) (x1 : Int32) (K : Ka) (M : Cm) (o : (Ka × Cm) ⊕ (Ka × Cm)) (hf : fT_X3_take N x0 x1 K M = some o) : Tc sV (aQV x K) (zQV K) "java/lang/IllegalStateException" l x yX3_take cX3_take 2 none 7 116 [.ref x0, .int x1] K M o :=
  tr_met RX3 "take" hlt (by decide) rfl rfl (Nat.le_of_ble_eq_true rfl) (fun p e s m args below meth c ls CTX hR hl => wfT_X3_take CTX ⟨Nat.le_refl _, Nat.le_refl _⟩ ⟨Nat.le_refl _, Nat.le_refl _⟩ x0 x1 K M s.heap [] ls hf (KLe.rf K) hR va_S.rf hl)
def bT_X3_readPlace_43 (N : Nat) (x0 : Nat) (x2 : Int32) (s0 : Int32) (K : Ka) (M : Cm) : Option ((Int64 × Ka × Cm) ⊕ (Ka × Cm)) := gd (kd K x0 == 4) ((fC_X5_word N K s0 x2 (cI M x0 4) M).bind fun o48 => some (.inl (o48.1, K, o48.2)))
theorem mbT_X3_readPlace_43 {o : (Int64 × Ka × Cm) ⊕ (Ka × Cm)} {N : Nat}  (x0 : Nat) (x2 : Int32) (s0 : Int32) (K : Ka) (M : Cm) (hf : bT_X3_readPlace_43 N x0 x2 s0 K M = some o) : KLe K (oK sT o) := by
  unfold bT_X3_readPlace_43 at hf
  obtain ⟨-, hf⟩ := gd_some hf
  obtain ⟨o48, -, hf⟩ := bnd_some hf
  cases hf
  exact KLe.rf _
set_option maxRecDepth 100000 in
set_option maxHeartbeats 4000000 in
theorem wbT_X3_readPlace_43 {p : Program} {l : Launch} {e : Env} {R : Room} {s : State} {m : MethodId} {args : Array Value} {below : List Frame} {meth : Method} {c : Code} {x : Xc} {K0 : Ka} {o : (Int64 × Ka × Cm) ⊕ (Ka × Cm)} {N : Nat} (CTX : CT p l s m args meth c x K0 RX3 "readPlace" cX3_readPlace 4 (some .long)) (hRm : 8 ≤ R.frames ∧ 137 ≤ R.locals) (hRc : nz sT K0 o ≤ R.cells ∧ nu sT K0 o ≤ R.slots) (x0 : Nat) (x2 : Int32) (s0 : Int32) (K : Ka) (M : Cm) (H : Heap) (locs : List Loc) (ls : Array Slot) (hf : bT_X3_readPlace_43 N x0 x2 s0 K M = some o) (hL : KLe K0 K) (hR : RC x K M H) (hS : va_S (AC K0) s.heap H locs) (hl : lv_has ls 4 [(0, .ref x0), (2, .int x2)]) : W p l e R s m args below meth c H locs (kz K - kz K0) (ku K - ku K0) (TQ sT (aQL x K0) (zQV K0) "java/lang/IllegalStateException" x K0 below args s o) (F0 m 43 ls [.int s0]) := by
  obtain ⟨CX, hno, hlt, hmn⟩ := id CTX
  obtain ⟨hx, hb, hml, hown, hts, hE, hB, hr, hlk⟩ := id CX
  have hcs := nz_le (mbT_X3_readPlace_43  x0 x2 s0 K M hf) hRc
  unfold bT_X3_readPlace_43 at hf
  refine lv_iload_n hx hb dX3_readPlace_43 rfl (lv_at hl 1 rfl) ?_
  refine lv_aload_n hx hb dX3_readPlace_44 rfl (lv_at hl 0 rfl) ?_
  obtain ⟨hk_x0_4, hf⟩ := gd_some hf
  refine cr_getI kc_3 CX hR fa_X3_22 rfl hk_x0_4 dX3_readPlace_45 ?_
  obtain ⟨o48, ho48, hf⟩ := bnd_some hf
  refine cr_callLs CX hR hL hS (As := [.int s0, .int x2, .int (cI M x0 4)]) (rest := []) (MC_X5_word l x N K s0 x2 (cI M x0 4) M o48 ho48) cs_X3_80 ⟨by omega, by omega⟩ rfl rfl (Nat.le_of_ble_eq_true rfl) hl.1 dX3_readPlace_48 hcs (fun H locs hR hS => ?_)
  exact tr_lret CX hR hS hf dX3_readPlace_51
def bT_X3_readPlace_32 (N : Nat) (x0 : Nat) (x1 : Int32) (x2 : Int32) (K : Ka) (M : Cm) : Option ((Int64 × Ka × Cm) ⊕ (Ka × Cm)) := if x1 = 0 then ((bT_X3_readPlace_43 N) x0 x2 21 K M) else ((bT_X3_readPlace_43 N) x0 x2 22 K M)
theorem mbT_X3_readPlace_32 {o : (Int64 × Ka × Cm) ⊕ (Ka × Cm)} {N : Nat}  (x0 : Nat) (x1 : Int32) (x2 : Int32) (K : Ka) (M : Cm) (hf : bT_X3_readPlace_32 N x0 x1 x2 K M = some o) : KLe K (oK sT o) := by
  unfold bT_X3_readPlace_32 at hf
  by_cases hc : x1 = 0
  · rw [if_pos hc] at hf
    exact mbT_X3_readPlace_43 _ _ _ _ _ hf
  · rw [if_neg hc] at hf
    exact mbT_X3_readPlace_43 _ _ _ _ _ hf
set_option maxRecDepth 100000 in
set_option maxHeartbeats 4000000 in
theorem wbT_X3_readPlace_32 {p : Program} {l : Launch} {e : Env} {R : Room} {s : State} {m : MethodId} {args : Array Value} {below : List Frame} {meth : Method} {c : Code} {x : Xc} {K0 : Ka} {o : (Int64 × Ka × Cm) ⊕ (Ka × Cm)} {N : Nat} (CTX : CT p l s m args meth c x K0 RX3 "readPlace" cX3_readPlace 4 (some .long)) (hRm : 8 ≤ R.frames ∧ 137 ≤ R.locals) (hRc : nz sT K0 o ≤ R.cells ∧ nu sT K0 o ≤ R.slots) (x0 : Nat) (x1 : Int32) (x2 : Int32) (K : Ka) (M : Cm) (H : Heap) (locs : List Loc) (ls : Array Slot) (hf : bT_X3_readPlace_32 N x0 x1 x2 K M = some o) (hL : KLe K0 K) (hR : RC x K M H) (hS : va_S (AC K0) s.heap H locs) (hl : lv_has ls 4 [(0, .ref x0), (1, .int x1), (2, .int x2)]) : W p l e R s m args below meth c H locs (kz K - kz K0) (ku K - ku K0) (TQ sT (aQL x K0) (zQV K0) "java/lang/IllegalStateException" x K0 below args s o) (F0 m 32 ls []) := by
  obtain ⟨CX, hno, hlt, hmn⟩ := id CTX
  obtain ⟨hx, hb, hml, hown, hts, hE, hB, hr, hlk⟩ := id CX
  have hcs := nz_le (mbT_X3_readPlace_32  x0 x1 x2 K M hf) hRc
  unfold bT_X3_readPlace_32 at hf
  refine lv_iload_n hx hb dX3_readPlace_32 rfl (lv_at hl 1 rfl) ?_
  refine lv_if_eq (tgt := 41) hx hb dX3_readPlace_33 (by decide) (fun hc => ?_) (fun hc => ?_)
  · rw [if_pos hc] at hf
    refine lv_bipush (v := 21) hx hb dX3_readPlace_41 (by decide) ?_
    exact (wbT_X3_readPlace_43 CTX hRm hRc) _ _ _ _ _ _ _ _ hf hL hR hS (lv_sub hl [0, 2] rfl)
  · rw [if_neg hc] at hf
    refine lv_bipush (v := 22) hx hb dX3_readPlace_36 (by decide) ?_
    refine lv_goto (tgt := 43) hx hb dX3_readPlace_38 (by decide) ?_
    exact (wbT_X3_readPlace_43 CTX hRm hRc) _ _ _ _ _ _ _ _ hf hL hR hS (lv_sub hl [0, 2] rfl)
def bT_X3_readPlace_102 (N : Nat) (x0 : Nat) (x1 : Int32) (x2 : Int32) (x3 : Int32) (K : Ka) (M : Cm) : Option ((Int64 × Ka × Cm) ⊕ (Ka × Cm)) := gd (kd K x0 == 4) (gd (8 != 0) (nn (cR M x0 1) fun a1 => gd (kd K a1 == 6) ((fC_X5_leanOn N K a1 (cI M x0 4) (x3 / 8) M).bind fun o114 => (fC_X3_moveTo N K x0 (x2 + 1) o114).bind fun o121 => nn (cR o121 x0 1) fun a2 => gd (kd K a2 == 6) ((fC_X5_placeWord N K a2 x3 x1 o121).bind fun o130 => some (.inl (o130.1, K, o130.2))))))
theorem mbT_X3_readPlace_102 {o : (Int64 × Ka × Cm) ⊕ (Ka × Cm)} {N : Nat}  (x0 : Nat) (x1 : Int32) (x2 : Int32) (x3 : Int32) (K : Ka) (M : Cm) (hf : bT_X3_readPlace_102 N x0 x1 x2 x3 K M = some o) : KLe K (oK sT o) := by
  unfold bT_X3_readPlace_102 at hf
  obtain ⟨-, hf⟩ := gd_some hf
  obtain ⟨-, hf⟩ := gd_some hf
  obtain ⟨a1, -, hf⟩ := nn_some hf
  obtain ⟨-, hf⟩ := gd_some hf
  obtain ⟨o114, -, hf⟩ := bnd_some hf
  obtain ⟨o121, -, hf⟩ := bnd_some hf
  obtain ⟨a2, -, hf⟩ := nn_some hf
  obtain ⟨-, hf⟩ := gd_some hf
  obtain ⟨o130, -, hf⟩ := bnd_some hf
  cases hf
  exact KLe.rf _
set_option maxRecDepth 100000 in
set_option maxHeartbeats 4000000 in
theorem wbT_X3_readPlace_102 {p : Program} {l : Launch} {e : Env} {R : Room} {s : State} {m : MethodId} {args : Array Value} {below : List Frame} {meth : Method} {c : Code} {x : Xc} {K0 : Ka} {o : (Int64 × Ka × Cm) ⊕ (Ka × Cm)} {N : Nat} (CTX : CT p l s m args meth c x K0 RX3 "readPlace" cX3_readPlace 4 (some .long)) (hRm : 8 ≤ R.frames ∧ 137 ≤ R.locals) (hRc : nz sT K0 o ≤ R.cells ∧ nu sT K0 o ≤ R.slots) (x0 : Nat) (x1 : Int32) (x2 : Int32) (x3 : Int32) (K : Ka) (M : Cm) (H : Heap) (locs : List Loc) (ls : Array Slot) (hf : bT_X3_readPlace_102 N x0 x1 x2 x3 K M = some o) (hL : KLe K0 K) (hR : RC x K M H) (hS : va_S (AC K0) s.heap H locs) (hl : lv_has ls 4 [(0, .ref x0), (1, .int x1), (2, .int x2), (3, .int x3)]) : W p l e R s m args below meth c H locs (kz K - kz K0) (ku K - ku K0) (TQ sT (aQL x K0) (zQV K0) "java/lang/IllegalStateException" x K0 below args s o) (F0 m 102 ls []) := by
  obtain ⟨CX, hno, hlt, hmn⟩ := id CTX
  obtain ⟨hx, hb, hml, hown, hts, hE, hB, hr, hlk⟩ := id CX
  have hcs := nz_le (mbT_X3_readPlace_102  x0 x1 x2 x3 K M hf) hRc
  unfold bT_X3_readPlace_102 at hf
  refine lv_aload_n hx hb dX3_readPlace_102 rfl (lv_at hl 0 rfl) ?_
  obtain ⟨hk_x0_4, hf⟩ := gd_some hf
  refine cr_getR kc_3 CX hR fa_X3_9 rfl hk_x0_4 dX3_readPlace_103 ?_
  refine lv_aload_n hx hb dX3_readPlace_106 rfl (lv_at hl 0 rfl) ?_
  refine cr_getI kc_3 CX hR fa_X3_22 rfl hk_x0_4 dX3_readPlace_107 ?_
  refine lv_iload_n hx hb dX3_readPlace_110 rfl (lv_at hl 3 rfl) ?_
  refine lv_bipush (v := 8) hx hb dX3_readPlace_111 (by decide) ?_
  obtain ⟨hq, hf⟩ := gd_some hf
  refine lv_idiv hx hb dX3_readPlace_113 (by simpa using hq) ?_
  obtain ⟨a1, ha1, hf⟩ := nn_some hf
  refine rf_2 ha1 ?_
  obtain ⟨hk_a1_6, hf⟩ := gd_some hf
  obtain ⟨o114, ho114, hf⟩ := bnd_some hf
  refine cr_callVv kc_5 CX hR hL hS (As := [.int (cI M x0 4), .int (x3 / 8)]) (rest := []) hk_a1_6 (MC_X5_leanOn l x N K a1 (cI M x0 4) (x3 / 8) M o114 ho114) cv_X3_267 ⟨by omega, by omega⟩ rfl rfl (Nat.le_of_ble_eq_true rfl) hl.1 dX3_readPlace_114 hcs (fun H locs hR hS => ?_)
  refine lv_aload_n hx hb dX3_readPlace_117 rfl (lv_at hl 0 rfl) ?_
  refine lv_iload_n hx hb dX3_readPlace_118 rfl (lv_at hl 2 rfl) ?_
  refine lv_iconst (v := 1) hx hb dX3_readPlace_119 (by decide) ?_
  refine lv_iadd hx hb dX3_readPlace_120 ?_
  obtain ⟨o121, ho121, hf⟩ := bnd_some hf
  refine cr_callVv kc_3 CX hR hL hS (As := [.int (x2 + 1)]) (rest := []) hk_x0_4 (MC_X3_moveTo l x N K x0 (x2 + 1) o114 o121 ho121) cv_X3_42 ⟨by omega, by omega⟩ rfl rfl (Nat.le_of_ble_eq_true rfl) hl.1 dX3_readPlace_121 hcs (fun H locs hR hS => ?_)
  refine lv_aload_n hx hb dX3_readPlace_124 rfl (lv_at hl 0 rfl) ?_
  refine cr_getR kc_3 CX hR fa_X3_9 rfl hk_x0_4 dX3_readPlace_125 ?_
  refine lv_iload_n hx hb dX3_readPlace_128 rfl (lv_at hl 3 rfl) ?_
  refine lv_iload_n hx hb dX3_readPlace_129 rfl (lv_at hl 1 rfl) ?_
  obtain ⟨a2, ha2, hf⟩ := nn_some hf
  refine rf_2 ha2 ?_
  obtain ⟨hk_a2_6, hf⟩ := gd_some hf
  obtain ⟨o130, ho130, hf⟩ := bnd_some hf
  refine cr_callLv kc_5 CX hR hL hS (As := [.int x3, .int x1]) (rest := []) hk_a2_6 (MC_X5_placeWord l x N K a2 x3 x1 o121 o130 ho130) cv_X3_270 ⟨by omega, by omega⟩ rfl rfl (Nat.le_of_ble_eq_true rfl) hl.1 dX3_readPlace_130 hcs (fun H locs hR hS => ?_)
  exact tr_lret CX hR hS hf dX3_readPlace_133
def bT_X3_readPlace_81 (N : Nat) (x0 : Nat) (x1 : Int32) (x2 : Int32) (x3 : Int32) (K : Ka) (M : Cm) : Option ((Int64 × Ka × Cm) ⊕ (Ka × Cm)) := if x1 = 0 then ((bT_X3_readPlace_102 N) x0 x1 x2 x3 K M) else (gd (kd K x0 == 4) (nn (cR M x0 1) fun a1 => gd (kd K a1 == 6) ((fC_X5_isStatic N K a1 x3 M).bind fun o90 => if o90.1 = 0 then (tb (fT_X3_refuse N x0 6 K o90.2) fun o99 => (bT_X3_readPlace_102 N) x0 x1 x2 x3 o99.1 o99.2) else ((bT_X3_readPlace_102 N) x0 x1 x2 x3 K o90.2))))
theorem mbT_X3_readPlace_81 {o : (Int64 × Ka × Cm) ⊕ (Ka × Cm)} {N : Nat}  (x0 : Nat) (x1 : Int32) (x2 : Int32) (x3 : Int32) (K : Ka) (M : Cm) (hf : bT_X3_readPlace_81 N x0 x1 x2 x3 K M = some o) : KLe K (oK sT o) := by
  unfold bT_X3_readPlace_81 at hf
  by_cases hc : x1 = 0
  · rw [if_pos hc] at hf
    exact mbT_X3_readPlace_102 _ _ _ _ _ _ hf
  · rw [if_neg hc] at hf
    obtain ⟨-, hf⟩ := gd_some hf
    obtain ⟨a1, -, hf⟩ := nn_some hf
    obtain ⟨-, hf⟩ := gd_some hf
    obtain ⟨o90, -, hf⟩ := bnd_some hf
    by_cases hc : o90.1 = 0
    · rw [if_pos hc] at hf
      rcases tb_some hf with ⟨o99, ho, hf⟩ | ⟨q, ho, rfl⟩
      · exact KLe.tr (mfT_X3_refuse _ _ _ _ ho) (mbT_X3_readPlace_102 _ _ _ _ _ _ hf)
      · exact (mfT_X3_refuse _ _ _ _ ho)
    · rw [if_neg hc] at hf
      exact mbT_X3_readPlace_102 _ _ _ _ _ _ hf
set_option maxRecDepth 100000 in
set_option maxHeartbeats 4000000 in
theorem wbT_X3_readPlace_81 {p : Program} {l : Launch} {e : Env} {R : Room} {s : State} {m : MethodId} {args : Array Value} {below : List Frame} {meth : Method} {c : Code} {x : Xc} {K0 : Ka} {o : (Int64 × Ka × Cm) ⊕ (Ka × Cm)} {N : Nat} (CTX : CT p l s m args meth c x K0 RX3 "readPlace" cX3_readPlace 4 (some .long)) (hRm : 8 ≤ R.frames ∧ 137 ≤ R.locals) (hRc : nz sT K0 o ≤ R.cells ∧ nu sT K0 o ≤ R.slots) (x0 : Nat) (x1 : Int32) (x2 : Int32) (x3 : Int32) (K : Ka) (M : Cm) (H : Heap) (locs : List Loc) (ls : Array Slot) (hf : bT_X3_readPlace_81 N x0 x1 x2 x3 K M = some o) (hL : KLe K0 K) (hR : RC x K M H) (hS : va_S (AC K0) s.heap H locs) (hl : lv_has ls 4 [(0, .ref x0), (1, .int x1), (2, .int x2), (3, .int x3)]) : W p l e R s m args below meth c H locs (kz K - kz K0) (ku K - ku K0) (TQ sT (aQL x K0) (zQV K0) "java/lang/IllegalStateException" x K0 below args s o) (F0 m 81 ls []) := by
  obtain ⟨CX, hno, hlt, hmn⟩ := id CTX
  obtain ⟨hx, hb, hml, hown, hts, hE, hB, hr, hlk⟩ := id CX
  have hcs := nz_le (mbT_X3_readPlace_81  x0 x1 x2 x3 K M hf) hRc
  unfold bT_X3_readPlace_81 at hf
  refine lv_iload_n hx hb dX3_readPlace_81 rfl (lv_at hl 1 rfl) ?_
  refine lv_if_eq (tgt := 102) hx hb dX3_readPlace_82 (by decide) (fun hc => ?_) (fun hc => ?_)
  · rw [if_pos hc] at hf
    exact (wbT_X3_readPlace_102 CTX hRm hRc) _ _ _ _ _ _ _ _ _ hf hL hR hS (lv_sub hl [0, 1, 2, 3] rfl)
  · rw [if_neg hc] at hf
    refine lv_aload_n hx hb dX3_readPlace_85 rfl (lv_at hl 0 rfl) ?_
    obtain ⟨hk_x0_4, hf⟩ := gd_some hf
    refine cr_getR kc_3 CX hR fa_X3_9 rfl hk_x0_4 dX3_readPlace_86 ?_
    refine lv_iload_n hx hb dX3_readPlace_89 rfl (lv_at hl 3 rfl) ?_
    obtain ⟨a1, ha1, hf⟩ := nn_some hf
    refine rf_1 ha1 ?_
    obtain ⟨hk_a1_6, hf⟩ := gd_some hf
    obtain ⟨o90, ho90, hf⟩ := bnd_some hf
    refine cr_callIv kc_5 CX hR hL hS (As := [.int x3]) (rest := []) hk_a1_6 (MC_X5_isStatic l x N K a1 x3 M o90 ho90) cv_X3_264 ⟨by omega, by omega⟩ rfl rfl (Nat.le_of_ble_eq_true rfl) hl.1 dX3_readPlace_90 hcs (fun H locs hR hS => ?_)
    refine lv_if_ne (tgt := 102) hx hb dX3_readPlace_93 (by decide) (fun hc => ?_) (fun hc => ?_)
    · rw [if_neg hc] at hf
      exact (wbT_X3_readPlace_102 CTX hRm hRc) _ _ _ _ _ _ _ _ _ hf hL hR hS (lv_sub hl [0, 1, 2, 3] rfl)
    · rw [if_pos hc] at hf
      refine lv_aload_n hx hb dX3_readPlace_96 rfl (lv_at hl 0 rfl) ?_
      refine lv_bipush (v := 6) hx hb dX3_readPlace_97 (by decide) ?_
      rcases tb_some hf with ⟨o99, ho, hf⟩ | ⟨q, ho, rfl⟩
      · have hm1 := mbT_X3_readPlace_102 _ _ _ _ _ _ hf
        have hb1 := nz_le hm1 hRc
        have hq1 := (mfT_X3_refuse _ _ _ _ ho)
        refine ta_callVv kc_3 CX hL hR hS (As := [.int 6]) (rest := []) hk_x0_4 (MT_X3_refuse l x hlt N _ _ _ _ _ ho) cv_X3_54 ⟨by omega, by omega⟩ rfl (Nat.le_of_ble_eq_true rfl) hl.1 hq1 hb1 rfl dX3_readPlace_99 (fun H locs hR hS => ?_)
        exact (wbT_X3_readPlace_102 CTX hRm hRc) _ _ _ _ _ _ _ _ _ hf (hL.tr hq1) hR hS (lv_sub hl [0, 1, 2, 3] rfl)
      · exact tx_callv kc_3 CTX hL hR hS (As := [.int 6]) (rest := []) hk_x0_4 (MT_X3_refuse l x hlt N _ _ _ _ _ ho) cv_X3_54 ⟨by omega, by omega⟩ rfl (Nat.le_of_ble_eq_true rfl) hl.1 (mfT_X3_refuse _ _ _ _ ho) hRc rfl dX3_readPlace_99
def fT_X3_readPlace (N : Nat) (x0 : Nat) (x1 : Int32) (K : Ka) (M : Cm) : Option ((Int64 × Ka × Cm) ⊕ (Ka × Cm)) := gd (kd K x0 == 4) (nn (cR M x0 0) fun a1 => gd (kd K a1 == 7) ((fC_X6_kindAt N K a1 ((cI M x0 2) + 1) M).bind fun o12 => if o12.1 = 46 then ((fC_X3_moveTo N K x0 ((cI M x0 2) + 2) o12.2).bind fun o24 => tb (fT_X3_take N x0 2 K o24) fun o29 => (bT_X3_readPlace_32 N) x0 x1 (cI M x0 2) o29.1 o29.2) else (nn (cR o12.2 x0 0) fun a2 => nn (cR o12.2 x0 1) fun a3 => gd (kd K a2 == 7) ((fC_X6_valueAt N K a2 (cI M x0 2) o12.2).bind fun o65 => gd (kd K a3 == 6) ((fC_X5_find N K a3 (cI o12.2 x0 4) o65.1 o65.2).bind fun o68 => if 0 ≤ o68.1 then ((bT_X3_readPlace_81 N) x0 x1 (cI M x0 2) o68.1 K o68.2) else (tb (fT_X3_refuse N x0 2 K o68.2) fun o78 => (bT_X3_readPlace_81 N) x0 x1 (cI M x0 2) o68.1 o78.1 o78.2))))))
theorem mfT_X3_readPlace {o : (Int64 × Ka × Cm) ⊕ (Ka × Cm)} {N : Nat}  (x0 : Nat) (x1 : Int32) (K : Ka) (M : Cm) (hf : fT_X3_readPlace N x0 x1 K M = some o) : KLe K (oK sT o) := by
  unfold fT_X3_readPlace at hf
  obtain ⟨-, hf⟩ := gd_some hf
  obtain ⟨a1, -, hf⟩ := nn_some hf
  obtain ⟨-, hf⟩ := gd_some hf
  obtain ⟨o12, -, hf⟩ := bnd_some hf
  by_cases hc : o12.1 = 46
  · rw [if_pos hc] at hf
    obtain ⟨o24, -, hf⟩ := bnd_some hf
    rcases tb_some hf with ⟨o29, ho, hf⟩ | ⟨q, ho, rfl⟩
    · exact KLe.tr (mfT_X3_take _ _ _ _ ho) (mbT_X3_readPlace_32 _ _ _ _ _ hf)
    · exact (mfT_X3_take _ _ _ _ ho)
  · rw [if_neg hc] at hf
    obtain ⟨a2, -, hf⟩ := nn_some hf
    obtain ⟨a3, -, hf⟩ := nn_some hf
    obtain ⟨-, hf⟩ := gd_some hf
    obtain ⟨o65, -, hf⟩ := bnd_some hf
    obtain ⟨-, hf⟩ := gd_some hf
    obtain ⟨o68, -, hf⟩ := bnd_some hf
    by_cases hc : 0 ≤ o68.1
    · rw [if_pos hc] at hf
      exact mbT_X3_readPlace_81 _ _ _ _ _ _ hf
    · rw [if_neg hc] at hf
      rcases tb_some hf with ⟨o78, ho, hf⟩ | ⟨q, ho, rfl⟩
      · exact KLe.tr (mfT_X3_refuse _ _ _ _ ho) (mbT_X3_readPlace_81 _ _ _ _ _ _ hf)
      · exact (mfT_X3_refuse _ _ _ _ ho)
set_option maxRecDepth 100000 in
set_option maxHeartbeats 4000000 in
theorem wfT_X3_readPlace {p : Program} {l : Launch} {e : Env} {R : Room} {s : State} {m : MethodId} {args : Array Value} {below : List Frame} {meth : Method} {c : Code} {x : Xc} {K0 : Ka} {o : (Int64 × Ka × Cm) ⊕ (Ka × Cm)} {N : Nat} (CTX : CT p l s m args meth c x K0 RX3 "readPlace" cX3_readPlace 4 (some .long)) (hRm : 8 ≤ R.frames ∧ 137 ≤ R.locals) (hRc : nz sT K0 o ≤ R.cells ∧ nu sT K0 o ≤ R.slots) (x0 : Nat) (x1 : Int32) (K : Ka) (M : Cm) (H : Heap) (locs : List Loc) (ls : Array Slot) (hf : fT_X3_readPlace N x0 x1 K M = some o) (hL : KLe K0 K) (hR : RC x K M H) (hS : va_S (AC K0) s.heap H locs) (hl : lv_has ls 4 [(0, .ref x0), (1, .int x1)]) : W p l e R s m args below meth c H locs (kz K - kz K0) (ku K - ku K0) (TQ sT (aQL x K0) (zQV K0) "java/lang/IllegalStateException" x K0 below args s o) (F0 m 0 ls []) := by
  obtain ⟨CX, hno, hlt, hmn⟩ := id CTX
  obtain ⟨hx, hb, hml, hown, hts, hE, hB, hr, hlk⟩ := id CX
  have hcs := nz_le (mfT_X3_readPlace  x0 x1 K M hf) hRc
  unfold fT_X3_readPlace at hf
  refine lv_aload_n hx hb dX3_readPlace_0 rfl (lv_at hl 0 rfl) ?_
  obtain ⟨hk_x0_4, hf⟩ := gd_some hf
  refine cr_getI kc_3 CX hR fa_X3_15 rfl hk_x0_4 dX3_readPlace_1 ?_
  refine lv_istore_n (lv' := [(2, .int (cI M x0 2)), (0, .ref x0), (1, .int x1)]) hx hb dX3_readPlace_4 rfl hl (by decide) rfl (fun ls hl => ?_)
  refine lv_aload_n hx hb dX3_readPlace_5 rfl (lv_at hl 1 rfl) ?_
  refine cr_getR kc_3 CX hR fa_X3_28 rfl hk_x0_4 dX3_readPlace_6 ?_
  refine lv_iload_n hx hb dX3_readPlace_9 rfl (lv_at hl 0 rfl) ?_
  refine lv_iconst (v := 1) hx hb dX3_readPlace_10 (by decide) ?_
  refine lv_iadd hx hb dX3_readPlace_11 ?_
  obtain ⟨a1, ha1, hf⟩ := nn_some hf
  refine rf_1 ha1 ?_
  obtain ⟨hk_a1_7, hf⟩ := gd_some hf
  obtain ⟨o12, ho12, hf⟩ := bnd_some hf
  refine cr_callIv kc_6 CX hR hL hS (As := [.int ((cI M x0 2) + 1)]) (rest := []) hk_a1_7 (MC_X6_kindAt l x N K a1 ((cI M x0 2) + 1) M o12 ho12) cv_X3_256 ⟨by omega, by omega⟩ rfl rfl (Nat.le_of_ble_eq_true rfl) hl.1 dX3_readPlace_12 hcs (fun H locs hR hS => ?_)
  refine lv_bipush (v := 46) hx hb dX3_readPlace_15 (by decide) ?_
  refine lv_icmp_ne (tgt := 52) hx hb dX3_readPlace_17 (by decide) (fun hc => ?_) (fun hc => ?_)
  · rw [if_neg hc] at hf
    refine lv_aload_n hx hb dX3_readPlace_52 rfl (lv_at hl 1 rfl) ?_
    refine cr_getR kc_3 CX hR fa_X3_9 rfl hk_x0_4 dX3_readPlace_53 ?_
    refine lv_aload_n hx hb dX3_readPlace_56 rfl (lv_at hl 1 rfl) ?_
    refine cr_getI kc_3 CX hR fa_X3_22 rfl hk_x0_4 dX3_readPlace_57 ?_
    refine lv_aload_n hx hb dX3_readPlace_60 rfl (lv_at hl 1 rfl) ?_
    refine cr_getR kc_3 CX hR fa_X3_28 rfl hk_x0_4 dX3_readPlace_61 ?_
    refine lv_iload_n hx hb dX3_readPlace_64 rfl (lv_at hl 0 rfl) ?_
    obtain ⟨a2, ha2, hf⟩ := nn_some hf
    refine rf_1 ha2 ?_
    obtain ⟨a3, ha3, hf⟩ := nn_some hf
    refine rf_3 ha3 ?_
    obtain ⟨hk_a2_7, hf⟩ := gd_some hf
    obtain ⟨o65, ho65, hf⟩ := bnd_some hf
    refine cr_callLv kc_6 CX hR hL hS (As := [.int (cI M x0 2)]) (rest := [.int (cI o12.2 x0 4), .ref a3]) hk_a2_7 (MC_X6_valueAt l x N K a2 (cI M x0 2) o12.2 o65 ho65) cv_X3_88 ⟨by omega, by omega⟩ rfl rfl (Nat.le_of_ble_eq_true rfl) hl.1 dX3_readPlace_65 hcs (fun H locs hR hS => ?_)
    obtain ⟨hk_a3_6, hf⟩ := gd_some hf
    obtain ⟨o68, ho68, hf⟩ := bnd_some hf
    refine cr_callIv kc_5 CX hR hL hS (As := [.int (cI o12.2 x0 4), .long o65.1]) (rest := []) hk_a3_6 (MC_X5_find l x N K a3 (cI o12.2 x0 4) o65.1 o65.2 o68 ho68) cv_X3_260 ⟨by omega, by omega⟩ rfl rfl (Nat.le_of_ble_eq_true rfl) hl.1 dX3_readPlace_68 hcs (fun H locs hR hS => ?_)
    refine lv_istore_n (lv' := [(3, .int o68.1), (2, .int (cI M x0 2)), (0, .ref x0), (1, .int x1)]) hx hb dX3_readPlace_71 rfl hl (by decide) rfl (fun ls hl => ?_)
    refine lv_iload_n hx hb dX3_readPlace_72 rfl (lv_at hl 0 rfl) ?_
    refine lv_if_ge (tgt := 81) hx hb dX3_readPlace_73 (by decide) (fun hc => ?_) (fun hc => ?_)
    · rw [if_pos hc] at hf
      exact (wbT_X3_readPlace_81 CTX hRm hRc) _ _ _ _ _ _ _ _ _ hf hL hR hS (lv_sub hl [2, 3, 1, 0] rfl)
    · rw [if_neg hc] at hf
      refine lv_aload_n hx hb dX3_readPlace_76 rfl (lv_at hl 2 rfl) ?_
      refine lv_iconst (v := 2) hx hb dX3_readPlace_77 (by decide) ?_
      rcases tb_some hf with ⟨o78, ho, hf⟩ | ⟨q, ho, rfl⟩
      · have hm1 := mbT_X3_readPlace_81 _ _ _ _ _ _ hf
        have hb1 := nz_le hm1 hRc
        have hq1 := (mfT_X3_refuse _ _ _ _ ho)
        refine ta_callVv kc_3 CX hL hR hS (As := [.int 2]) (rest := []) hk_x0_4 (MT_X3_refuse l x hlt N _ _ _ _ _ ho) cv_X3_54 ⟨by omega, by omega⟩ rfl (Nat.le_of_ble_eq_true rfl) hl.1 hq1 hb1 rfl dX3_readPlace_78 (fun H locs hR hS => ?_)
        exact (wbT_X3_readPlace_81 CTX hRm hRc) _ _ _ _ _ _ _ _ _ hf (hL.tr hq1) hR hS (lv_sub hl [2, 3, 1, 0] rfl)
      · exact tx_callv kc_3 CTX hL hR hS (As := [.int 2]) (rest := []) hk_x0_4 (MT_X3_refuse l x hlt N _ _ _ _ _ ho) cv_X3_54 ⟨by omega, by omega⟩ rfl (Nat.le_of_ble_eq_true rfl) hl.1 (mfT_X3_refuse _ _ _ _ ho) hRc rfl dX3_readPlace_78
  · rw [if_pos hc] at hf
    refine lv_aload_n hx hb dX3_readPlace_20 rfl (lv_at hl 1 rfl) ?_
    refine lv_iload_n hx hb dX3_readPlace_21 rfl (lv_at hl 0 rfl) ?_
    refine lv_iconst (v := 2) hx hb dX3_readPlace_22 (by decide) ?_
    refine lv_iadd hx hb dX3_readPlace_23 ?_
    obtain ⟨o24, ho24, hf⟩ := bnd_some hf
    refine cr_callVv kc_3 CX hR hL hS (As := [.int ((cI M x0 2) + 2)]) (rest := []) hk_x0_4 (MC_X3_moveTo l x N K x0 ((cI M x0 2) + 2) o12.2 o24 ho24) cv_X3_42 ⟨by omega, by omega⟩ rfl rfl (Nat.le_of_ble_eq_true rfl) hl.1 dX3_readPlace_24 hcs (fun H locs hR hS => ?_)
    refine lv_aload_n hx hb dX3_readPlace_27 rfl (lv_at hl 1 rfl) ?_
    refine lv_iconst (v := 2) hx hb dX3_readPlace_28 (by decide) ?_
    rcases tb_some hf with ⟨o29, ho, hf⟩ | ⟨q, ho, rfl⟩
    · have hm1 := mbT_X3_readPlace_32 _ _ _ _ _ hf
      have hb1 := nz_le hm1 hRc
      have hq1 := (mfT_X3_take _ _ _ _ ho)
      refine ta_callVv kc_3 CX hL hR hS (As := [.int 2]) (rest := []) hk_x0_4 (MT_X3_take l x hlt N _ _ _ _ _ ho) cv_X3_119 ⟨by omega, by omega⟩ rfl (Nat.le_of_ble_eq_true rfl) hl.1 hq1 hb1 rfl dX3_readPlace_29 (fun H locs hR hS => ?_)
      exact (wbT_X3_readPlace_32 CTX hRm hRc) _ _ _ _ _ _ _ _ hf (hL.tr hq1) hR hS (lv_sub hl [1, 2, 0] rfl)
    · exact tx_callv kc_3 CTX hL hR hS (As := [.int 2]) (rest := []) hk_x0_4 (MT_X3_take l x hlt N _ _ _ _ _ ho) cv_X3_119 ⟨by omega, by omega⟩ rfl (Nat.le_of_ble_eq_true rfl) hl.1 (mfT_X3_take _ _ _ _ ho) hRc rfl dX3_readPlace_29
theorem MT_X3_readPlace (l : Launch) (x : Xc) (hlt : l.stackTraces = false) (N : Nat) (x0 : Nat) (x1 : Int32) (K : Ka) (M : Cm) (o : (Int64 × Ka × Cm) ⊕ (Ka × Cm)) (hf : fT_X3_readPlace N x0 x1 K M = some o) : Tc sT (aQL x K) (zQV K) "java/lang/IllegalStateException" l x yX3_readPlace cX3_readPlace 4 (some .long) 8 137 [.ref x0, .int x1] K M o :=
  tr_met RX3 "readPlace" hlt (by decide) rfl rfl (Nat.le_of_ble_eq_true rfl) (fun p e s m args below meth c ls CTX hR hl => wfT_X3_readPlace CTX ⟨Nat.le_refl _, Nat.le_refl _⟩ ⟨Nat.le_refl _, Nat.le_refl _⟩ x0 x1 K M s.heap [] ls hf (KLe.rf K) hR va_S.rf hl)
