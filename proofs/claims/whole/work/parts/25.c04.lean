def bC_X6_scanWord_40 (N : Nat) (K : Ka) (r5 : Nat → Int32 → Int64 → Int32 → Cm → Option (Int32 × Cm)) (k64 : Nat → Int32 → Int64 → Int32 → Cm → Option (Int32 × Cm)) (x0 : Nat) (x1 : Int32) (x2 : Int64) (x4 : Int32) (M : Cm) : Option (Int32 × Cm) := gd (kd K x0 == 7) (nn (cR M x0 0) fun a1 => gd (kd K a1 == 21) (ck x4 (le K a1) ((fC_X6_wordSign N K (cI M a1 (x4 : Int32).toNatClampNeg) M).bind fun o52 => r5 x0 x1 ((x2 * 37) + ((o52.1 : Int32).toInt64)) (x4 + 1) o52.2)))
set_option maxRecDepth 100000 in
set_option maxHeartbeats 4000000 in
theorem wbC_X6_scanWord_40 {p : Program} {l : Launch} {e : Env} {R : Room} {s : State} {m : MethodId} {args : Array Value} {below : List Frame} {meth : Method} {c : Code} {x : Xc} {o : Int32 × Cm} {N : Nat} {K : Ka} {r5 : Nat → Int32 → Int64 → Int32 → Cm → Option (Int32 × Cm)} {k64 : Nat → Int32 → Int64 → Int32 → Cm → Option (Int32 × Cm)} (CX : CC p s m args meth c x K RX6 cX6_scanWord 6 (some .int)) (hRm : 2 ≤ R.frames ∧ 40 ≤ R.locals) (hr5 : ∀ (x0 : Nat) (x1 : Int32) (x2 : Int64) (x4 : Int32) (M : Cm) (H : Heap) (locs : List Loc) (ls : Array Slot), r5 x0 x1 x2 x4 M = some o → RC x K M H → va_S (AC K) s.heap H locs → lv_has ls 6 [(0, .ref x0), (1, .int x1), (2, .long x2), (4, .int x4)] → W p l e R s m args below meth c H locs 0 0 (MQ below (CQI x K o) args s 0 0 (AC K)) (F0 m 5 ls [])) (hk64 : ∀ (x0 : Nat) (x1 : Int32) (x2 : Int64) (x4 : Int32) (M : Cm) (H : Heap) (locs : List Loc) (ls : Array Slot), k64 x0 x1 x2 x4 M = some o → RC x K M H → va_S (AC K) s.heap H locs → lv_has ls 6 [(0, .ref x0), (1, .int x1), (2, .long x2), (4, .int x4)] → W p l e R s m args below meth c H locs 0 0 (MQ below (CQI x K o) args s 0 0 (AC K)) (F0 m 64 ls [])) (x0 : Nat) (x1 : Int32) (x2 : Int64) (x4 : Int32) (M : Cm) (H : Heap) (locs : List Loc) (ls : Array Slot) (hf : bC_X6_scanWord_40 N K r5 k64 x0 x1 x2 x4 M = some o) (hR : RC x K M H) (hS : va_S (AC K) s.heap H locs) (hl : lv_has ls 6 [(0, .ref x0), (1, .int x1), (2, .long x2), (4, .int x4)]) : W p l e R s m args below meth c H locs 0 0 (MQ below (CQI x K o) args s 0 0 (AC K)) (F0 m 40 ls []) := by
  obtain ⟨hx, hb, hml, hown, hts, hE, hB, hr, hlk⟩ := id CX
  have hL : KLe K K := KLe.rf K
  have hcs : 0 ≤ R.cells ∧ 0 ≤ R.slots := ⟨Nat.zero_le _, Nat.zero_le _⟩
  unfold bC_X6_scanWord_40 at hf
  refine lv_lload_n hx hb dX6_scanWord_40 rfl (lv_at hl 2 rfl) ?_
  refine lv_ldc2 hx hb hown (hts _ wc_207) dX6_scanWord_41 ?_
  refine lv_lmul hx hb dX6_scanWord_44 ?_
  refine lv_aload_n hx hb dX6_scanWord_45 rfl (lv_at hl 0 rfl) ?_
  obtain ⟨hk_x0_7, hf⟩ := gd_some hf
  refine cr_getR kc_6 CX hR fa_X6_9 rfl hk_x0_7 dX6_scanWord_46 ?_
  refine lv_iload hx hb dX6_scanWord_49 (lv_at hl 3 rfl) ?_
  obtain ⟨a1, ha1, hf⟩ := nn_some hf
  refine rf_1 ha1 ?_
  obtain ⟨hk_a1_21, hf⟩ := gd_some hf
  obtain ⟨hi, hf⟩ := ck_some hf
  refine cr_cald CX hR hk_a1_21 hi dX6_scanWord_51 ?_
  obtain ⟨o52, ho52, hf⟩ := bnd_some hf
  refine cr_callIs CX hR hL hS (As := [.int (cI M a1 (x4 : Int32).toNatClampNeg)]) (rest := [.long (x2 * 37)]) (MC_X6_wordSign l x N K (cI M a1 (x4 : Int32).toNatClampNeg) M o52 ho52) cs_X6_50 ⟨by omega, by omega⟩ rfl rfl (Nat.le_of_ble_eq_true rfl) hl.1 dX6_scanWord_52 hcs (fun H locs hR hS => ?_)
  refine lv_i2l (v := (o52.1 : Int32).toInt64) hx hb dX6_scanWord_55 rfl ?_
  refine lv_ladd hx hb dX6_scanWord_56 ?_
  refine lv_lstore_n (lv' := [(2, .long ((x2 * 37) + ((o52.1 : Int32).toInt64))), (0, .ref x0), (1, .int x1), (4, .int x4)]) hx hb dX6_scanWord_57 rfl hl (by decide) rfl (fun ls hl => ?_)
  refine lv_iinc (v := x4 + 1) (lv' := [(4, .int (x4 + 1)), (2, .long ((x2 * 37) + ((o52.1 : Int32).toInt64))), (0, .ref x0), (1, .int x1)]) hx hb dX6_scanWord_58 hl (k := 3) rfl rfl (by decide) rfl (fun ls hl => ?_)
  refine lv_goto (tgt := 5) hx hb dX6_scanWord_61 (by decide) ?_
  exact hr5 _ _ _ _ _ _ _ _ hf hR hS (lv_sub hl [2, 3, 1, 0] rfl)
def lC_X6_scanWord_5 (N : Nat) (K : Ka) (k64 : Nat → Int32 → Int64 → Int32 → Cm → Option (Int32 × Cm)) : Nat → Nat → Int32 → Int64 → Int32 → Cm → Option (Int32 × Cm)
  | 0, _, _, _, _, _ => none
  | n + 1, x0, x1, x2, x4, M => gd (kd K x0 == 7) (if (cI M x0 5) ≤ x4 then (k64 x0 x1 x2 x4 M) else (nn (cR M x0 0) fun a1 => gd (kd K a1 == 21) (ck x4 (le K a1) ((fC_X6_isLetter N K (cI M a1 (x4 : Int32).toNatClampNeg) M).bind fun o21 => if o21.1 = 0 then (nn (cR o21.2 x0 0) fun a2 => gd (kd K a2 == 21) (ck x4 (le K a2) ((fC_X6_isDigit N K (cI o21.2 a2 (x4 : Int32).toNatClampNeg) o21.2).bind fun o34 => if o34.1 = 0 then (k64 x0 x1 x2 x4 o34.2) else ((bC_X6_scanWord_40 N K (lC_X6_scanWord_5 N K k64 n) k64) x0 x1 x2 x4 o34.2)))) else ((bC_X6_scanWord_40 N K (lC_X6_scanWord_5 N K k64 n) k64) x0 x1 x2 x4 o21.2)))))
set_option maxRecDepth 100000 in
set_option maxHeartbeats 4000000 in
theorem wlC_X6_scanWord_5 {p : Program} {l : Launch} {e : Env} {R : Room} {s : State} {m : MethodId} {args : Array Value} {below : List Frame} {meth : Method} {c : Code} {x : Xc} {o : Int32 × Cm} {N : Nat} {K : Ka} {k64 : Nat → Int32 → Int64 → Int32 → Cm → Option (Int32 × Cm)} (CX : CC p s m args meth c x K RX6 cX6_scanWord 6 (some .int)) (hRm : 2 ≤ R.frames ∧ 40 ≤ R.locals) (hk64 : ∀ (x0 : Nat) (x1 : Int32) (x2 : Int64) (x4 : Int32) (M : Cm) (H : Heap) (locs : List Loc) (ls : Array Slot), k64 x0 x1 x2 x4 M = some o → RC x K M H → va_S (AC K) s.heap H locs → lv_has ls 6 [(0, .ref x0), (1, .int x1), (2, .long x2), (4, .int x4)] → W p l e R s m args below meth c H locs 0 0 (MQ below (CQI x K o) args s 0 0 (AC K)) (F0 m 64 ls [])) : ∀ (n : Nat) (x0 : Nat) (x1 : Int32) (x2 : Int64) (x4 : Int32) (M : Cm) (H : Heap) (locs : List Loc) (ls : Array Slot), lC_X6_scanWord_5 N K k64 n x0 x1 x2 x4 M = some o → RC x K M H → va_S (AC K) s.heap H locs → lv_has ls 6 [(0, .ref x0), (1, .int x1), (2, .long x2), (4, .int x4)] → W p l e R s m args below meth c H locs 0 0 (MQ below (CQI x K o) args s 0 0 (AC K)) (F0 m 5 ls []) := by
  obtain ⟨hx, hb, hml, hown, hts, hE, hB, hr, hlk⟩ := id CX
  have hL : KLe K K := KLe.rf K
  have hcs : 0 ≤ R.cells ∧ 0 ≤ R.slots := ⟨Nat.zero_le _, Nat.zero_le _⟩
  intro n
  induction n with
  | zero => intro x0 x1 x2 x4 M H locs ls hf; cases hf
  | succ n ih =>
    intro x0 x1 x2 x4 M H locs ls hf hR hS hl
    rw [lC_X6_scanWord_5] at hf
    refine lv_iload hx hb dX6_scanWord_5 (lv_at hl 3 rfl) ?_
    refine lv_aload_n hx hb dX6_scanWord_7 rfl (lv_at hl 0 rfl) ?_
    obtain ⟨hk_x0_7, hf⟩ := gd_some hf
    refine cr_getI kc_6 CX hR fa_X6_29 rfl hk_x0_7 dX6_scanWord_8 ?_
    refine lv_icmp_ge (tgt := 64) hx hb dX6_scanWord_11 (by decide) (fun hc => ?_) (fun hc => ?_)
    · rw [if_pos hc] at hf
      exact hk64 _ _ _ _ _ _ _ _ hf hR hS (lv_sub hl [0, 1, 2, 3] rfl)
    · rw [if_neg hc] at hf
      refine lv_aload_n hx hb dX6_scanWord_14 rfl (lv_at hl 0 rfl) ?_
      refine cr_getR kc_6 CX hR fa_X6_9 rfl hk_x0_7 dX6_scanWord_15 ?_
      refine lv_iload hx hb dX6_scanWord_18 (lv_at hl 3 rfl) ?_
      obtain ⟨a1, ha1, hf⟩ := nn_some hf
      refine rf_1 ha1 ?_
      obtain ⟨hk_a1_21, hf⟩ := gd_some hf
      obtain ⟨hi, hf⟩ := ck_some hf
      refine cr_cald CX hR hk_a1_21 hi dX6_scanWord_20 ?_
      obtain ⟨o21, ho21, hf⟩ := bnd_some hf
      refine cr_callIs CX hR hL hS (As := [.int (cI M a1 (x4 : Int32).toNatClampNeg)]) (rest := []) (MC_X6_isLetter l x N K (cI M a1 (x4 : Int32).toNatClampNeg) M o21 ho21) cs_X6_54 ⟨by omega, by omega⟩ rfl rfl (Nat.le_of_ble_eq_true rfl) hl.1 dX6_scanWord_21 hcs (fun H locs hR hS => ?_)
      refine lv_if_ne (tgt := 40) hx hb dX6_scanWord_24 (by decide) (fun hc => ?_) (fun hc => ?_)
      · rw [if_neg hc] at hf
        exact (wbC_X6_scanWord_40 CX hRm ih hk64) _ _ _ _ _ _ _ _ hf hR hS (lv_sub hl [0, 1, 2, 3] rfl)
      · rw [if_pos hc] at hf
        refine lv_aload_n hx hb dX6_scanWord_27 rfl (lv_at hl 0 rfl) ?_
        refine cr_getR kc_6 CX hR fa_X6_9 rfl hk_x0_7 dX6_scanWord_28 ?_
        refine lv_iload hx hb dX6_scanWord_31 (lv_at hl 3 rfl) ?_
        obtain ⟨a2, ha2, hf⟩ := nn_some hf
        refine rf_1 ha2 ?_
        obtain ⟨hk_a2_21, hf⟩ := gd_some hf
        obtain ⟨hi, hf⟩ := ck_some hf
        refine cr_cald CX hR hk_a2_21 hi dX6_scanWord_33 ?_
        obtain ⟨o34, ho34, hf⟩ := bnd_some hf
        refine cr_callIs CX hR hL hS (As := [.int (cI o21.2 a2 (x4 : Int32).toNatClampNeg)]) (rest := []) (MC_X6_isDigit l x N K (cI o21.2 a2 (x4 : Int32).toNatClampNeg) o21.2 o34 ho34) cs_X6_62 ⟨by omega, by omega⟩ rfl rfl (Nat.le_of_ble_eq_true rfl) hl.1 dX6_scanWord_34 hcs (fun H locs hR hS => ?_)
        refine lv_if_eq (tgt := 64) hx hb dX6_scanWord_37 (by decide) (fun hc => ?_) (fun hc => ?_)
        · rw [if_pos hc] at hf
          exact hk64 _ _ _ _ _ _ _ _ hf hR hS (lv_sub hl [0, 1, 2, 3] rfl)
        · rw [if_neg hc] at hf
          exact (wbC_X6_scanWord_40 CX hRm ih hk64) _ _ _ _ _ _ _ _ hf hR hS (lv_sub hl [0, 1, 2, 3] rfl)
def bC_X6_scanWord_112 (N : Nat) (K : Ka) (x0 : Nat) (x1 : Int32) (x2 : Int64) (x4 : Int32) (s0 : Nat) (s1 : Int32) (M : Cm) : Option (Int32 × Cm) := gd (kd K s0 == 7) ((fC_X6_addToken N K s0 s1 x1 x2 M).bind fun o114 => some (x4, o114))
set_option maxRecDepth 100000 in
set_option maxHeartbeats 4000000 in
theorem wbC_X6_scanWord_112 {p : Program} {l : Launch} {e : Env} {R : Room} {s : State} {m : MethodId} {args : Array Value} {below : List Frame} {meth : Method} {c : Code} {x : Xc} {o : Int32 × Cm} {N : Nat} {K : Ka} (CX : CC p s m args meth c x K RX6 cX6_scanWord 6 (some .int)) (hRm : 2 ≤ R.frames ∧ 40 ≤ R.locals) (x0 : Nat) (x1 : Int32) (x2 : Int64) (x4 : Int32) (s0 : Nat) (s1 : Int32) (M : Cm) (H : Heap) (locs : List Loc) (ls : Array Slot) (hf : bC_X6_scanWord_112 N K x0 x1 x2 x4 s0 s1 M = some o) (hR : RC x K M H) (hS : va_S (AC K) s.heap H locs) (hl : lv_has ls 6 [(0, .ref x0), (1, .int x1), (2, .long x2), (4, .int x4)]) : W p l e R s m args below meth c H locs 0 0 (MQ below (CQI x K o) args s 0 0 (AC K)) (F0 m 112 ls [.int s1, .ref s0]) := by
  obtain ⟨hx, hb, hml, hown, hts, hE, hB, hr, hlk⟩ := id CX
  have hL : KLe K K := KLe.rf K
  have hcs : 0 ≤ R.cells ∧ 0 ≤ R.slots := ⟨Nat.zero_le _, Nat.zero_le _⟩
  unfold bC_X6_scanWord_112 at hf
  refine lv_iload_n hx hb dX6_scanWord_112 rfl (lv_at hl 1 rfl) ?_
  refine lv_lload_n hx hb dX6_scanWord_113 rfl (lv_at hl 2 rfl) ?_
  obtain ⟨hk_s0_7, hf⟩ := gd_some hf
  obtain ⟨o114, ho114, hf⟩ := bnd_some hf
  refine cr_callVv kc_6 CX hR hL hS (As := [.int s1, .int x1, .long x2]) (rest := []) hk_s0_7 (MC_X6_addToken l x N K s0 s1 x1 x2 M o114 ho114) cv_X6_73 ⟨by omega, by omega⟩ rfl rfl (Nat.le_of_ble_eq_true rfl) hl.1 dX6_scanWord_114 hcs (fun H locs hR hS => ?_)
  refine lv_iload hx hb dX6_scanWord_117 (lv_at hl 3 rfl) ?_
  exact cr_iret CX hR hS hf dX6_scanWord_119
def bC_X6_scanWord_64 (N : Nat) (K : Ka) (x0 : Nat) (x1 : Int32) (x2 : Int64) (x4 : Int32) (M : Cm) : Option (Int32 × Cm) := if (x4 - x1) ≤ 12 then (gd (kd K x0 == 7) (nn (cR M x0 4) fun a1 => (fC_X8_rankOf N K x2 a1 25 M).bind fun o90 => if o90.1 = (-1) then ((bC_X6_scanWord_112 N K) x0 x1 x2 x4 x0 2 o90.2) else ((bC_X6_scanWord_112 N K) x0 x1 x2 x4 x0 (128 + o90.1) o90.2))) else (gd (kd K x0 == 7) ((fC_X6_addToken N K x0 1 x1 0 M).bind fun o77 => some (x4, o77)))
set_option maxRecDepth 100000 in
set_option maxHeartbeats 4000000 in
theorem wbC_X6_scanWord_64 {p : Program} {l : Launch} {e : Env} {R : Room} {s : State} {m : MethodId} {args : Array Value} {below : List Frame} {meth : Method} {c : Code} {x : Xc} {o : Int32 × Cm} {N : Nat} {K : Ka} (CX : CC p s m args meth c x K RX6 cX6_scanWord 6 (some .int)) (hRm : 2 ≤ R.frames ∧ 40 ≤ R.locals) (x0 : Nat) (x1 : Int32) (x2 : Int64) (x4 : Int32) (M : Cm) (H : Heap) (locs : List Loc) (ls : Array Slot) (hf : bC_X6_scanWord_64 N K x0 x1 x2 x4 M = some o) (hR : RC x K M H) (hS : va_S (AC K) s.heap H locs) (hl : lv_has ls 6 [(0, .ref x0), (1, .int x1), (2, .long x2), (4, .int x4)]) : W p l e R s m args below meth c H locs 0 0 (MQ below (CQI x K o) args s 0 0 (AC K)) (F0 m 64 ls []) := by
  obtain ⟨hx, hb, hml, hown, hts, hE, hB, hr, hlk⟩ := id CX
  have hL : KLe K K := KLe.rf K
  have hcs : 0 ≤ R.cells ∧ 0 ≤ R.slots := ⟨Nat.zero_le _, Nat.zero_le _⟩
  unfold bC_X6_scanWord_64 at hf
  refine lv_iload hx hb dX6_scanWord_64 (lv_at hl 3 rfl) ?_
  refine lv_iload_n hx hb dX6_scanWord_66 rfl (lv_at hl 1 rfl) ?_
  refine lv_isub hx hb dX6_scanWord_67 ?_
  refine lv_bipush (v := 12) hx hb dX6_scanWord_68 (by decide) ?_
  refine lv_icmp_le (tgt := 83) hx hb dX6_scanWord_70 (by decide) (fun hc => ?_) (fun hc => ?_)
  · rw [if_pos hc] at hf
    refine lv_lload_n hx hb dX6_scanWord_83 rfl (lv_at hl 2 rfl) ?_
    refine lv_aload_n hx hb dX6_scanWord_84 rfl (lv_at hl 0 rfl) ?_
    obtain ⟨hk_x0_7, hf⟩ := gd_some hf
    refine cr_getR kc_6 CX hR fa_X6_26 rfl hk_x0_7 dX6_scanWord_85 ?_
    refine lv_bipush (v := 25) hx hb dX6_scanWord_88 (by decide) ?_
    obtain ⟨a1, ha1, hf⟩ := nn_some hf
    refine rf_1 ha1 ?_
    obtain ⟨o90, ho90, hf⟩ := bnd_some hf
    refine cr_callIs CX hR hL hS (As := [.long x2, .ref a1, .int 25]) (rest := []) (MC_X8_rankOf l x N K x2 a1 25 M o90 ho90) cs_X6_77 ⟨by omega, by omega⟩ rfl rfl (Nat.le_of_ble_eq_true rfl) hl.1 dX6_scanWord_90 hcs (fun H locs hR hS => ?_)
    refine lv_istore (lv' := [(5, .int o90.1), (0, .ref x0), (1, .int x1), (2, .long x2), (4, .int x4)]) hx hb dX6_scanWord_93 hl (by decide) rfl (fun ls hl => ?_)
    refine lv_aload_n hx hb dX6_scanWord_95 rfl (lv_at hl 1 rfl) ?_
    refine lv_iload hx hb dX6_scanWord_96 (lv_at hl 0 rfl) ?_
    refine lv_iconst (v := (-1)) hx hb dX6_scanWord_98 (by decide) ?_
    refine lv_icmp_ne (tgt := 106) hx hb dX6_scanWord_99 (by decide) (fun hc => ?_) (fun hc => ?_)
    · rw [if_neg hc] at hf
      refine lv_sipush (v := 128) hx hb dX6_scanWord_106 (by decide) ?_
      refine lv_iload hx hb dX6_scanWord_109 (lv_at hl 0 rfl) ?_
      refine lv_iadd hx hb dX6_scanWord_111 ?_
      exact (wbC_X6_scanWord_112 CX hRm) _ _ _ _ _ _ _ _ _ _ hf hR hS (lv_sub hl [1, 2, 3, 4] rfl)
    · rw [if_pos hc] at hf
      refine lv_iconst (v := 2) hx hb dX6_scanWord_102 (by decide) ?_
      refine lv_goto (tgt := 112) hx hb dX6_scanWord_103 (by decide) ?_
      exact (wbC_X6_scanWord_112 CX hRm) _ _ _ _ _ _ _ _ _ _ hf hR hS (lv_sub hl [1, 2, 3, 4] rfl)
  · rw [if_neg hc] at hf
    refine lv_aload_n hx hb dX6_scanWord_73 rfl (lv_at hl 0 rfl) ?_
    refine lv_iconst (v := 1) hx hb dX6_scanWord_74 (by decide) ?_
    refine lv_iload_n hx hb dX6_scanWord_75 rfl (lv_at hl 1 rfl) ?_
    refine lv_lconst (v := 0) hx hb dX6_scanWord_76 (by decide) ?_
    obtain ⟨hk_x0_7, hf⟩ := gd_some hf
    obtain ⟨o77, ho77, hf⟩ := bnd_some hf
    refine cr_callVv kc_6 CX hR hL hS (As := [.int 1, .int x1, .long 0]) (rest := []) hk_x0_7 (MC_X6_addToken l x N K x0 1 x1 0 M o77 ho77) cv_X6_73 ⟨by omega, by omega⟩ rfl rfl (Nat.le_of_ble_eq_true rfl) hl.1 dX6_scanWord_77 hcs (fun H locs hR hS => ?_)
    refine lv_iload hx hb dX6_scanWord_80 (lv_at hl 3 rfl) ?_
    exact cr_iret CX hR hS hf dX6_scanWord_82
def fC_X6_scanWord (N : Nat) (K : Ka) (x0 : Nat) (x1 : Int32) (M : Cm) : Option (Int32 × Cm) := (lC_X6_scanWord_5 N K (bC_X6_scanWord_64 N K) N) x0 x1 0 x1 M
set_option maxRecDepth 100000 in
set_option maxHeartbeats 4000000 in
theorem wfC_X6_scanWord {p : Program} {l : Launch} {e : Env} {R : Room} {s : State} {m : MethodId} {args : Array Value} {below : List Frame} {meth : Method} {c : Code} {x : Xc} {o : Int32 × Cm} {N : Nat} {K : Ka} (CX : CC p s m args meth c x K RX6 cX6_scanWord 6 (some .int)) (hRm : 2 ≤ R.frames ∧ 40 ≤ R.locals) (x0 : Nat) (x1 : Int32) (M : Cm) (H : Heap) (locs : List Loc) (ls : Array Slot) (hf : fC_X6_scanWord N K x0 x1 M = some o) (hR : RC x K M H) (hS : va_S (AC K) s.heap H locs) (hl : lv_has ls 6 [(0, .ref x0), (1, .int x1)]) : W p l e R s m args below meth c H locs 0 0 (MQ below (CQI x K o) args s 0 0 (AC K)) (F0 m 0 ls []) := by
  obtain ⟨hx, hb, hml, hown, hts, hE, hB, hr, hlk⟩ := id CX
  have hL : KLe K K := KLe.rf K
  have hcs : 0 ≤ R.cells ∧ 0 ≤ R.slots := ⟨Nat.zero_le _, Nat.zero_le _⟩
  unfold fC_X6_scanWord at hf
  refine lv_lconst (v := 0) hx hb dX6_scanWord_0 (by decide) ?_
  refine lv_lstore_n (lv' := [(2, .long 0), (0, .ref x0), (1, .int x1)]) hx hb dX6_scanWord_1 rfl hl (by decide) rfl (fun ls hl => ?_)
  refine lv_iload_n hx hb dX6_scanWord_2 rfl (lv_at hl 2 rfl) ?_
  refine lv_istore (lv' := [(4, .int x1), (2, .long 0), (0, .ref x0), (1, .int x1)]) hx hb dX6_scanWord_3 hl (by decide) rfl (fun ls hl => ?_)
  exact (wlC_X6_scanWord_5 CX hRm (wbC_X6_scanWord_64 CX hRm) N) _ _ _ _ _ _ _ _ hf hR hS (lv_sub hl [2, 3, 1, 0] rfl)
theorem MC_X6_scanWord (l : Launch) (x : Xc) (N : Nat) (K : Ka) (x0 : Nat) (x1 : Int32) (M : Cm) (o : Int32 × Cm) (hf : fC_X6_scanWord N K x0 x1 M = some o) : CtI l x yX6_scanWord cX6_scanWord 6 (some .int) 2 40 [.ref x0, .int x1] K M o :=
  cr_metI RX6 (by decide) rfl (Nat.le_of_ble_eq_true rfl) (fun p e s m args below meth c ls CX hR hl => wfC_X6_scanWord CX ⟨Nat.le_refl _, Nat.le_refl _⟩ x0 x1 M s.heap [] ls hf hR va_S.rf hl)
def bC_X6_scan_98 (N : Nat) (K : Ka) (r9 : Nat → Int32 → Int32 → Cm → Option (Cm)) (k104 : Nat → Cm → Option (Cm)) (x0 : Nat) (x1 : Int32) (x2 : Int32) (M : Cm) : Option (Cm) := r9 x0 x1 (x2 + 1) M
set_option maxRecDepth 100000 in
set_option maxHeartbeats 4000000 in
theorem wbC_X6_scan_98 {p : Program} {l : Launch} {e : Env} {R : Room} {s : State} {m : MethodId} {args : Array Value} {below : List Frame} {meth : Method} {c : Code} {x : Xc} {o : Cm} {N : Nat} {K : Ka} {r9 : Nat → Int32 → Int32 → Cm → Option (Cm)} {k104 : Nat → Cm → Option (Cm)} (CX : CC p s m args meth c x K RX6 cX6_scan 4 none) (hRm : 4 ≤ R.frames ∧ 106 ≤ R.locals) (hr9 : ∀ (x0 : Nat) (x1 : Int32) (x2 : Int32) (M : Cm) (H : Heap) (locs : List Loc) (ls : Array Slot), r9 x0 x1 x2 M = some o → RC x K M H → va_S (AC K) s.heap H locs → lv_has ls 4 [(0, .ref x0), (1, .int x1), (2, .int x2)] → W p l e R s m args below meth c H locs 0 0 (MQ below (CQV x K o) args s 0 0 (AC K)) (F0 m 9 ls [])) (hk104 : ∀ (x0 : Nat) (M : Cm) (H : Heap) (locs : List Loc) (ls : Array Slot), k104 x0 M = some o → RC x K M H → va_S (AC K) s.heap H locs → lv_has ls 4 [(0, .ref x0)] → W p l e R s m args below meth c H locs 0 0 (MQ below (CQV x K o) args s 0 0 (AC K)) (F0 m 104 ls [])) (x0 : Nat) (x1 : Int32) (x2 : Int32) (M : Cm) (H : Heap) (locs : List Loc) (ls : Array Slot) (hf : bC_X6_scan_98 N K r9 k104 x0 x1 x2 M = some o) (hR : RC x K M H) (hS : va_S (AC K) s.heap H locs) (hl : lv_has ls 4 [(0, .ref x0), (1, .int x1), (2, .int x2)]) : W p l e R s m args below meth c H locs 0 0 (MQ below (CQV x K o) args s 0 0 (AC K)) (F0 m 98 ls []) := by
  obtain ⟨hx, hb, hml, hown, hts, hE, hB, hr, hlk⟩ := id CX
  have hL : KLe K K := KLe.rf K
  have hcs : 0 ≤ R.cells ∧ 0 ≤ R.slots := ⟨Nat.zero_le _, Nat.zero_le _⟩
  unfold bC_X6_scan_98 at hf
  refine lv_iinc (v := x2 + 1) (lv' := [(2, .int (x2 + 1)), (0, .ref x0), (1, .int x1)]) hx hb dX6_scan_98 hl (k := 2) rfl rfl (by decide) rfl (fun ls hl => ?_)
  refine lv_goto (tgt := 9) hx hb dX6_scan_101 (by decide) ?_
  exact hr9 _ _ _ _ _ _ _ hf hR hS (lv_sub hl [1, 2, 0] rfl)
def bC_X6_scan_95 (N : Nat) (K : Ka) (r9 : Nat → Int32 → Int32 → Cm → Option (Cm)) (k104 : Nat → Cm → Option (Cm)) (x0 : Nat) (x1 : Int32) (x2 : Int32) (M : Cm) : Option (Cm) := (bC_X6_scan_98 N K r9 k104) x0 (x1 + 1) x2 M
set_option maxRecDepth 100000 in
set_option maxHeartbeats 4000000 in
theorem wbC_X6_scan_95 {p : Program} {l : Launch} {e : Env} {R : Room} {s : State} {m : MethodId} {args : Array Value} {below : List Frame} {meth : Method} {c : Code} {x : Xc} {o : Cm} {N : Nat} {K : Ka} {r9 : Nat → Int32 → Int32 → Cm → Option (Cm)} {k104 : Nat → Cm → Option (Cm)} (CX : CC p s m args meth c x K RX6 cX6_scan 4 none) (hRm : 4 ≤ R.frames ∧ 106 ≤ R.locals) (hr9 : ∀ (x0 : Nat) (x1 : Int32) (x2 : Int32) (M : Cm) (H : Heap) (locs : List Loc) (ls : Array Slot), r9 x0 x1 x2 M = some o → RC x K M H → va_S (AC K) s.heap H locs → lv_has ls 4 [(0, .ref x0), (1, .int x1), (2, .int x2)] → W p l e R s m args below meth c H locs 0 0 (MQ below (CQV x K o) args s 0 0 (AC K)) (F0 m 9 ls [])) (hk104 : ∀ (x0 : Nat) (M : Cm) (H : Heap) (locs : List Loc) (ls : Array Slot), k104 x0 M = some o → RC x K M H → va_S (AC K) s.heap H locs → lv_has ls 4 [(0, .ref x0)] → W p l e R s m args below meth c H locs 0 0 (MQ below (CQV x K o) args s 0 0 (AC K)) (F0 m 104 ls [])) (x0 : Nat) (x1 : Int32) (x2 : Int32) (M : Cm) (H : Heap) (locs : List Loc) (ls : Array Slot) (hf : bC_X6_scan_95 N K r9 k104 x0 x1 x2 M = some o) (hR : RC x K M H) (hS : va_S (AC K) s.heap H locs) (hl : lv_has ls 4 [(0, .ref x0), (1, .int x1), (2, .int x2)]) : W p l e R s m args below meth c H locs 0 0 (MQ below (CQV x K o) args s 0 0 (AC K)) (F0 m 95 ls []) := by
  obtain ⟨hx, hb, hml, hown, hts, hE, hB, hr, hlk⟩ := id CX
  have hL : KLe K K := KLe.rf K
  have hcs : 0 ≤ R.cells ∧ 0 ≤ R.slots := ⟨Nat.zero_le _, Nat.zero_le _⟩
  unfold bC_X6_scan_95 at hf
  refine lv_iinc (v := x1 + 1) (lv' := [(1, .int (x1 + 1)), (0, .ref x0), (2, .int x2)]) hx hb dX6_scan_95 hl (k := 1) rfl rfl (by decide) rfl (fun ls hl => ?_)
  exact (wbC_X6_scan_98 CX hRm hr9 hk104) _ _ _ _ _ _ _ hf hR hS (lv_sub hl [1, 0, 2] rfl)
def bC_X6_scan_90 (N : Nat) (K : Ka) (r9 : Nat → Int32 → Int32 → Cm → Option (Cm)) (k104 : Nat → Cm → Option (Cm)) (x0 : Nat) (x1 : Int32) (x2 : Int32) (s0 : Nat) (s1 : Int32) (M : Cm) : Option (Cm) := gd (kd K s0 == 7) ((fC_X6_addToken N K s0 s1 x1 0 M).bind fun o92 => (bC_X6_scan_95 N K r9 k104) x0 x1 x2 o92)
set_option maxRecDepth 100000 in
set_option maxHeartbeats 4000000 in
theorem wbC_X6_scan_90 {p : Program} {l : Launch} {e : Env} {R : Room} {s : State} {m : MethodId} {args : Array Value} {below : List Frame} {meth : Method} {c : Code} {x : Xc} {o : Cm} {N : Nat} {K : Ka} {r9 : Nat → Int32 → Int32 → Cm → Option (Cm)} {k104 : Nat → Cm → Option (Cm)} (CX : CC p s m args meth c x K RX6 cX6_scan 4 none) (hRm : 4 ≤ R.frames ∧ 106 ≤ R.locals) (hr9 : ∀ (x0 : Nat) (x1 : Int32) (x2 : Int32) (M : Cm) (H : Heap) (locs : List Loc) (ls : Array Slot), r9 x0 x1 x2 M = some o → RC x K M H → va_S (AC K) s.heap H locs → lv_has ls 4 [(0, .ref x0), (1, .int x1), (2, .int x2)] → W p l e R s m args below meth c H locs 0 0 (MQ below (CQV x K o) args s 0 0 (AC K)) (F0 m 9 ls [])) (hk104 : ∀ (x0 : Nat) (M : Cm) (H : Heap) (locs : List Loc) (ls : Array Slot), k104 x0 M = some o → RC x K M H → va_S (AC K) s.heap H locs → lv_has ls 4 [(0, .ref x0)] → W p l e R s m args below meth c H locs 0 0 (MQ below (CQV x K o) args s 0 0 (AC K)) (F0 m 104 ls [])) (x0 : Nat) (x1 : Int32) (x2 : Int32) (s0 : Nat) (s1 : Int32) (M : Cm) (H : Heap) (locs : List Loc) (ls : Array Slot) (hf : bC_X6_scan_90 N K r9 k104 x0 x1 x2 s0 s1 M = some o) (hR : RC x K M H) (hS : va_S (AC K) s.heap H locs) (hl : lv_has ls 4 [(0, .ref x0), (1, .int x1), (2, .int x2)]) : W p l e R s m args below meth c H locs 0 0 (MQ below (CQV x K o) args s 0 0 (AC K)) (F0 m 90 ls [.int s1, .ref s0]) := by
  obtain ⟨hx, hb, hml, hown, hts, hE, hB, hr, hlk⟩ := id CX
  have hL : KLe K K := KLe.rf K
  have hcs : 0 ≤ R.cells ∧ 0 ≤ R.slots := ⟨Nat.zero_le _, Nat.zero_le _⟩
  unfold bC_X6_scan_90 at hf
  refine lv_iload_n hx hb dX6_scan_90 rfl (lv_at hl 1 rfl) ?_
  refine lv_lconst (v := 0) hx hb dX6_scan_91 (by decide) ?_
  obtain ⟨hk_s0_7, hf⟩ := gd_some hf
  obtain ⟨o92, ho92, hf⟩ := bnd_some hf
  refine cr_callVv kc_6 CX hR hL hS (As := [.int s1, .int x1, .long 0]) (rest := []) hk_s0_7 (MC_X6_addToken l x N K s0 s1 x1 0 M o92 ho92) cv_X6_73 ⟨by omega, by omega⟩ rfl rfl (Nat.le_of_ble_eq_true rfl) hl.1 dX6_scan_92 hcs (fun H locs hR hS => ?_)
  exact (wbC_X6_scan_95 CX hRm hr9 hk104) _ _ _ _ _ _ _ hf hR hS (lv_sub hl [0, 1, 2] rfl)
def lC_X6_scan_9 (N : Nat) (K : Ka) (k104 : Nat → Cm → Option (Cm)) : Nat → Nat → Int32 → Int32 → Cm → Option (Cm)
  | 0, _, _, _, _ => none
  | n + 1, x0, x1, x2, M => if 4000 ≤ x2 then (k104 x0 M) else (gd (kd K x0 == 7) (if (cI M x0 5) ≤ x1 then (k104 x0 M) else (nn (cR M x0 0) fun a1 => gd (kd K a1 == 21) (ck x1 (le K a1) ((fC_X6_isLetter N K (cI M a1 (x1 : Int32).toNatClampNeg) M).bind fun o32 => if o32.1 = 0 then ((fC_X6_isDigit N K (cI M a1 (x1 : Int32).toNatClampNeg) o32.2).bind fun o48 => if o48.1 = 0 then (if (cI M a1 (x1 : Int32).toNatClampNeg) = 32 then ((bC_X6_scan_95 N K (lC_X6_scan_9 N K k104 n) k104) x0 x1 x2 o48.2) else (if (cI M a1 (x1 : Int32).toNatClampNeg) = 10 then ((bC_X6_scan_95 N K (lC_X6_scan_9 N K k104 n) k104) x0 x1 x2 o48.2) else (gd (decide (1 < strN)) ((fC_J0_indexOf_0f7a4 N K 1 (cI M a1 (x1 : Int32).toNatClampNeg) o48.2).bind fun o79 => if o79.1 < 0 then ((bC_X6_scan_90 N K (lC_X6_scan_9 N K k104 n) k104) x0 x1 x2 x0 1 o79.2) else ((bC_X6_scan_90 N K (lC_X6_scan_9 N K k104 n) k104) x0 x1 x2 x0 (cI M a1 (x1 : Int32).toNatClampNeg) o79.2))))) else ((fC_X6_scanNumber N K x0 x1 o48.2).bind fun o56 => (bC_X6_scan_98 N K (lC_X6_scan_9 N K k104 n) k104) x0 o56.1 x2 o56.2)) else ((fC_X6_scanWord N K x0 x1 o32.2).bind fun o40 => (bC_X6_scan_98 N K (lC_X6_scan_9 N K k104 n) k104) x0 o40.1 x2 o40.2))))))
set_option maxRecDepth 100000 in
set_option maxHeartbeats 4000000 in
theorem wlC_X6_scan_9 {p : Program} {l : Launch} {e : Env} {R : Room} {s : State} {m : MethodId} {args : Array Value} {below : List Frame} {meth : Method} {c : Code} {x : Xc} {o : Cm} {N : Nat} {K : Ka} {k104 : Nat → Cm → Option (Cm)} (CX : CC p s m args meth c x K RX6 cX6_scan 4 none) (hRm : 4 ≤ R.frames ∧ 106 ≤ R.locals) (hk104 : ∀ (x0 : Nat) (M : Cm) (H : Heap) (locs : List Loc) (ls : Array Slot), k104 x0 M = some o → RC x K M H → va_S (AC K) s.heap H locs → lv_has ls 4 [(0, .ref x0)] → W p l e R s m args below meth c H locs 0 0 (MQ below (CQV x K o) args s 0 0 (AC K)) (F0 m 104 ls [])) : ∀ (n : Nat) (x0 : Nat) (x1 : Int32) (x2 : Int32) (M : Cm) (H : Heap) (locs : List Loc) (ls : Array Slot), lC_X6_scan_9 N K k104 n x0 x1 x2 M = some o → RC x K M H → va_S (AC K) s.heap H locs → lv_has ls 4 [(0, .ref x0), (1, .int x1), (2, .int x2)] → W p l e R s m args below meth c H locs 0 0 (MQ below (CQV x K o) args s 0 0 (AC K)) (F0 m 9 ls []) := by
  obtain ⟨hx, hb, hml, hown, hts, hE, hB, hr, hlk⟩ := id CX
  have hL : KLe K K := KLe.rf K
  have hcs : 0 ≤ R.cells ∧ 0 ≤ R.slots := ⟨Nat.zero_le _, Nat.zero_le _⟩
  intro n
  induction n with
  | zero => intro x0 x1 x2 M H locs ls hf; cases hf
  | succ n ih =>
    intro x0 x1 x2 M H locs ls hf hR hS hl
    rw [lC_X6_scan_9] at hf
    refine lv_iload_n hx hb dX6_scan_9 rfl (lv_at hl 2 rfl) ?_
    refine lv_sipush (v := 4000) hx hb dX6_scan_10 (by decide) ?_
    refine lv_icmp_ge (tgt := 104) hx hb dX6_scan_13 (by decide) (fun hc => ?_) (fun hc => ?_)
    · rw [if_pos hc] at hf
      exact hk104 _ _ _ _ _ hf hR hS (lv_sub hl [0] rfl)
    · rw [if_neg hc] at hf
      refine lv_iload_n hx hb dX6_scan_16 rfl (lv_at hl 1 rfl) ?_
      refine lv_aload_n hx hb dX6_scan_17 rfl (lv_at hl 0 rfl) ?_
      obtain ⟨hk_x0_7, hf⟩ := gd_some hf
      refine cr_getI kc_6 CX hR fa_X6_29 rfl hk_x0_7 dX6_scan_18 ?_
      refine lv_icmp_ge (tgt := 104) hx hb dX6_scan_21 (by decide) (fun hc => ?_) (fun hc => ?_)
      · rw [if_pos hc] at hf
        exact hk104 _ _ _ _ _ hf hR hS (lv_sub hl [0] rfl)
      · rw [if_neg hc] at hf
        refine lv_aload_n hx hb dX6_scan_24 rfl (lv_at hl 0 rfl) ?_
        refine cr_getR kc_6 CX hR fa_X6_9 rfl hk_x0_7 dX6_scan_25 ?_
        refine lv_iload_n hx hb dX6_scan_28 rfl (lv_at hl 1 rfl) ?_
        obtain ⟨a1, ha1, hf⟩ := nn_some hf
        refine rf_1 ha1 ?_
        obtain ⟨hk_a1_21, hf⟩ := gd_some hf
        obtain ⟨hi, hf⟩ := ck_some hf
        refine cr_cald CX hR hk_a1_21 hi dX6_scan_29 ?_
        refine lv_istore_n (lv' := [(3, .int (cI M a1 (x1 : Int32).toNatClampNeg)), (0, .ref x0), (1, .int x1), (2, .int x2)]) hx hb dX6_scan_30 rfl hl (by decide) rfl (fun ls hl => ?_)
        refine lv_iload_n hx hb dX6_scan_31 rfl (lv_at hl 0 rfl) ?_
        obtain ⟨o32, ho32, hf⟩ := bnd_some hf
        refine cr_callIs CX hR hL hS (As := [.int (cI M a1 (x1 : Int32).toNatClampNeg)]) (rest := []) (MC_X6_isLetter l x N K (cI M a1 (x1 : Int32).toNatClampNeg) M o32 ho32) cs_X6_54 ⟨by omega, by omega⟩ rfl rfl (Nat.le_of_ble_eq_true rfl) hl.1 dX6_scan_32 hcs (fun H locs hR hS => ?_)
        refine lv_if_eq (tgt := 47) hx hb dX6_scan_35 (by decide) (fun hc => ?_) (fun hc => ?_)
        · rw [if_pos hc] at hf
          refine lv_iload_n hx hb dX6_scan_47 rfl (lv_at hl 0 rfl) ?_
          obtain ⟨o48, ho48, hf⟩ := bnd_some hf
          refine cr_callIs CX hR hL hS (As := [.int (cI M a1 (x1 : Int32).toNatClampNeg)]) (rest := []) (MC_X6_isDigit l x N K (cI M a1 (x1 : Int32).toNatClampNeg) o32.2 o48 ho48) cs_X6_62 ⟨by omega, by omega⟩ rfl rfl (Nat.le_of_ble_eq_true rfl) hl.1 dX6_scan_48 hcs (fun H locs hR hS => ?_)
          refine lv_if_eq (tgt := 63) hx hb dX6_scan_51 (by decide) (fun hc => ?_) (fun hc => ?_)
          · rw [if_pos hc] at hf
            refine lv_iload_n hx hb dX6_scan_63 rfl (lv_at hl 0 rfl) ?_
            refine lv_bipush (v := 32) hx hb dX6_scan_64 (by decide) ?_
            refine lv_icmp_eq (tgt := 95) hx hb dX6_scan_66 (by decide) (fun hc => ?_) (fun hc => ?_)
            · rw [if_pos hc] at hf
              exact (wbC_X6_scan_95 CX hRm ih hk104) _ _ _ _ _ _ _ hf hR hS (lv_sub hl [1, 2, 3] rfl)
            · rw [if_neg hc] at hf
              refine lv_iload_n hx hb dX6_scan_69 rfl (lv_at hl 0 rfl) ?_
              refine lv_bipush (v := 10) hx hb dX6_scan_70 (by decide) ?_
              refine lv_icmp_eq (tgt := 95) hx hb dX6_scan_72 (by decide) (fun hc => ?_) (fun hc => ?_)
              · rw [if_pos hc] at hf
                exact (wbC_X6_scan_95 CX hRm ih hk104) _ _ _ _ _ _ _ hf hR hS (lv_sub hl [1, 2, 3] rfl)
              · rw [if_neg hc] at hf
                refine lv_aload_n hx hb dX6_scan_75 rfl (lv_at hl 1 rfl) ?_
                refine ss_ldc (i := 1) CX (by decide) dX6_scan_76 ?_
                refine lv_iload_n hx hb dX6_scan_78 rfl (lv_at hl 0 rfl) ?_
                obtain ⟨hs_1, hf⟩ := gd_some hf
                obtain ⟨o79, ho79, hf⟩ := bnd_some hf
                refine cr_callIvS CX hR hL hS (As := [.int (cI M a1 (x1 : Int32).toNatClampNeg)]) (rest := [.ref x0]) hs_1 (MC_J0_indexOf_0f7a4 l x N K 1 (cI M a1 (x1 : Int32).toNatClampNeg) o48.2 o79 ho79) cv_X6_70 ⟨by omega, by omega⟩ rfl rfl (Nat.le_of_ble_eq_true rfl) hl.1 dX6_scan_79 hcs (fun H locs hR hS => ?_)
                refine lv_if_lt (tgt := 89) hx hb dX6_scan_82 (by decide) (fun hc => ?_) (fun hc => ?_)
                · rw [if_pos hc] at hf
                  refine lv_iconst (v := 1) hx hb dX6_scan_89 (by decide) ?_
                  exact (wbC_X6_scan_90 CX hRm ih hk104) _ _ _ _ _ _ _ _ _ hf hR hS (lv_sub hl [1, 2, 3] rfl)
                · rw [if_neg hc] at hf
                  refine lv_iload_n hx hb dX6_scan_85 rfl (lv_at hl 0 rfl) ?_
                  refine lv_goto (tgt := 90) hx hb dX6_scan_86 (by decide) ?_
                  exact (wbC_X6_scan_90 CX hRm ih hk104) _ _ _ _ _ _ _ _ _ hf hR hS (lv_sub hl [1, 2, 3] rfl)
          · rw [if_neg hc] at hf
            refine lv_aload_n hx hb dX6_scan_54 rfl (lv_at hl 1 rfl) ?_
            refine lv_iload_n hx hb dX6_scan_55 rfl (lv_at hl 2 rfl) ?_
            obtain ⟨o56, ho56, hf⟩ := bnd_some hf
            refine cr_callIv kc_6 CX hR hL hS (As := [.int x1]) (rest := []) hk_x0_7 (MC_X6_scanNumber l x N K x0 x1 o48.2 o56 ho56) cv_X6_65 ⟨by omega, by omega⟩ rfl rfl (Nat.le_of_ble_eq_true rfl) hl.1 dX6_scan_56 hcs (fun H locs hR hS => ?_)
            refine lv_istore_n (lv' := [(1, .int o56.1), (3, .int (cI M a1 (x1 : Int32).toNatClampNeg)), (0, .ref x0), (2, .int x2)]) hx hb dX6_scan_59 rfl hl (by decide) rfl (fun ls hl => ?_)
            refine lv_goto (tgt := 98) hx hb dX6_scan_60 (by decide) ?_
            exact (wbC_X6_scan_98 CX hRm ih hk104) _ _ _ _ _ _ _ hf hR hS (lv_sub hl [2, 0, 3] rfl)
        · rw [if_neg hc] at hf
          refine lv_aload_n hx hb dX6_scan_38 rfl (lv_at hl 1 rfl) ?_
          refine lv_iload_n hx hb dX6_scan_39 rfl (lv_at hl 2 rfl) ?_
          obtain ⟨o40, ho40, hf⟩ := bnd_some hf
          refine cr_callIv kc_6 CX hR hL hS (As := [.int x1]) (rest := []) hk_x0_7 (MC_X6_scanWord l x N K x0 x1 o32.2 o40 ho40) cv_X6_58 ⟨by omega, by omega⟩ rfl rfl (Nat.le_of_ble_eq_true rfl) hl.1 dX6_scan_40 hcs (fun H locs hR hS => ?_)
          refine lv_istore_n (lv' := [(1, .int o40.1), (3, .int (cI M a1 (x1 : Int32).toNatClampNeg)), (0, .ref x0), (2, .int x2)]) hx hb dX6_scan_43 rfl hl (by decide) rfl (fun ls hl => ?_)
          refine lv_goto (tgt := 98) hx hb dX6_scan_44 (by decide) ?_
          exact (wbC_X6_scan_98 CX hRm ih hk104) _ _ _ _ _ _ _ hf hR hS (lv_sub hl [2, 0, 3] rfl)
def bC_X6_scan_104 (N : Nat) (K : Ka) (x0 : Nat) (M : Cm) : Option (Cm) := gd (kd K x0 == 7) ((fC_X6_addToken N K x0 0 (cI M x0 5) 0 M).bind fun o111 => some o111)
set_option maxRecDepth 100000 in
set_option maxHeartbeats 4000000 in
theorem wbC_X6_scan_104 {p : Program} {l : Launch} {e : Env} {R : Room} {s : State} {m : MethodId} {args : Array Value} {below : List Frame} {meth : Method} {c : Code} {x : Xc} {o : Cm} {N : Nat} {K : Ka} (CX : CC p s m args meth c x K RX6 cX6_scan 4 none) (hRm : 4 ≤ R.frames ∧ 106 ≤ R.locals) (x0 : Nat) (M : Cm) (H : Heap) (locs : List Loc) (ls : Array Slot) (hf : bC_X6_scan_104 N K x0 M = some o) (hR : RC x K M H) (hS : va_S (AC K) s.heap H locs) (hl : lv_has ls 4 [(0, .ref x0)]) : W p l e R s m args below meth c H locs 0 0 (MQ below (CQV x K o) args s 0 0 (AC K)) (F0 m 104 ls []) := by
  obtain ⟨hx, hb, hml, hown, hts, hE, hB, hr, hlk⟩ := id CX
  have hL : KLe K K := KLe.rf K
  have hcs : 0 ≤ R.cells ∧ 0 ≤ R.slots := ⟨Nat.zero_le _, Nat.zero_le _⟩
  unfold bC_X6_scan_104 at hf
  refine lv_aload_n hx hb dX6_scan_104 rfl (lv_at hl 0 rfl) ?_
  refine lv_iconst (v := 0) hx hb dX6_scan_105 (by decide) ?_
  refine lv_aload_n hx hb dX6_scan_106 rfl (lv_at hl 0 rfl) ?_
  obtain ⟨hk_x0_7, hf⟩ := gd_some hf
  refine cr_getI kc_6 CX hR fa_X6_29 rfl hk_x0_7 dX6_scan_107 ?_
  refine lv_lconst (v := 0) hx hb dX6_scan_110 (by decide) ?_
  obtain ⟨o111, ho111, hf⟩ := bnd_some hf
  refine cr_callVv kc_6 CX hR hL hS (As := [.int 0, .int (cI M x0 5), .long 0]) (rest := []) hk_x0_7 (MC_X6_addToken l x N K x0 0 (cI M x0 5) 0 M o111 ho111) cv_X6_73 ⟨by omega, by omega⟩ rfl rfl (Nat.le_of_ble_eq_true rfl) hl.1 dX6_scan_111 hcs (fun H locs hR hS => ?_)
  exact cr_vret CX hR hS hf dX6_scan_114
def fC_X6_scan (N : Nat) (K : Ka) (x0 : Nat) (M : Cm) : Option (Cm) := gd (kd K x0 == 7) ((lC_X6_scan_9 N K (bC_X6_scan_104 N K) N) x0 0 0 (wI M x0 6 0))
set_option maxRecDepth 100000 in
set_option maxHeartbeats 4000000 in
theorem wfC_X6_scan {p : Program} {l : Launch} {e : Env} {R : Room} {s : State} {m : MethodId} {args : Array Value} {below : List Frame} {meth : Method} {c : Code} {x : Xc} {o : Cm} {N : Nat} {K : Ka} (CX : CC p s m args meth c x K RX6 cX6_scan 4 none) (hRm : 4 ≤ R.frames ∧ 106 ≤ R.locals) (x0 : Nat) (M : Cm) (H : Heap) (locs : List Loc) (ls : Array Slot) (hf : fC_X6_scan N K x0 M = some o) (hR : RC x K M H) (hS : va_S (AC K) s.heap H locs) (hl : lv_has ls 4 [(0, .ref x0)]) : W p l e R s m args below meth c H locs 0 0 (MQ below (CQV x K o) args s 0 0 (AC K)) (F0 m 0 ls []) := by
  obtain ⟨hx, hb, hml, hown, hts, hE, hB, hr, hlk⟩ := id CX
  have hL : KLe K K := KLe.rf K
  have hcs : 0 ≤ R.cells ∧ 0 ≤ R.slots := ⟨Nat.zero_le _, Nat.zero_le _⟩
  unfold fC_X6_scan at hf
  refine lv_aload_n hx hb dX6_scan_0 rfl (lv_at hl 0 rfl) ?_
  refine lv_iconst (v := 0) hx hb dX6_scan_1 (by decide) ?_
  obtain ⟨hk_x0_7, hf⟩ := gd_some hf
  refine cr_putI kc_6 CX hR hL hS fa_X6_33 ⟨rfl, rfl, rfl⟩ hk_x0_7 dX6_scan_2 (fun H locs hR hS => ?_)
  refine lv_iconst (v := 0) hx hb dX6_scan_5 (by decide) ?_
  refine lv_istore_n (lv' := [(1, .int 0), (0, .ref x0)]) hx hb dX6_scan_6 rfl hl (by decide) rfl (fun ls hl => ?_)
  refine lv_iconst (v := 0) hx hb dX6_scan_7 (by decide) ?_
  refine lv_istore_n (lv' := [(2, .int 0), (1, .int 0), (0, .ref x0)]) hx hb dX6_scan_8 rfl hl (by decide) rfl (fun ls hl => ?_)
  exact (wlC_X6_scan_9 CX hRm (wbC_X6_scan_104 CX hRm) N) _ _ _ _ _ _ _ hf hR hS (lv_sub hl [2, 1, 0] rfl)
theorem MC_X6_scan (l : Launch) (x : Xc) (N : Nat) (K : Ka) (x0 : Nat) (M : Cm) (o : Cm) (hf : fC_X6_scan N K x0 M = some o) : CtV l x yX6_scan cX6_scan 4 4 106 [.ref x0] K M o :=
  cr_metV RX6 (by decide) rfl (Nat.le_of_ble_eq_true rfl) (fun p e s m args below meth c ls CX hR hl => wfC_X6_scan CX ⟨Nat.le_refl _, Nat.le_refl _⟩ x0 M s.heap [] ls hf hR va_S.rf hl)
def bC_X6_kindAt_22 (N : Nat) (K : Ka) (x0 : Nat) (s0 : Int32) (M : Cm) : Option (Int32 × Cm) := some (s0, M)
set_option maxRecDepth 100000 in
set_option maxHeartbeats 4000000 in
theorem wbC_X6_kindAt_22 {p : Program} {l : Launch} {e : Env} {R : Room} {s : State} {m : MethodId} {args : Array Value} {below : List Frame} {meth : Method} {c : Code} {x : Xc} {o : Int32 × Cm} {N : Nat} {K : Ka} (CX : CC p s m args meth c x K RX6 cX6_kindAt 2 (some .int)) (hRm : 0 ≤ R.frames ∧ 0 ≤ R.locals) (x0 : Nat) (s0 : Int32) (M : Cm) (H : Heap) (locs : List Loc) (ls : Array Slot) (hf : bC_X6_kindAt_22 N K x0 s0 M = some o) (hR : RC x K M H) (hS : va_S (AC K) s.heap H locs) (hl : lv_has ls 2 [(0, .ref x0)]) : W p l e R s m args below meth c H locs 0 0 (MQ below (CQI x K o) args s 0 0 (AC K)) (F0 m 22 ls [.int s0]) := by
  obtain ⟨hx, hb, hml, hown, hts, hE, hB, hr, hlk⟩ := id CX
  have hL : KLe K K := KLe.rf K
  have hcs : 0 ≤ R.cells ∧ 0 ≤ R.slots := ⟨Nat.zero_le _, Nat.zero_le _⟩
  unfold bC_X6_kindAt_22 at hf
  exact cr_iret CX hR hS hf dX6_kindAt_22
def bC_X6_kindAt_12 (N : Nat) (K : Ka) (x0 : Nat) (M : Cm) : Option (Int32 × Cm) := (bC_X6_kindAt_22 N K) x0 0 M
set_option maxRecDepth 100000 in
set_option maxHeartbeats 4000000 in
theorem wbC_X6_kindAt_12 {p : Program} {l : Launch} {e : Env} {R : Room} {s : State} {m : MethodId} {args : Array Value} {below : List Frame} {meth : Method} {c : Code} {x : Xc} {o : Int32 × Cm} {N : Nat} {K : Ka} (CX : CC p s m args meth c x K RX6 cX6_kindAt 2 (some .int)) (hRm : 0 ≤ R.frames ∧ 0 ≤ R.locals) (x0 : Nat) (M : Cm) (H : Heap) (locs : List Loc) (ls : Array Slot) (hf : bC_X6_kindAt_12 N K x0 M = some o) (hR : RC x K M H) (hS : va_S (AC K) s.heap H locs) (hl : lv_has ls 2 [(0, .ref x0)]) : W p l e R s m args below meth c H locs 0 0 (MQ below (CQI x K o) args s 0 0 (AC K)) (F0 m 12 ls []) := by
  obtain ⟨hx, hb, hml, hown, hts, hE, hB, hr, hlk⟩ := id CX
  have hL : KLe K K := KLe.rf K
  have hcs : 0 ≤ R.cells ∧ 0 ≤ R.slots := ⟨Nat.zero_le _, Nat.zero_le _⟩
  unfold bC_X6_kindAt_12 at hf
  refine lv_iconst (v := 0) hx hb dX6_kindAt_12 (by decide) ?_
  refine lv_goto (tgt := 22) hx hb dX6_kindAt_13 (by decide) ?_
  exact (wbC_X6_kindAt_22 CX hRm) _ _ _ _ _ _ hf hR hS (lv_sub hl [0] rfl)
def fC_X6_kindAt (N : Nat) (K : Ka) (x0 : Nat) (x1 : Int32) (M : Cm) : Option (Int32 × Cm) := if x1 < 0 then ((bC_X6_kindAt_12 N K) x0 M) else (gd (kd K x0 == 7) (if x1 < (cI M x0 6) then (nn (cR M x0 1) fun a1 => gd (kd K a1 == 22) (ck x1 (le K a1) ((bC_X6_kindAt_22 N K) x0 (cI M a1 (x1 : Int32).toNatClampNeg) M))) else ((bC_X6_kindAt_12 N K) x0 M)))
set_option maxRecDepth 100000 in
set_option maxHeartbeats 4000000 in
theorem wfC_X6_kindAt {p : Program} {l : Launch} {e : Env} {R : Room} {s : State} {m : MethodId} {args : Array Value} {below : List Frame} {meth : Method} {c : Code} {x : Xc} {o : Int32 × Cm} {N : Nat} {K : Ka} (CX : CC p s m args meth c x K RX6 cX6_kindAt 2 (some .int)) (hRm : 0 ≤ R.frames ∧ 0 ≤ R.locals) (x0 : Nat) (x1 : Int32) (M : Cm) (H : Heap) (locs : List Loc) (ls : Array Slot) (hf : fC_X6_kindAt N K x0 x1 M = some o) (hR : RC x K M H) (hS : va_S (AC K) s.heap H locs) (hl : lv_has ls 2 [(0, .ref x0), (1, .int x1)]) : W p l e R s m args below meth c H locs 0 0 (MQ below (CQI x K o) args s 0 0 (AC K)) (F0 m 0 ls []) := by
  obtain ⟨hx, hb, hml, hown, hts, hE, hB, hr, hlk⟩ := id CX
  have hL : KLe K K := KLe.rf K
  have hcs : 0 ≤ R.cells ∧ 0 ≤ R.slots := ⟨Nat.zero_le _, Nat.zero_le _⟩
  unfold fC_X6_kindAt at hf
  refine lv_iload_n hx hb dX6_kindAt_0 rfl (lv_at hl 1 rfl) ?_
  refine lv_if_lt (tgt := 12) hx hb dX6_kindAt_1 (by decide) (fun hc => ?_) (fun hc => ?_)
  · rw [if_pos hc] at hf
    exact (wbC_X6_kindAt_12 CX hRm) _ _ _ _ _ hf hR hS (lv_sub hl [0] rfl)
  · rw [if_neg hc] at hf
    refine lv_iload_n hx hb dX6_kindAt_4 rfl (lv_at hl 1 rfl) ?_
    refine lv_aload_n hx hb dX6_kindAt_5 rfl (lv_at hl 0 rfl) ?_
    obtain ⟨hk_x0_7, hf⟩ := gd_some hf
    refine cr_getI kc_6 CX hR fa_X6_33 rfl hk_x0_7 dX6_kindAt_6 ?_
    refine lv_icmp_lt (tgt := 16) hx hb dX6_kindAt_9 (by decide) (fun hc => ?_) (fun hc => ?_)
    · rw [if_pos hc] at hf
      refine lv_aload_n hx hb dX6_kindAt_16 rfl (lv_at hl 0 rfl) ?_
      refine cr_getR kc_6 CX hR fa_X6_15 rfl hk_x0_7 dX6_kindAt_17 ?_
      refine lv_iload_n hx hb dX6_kindAt_20 rfl (lv_at hl 1 rfl) ?_
      obtain ⟨a1, ha1, hf⟩ := nn_some hf
      refine rf_1 ha1 ?_
      obtain ⟨hk_a1_22, hf⟩ := gd_some hf
      obtain ⟨hi, hf⟩ := ck_some hf
      refine cr_iald CX hR hk_a1_22 hi dX6_kindAt_21 ?_
      exact (wbC_X6_kindAt_22 CX hRm) _ _ _ _ _ _ hf hR hS (lv_sub hl [0] rfl)
    · rw [if_neg hc] at hf
      exact (wbC_X6_kindAt_12 CX hRm) _ _ _ _ _ hf hR hS (lv_sub hl [0] rfl)
theorem MC_X6_kindAt (l : Launch) (x : Xc) (N : Nat) (K : Ka) (x0 : Nat) (x1 : Int32) (M : Cm) (o : Int32 × Cm) (hf : fC_X6_kindAt N K x0 x1 M = some o) : CtI l x yX6_kindAt cX6_kindAt 2 (some .int) 0 0 [.ref x0, .int x1] K M o :=
  cr_metI RX6 (by decide) rfl (Nat.le_of_ble_eq_true rfl) (fun p e s m args below meth c ls CX hR hl => wfC_X6_kindAt CX ⟨Nat.le_refl _, Nat.le_refl _⟩ x0 x1 M s.heap [] ls hf hR va_S.rf hl)
def lC_X7_hasRole_2 (N : Nat) (K : Ka) (k20 : Nat → Cm → Option (Int32 × Cm)) (k28 : Nat → Cm → Option (Int32 × Cm)) : Nat → Nat → Int32 → Int32 → Cm → Option (Int32 × Cm)
  | 0, _, _, _, _ => none
  | n + 1, x0, x1, x2, M => gd (kd K x0 == 8) (if (cI M x0 7) ≤ x2 then (k28 x0 M) else (nn (cR M x0 2) fun a1 => gd (kd K a1 == 22) (ck x2 (le K a1) (if (cI M a1 (x2 : Int32).toNatClampNeg) = x1 then (k20 x0 M) else (lC_X7_hasRole_2 N K k20 k28 n x0 x1 (x2 + 1) M)))))
set_option maxRecDepth 100000 in
set_option maxHeartbeats 4000000 in
theorem wlC_X7_hasRole_2 {p : Program} {l : Launch} {e : Env} {R : Room} {s : State} {m : MethodId} {args : Array Value} {below : List Frame} {meth : Method} {c : Code} {x : Xc} {o : Int32 × Cm} {N : Nat} {K : Ka} {k20 : Nat → Cm → Option (Int32 × Cm)} {k28 : Nat → Cm → Option (Int32 × Cm)} (CX : CC p s m args meth c x K RX7 cX7_hasRole 3 (some .boolean)) (hRm : 0 ≤ R.frames ∧ 0 ≤ R.locals) (hk20 : ∀ (x0 : Nat) (M : Cm) (H : Heap) (locs : List Loc) (ls : Array Slot), k20 x0 M = some o → RC x K M H → va_S (AC K) s.heap H locs → lv_has ls 3 [(0, .ref x0)] → W p l e R s m args below meth c H locs 0 0 (MQ below (CQI x K o) args s 0 0 (AC K)) (F0 m 20 ls [])) (hk28 : ∀ (x0 : Nat) (M : Cm) (H : Heap) (locs : List Loc) (ls : Array Slot), k28 x0 M = some o → RC x K M H → va_S (AC K) s.heap H locs → lv_has ls 3 [(0, .ref x0)] → W p l e R s m args below meth c H locs 0 0 (MQ below (CQI x K o) args s 0 0 (AC K)) (F0 m 28 ls [])) : ∀ (n : Nat) (x0 : Nat) (x1 : Int32) (x2 : Int32) (M : Cm) (H : Heap) (locs : List Loc) (ls : Array Slot), lC_X7_hasRole_2 N K k20 k28 n x0 x1 x2 M = some o → RC x K M H → va_S (AC K) s.heap H locs → lv_has ls 3 [(0, .ref x0), (1, .int x1), (2, .int x2)] → W p l e R s m args below meth c H locs 0 0 (MQ below (CQI x K o) args s 0 0 (AC K)) (F0 m 2 ls []) := by
  obtain ⟨hx, hb, hml, hown, hts, hE, hB, hr, hlk⟩ := id CX
  have hL : KLe K K := KLe.rf K
  have hcs : 0 ≤ R.cells ∧ 0 ≤ R.slots := ⟨Nat.zero_le _, Nat.zero_le _⟩
  intro n
  induction n with
  | zero => intro x0 x1 x2 M H locs ls hf; cases hf
  | succ n ih =>
    intro x0 x1 x2 M H locs ls hf hR hS hl
    rw [lC_X7_hasRole_2] at hf
    refine lv_iload_n hx hb dX7_hasRole_2 rfl (lv_at hl 2 rfl) ?_
    refine lv_aload_n hx hb dX7_hasRole_3 rfl (lv_at hl 0 rfl) ?_
    obtain ⟨hk_x0_8, hf⟩ := gd_some hf
    refine cr_getI kc_7 CX hR fa_X7_30 rfl hk_x0_8 dX7_hasRole_4 ?_
    refine lv_icmp_ge (tgt := 28) hx hb dX7_hasRole_7 (by decide) (fun hc => ?_) (fun hc => ?_)
    · rw [if_pos hc] at hf
      exact hk28 _ _ _ _ _ hf hR hS (lv_sub hl [0] rfl)
    · rw [if_neg hc] at hf
      refine lv_aload_n hx hb dX7_hasRole_10 rfl (lv_at hl 0 rfl) ?_
      refine cr_getR kc_7 CX hR fa_X7_9 rfl hk_x0_8 dX7_hasRole_11 ?_
      refine lv_iload_n hx hb dX7_hasRole_14 rfl (lv_at hl 2 rfl) ?_
      obtain ⟨a1, ha1, hf⟩ := nn_some hf
      refine rf_1 ha1 ?_
      obtain ⟨hk_a1_22, hf⟩ := gd_some hf
      obtain ⟨hi, hf⟩ := ck_some hf
      refine cr_iald CX hR hk_a1_22 hi dX7_hasRole_15 ?_
      refine lv_iload_n hx hb dX7_hasRole_16 rfl (lv_at hl 1 rfl) ?_
      refine lv_icmp_ne (tgt := 22) hx hb dX7_hasRole_17 (by decide) (fun hc => ?_) (fun hc => ?_)
      · rw [if_neg hc] at hf
        refine lv_iinc (v := x2 + 1) (lv' := [(2, .int (x2 + 1)), (0, .ref x0), (1, .int x1)]) hx hb dX7_hasRole_22 hl (k := 2) rfl rfl (by decide) rfl (fun ls hl => ?_)
        refine lv_goto (tgt := 2) hx hb dX7_hasRole_25 (by decide) ?_
        exact ih _ _ _ _ _ _ _ hf hR hS (lv_sub hl [1, 2, 0] rfl)
      · rw [if_pos hc] at hf
        exact hk20 _ _ _ _ _ hf hR hS (lv_sub hl [0] rfl)
def bC_X7_hasRole_20 (N : Nat) (K : Ka) (x0 : Nat) (M : Cm) : Option (Int32 × Cm) := gd (is01 1) (some (1, M))
set_option maxRecDepth 100000 in
set_option maxHeartbeats 4000000 in
theorem wbC_X7_hasRole_20 {p : Program} {l : Launch} {e : Env} {R : Room} {s : State} {m : MethodId} {args : Array Value} {below : List Frame} {meth : Method} {c : Code} {x : Xc} {o : Int32 × Cm} {N : Nat} {K : Ka} (CX : CC p s m args meth c x K RX7 cX7_hasRole 3 (some .boolean)) (hRm : 0 ≤ R.frames ∧ 0 ≤ R.locals) (x0 : Nat) (M : Cm) (H : Heap) (locs : List Loc) (ls : Array Slot) (hf : bC_X7_hasRole_20 N K x0 M = some o) (hR : RC x K M H) (hS : va_S (AC K) s.heap H locs) (hl : lv_has ls 3 [(0, .ref x0)]) : W p l e R s m args below meth c H locs 0 0 (MQ below (CQI x K o) args s 0 0 (AC K)) (F0 m 20 ls []) := by
  obtain ⟨hx, hb, hml, hown, hts, hE, hB, hr, hlk⟩ := id CX
  have hL : KLe K K := KLe.rf K
  have hcs : 0 ≤ R.cells ∧ 0 ≤ R.slots := ⟨Nat.zero_le _, Nat.zero_le _⟩
  unfold bC_X7_hasRole_20 at hf
  refine lv_iconst (v := 1) hx hb dX7_hasRole_20 (by decide) ?_
  obtain ⟨hz, hf⟩ := gd_some hf
  exact cr_zret CX hR hS hz hf dX7_hasRole_21
def bC_X7_hasRole_28 (N : Nat) (K : Ka) (x0 : Nat) (M : Cm) : Option (Int32 × Cm) := gd (is01 0) (some (0, M))
set_option maxRecDepth 100000 in
set_option maxHeartbeats 4000000 in
theorem wbC_X7_hasRole_28 {p : Program} {l : Launch} {e : Env} {R : Room} {s : State} {m : MethodId} {args : Array Value} {below : List Frame} {meth : Method} {c : Code} {x : Xc} {o : Int32 × Cm} {N : Nat} {K : Ka} (CX : CC p s m args meth c x K RX7 cX7_hasRole 3 (some .boolean)) (hRm : 0 ≤ R.frames ∧ 0 ≤ R.locals) (x0 : Nat) (M : Cm) (H : Heap) (locs : List Loc) (ls : Array Slot) (hf : bC_X7_hasRole_28 N K x0 M = some o) (hR : RC x K M H) (hS : va_S (AC K) s.heap H locs) (hl : lv_has ls 3 [(0, .ref x0)]) : W p l e R s m args below meth c H locs 0 0 (MQ below (CQI x K o) args s 0 0 (AC K)) (F0 m 28 ls []) := by
  obtain ⟨hx, hb, hml, hown, hts, hE, hB, hr, hlk⟩ := id CX
  have hL : KLe K K := KLe.rf K
  have hcs : 0 ≤ R.cells ∧ 0 ≤ R.slots := ⟨Nat.zero_le _, Nat.zero_le _⟩
  unfold bC_X7_hasRole_28 at hf
  refine lv_iconst (v := 0) hx hb dX7_hasRole_28 (by decide) ?_
  obtain ⟨hz, hf⟩ := gd_some hf
  exact cr_zret CX hR hS hz hf dX7_hasRole_29
def fC_X7_hasRole (N : Nat) (K : Ka) (x0 : Nat) (x1 : Int32) (M : Cm) : Option (Int32 × Cm) := (lC_X7_hasRole_2 N K (bC_X7_hasRole_20 N K) (bC_X7_hasRole_28 N K) N) x0 x1 0 M
set_option maxRecDepth 100000 in
set_option maxHeartbeats 4000000 in
theorem wfC_X7_hasRole {p : Program} {l : Launch} {e : Env} {R : Room} {s : State} {m : MethodId} {args : Array Value} {below : List Frame} {meth : Method} {c : Code} {x : Xc} {o : Int32 × Cm} {N : Nat} {K : Ka} (CX : CC p s m args meth c x K RX7 cX7_hasRole 3 (some .boolean)) (hRm : 0 ≤ R.frames ∧ 0 ≤ R.locals) (x0 : Nat) (x1 : Int32) (M : Cm) (H : Heap) (locs : List Loc) (ls : Array Slot) (hf : fC_X7_hasRole N K x0 x1 M = some o) (hR : RC x K M H) (hS : va_S (AC K) s.heap H locs) (hl : lv_has ls 3 [(0, .ref x0), (1, .int x1)]) : W p l e R s m args below meth c H locs 0 0 (MQ below (CQI x K o) args s 0 0 (AC K)) (F0 m 0 ls []) := by
  obtain ⟨hx, hb, hml, hown, hts, hE, hB, hr, hlk⟩ := id CX
  have hL : KLe K K := KLe.rf K
  have hcs : 0 ≤ R.cells ∧ 0 ≤ R.slots := ⟨Nat.zero_le _, Nat.zero_le _⟩
  unfold fC_X7_hasRole at hf
  refine lv_iconst (v := 0) hx hb dX7_hasRole_0 (by decide) ?_
  refine lv_istore_n (lv' := [(2, .int 0), (0, .ref x0), (1, .int x1)]) hx hb dX7_hasRole_1 rfl hl (by decide) rfl (fun ls hl => ?_)
  exact (wlC_X7_hasRole_2 CX hRm (wbC_X7_hasRole_20 CX hRm) (wbC_X7_hasRole_28 CX hRm) N) _ _ _ _ _ _ _ hf hR hS (lv_sub hl [1, 2, 0] rfl)
theorem MC_X7_hasRole (l : Launch) (x : Xc) (N : Nat) (K : Ka) (x0 : Nat) (x1 : Int32) (M : Cm) (o : Int32 × Cm) (hf : fC_X7_hasRole N K x0 x1 M = some o) : CtI l x yX7_hasRole cX7_hasRole 3 (some .boolean) 0 0 [.ref x0, .int x1] K M o :=
  cr_metI RX7 (by decide) rfl (Nat.le_of_ble_eq_true rfl) (fun p e s m args below meth c ls CX hR hl => wfC_X7_hasRole CX ⟨Nat.le_refl _, Nat.le_refl _⟩ x0 x1 M s.heap [] ls hf hR va_S.rf hl)
def bC_X7_addRole_29 (N : Nat) (K : Ka) (x0 : Nat) (M : Cm) : Option (Cm) := some M
set_option maxRecDepth 100000 in
set_option maxHeartbeats 4000000 in
theorem wbC_X7_addRole_29 {p : Program} {l : Launch} {e : Env} {R : Room} {s : State} {m : MethodId} {args : Array Value} {below : List Frame} {meth : Method} {c : Code} {x : Xc} {o : Cm} {N : Nat} {K : Ka} (CX : CC p s m args meth c x K RX7 cX7_addRole 2 none) (hRm : 0 ≤ R.frames ∧ 0 ≤ R.locals) (x0 : Nat) (M : Cm) (H : Heap) (locs : List Loc) (ls : Array Slot) (hf : bC_X7_addRole_29 N K x0 M = some o) (hR : RC x K M H) (hS : va_S (AC K) s.heap H locs) (hl : lv_has ls 2 [(0, .ref x0)]) : W p l e R s m args below meth c H locs 0 0 (MQ below (CQV x K o) args s 0 0 (AC K)) (F0 m 29 ls []) := by
  obtain ⟨hx, hb, hml, hown, hts, hE, hB, hr, hlk⟩ := id CX
  have hL : KLe K K := KLe.rf K
  have hcs : 0 ≤ R.cells ∧ 0 ≤ R.slots := ⟨Nat.zero_le _, Nat.zero_le _⟩
  unfold bC_X7_addRole_29 at hf
  exact cr_vret CX hR hS hf dX7_addRole_29
def fC_X7_addRole (N : Nat) (K : Ka) (x0 : Nat) (x1 : Int32) (M : Cm) : Option (Cm) := gd (kd K x0 == 8) (if 6 ≤ (cI M x0 7) then ((bC_X7_addRole_29 N K) x0 M) else (nn (cR M x0 2) fun a1 => gd (kd K a1 == 22) (ck (cI M x0 7) (le K a1) ((bC_X7_addRole_29 N K) x0 (wI (wI M a1 (cI M x0 7 : Int32).toNatClampNeg x1) x0 7 ((cI (wI M a1 (cI M x0 7 : Int32).toNatClampNeg x1) x0 7) + 1))))))
set_option maxRecDepth 100000 in
set_option maxHeartbeats 4000000 in
theorem wfC_X7_addRole {p : Program} {l : Launch} {e : Env} {R : Room} {s : State} {m : MethodId} {args : Array Value} {below : List Frame} {meth : Method} {c : Code} {x : Xc} {o : Cm} {N : Nat} {K : Ka} (CX : CC p s m args meth c x K RX7 cX7_addRole 2 none) (hRm : 0 ≤ R.frames ∧ 0 ≤ R.locals) (x0 : Nat) (x1 : Int32) (M : Cm) (H : Heap) (locs : List Loc) (ls : Array Slot) (hf : fC_X7_addRole N K x0 x1 M = some o) (hR : RC x K M H) (hS : va_S (AC K) s.heap H locs) (hl : lv_has ls 2 [(0, .ref x0), (1, .int x1)]) : W p l e R s m args below meth c H locs 0 0 (MQ below (CQV x K o) args s 0 0 (AC K)) (F0 m 0 ls []) := by
  obtain ⟨hx, hb, hml, hown, hts, hE, hB, hr, hlk⟩ := id CX
  have hL : KLe K K := KLe.rf K
  have hcs : 0 ≤ R.cells ∧ 0 ≤ R.slots := ⟨Nat.zero_le _, Nat.zero_le _⟩
  unfold fC_X7_addRole at hf
  refine lv_aload_n hx hb dX7_addRole_0 rfl (lv_at hl 0 rfl) ?_
  obtain ⟨hk_x0_8, hf⟩ := gd_some hf
  refine cr_getI kc_7 CX hR fa_X7_30 rfl hk_x0_8 dX7_addRole_1 ?_
  refine lv_bipush (v := 6) hx hb dX7_addRole_4 (by decide) ?_
  refine lv_icmp_ge (tgt := 29) hx hb dX7_addRole_6 (by decide) (fun hc => ?_) (fun hc => ?_)
  · rw [if_pos hc] at hf
    exact (wbC_X7_addRole_29 CX hRm) _ _ _ _ _ hf hR hS (lv_sub hl [0] rfl)
  · rw [if_neg hc] at hf
    refine lv_aload_n hx hb dX7_addRole_9 rfl (lv_at hl 0 rfl) ?_
    refine cr_getR kc_7 CX hR fa_X7_9 rfl hk_x0_8 dX7_addRole_10 ?_
    refine lv_aload_n hx hb dX7_addRole_13 rfl (lv_at hl 0 rfl) ?_
    refine cr_getI kc_7 CX hR fa_X7_30 rfl hk_x0_8 dX7_addRole_14 ?_
    refine lv_iload_n hx hb dX7_addRole_17 rfl (lv_at hl 1 rfl) ?_
    obtain ⟨a1, ha1, hf⟩ := nn_some hf
    refine rf_2 ha1 ?_
    obtain ⟨hk_a1_22, hf⟩ := gd_some hf
    obtain ⟨hi, hf⟩ := ck_some hf
    refine cr_iast CX hR hL hS hk_a1_22 hi dX7_addRole_18 (fun H locs hR hS => ?_)
    refine lv_aload_n hx hb dX7_addRole_19 rfl (lv_at hl 0 rfl) ?_
    refine lv_dup hx hb dX7_addRole_20 rfl ?_
    refine cr_getI kc_7 CX hR fa_X7_30 rfl hk_x0_8 dX7_addRole_21 ?_
    refine lv_iconst (v := 1) hx hb dX7_addRole_24 (by decide) ?_
    refine lv_iadd hx hb dX7_addRole_25 ?_
    refine cr_putI kc_7 CX hR hL hS fa_X7_30 ⟨rfl, rfl, rfl⟩ hk_x0_8 dX7_addRole_26 (fun H locs hR hS => ?_)
    exact (wbC_X7_addRole_29 CX hRm) _ _ _ _ _ hf hR hS (lv_sub hl [0] rfl)
theorem MC_X7_addRole (l : Launch) (x : Xc) (N : Nat) (K : Ka) (x0 : Nat) (x1 : Int32) (M : Cm) (o : Cm) (hf : fC_X7_addRole N K x0 x1 M = some o) : CtV l x yX7_addRole cX7_addRole 2 0 0 [.ref x0, .int x1] K M o :=
  cr_metV RX7 (by decide) rfl (Nat.le_of_ble_eq_true rfl) (fun p e s m args below meth c ls CX hR hl => wfC_X7_addRole CX ⟨Nat.le_refl _, Nat.le_refl _⟩ x0 x1 M s.heap [] ls hf hR va_S.rf hl)
def bC_X7_addSetting_39 (N : Nat) (K : Ka) (x0 : Nat) (M : Cm) : Option (Cm) := some M
set_option maxRecDepth 100000 in
set_option maxHeartbeats 4000000 in
theorem wbC_X7_addSetting_39 {p : Program} {l : Launch} {e : Env} {R : Room} {s : State} {m : MethodId} {args : Array Value} {below : List Frame} {meth : Method} {c : Code} {x : Xc} {o : Cm} {N : Nat} {K : Ka} (CX : CC p s m args meth c x K RX7 cX7_addSetting 4 none) (hRm : 0 ≤ R.frames ∧ 0 ≤ R.locals) (x0 : Nat) (M : Cm) (H : Heap) (locs : List Loc) (ls : Array Slot) (hf : bC_X7_addSetting_39 N K x0 M = some o) (hR : RC x K M H) (hS : va_S (AC K) s.heap H locs) (hl : lv_has ls 4 [(0, .ref x0)]) : W p l e R s m args below meth c H locs 0 0 (MQ below (CQV x K o) args s 0 0 (AC K)) (F0 m 39 ls []) := by
  obtain ⟨hx, hb, hml, hown, hts, hE, hB, hr, hlk⟩ := id CX
  have hL : KLe K K := KLe.rf K
  have hcs : 0 ≤ R.cells ∧ 0 ≤ R.slots := ⟨Nat.zero_le _, Nat.zero_le _⟩
  unfold bC_X7_addSetting_39 at hf
  exact cr_vret CX hR hS hf dX7_addSetting_39
def fC_X7_addSetting (N : Nat) (K : Ka) (x0 : Nat) (x1 : Int64) (x3 : Int32) (M : Cm) : Option (Cm) := gd (kd K x0 == 8) (if 8 ≤ (cI M x0 8) then ((bC_X7_addSetting_39 N K) x0 M) else (nn (cR M x0 3) fun a1 => gd (kd K a1 == 23) (ck (cI M x0 8) (le K a1) (nn (cR (wL M a1 (cI M x0 8 : Int32).toNatClampNeg x1) x0 4) fun a2 => gd (kd K a2 == 22) (ck (cI (wL M a1 (cI M x0 8 : Int32).toNatClampNeg x1) x0 8) (le K a2) ((bC_X7_addSetting_39 N K) x0 (wI (wI (wL M a1 (cI M x0 8 : Int32).toNatClampNeg x1) a2 (cI (wL M a1 (cI M x0 8 : Int32).toNatClampNeg x1) x0 8 : Int32).toNatClampNeg x3) x0 8 ((cI (wI (wL M a1 (cI M x0 8 : Int32).toNatClampNeg x1) a2 (cI (wL M a1 (cI M x0 8 : Int32).toNatClampNeg x1) x0 8 : Int32).toNatClampNeg x3) x0 8) + 1))))))))
set_option maxRecDepth 100000 in
set_option maxHeartbeats 4000000 in
theorem wfC_X7_addSetting {p : Program} {l : Launch} {e : Env} {R : Room} {s : State} {m : MethodId} {args : Array Value} {below : List Frame} {meth : Method} {c : Code} {x : Xc} {o : Cm} {N : Nat} {K : Ka} (CX : CC p s m args meth c x K RX7 cX7_addSetting 4 none) (hRm : 0 ≤ R.frames ∧ 0 ≤ R.locals) (x0 : Nat) (x1 : Int64) (x3 : Int32) (M : Cm) (H : Heap) (locs : List Loc) (ls : Array Slot) (hf : fC_X7_addSetting N K x0 x1 x3 M = some o) (hR : RC x K M H) (hS : va_S (AC K) s.heap H locs) (hl : lv_has ls 4 [(0, .ref x0), (1, .long x1), (3, .int x3)]) : W p l e R s m args below meth c H locs 0 0 (MQ below (CQV x K o) args s 0 0 (AC K)) (F0 m 0 ls []) := by
  obtain ⟨hx, hb, hml, hown, hts, hE, hB, hr, hlk⟩ := id CX
  have hL : KLe K K := KLe.rf K
  have hcs : 0 ≤ R.cells ∧ 0 ≤ R.slots := ⟨Nat.zero_le _, Nat.zero_le _⟩
  unfold fC_X7_addSetting at hf
  refine lv_aload_n hx hb dX7_addSetting_0 rfl (lv_at hl 0 rfl) ?_
  obtain ⟨hk_x0_8, hf⟩ := gd_some hf
  refine cr_getI kc_7 CX hR fa_X7_33 rfl hk_x0_8 dX7_addSetting_1 ?_
  refine lv_bipush (v := 8) hx hb dX7_addSetting_4 (by decide) ?_
  refine lv_icmp_ge (tgt := 39) hx hb dX7_addSetting_6 (by decide) (fun hc => ?_) (fun hc => ?_)
  · rw [if_pos hc] at hf
    exact (wbC_X7_addSetting_39 CX hRm) _ _ _ _ _ hf hR hS (lv_sub hl [0] rfl)
  · rw [if_neg hc] at hf
    refine lv_aload_n hx hb dX7_addSetting_9 rfl (lv_at hl 0 rfl) ?_
    refine cr_getR kc_7 CX hR fa_X7_15 rfl hk_x0_8 dX7_addSetting_10 ?_
    refine lv_aload_n hx hb dX7_addSetting_13 rfl (lv_at hl 0 rfl) ?_
    refine cr_getI kc_7 CX hR fa_X7_33 rfl hk_x0_8 dX7_addSetting_14 ?_
    refine lv_lload_n hx hb dX7_addSetting_17 rfl (lv_at hl 1 rfl) ?_
    obtain ⟨a1, ha1, hf⟩ := nn_some hf
    refine rf_2 ha1 ?_
    obtain ⟨hk_a1_23, hf⟩ := gd_some hf
    obtain ⟨hi, hf⟩ := ck_some hf
    refine cr_last CX hR hL hS hk_a1_23 hi dX7_addSetting_18 (fun H locs hR hS => ?_)
    refine lv_aload_n hx hb dX7_addSetting_19 rfl (lv_at hl 0 rfl) ?_
    refine cr_getR kc_7 CX hR fa_X7_19 rfl hk_x0_8 dX7_addSetting_20 ?_
    refine lv_aload_n hx hb dX7_addSetting_23 rfl (lv_at hl 0 rfl) ?_
    refine cr_getI kc_7 CX hR fa_X7_33 rfl hk_x0_8 dX7_addSetting_24 ?_
    refine lv_iload_n hx hb dX7_addSetting_27 rfl (lv_at hl 2 rfl) ?_
    obtain ⟨a2, ha2, hf⟩ := nn_some hf
    refine rf_2 ha2 ?_
    obtain ⟨hk_a2_22, hf⟩ := gd_some hf
    obtain ⟨hi, hf⟩ := ck_some hf
    refine cr_iast CX hR hL hS hk_a2_22 hi dX7_addSetting_28 (fun H locs hR hS => ?_)
    refine lv_aload_n hx hb dX7_addSetting_29 rfl (lv_at hl 0 rfl) ?_
    refine lv_dup hx hb dX7_addSetting_30 rfl ?_
    refine cr_getI kc_7 CX hR fa_X7_33 rfl hk_x0_8 dX7_addSetting_31 ?_
    refine lv_iconst (v := 1) hx hb dX7_addSetting_34 (by decide) ?_
    refine lv_iadd hx hb dX7_addSetting_35 ?_
    refine cr_putI kc_7 CX hR hL hS fa_X7_33 ⟨rfl, rfl, rfl⟩ hk_x0_8 dX7_addSetting_36 (fun H locs hR hS => ?_)
    exact (wbC_X7_addSetting_39 CX hRm) _ _ _ _ _ hf hR hS (lv_sub hl [0] rfl)
theorem MC_X7_addSetting (l : Launch) (x : Xc) (N : Nat) (K : Ka) (x0 : Nat) (x1 : Int64) (x3 : Int32) (M : Cm) (o : Cm) (hf : fC_X7_addSetting N K x0 x1 x3 M = some o) : CtV l x yX7_addSetting cX7_addSetting 4 0 0 [.ref x0, .long x1, .int x3] K M o :=
  cr_metV RX7 (by decide) rfl (Nat.le_of_ble_eq_true rfl) (fun p e s m args below meth c ls CX hR hl => wfC_X7_addSetting CX ⟨Nat.le_refl _, Nat.le_refl _⟩ x0 x1 x3 M s.heap [] ls hf hR va_S.rf hl)
def bC_X7_addStatic_64 (N : Nat) (K : Ka) (x0 : Nat) (x3 : Int32) (M : Cm) : Option (Int32 × Cm) := some (x3, M)
set_option maxRecDepth 100000 in
set_option maxHeartbeats 4000000 in
theorem wbC_X7_addStatic_64 {p : Program} {l : Launch} {e : Env} {R : Room} {s : State} {m : MethodId} {args : Array Value} {below : List Frame} {meth : Method} {c : Code} {x : Xc} {o : Int32 × Cm} {N : Nat} {K : Ka} (CX : CC p s m args meth c x K RX7 cX7_addStatic 4 (some .int)) (hRm : 0 ≤ R.frames ∧ 0 ≤ R.locals) (x0 : Nat) (x3 : Int32) (M : Cm) (H : Heap) (locs : List Loc) (ls : Array Slot) (hf : bC_X7_addStatic_64 N K x0 x3 M = some o) (hR : RC x K M H) (hS : va_S (AC K) s.heap H locs) (hl : lv_has ls 4 [(0, .ref x0), (3, .int x3)]) : W p l e R s m args below meth c H locs 0 0 (MQ below (CQI x K o) args s 0 0 (AC K)) (F0 m 64 ls []) := by
  obtain ⟨hx, hb, hml, hown, hts, hE, hB, hr, hlk⟩ := id CX
  have hL : KLe K K := KLe.rf K
  have hcs : 0 ≤ R.cells ∧ 0 ≤ R.slots := ⟨Nat.zero_le _, Nat.zero_le _⟩
  unfold bC_X7_addStatic_64 at hf
  refine lv_iload_n hx hb dX7_addStatic_64 rfl (lv_at hl 1 rfl) ?_
  exact cr_iret CX hR hS hf dX7_addStatic_65
def fC_X7_addStatic (N : Nat) (K : Ka) (x0 : Nat) (x1 : Int64) (M : Cm) : Option (Int32 × Cm) := gd (kd K x0 == 8) (if 8 ≤ (cI M x0 8) then ((bC_X7_addStatic_64 N K) x0 (cI M x0 9) M) else (nn (cR M x0 3) fun a1 => gd (kd K a1 == 23) (ck (cI M x0 8) (le K a1) (nn (cR (wL M a1 (cI M x0 8 : Int32).toNatClampNeg x1) x0 4) fun a2 => gd (kd K a2 == 22) (ck (cI (wL M a1 (cI M x0 8 : Int32).toNatClampNeg x1) x0 8) (le K a2) (nn (cR (wI (wL M a1 (cI M x0 8 : Int32).toNatClampNeg x1) a2 (cI (wL M a1 (cI M x0 8 : Int32).toNatClampNeg x1) x0 8 : Int32).toNatClampNeg (cI M x0 9)) x0 5) fun a3 => gd (kd K a3 == 24) (ck (cI (wI (wL M a1 (cI M x0 8 : Int32).toNatClampNeg x1) a2 (cI (wL M a1 (cI M x0 8 : Int32).toNatClampNeg x1) x0 8 : Int32).toNatClampNeg (cI M x0 9)) x0 8) (le K a3) ((bC_X7_addStatic_64 N K) x0 (cI M x0 9) (wI (wI (wI (wI (wL M a1 (cI M x0 8 : Int32).toNatClampNeg x1) a2 (cI (wL M a1 (cI M x0 8 : Int32).toNatClampNeg x1) x0 8 : Int32).toNatClampNeg (cI M x0 9)) a3 (cI (wI (wL M a1 (cI M x0 8 : Int32).toNatClampNeg x1) a2 (cI (wL M a1 (cI M x0 8 : Int32).toNatClampNeg x1) x0 8 : Int32).toNatClampNeg (cI M x0 9)) x0 8 : Int32).toNatClampNeg (vp_nar .boolean 1)) x0 8 ((cI (wI (wI (wL M a1 (cI M x0 8 : Int32).toNatClampNeg x1) a2 (cI (wL M a1 (cI M x0 8 : Int32).toNatClampNeg x1) x0 8 : Int32).toNatClampNeg (cI M x0 9)) a3 (cI (wI (wL M a1 (cI M x0 8 : Int32).toNatClampNeg x1) a2 (cI (wL M a1 (cI M x0 8 : Int32).toNatClampNeg x1) x0 8 : Int32).toNatClampNeg (cI M x0 9)) x0 8 : Int32).toNatClampNeg (vp_nar .boolean 1)) x0 8) + 1)) x0 9 ((cI (wI (wI (wI (wL M a1 (cI M x0 8 : Int32).toNatClampNeg x1) a2 (cI (wL M a1 (cI M x0 8 : Int32).toNatClampNeg x1) x0 8 : Int32).toNatClampNeg (cI M x0 9)) a3 (cI (wI (wL M a1 (cI M x0 8 : Int32).toNatClampNeg x1) a2 (cI (wL M a1 (cI M x0 8 : Int32).toNatClampNeg x1) x0 8 : Int32).toNatClampNeg (cI M x0 9)) x0 8 : Int32).toNatClampNeg (vp_nar .boolean 1)) x0 8 ((cI (wI (wI (wL M a1 (cI M x0 8 : Int32).toNatClampNeg x1) a2 (cI (wL M a1 (cI M x0 8 : Int32).toNatClampNeg x1) x0 8 : Int32).toNatClampNeg (cI M x0 9)) a3 (cI (wI (wL M a1 (cI M x0 8 : Int32).toNatClampNeg x1) a2 (cI (wL M a1 (cI M x0 8 : Int32).toNatClampNeg x1) x0 8 : Int32).toNatClampNeg (cI M x0 9)) x0 8 : Int32).toNatClampNeg (vp_nar .boolean 1)) x0 8) + 1)) x0 9) + 1))))))))))
set_option maxRecDepth 100000 in
set_option maxHeartbeats 4000000 in
theorem wfC_X7_addStatic {p : Program} {l : Launch} {e : Env} {R : Room} {s : State} {m : MethodId} {args : Array Value} {below : List Frame} {meth : Method} {c : Code} {x : Xc} {o : Int32 × Cm} {N : Nat} {K : Ka} (CX : CC p s m args meth c x K RX7 cX7_addStatic 4 (some .int)) (hRm : 0 ≤ R.frames ∧ 0 ≤ R.locals) (x0 : Nat) (x1 : Int64) (M : Cm) (H : Heap) (locs : List Loc) (ls : Array Slot) (hf : fC_X7_addStatic N K x0 x1 M = some o) (hR : RC x K M H) (hS : va_S (AC K) s.heap H locs) (hl : lv_has ls 4 [(0, .ref x0), (1, .long x1)]) : W p l e R s m args below meth c H locs 0 0 (MQ below (CQI x K o) args s 0 0 (AC K)) (F0 m 0 ls []) := by
  obtain ⟨hx, hb, hml, hown, hts, hE, hB, hr, hlk⟩ := id CX
  have hL : KLe K K := KLe.rf K
  have hcs : 0 ≤ R.cells ∧ 0 ≤ R.slots := ⟨Nat.zero_le _, Nat.zero_le _⟩
  unfold fC_X7_addStatic at hf
  refine lv_aload_n hx hb dX7_addStatic_0 rfl (lv_at hl 0 rfl) ?_
  obtain ⟨hk_x0_8, hf⟩ := gd_some hf
  refine cr_getI kc_7 CX hR fa_X7_36 rfl hk_x0_8 dX7_addStatic_1 ?_
  refine lv_istore_n (lv' := [(3, .int (cI M x0 9)), (0, .ref x0), (1, .long x1)]) hx hb dX7_addStatic_4 rfl hl (by decide) rfl (fun ls hl => ?_)
  refine lv_aload_n hx hb dX7_addStatic_5 rfl (lv_at hl 1 rfl) ?_
  refine cr_getI kc_7 CX hR fa_X7_33 rfl hk_x0_8 dX7_addStatic_6 ?_
  refine lv_bipush (v := 8) hx hb dX7_addStatic_9 (by decide) ?_
  refine lv_icmp_ge (tgt := 64) hx hb dX7_addStatic_11 (by decide) (fun hc => ?_) (fun hc => ?_)
  · rw [if_pos hc] at hf
    exact (wbC_X7_addStatic_64 CX hRm) _ _ _ _ _ _ hf hR hS (lv_sub hl [1, 0] rfl)
  · rw [if_neg hc] at hf
    refine lv_aload_n hx hb dX7_addStatic_14 rfl (lv_at hl 1 rfl) ?_
    refine cr_getR kc_7 CX hR fa_X7_15 rfl hk_x0_8 dX7_addStatic_15 ?_
    refine lv_aload_n hx hb dX7_addStatic_18 rfl (lv_at hl 1 rfl) ?_
    refine cr_getI kc_7 CX hR fa_X7_33 rfl hk_x0_8 dX7_addStatic_19 ?_
    refine lv_lload_n hx hb dX7_addStatic_22 rfl (lv_at hl 2 rfl) ?_
    obtain ⟨a1, ha1, hf⟩ := nn_some hf
    refine rf_2 ha1 ?_
    obtain ⟨hk_a1_23, hf⟩ := gd_some hf
    obtain ⟨hi, hf⟩ := ck_some hf
    refine cr_last CX hR hL hS hk_a1_23 hi dX7_addStatic_23 (fun H locs hR hS => ?_)
    refine lv_aload_n hx hb dX7_addStatic_24 rfl (lv_at hl 1 rfl) ?_
    refine cr_getR kc_7 CX hR fa_X7_19 rfl hk_x0_8 dX7_addStatic_25 ?_
    refine lv_aload_n hx hb dX7_addStatic_28 rfl (lv_at hl 1 rfl) ?_
    refine cr_getI kc_7 CX hR fa_X7_33 rfl hk_x0_8 dX7_addStatic_29 ?_
    refine lv_iload_n hx hb dX7_addStatic_32 rfl (lv_at hl 0 rfl) ?_
    obtain ⟨a2, ha2, hf⟩ := nn_some hf
    refine rf_2 ha2 ?_
    obtain ⟨hk_a2_22, hf⟩ := gd_some hf
    obtain ⟨hi, hf⟩ := ck_some hf
    refine cr_iast CX hR hL hS hk_a2_22 hi dX7_addStatic_33 (fun H locs hR hS => ?_)
    refine lv_aload_n hx hb dX7_addStatic_34 rfl (lv_at hl 1 rfl) ?_
    refine cr_getR kc_7 CX hR fa_X7_22 rfl hk_x0_8 dX7_addStatic_35 ?_
    refine lv_aload_n hx hb dX7_addStatic_38 rfl (lv_at hl 1 rfl) ?_
    refine cr_getI kc_7 CX hR fa_X7_33 rfl hk_x0_8 dX7_addStatic_39 ?_
    refine lv_iconst (v := 1) hx hb dX7_addStatic_42 (by decide) ?_
    obtain ⟨a3, ha3, hf⟩ := nn_some hf
    refine rf_2 ha3 ?_
    obtain ⟨hk_a3_24, hf⟩ := gd_some hf
    obtain ⟨hi, hf⟩ := ck_some hf
    refine cr_zast CX hR hL hS hk_a3_24 hi dX7_addStatic_43 (fun H locs hR hS => ?_)
    refine lv_aload_n hx hb dX7_addStatic_44 rfl (lv_at hl 1 rfl) ?_
    refine lv_dup hx hb dX7_addStatic_45 rfl ?_
    refine cr_getI kc_7 CX hR fa_X7_33 rfl hk_x0_8 dX7_addStatic_46 ?_
    refine lv_iconst (v := 1) hx hb dX7_addStatic_49 (by decide) ?_
    refine lv_iadd hx hb dX7_addStatic_50 ?_
    refine cr_putI kc_7 CX hR hL hS fa_X7_33 ⟨rfl, rfl, rfl⟩ hk_x0_8 dX7_addStatic_51 (fun H locs hR hS => ?_)
    refine lv_aload_n hx hb dX7_addStatic_54 rfl (lv_at hl 1 rfl) ?_
    refine lv_dup hx hb dX7_addStatic_55 rfl ?_
    refine cr_getI kc_7 CX hR fa_X7_36 rfl hk_x0_8 dX7_addStatic_56 ?_
    refine lv_iconst (v := 1) hx hb dX7_addStatic_59 (by decide) ?_
    refine lv_iadd hx hb dX7_addStatic_60 ?_
    refine cr_putI kc_7 CX hR hL hS fa_X7_36 ⟨rfl, rfl, rfl⟩ hk_x0_8 dX7_addStatic_61 (fun H locs hR hS => ?_)
    exact (wbC_X7_addStatic_64 CX hRm) _ _ _ _ _ _ hf hR hS (lv_sub hl [1, 0] rfl)
theorem MC_X7_addStatic (l : Launch) (x : Xc) (N : Nat) (K : Ka) (x0 : Nat) (x1 : Int64) (M : Cm) (o : Int32 × Cm) (hf : fC_X7_addStatic N K x0 x1 M = some o) : CtI l x yX7_addStatic cX7_addStatic 4 (some .int) 0 0 [.ref x0, .long x1] K M o :=
  cr_metI RX7 (by decide) rfl (Nat.le_of_ble_eq_true rfl) (fun p e s m args below meth c ls CX hR hl => wfC_X7_addStatic CX ⟨Nat.le_refl _, Nat.le_refl _⟩ x0 x1 M s.heap [] ls hf hR va_S.rf hl)
def fC_X8_feed (N : Nat) (K : Ka) (x0 : Nat) (x1 : Int64) (x3 : Int64) (x5 : Int64) (M : Cm) : Option (Int32 × Cm) := gd (kd K x0 == 9) (nn (cR M x0 0) fun a1 => gd (kd K a1 == 7) ((fC_X6_addBytes N K a1 x1 M).bind fun o5 => nn (cR o5 x0 0) fun a2 => gd (kd K a2 == 7) ((fC_X6_addBytes N K a2 x3 o5).bind fun o13 => nn (cR o13 x0 0) fun a3 => gd (kd K a3 == 7) ((fC_X6_addBytes N K a3 x5 o13).bind fun o22 => nn (cR o22 x0 0) fun a4 => gd (kd K a4 == 7) (some (cI o22 a4 5, o22))))))
set_option maxRecDepth 100000 in
set_option maxHeartbeats 4000000 in
theorem wfC_X8_feed {p : Program} {l : Launch} {e : Env} {R : Room} {s : State} {m : MethodId} {args : Array Value} {below : List Frame} {meth : Method} {c : Code} {x : Xc} {o : Int32 × Cm} {N : Nat} {K : Ka} (CX : CC p s m args meth c x K RX8 cX8_feed 7 (some .int)) (hRm : 1 ≤ R.frames ∧ 25 ≤ R.locals) (x0 : Nat) (x1 : Int64) (x3 : Int64) (x5 : Int64) (M : Cm) (H : Heap) (locs : List Loc) (ls : Array Slot) (hf : fC_X8_feed N K x0 x1 x3 x5 M = some o) (hR : RC x K M H) (hS : va_S (AC K) s.heap H locs) (hl : lv_has ls 7 [(0, .ref x0), (1, .long x1), (3, .long x3), (5, .long x5)]) : W p l e R s m args below meth c H locs 0 0 (MQ below (CQI x K o) args s 0 0 (AC K)) (F0 m 0 ls []) := by
  obtain ⟨hx, hb, hml, hown, hts, hE, hB, hr, hlk⟩ := id CX
  have hL : KLe K K := KLe.rf K
  have hcs : 0 ≤ R.cells ∧ 0 ≤ R.slots := ⟨Nat.zero_le _, Nat.zero_le _⟩
  unfold fC_X8_feed at hf
  refine lv_aload_n hx hb dX8_feed_0 rfl (lv_at hl 0 rfl) ?_
  obtain ⟨hk_x0_9, hf⟩ := gd_some hf
  refine cr_getR kc_8 CX hR fa_X8_12 rfl hk_x0_9 dX8_feed_1 ?_
  refine lv_lload_n hx hb dX8_feed_4 rfl (lv_at hl 1 rfl) ?_
  obtain ⟨a1, ha1, hf⟩ := nn_some hf
  refine rf_1 ha1 ?_
  obtain ⟨hk_a1_7, hf⟩ := gd_some hf
  obtain ⟨o5, ho5, hf⟩ := bnd_some hf
  refine cr_callVv kc_6 CX hR hL hS (As := [.long x1]) (rest := []) hk_a1_7 (MC_X6_addBytes l x N K a1 x1 M o5 ho5) cv_X8_81 ⟨by omega, by omega⟩ rfl rfl (Nat.le_of_ble_eq_true rfl) hl.1 dX8_feed_5 hcs (fun H locs hR hS => ?_)
  refine lv_aload_n hx hb dX8_feed_8 rfl (lv_at hl 0 rfl) ?_
  refine cr_getR kc_8 CX hR fa_X8_12 rfl hk_x0_9 dX8_feed_9 ?_
  refine lv_lload_n hx hb dX8_feed_12 rfl (lv_at hl 2 rfl) ?_
  obtain ⟨a2, ha2, hf⟩ := nn_some hf
  refine rf_1 ha2 ?_
  obtain ⟨hk_a2_7, hf⟩ := gd_some hf
  obtain ⟨o13, ho13, hf⟩ := bnd_some hf
  refine cr_callVv kc_6 CX hR hL hS (As := [.long x3]) (rest := []) hk_a2_7 (MC_X6_addBytes l x N K a2 x3 o5 o13 ho13) cv_X8_81 ⟨by omega, by omega⟩ rfl rfl (Nat.le_of_ble_eq_true rfl) hl.1 dX8_feed_13 hcs (fun H locs hR hS => ?_)
  refine lv_aload_n hx hb dX8_feed_16 rfl (lv_at hl 0 rfl) ?_
  refine cr_getR kc_8 CX hR fa_X8_12 rfl hk_x0_9 dX8_feed_17 ?_
  refine lv_lload hx hb dX8_feed_20 (lv_at hl 3 rfl) ?_
  obtain ⟨a3, ha3, hf⟩ := nn_some hf
  refine rf_1 ha3 ?_
  obtain ⟨hk_a3_7, hf⟩ := gd_some hf
  obtain ⟨o22, ho22, hf⟩ := bnd_some hf
  refine cr_callVv kc_6 CX hR hL hS (As := [.long x5]) (rest := []) hk_a3_7 (MC_X6_addBytes l x N K a3 x5 o13 o22 ho22) cv_X8_81 ⟨by omega, by omega⟩ rfl rfl (Nat.le_of_ble_eq_true rfl) hl.1 dX8_feed_22 hcs (fun H locs hR hS => ?_)
  refine lv_aload_n hx hb dX8_feed_25 rfl (lv_at hl 0 rfl) ?_
  refine cr_getR kc_8 CX hR fa_X8_12 rfl hk_x0_9 dX8_feed_26 ?_
  obtain ⟨a4, ha4, hf⟩ := nn_some hf
  refine rf_0 ha4 ?_
  obtain ⟨hk_a4_7, hf⟩ := gd_some hf
  refine cr_getI kc_6 CX hR fa_X8_85 rfl hk_a4_7 dX8_feed_29 ?_
  exact cr_iret CX hR hS hf dX8_feed_32
theorem MC_X8_feed (l : Launch) (x : Xc) (N : Nat) (K : Ka) (x0 : Nat) (x1 : Int64) (x3 : Int64) (x5 : Int64) (M : Cm) (o : Int32 × Cm) (hf : fC_X8_feed N K x0 x1 x3 x5 M = some o) : CtI l x yX8_feed cX8_feed 7 (some .int) 1 25 [.ref x0, .long x1, .long x3, .long x5] K M o :=
  cr_metI RX8 (by decide) rfl (Nat.le_of_ble_eq_true rfl) (fun p e s m args below meth c ls CX hR hl => wfC_X8_feed CX ⟨Nat.le_refl _, Nat.le_refl _⟩ x0 x1 x3 x5 M s.heap [] ls hf hR va_S.rf hl)
def bC_X8_named_35 (N : Nat) (K : Ka) (x0 : Nat) (x1 : Int32) (s0 : Int32) (M : Cm) : Option (Int32 × Cm) := gd (kd K x0 == 9) (nn (cR M x0 0) fun a1 => gd (kd K a1 == 7) ((fC_X6_valueAt N K a1 0 M).bind fun o41 => nn (cR o41.2 x0 0) fun a2 => gd (kd K a2 == 7) ((fC_X6_empty N K a2 o41.2).bind fun o49 => if s0 = 0 then (some ((-1), o49)) else (if x1 = 0 then (nn (cR o49 x0 7) fun a3 => gd (kd K a3 == 6) (nn (cR o49 x0 7) fun a4 => gd (kd K a4 == 6) (nn (cR o49 a3 0) fun a5 => (fC_X8_rankOf N K o41.1 a5 (cI o49 a4 10) o49).bind fun o99 => some (o99.1, o99.2)))) else if x1 = 1 then (nn (cR o49 x0 7) fun a6 => gd (kd K a6 == 6) (nn (cR o49 x0 7) fun a7 => gd (kd K a7 == 6) (nn (cR o49 a6 4) fun a8 => (fC_X8_rankOf N K o41.1 a8 (cI o49 a7 11) o49).bind fun o118 => some (o118.1, o118.2)))) else if x1 = 2 then (nn (cR o49 x0 7) fun a9 => gd (kd K a9 == 6) (nn (cR o49 x0 7) fun a10 => gd (kd K a10 == 6) (nn (cR o49 a9 7) fun a11 => (fC_X8_rankOf N K o41.1 a11 (cI o49 a10 12) o49).bind fun o137 => some (o137.1, o137.2)))) else (some ((-1), o49))))))
set_option maxRecDepth 100000 in
set_option maxHeartbeats 4000000 in
theorem wbC_X8_named_35 {p : Program} {l : Launch} {e : Env} {R : Room} {s : State} {m : MethodId} {args : Array Value} {below : List Frame} {meth : Method} {c : Code} {x : Xc} {o : Int32 × Cm} {N : Nat} {K : Ka} (CX : CC p s m args meth c x K RX8 cX8_named 5 (some .int)) (hRm : 5 ≤ R.frames ∧ 129 ≤ R.locals) (x0 : Nat) (x1 : Int32) (s0 : Int32) (M : Cm) (H : Heap) (locs : List Loc) (ls : Array Slot) (hf : bC_X8_named_35 N K x0 x1 s0 M = some o) (hR : RC x K M H) (hS : va_S (AC K) s.heap H locs) (hl : lv_has ls 5 [(0, .ref x0), (1, .int x1)]) : W p l e R s m args below meth c H locs 0 0 (MQ below (CQI x K o) args s 0 0 (AC K)) (F0 m 35 ls [.int s0]) := by
  obtain ⟨hx, hb, hml, hown, hts, hE, hB, hr, hlk⟩ := id CX
  have hL : KLe K K := KLe.rf K
  have hcs : 0 ≤ R.cells ∧ 0 ≤ R.slots := ⟨Nat.zero_le _, Nat.zero_le _⟩
  unfold bC_X8_named_35 at hf
  refine lv_istore_n (lv' := [(2, .int s0), (0, .ref x0), (1, .int x1)]) hx hb dX8_named_35 rfl hl (by decide) rfl (fun ls hl => ?_)
  refine lv_aload_n hx hb dX8_named_36 rfl (lv_at hl 1 rfl) ?_
  obtain ⟨hk_x0_9, hf⟩ := gd_some hf
  refine cr_getR kc_8 CX hR fa_X8_12 rfl hk_x0_9 dX8_named_37 ?_
  refine lv_iconst (v := 0) hx hb dX8_named_40 (by decide) ?_
  obtain ⟨a1, ha1, hf⟩ := nn_some hf
  refine rf_1 ha1 ?_
  obtain ⟨hk_a1_7, hf⟩ := gd_some hf
  obtain ⟨o41, ho41, hf⟩ := bnd_some hf
  refine cr_callLv kc_6 CX hR hL hS (As := [.int 0]) (rest := []) hk_a1_7 (MC_X6_valueAt l x N K a1 0 M o41 ho41) cv_X8_115 ⟨by omega, by omega⟩ rfl rfl (Nat.le_of_ble_eq_true rfl) hl.1 dX8_named_41 hcs (fun H locs hR hS => ?_)
  refine lv_lstore_n (lv' := [(3, .long o41.1), (2, .int s0), (0, .ref x0), (1, .int x1)]) hx hb dX8_named_44 rfl hl (by decide) rfl (fun ls hl => ?_)
  refine lv_aload_n hx hb dX8_named_45 rfl (lv_at hl 2 rfl) ?_
  refine cr_getR kc_8 CX hR fa_X8_12 rfl hk_x0_9 dX8_named_46 ?_
  obtain ⟨a2, ha2, hf⟩ := nn_some hf
  refine rf_0 ha2 ?_
  obtain ⟨hk_a2_7, hf⟩ := gd_some hf
  obtain ⟨o49, ho49, hf⟩ := bnd_some hf
  refine cr_callVv kc_6 CX hR hL hS (As := []) (rest := []) hk_a2_7 (MC_X6_empty l x N K a2 o41.2 o49 ho49) cv_X8_97 ⟨by omega, by omega⟩ rfl rfl (Nat.le_of_ble_eq_true rfl) hl.1 dX8_named_49 hcs (fun H locs hR hS => ?_)
  refine lv_iload_n hx hb dX8_named_52 rfl (lv_at hl 1 rfl) ?_
  refine lv_if_ne (tgt := 58) hx hb dX8_named_53 (by decide) (fun hc => ?_) (fun hc => ?_)
  · rw [if_neg hc] at hf
    refine lv_iload_n hx hb dX8_named_58 rfl (lv_at hl 3 rfl) ?_
    by_cases hc0 : x1 = 0
    · rw [if_pos hc0] at hf
      refine lv_tableIn (off := 25) (tgt := 84) hx hb dX8_named_59 (by rw [hc0]; decide) (by rw [hc0]; decide) (by rw [hc0]; decide) (by decide) ?_
      refine lv_lload_n hx hb dX8_named_84 rfl (lv_at hl 0 rfl) ?_
      refine lv_aload_n hx hb dX8_named_85 rfl (lv_at hl 2 rfl) ?_
      refine cr_getR kc_8 CX hR fa_X8_60 rfl hk_x0_9 dX8_named_86 ?_
      obtain ⟨a3, ha3, hf⟩ := nn_some hf
      refine rf_0 ha3 ?_
      obtain ⟨hk_a3_6, hf⟩ := gd_some hf
      refine cr_getR kc_5 CX hR fa_X8_119 rfl hk_a3_6 dX8_named_89 ?_
      refine lv_aload_n hx hb dX8_named_92 rfl (lv_at hl 2 rfl) ?_
      refine cr_getR kc_8 CX hR fa_X8_60 rfl hk_x0_9 dX8_named_93 ?_
      obtain ⟨a4, ha4, hf⟩ := nn_some hf
      refine rf_0 ha4 ?_
      obtain ⟨hk_a4_6, hf⟩ := gd_some hf
      refine cr_getI kc_5 CX hR fa_X8_123 rfl hk_a4_6 dX8_named_96 ?_
      obtain ⟨a5, ha5, hf⟩ := nn_some hf
      refine rf_1 ha5 ?_
      obtain ⟨o99, ho99, hf⟩ := bnd_some hf
      refine cr_callIs CX hR hL hS (As := [.long o41.1, .ref a5, .int (cI o49 a4 10)]) (rest := []) (MC_X8_rankOf l x N K o41.1 a5 (cI o49 a4 10) o49 o99 ho99) cs_X8_126 ⟨by omega, by omega⟩ rfl rfl (Nat.le_of_ble_eq_true rfl) hl.1 dX8_named_99 hcs (fun H locs hR hS => ?_)
      exact cr_iret CX hR hS hf dX8_named_102
    · rw [if_neg hc0] at hf
      by_cases hc1 : x1 = 1
      · rw [if_pos hc1] at hf
        refine lv_tableIn (off := 44) (tgt := 103) hx hb dX8_named_59 (by rw [hc1]; decide) (by rw [hc1]; decide) (by rw [hc1]; decide) (by decide) ?_
        refine lv_lload_n hx hb dX8_named_103 rfl (lv_at hl 0 rfl) ?_
        refine lv_aload_n hx hb dX8_named_104 rfl (lv_at hl 2 rfl) ?_
        refine cr_getR kc_8 CX hR fa_X8_60 rfl hk_x0_9 dX8_named_105 ?_
        obtain ⟨a6, ha6, hf⟩ := nn_some hf
        refine rf_0 ha6 ?_
        obtain ⟨hk_a6_6, hf⟩ := gd_some hf
        refine cr_getR kc_5 CX hR fa_X8_130 rfl hk_a6_6 dX8_named_108 ?_
        refine lv_aload_n hx hb dX8_named_111 rfl (lv_at hl 2 rfl) ?_
        refine cr_getR kc_8 CX hR fa_X8_60 rfl hk_x0_9 dX8_named_112 ?_
        obtain ⟨a7, ha7, hf⟩ := nn_some hf
        refine rf_0 ha7 ?_
        obtain ⟨hk_a7_6, hf⟩ := gd_some hf
        refine cr_getI kc_5 CX hR fa_X8_133 rfl hk_a7_6 dX8_named_115 ?_
        obtain ⟨a8, ha8, hf⟩ := nn_some hf
        refine rf_1 ha8 ?_
        obtain ⟨o118, ho118, hf⟩ := bnd_some hf
        refine cr_callIs CX hR hL hS (As := [.long o41.1, .ref a8, .int (cI o49 a7 11)]) (rest := []) (MC_X8_rankOf l x N K o41.1 a8 (cI o49 a7 11) o49 o118 ho118) cs_X8_126 ⟨by omega, by omega⟩ rfl rfl (Nat.le_of_ble_eq_true rfl) hl.1 dX8_named_118 hcs (fun H locs hR hS => ?_)
        exact cr_iret CX hR hS hf dX8_named_121
      · rw [if_neg hc1] at hf
        by_cases hc2 : x1 = 2
        · rw [if_pos hc2] at hf
          refine lv_tableIn (off := 63) (tgt := 122) hx hb dX8_named_59 (by rw [hc2]; decide) (by rw [hc2]; decide) (by rw [hc2]; decide) (by decide) ?_
          refine lv_lload_n hx hb dX8_named_122 rfl (lv_at hl 0 rfl) ?_
          refine lv_aload_n hx hb dX8_named_123 rfl (lv_at hl 2 rfl) ?_
          refine cr_getR kc_8 CX hR fa_X8_60 rfl hk_x0_9 dX8_named_124 ?_
          obtain ⟨a9, ha9, hf⟩ := nn_some hf
          refine rf_0 ha9 ?_
          obtain ⟨hk_a9_6, hf⟩ := gd_some hf
          refine cr_getR kc_5 CX hR fa_X8_136 rfl hk_a9_6 dX8_named_127 ?_
          refine lv_aload_n hx hb dX8_named_130 rfl (lv_at hl 2 rfl) ?_
          refine cr_getR kc_8 CX hR fa_X8_60 rfl hk_x0_9 dX8_named_131 ?_
          obtain ⟨a10, ha10, hf⟩ := nn_some hf
          refine rf_0 ha10 ?_
          obtain ⟨hk_a10_6, hf⟩ := gd_some hf
          refine cr_getI kc_5 CX hR fa_X8_139 rfl hk_a10_6 dX8_named_134 ?_
          obtain ⟨a11, ha11, hf⟩ := nn_some hf
          refine rf_1 ha11 ?_
          obtain ⟨o137, ho137, hf⟩ := bnd_some hf
          refine cr_callIs CX hR hL hS (As := [.long o41.1, .ref a11, .int (cI o49 a10 12)]) (rest := []) (MC_X8_rankOf l x N K o41.1 a11 (cI o49 a10 12) o49 o137 ho137) cs_X8_126 ⟨by omega, by omega⟩ rfl rfl (Nat.le_of_ble_eq_true rfl) hl.1 dX8_named_137 hcs (fun H locs hR hS => ?_)
          exact cr_iret CX hR hS hf dX8_named_140
        · rw [if_neg hc2] at hf
          have hn0 := tsw_ne (k := 0) rfl hc0
          have hn1 := tsw_ne (k := 1) rfl hc1
          have hn2 := tsw_ne (k := 2) rfl hc2
          refine lv_tableOut (tgt := 141) hx hb dX8_named_59 (by omega) (by decide) ?_
          refine lv_iconst (v := (-1)) hx hb dX8_named_141 (by decide) ?_
          exact cr_iret CX hR hS hf dX8_named_142
  · rw [if_pos hc] at hf
    refine lv_iconst (v := (-1)) hx hb dX8_named_56 (by decide) ?_
    exact cr_iret CX hR hS hf dX8_named_57
def bC_X8_named_34 (N : Nat) (K : Ka) (x0 : Nat) (x1 : Int32) (M : Cm) : Option (Int32 × Cm) := (bC_X8_named_35 N K) x0 x1 0 M
set_option maxRecDepth 100000 in
set_option maxHeartbeats 4000000 in
theorem wbC_X8_named_34 {p : Program} {l : Launch} {e : Env} {R : Room} {s : State} {m : MethodId} {args : Array Value} {below : List Frame} {meth : Method} {c : Code} {x : Xc} {o : Int32 × Cm} {N : Nat} {K : Ka} (CX : CC p s m args meth c x K RX8 cX8_named 5 (some .int)) (hRm : 5 ≤ R.frames ∧ 129 ≤ R.locals) (x0 : Nat) (x1 : Int32) (M : Cm) (H : Heap) (locs : List Loc) (ls : Array Slot) (hf : bC_X8_named_34 N K x0 x1 M = some o) (hR : RC x K M H) (hS : va_S (AC K) s.heap H locs) (hl : lv_has ls 5 [(0, .ref x0), (1, .int x1)]) : W p l e R s m args below meth c H locs 0 0 (MQ below (CQI x K o) args s 0 0 (AC K)) (F0 m 34 ls []) := by
  obtain ⟨hx, hb, hml, hown, hts, hE, hB, hr, hlk⟩ := id CX
  have hL : KLe K K := KLe.rf K
  have hcs : 0 ≤ R.cells ∧ 0 ≤ R.slots := ⟨Nat.zero_le _, Nat.zero_le _⟩
  unfold bC_X8_named_34 at hf
  refine lv_iconst (v := 0) hx hb dX8_named_34 (by decide) ?_
  exact (wbC_X8_named_35 CX hRm) _ _ _ _ _ _ _ hf hR hS (lv_sub hl [0, 1] rfl)
def fC_X8_named (N : Nat) (K : Ka) (x0 : Nat) (x1 : Int32) (M : Cm) : Option (Int32 × Cm) := gd (kd K x0 == 9) (nn (cR M x0 0) fun a1 => gd (kd K a1 == 7) ((fC_X6_scan N K a1 M).bind fun o4 => nn (cR o4 x0 0) fun a2 => gd (kd K a2 == 7) (if (cI o4 a2 6) = 2 then (nn (cR o4 x0 0) fun a3 => gd (kd K a3 == 7) ((fC_X6_kindAt N K a3 0 o4).bind fun o23 => if o23.1 = 2 then ((bC_X8_named_35 N K) x0 x1 1 o23.2) else ((bC_X8_named_34 N K) x0 x1 o23.2))) else ((bC_X8_named_34 N K) x0 x1 o4))))
set_option maxRecDepth 100000 in
set_option maxHeartbeats 4000000 in
theorem wfC_X8_named {p : Program} {l : Launch} {e : Env} {R : Room} {s : State} {m : MethodId} {args : Array Value} {below : List Frame} {meth : Method} {c : Code} {x : Xc} {o : Int32 × Cm} {N : Nat} {K : Ka} (CX : CC p s m args meth c x K RX8 cX8_named 5 (some .int)) (hRm : 5 ≤ R.frames ∧ 129 ≤ R.locals) (x0 : Nat) (x1 : Int32) (M : Cm) (H : Heap) (locs : List Loc) (ls : Array Slot) (hf : fC_X8_named N K x0 x1 M = some o) (hR : RC x K M H) (hS : va_S (AC K) s.heap H locs) (hl : lv_has ls 5 [(0, .ref x0), (1, .int x1)]) : W p l e R s m args below meth c H locs 0 0 (MQ below (CQI x K o) args s 0 0 (AC K)) (F0 m 0 ls []) := by
  obtain ⟨hx, hb, hml, hown, hts, hE, hB, hr, hlk⟩ := id CX
  have hL : KLe K K := KLe.rf K
  have hcs : 0 ≤ R.cells ∧ 0 ≤ R.slots := ⟨Nat.zero_le _, Nat.zero_le _⟩
  unfold fC_X8_named at hf
  refine lv_aload_n hx hb dX8_named_0 rfl (lv_at hl 0 rfl) ?_
  obtain ⟨hk_x0_9, hf⟩ := gd_some hf
  refine cr_getR kc_8 CX hR fa_X8_12 rfl hk_x0_9 dX8_named_1 ?_
  obtain ⟨a1, ha1, hf⟩ := nn_some hf
  refine rf_0 ha1 ?_
  obtain ⟨hk_a1_7, hf⟩ := gd_some hf
  obtain ⟨o4, ho4, hf⟩ := bnd_some hf
  refine cr_callVv kc_6 CX hR hL hS (As := []) (rest := []) hk_a1_7 (MC_X6_scan l x N K a1 M o4 ho4) cv_X8_88 ⟨by omega, by omega⟩ rfl rfl (Nat.le_of_ble_eq_true rfl) hl.1 dX8_named_4 hcs (fun H locs hR hS => ?_)
  refine lv_aload_n hx hb dX8_named_7 rfl (lv_at hl 0 rfl) ?_
  refine cr_getR kc_8 CX hR fa_X8_12 rfl hk_x0_9 dX8_named_8 ?_
  obtain ⟨a2, ha2, hf⟩ := nn_some hf
  refine rf_0 ha2 ?_
  obtain ⟨hk_a2_7, hf⟩ := gd_some hf
  refine cr_getI kc_6 CX hR fa_X8_108 rfl hk_a2_7 dX8_named_11 ?_
  refine lv_iconst (v := 2) hx hb dX8_named_14 (by decide) ?_
  refine lv_icmp_ne (tgt := 34) hx hb dX8_named_15 (by decide) (fun hc => ?_) (fun hc => ?_)
  · rw [if_neg hc] at hf
    exact (wbC_X8_named_34 CX hRm) _ _ _ _ _ _ hf hR hS (lv_sub hl [0, 1] rfl)
  · rw [if_pos hc] at hf
    refine lv_aload_n hx hb dX8_named_18 rfl (lv_at hl 0 rfl) ?_
    refine cr_getR kc_8 CX hR fa_X8_12 rfl hk_x0_9 dX8_named_19 ?_
    refine lv_iconst (v := 0) hx hb dX8_named_22 (by decide) ?_
    obtain ⟨a3, ha3, hf⟩ := nn_some hf
    refine rf_1 ha3 ?_
    obtain ⟨hk_a3_7, hf⟩ := gd_some hf
    obtain ⟨o23, ho23, hf⟩ := bnd_some hf
    refine cr_callIv kc_6 CX hR hL hS (As := [.int 0]) (rest := []) hk_a3_7 (MC_X6_kindAt l x N K a3 0 o4 o23 ho23) cv_X8_111 ⟨by omega, by omega⟩ rfl rfl (Nat.le_of_ble_eq_true rfl) hl.1 dX8_named_23 hcs (fun H locs hR hS => ?_)
    refine lv_iconst (v := 2) hx hb dX8_named_26 (by decide) ?_
    refine lv_icmp_ne (tgt := 34) hx hb dX8_named_27 (by decide) (fun hc => ?_) (fun hc => ?_)
    · rw [if_neg hc] at hf
      exact (wbC_X8_named_34 CX hRm) _ _ _ _ _ _ hf hR hS (lv_sub hl [0, 1] rfl)
    · rw [if_pos hc] at hf
      refine lv_iconst (v := 1) hx hb dX8_named_30 (by decide) ?_
      refine lv_goto (tgt := 35) hx hb dX8_named_31 (by decide) ?_
      exact (wbC_X8_named_35 CX hRm) _ _ _ _ _ _ _ hf hR hS (lv_sub hl [0, 1] rfl)
theorem MC_X8_named (l : Launch) (x : Xc) (N : Nat) (K : Ka) (x0 : Nat) (x1 : Int32) (M : Cm) (o : Int32 × Cm) (hf : fC_X8_named N K x0 x1 M = some o) : CtI l x yX8_named cX8_named 5 (some .int) 5 129 [.ref x0, .int x1] K M o :=
  cr_metI RX8 (by decide) rfl (Nat.le_of_ble_eq_true rfl) (fun p e s m args below meth c ls CX hR hl => wfC_X8_named CX ⟨Nat.le_refl _, Nat.le_refl _⟩ x0 x1 M s.heap [] ls hf hR va_S.rf hl)
def bC_X8_canDemand_32 (N : Nat) (K : Ka) (x0 : Nat) (s0 : Int32) (M : Cm) : Option (Int32 × Cm) := gd (is01 s0) (some (s0, M))
set_option maxRecDepth 100000 in
set_option maxHeartbeats 4000000 in
theorem wbC_X8_canDemand_32 {p : Program} {l : Launch} {e : Env} {R : Room} {s : State} {m : MethodId} {args : Array Value} {below : List Frame} {meth : Method} {c : Code} {x : Xc} {o : Int32 × Cm} {N : Nat} {K : Ka} (CX : CC p s m args meth c x K RX8 cX8_canDemand 3 (some .boolean)) (hRm : 0 ≤ R.frames ∧ 0 ≤ R.locals) (x0 : Nat) (s0 : Int32) (M : Cm) (H : Heap) (locs : List Loc) (ls : Array Slot) (hf : bC_X8_canDemand_32 N K x0 s0 M = some o) (hR : RC x K M H) (hS : va_S (AC K) s.heap H locs) (hl : lv_has ls 3 [(0, .ref x0)]) : W p l e R s m args below meth c H locs 0 0 (MQ below (CQI x K o) args s 0 0 (AC K)) (F0 m 32 ls [.int s0]) := by
  obtain ⟨hx, hb, hml, hown, hts, hE, hB, hr, hlk⟩ := id CX
  have hL : KLe K K := KLe.rf K
  have hcs : 0 ≤ R.cells ∧ 0 ≤ R.slots := ⟨Nat.zero_le _, Nat.zero_le _⟩
  unfold bC_X8_canDemand_32 at hf
  obtain ⟨hz, hf⟩ := gd_some hf
  exact cr_zret CX hR hS hz hf dX8_canDemand_32
def bC_X8_canDemand_31 (N : Nat) (K : Ka) (x0 : Nat) (M : Cm) : Option (Int32 × Cm) := (bC_X8_canDemand_32 N K) x0 0 M
set_option maxRecDepth 100000 in
set_option maxHeartbeats 4000000 in
theorem wbC_X8_canDemand_31 {p : Program} {l : Launch} {e : Env} {R : Room} {s : State} {m : MethodId} {args : Array Value} {below : List Frame} {meth : Method} {c : Code} {x : Xc} {o : Int32 × Cm} {N : Nat} {K : Ka} (CX : CC p s m args meth c x K RX8 cX8_canDemand 3 (some .boolean)) (hRm : 0 ≤ R.frames ∧ 0 ≤ R.locals) (x0 : Nat) (M : Cm) (H : Heap) (locs : List Loc) (ls : Array Slot) (hf : bC_X8_canDemand_31 N K x0 M = some o) (hR : RC x K M H) (hS : va_S (AC K) s.heap H locs) (hl : lv_has ls 3 [(0, .ref x0)]) : W p l e R s m args below meth c H locs 0 0 (MQ below (CQI x K o) args s 0 0 (AC K)) (F0 m 31 ls []) := by
  obtain ⟨hx, hb, hml, hown, hts, hE, hB, hr, hlk⟩ := id CX
  have hL : KLe K K := KLe.rf K
  have hcs : 0 ≤ R.cells ∧ 0 ≤ R.slots := ⟨Nat.zero_le _, Nat.zero_le _⟩
  unfold bC_X8_canDemand_31 at hf
  refine lv_iconst (v := 0) hx hb dX8_canDemand_31 (by decide) ?_
  exact (wbC_X8_canDemand_32 CX hRm) _ _ _ _ _ _ hf hR hS (lv_sub hl [0] rfl)
def fC_X8_canDemand (N : Nat) (K : Ka) (x0 : Nat) (x1 : Int32) (x2 : Int32) (M : Cm) : Option (Int32 × Cm) := if x1 < 0 then ((bC_X8_canDemand_31 N K) x0 M) else (gd (kd K x0 == 9) (nn (cR M x0 7) fun a1 => gd (kd K a1 == 6) (if (cI M a1 12) ≤ x1 then ((bC_X8_canDemand_31 N K) x0 M) else (if x2 < 1 then ((bC_X8_canDemand_31 N K) x0 M) else (if 5000 < x2 then ((bC_X8_canDemand_31 N K) x0 M) else ((bC_X8_canDemand_32 N K) x0 1 M))))))
set_option maxRecDepth 100000 in
set_option maxHeartbeats 4000000 in
theorem wfC_X8_canDemand {p : Program} {l : Launch} {e : Env} {R : Room} {s : State} {m : MethodId} {args : Array Value} {below : List Frame} {meth : Method} {c : Code} {x : Xc} {o : Int32 × Cm} {N : Nat} {K : Ka} (CX : CC p s m args meth c x K RX8 cX8_canDemand 3 (some .boolean)) (hRm : 0 ≤ R.frames ∧ 0 ≤ R.locals) (x0 : Nat) (x1 : Int32) (x2 : Int32) (M : Cm) (H : Heap) (locs : List Loc) (ls : Array Slot) (hf : fC_X8_canDemand N K x0 x1 x2 M = some o) (hR : RC x K M H) (hS : va_S (AC K) s.heap H locs) (hl : lv_has ls 3 [(0, .ref x0), (1, .int x1), (2, .int x2)]) : W p l e R s m args below meth c H locs 0 0 (MQ below (CQI x K o) args s 0 0 (AC K)) (F0 m 0 ls []) := by
  obtain ⟨hx, hb, hml, hown, hts, hE, hB, hr, hlk⟩ := id CX
  have hL : KLe K K := KLe.rf K
  have hcs : 0 ≤ R.cells ∧ 0 ≤ R.slots := ⟨Nat.zero_le _, Nat.zero_le _⟩
  unfold fC_X8_canDemand at hf
  refine lv_iload_n hx hb dX8_canDemand_0 rfl (lv_at hl 1 rfl) ?_
  refine lv_if_lt (tgt := 31) hx hb dX8_canDemand_1 (by decide) (fun hc => ?_) (fun hc => ?_)
  · rw [if_pos hc] at hf
    exact (wbC_X8_canDemand_31 CX hRm) _ _ _ _ _ hf hR hS (lv_sub hl [0] rfl)
  · rw [if_neg hc] at hf
    refine lv_iload_n hx hb dX8_canDemand_4 rfl (lv_at hl 1 rfl) ?_
    refine lv_aload_n hx hb dX8_canDemand_5 rfl (lv_at hl 0 rfl) ?_
    obtain ⟨hk_x0_9, hf⟩ := gd_some hf
    refine cr_getR kc_8 CX hR fa_X8_60 rfl hk_x0_9 dX8_canDemand_6 ?_
    obtain ⟨a1, ha1, hf⟩ := nn_some hf
    refine rf_0 ha1 ?_
    obtain ⟨hk_a1_6, hf⟩ := gd_some hf
    refine cr_getI kc_5 CX hR fa_X8_139 rfl hk_a1_6 dX8_canDemand_9 ?_
    refine lv_icmp_ge (tgt := 31) hx hb dX8_canDemand_12 (by decide) (fun hc => ?_) (fun hc => ?_)
    · rw [if_pos hc] at hf
      exact (wbC_X8_canDemand_31 CX hRm) _ _ _ _ _ hf hR hS (lv_sub hl [0] rfl)
    · rw [if_neg hc] at hf
      refine lv_iload_n hx hb dX8_canDemand_15 rfl (lv_at hl 2 rfl) ?_
      refine lv_iconst (v := 1) hx hb dX8_canDemand_16 (by decide) ?_
      refine lv_icmp_lt (tgt := 31) hx hb dX8_canDemand_17 (by decide) (fun hc => ?_) (fun hc => ?_)
      · rw [if_pos hc] at hf
        exact (wbC_X8_canDemand_31 CX hRm) _ _ _ _ _ hf hR hS (lv_sub hl [0] rfl)
      · rw [if_neg hc] at hf
        refine lv_iload_n hx hb dX8_canDemand_20 rfl (lv_at hl 2 rfl) ?_
        refine lv_sipush (v := 5000) hx hb dX8_canDemand_21 (by decide) ?_
        refine lv_icmp_gt (tgt := 31) hx hb dX8_canDemand_24 (by decide) (fun hc => ?_) (fun hc => ?_)
        · rw [if_pos hc] at hf
          exact (wbC_X8_canDemand_31 CX hRm) _ _ _ _ _ hf hR hS (lv_sub hl [0] rfl)
        · rw [if_neg hc] at hf
          refine lv_iconst (v := 1) hx hb dX8_canDemand_27 (by decide) ?_
          refine lv_goto (tgt := 32) hx hb dX8_canDemand_28 (by decide) ?_
          exact (wbC_X8_canDemand_32 CX hRm) _ _ _ _ _ _ hf hR hS (lv_sub hl [0] rfl)
theorem MC_X8_canDemand (l : Launch) (x : Xc) (N : Nat) (K : Ka) (x0 : Nat) (x1 : Int32) (x2 : Int32) (M : Cm) (o : Int32 × Cm) (hf : fC_X8_canDemand N K x0 x1 x2 M = some o) : CtI l x yX8_canDemand cX8_canDemand 3 (some .boolean) 0 0 [.ref x0, .int x1, .int x2] K M o :=
  cr_metI RX8 (by decide) rfl (Nat.le_of_ble_eq_true rfl) (fun p e s m args below meth c ls CX hR hl => wfC_X8_canDemand CX ⟨Nat.le_refl _, Nat.le_refl _⟩ x0 x1 x2 M s.heap [] ls hf hR va_S.rf hl)
def fC_X8_demand (N : Nat) (K : Ka) (x0 : Nat) (x1 : Int32) (x2 : Int32) (M : Cm) : Option (Int32 × Cm) := gd (kd K x0 == 9) ((fC_X8_canDemand N K x0 x1 x2 M).bind fun o3 => if o3.1 = 0 then (some (4, o3.2)) else (if (cI o3.2 x0 12) = 0 then (nn (cR o3.2 x0 7) fun a1 => nn (cR o3.2 x0 5) fun a2 => gd (kd K a2 == 3) ((fC_X2_runDemand N K a2 a1 x1 x2 o3.2).bind fun o30 => nn (cR o30 x0 5) fun a3 => gd (kd K a3 == 3) (nn (cR (wI o30 x0 9 (cI o30 a3 15)) x0 5) fun a4 => gd (kd K a4 == 3) (nn (cR (wI (wI o30 x0 9 (cI o30 a3 15)) x0 10 (cI (wI o30 x0 9 (cI o30 a3 15)) a4 16)) x0 5) fun a5 => gd (kd K a5 == 3) (nn (cR (wI (wI (wI o30 x0 9 (cI o30 a3 15)) x0 10 (cI (wI o30 x0 9 (cI o30 a3 15)) a4 16)) x0 11 (cI (wI (wI o30 x0 9 (cI o30 a3 15)) x0 10 (cI (wI o30 x0 9 (cI o30 a3 15)) a4 16)) a5 12)) x0 5) fun a6 => gd (kd K a6 == 3) (if (cI (wI (wI (wI o30 x0 9 (cI o30 a3 15)) x0 10 (cI (wI o30 x0 9 (cI o30 a3 15)) a4 16)) x0 11 (cI (wI (wI o30 x0 9 (cI o30 a3 15)) x0 10 (cI (wI o30 x0 9 (cI o30 a3 15)) a4 16)) a5 12)) a6 14) = 0 then (if (cI (wI (wI (wI o30 x0 9 (cI o30 a3 15)) x0 10 (cI (wI o30 x0 9 (cI o30 a3 15)) a4 16)) x0 11 (cI (wI (wI o30 x0 9 (cI o30 a3 15)) x0 10 (cI (wI o30 x0 9 (cI o30 a3 15)) a4 16)) a5 12)) x0 9) = 0 then (some (0, wI (wI (wI o30 x0 9 (cI o30 a3 15)) x0 10 (cI (wI o30 x0 9 (cI o30 a3 15)) a4 16)) x0 11 (cI (wI (wI o30 x0 9 (cI o30 a3 15)) x0 10 (cI (wI o30 x0 9 (cI o30 a3 15)) a4 16)) a5 12))) else if (cI (wI (wI (wI o30 x0 9 (cI o30 a3 15)) x0 10 (cI (wI o30 x0 9 (cI o30 a3 15)) a4 16)) x0 11 (cI (wI (wI o30 x0 9 (cI o30 a3 15)) x0 10 (cI (wI o30 x0 9 (cI o30 a3 15)) a4 16)) a5 12)) x0 9) = 20 then (some (1, wI (wI (wI o30 x0 9 (cI o30 a3 15)) x0 10 (cI (wI o30 x0 9 (cI o30 a3 15)) a4 16)) x0 11 (cI (wI (wI o30 x0 9 (cI o30 a3 15)) x0 10 (cI (wI o30 x0 9 (cI o30 a3 15)) a4 16)) a5 12))) else if (cI (wI (wI (wI o30 x0 9 (cI o30 a3 15)) x0 10 (cI (wI o30 x0 9 (cI o30 a3 15)) a4 16)) x0 11 (cI (wI (wI o30 x0 9 (cI o30 a3 15)) x0 10 (cI (wI o30 x0 9 (cI o30 a3 15)) a4 16)) a5 12)) x0 9) = 21 then (some (2, wI (wI (wI o30 x0 9 (cI o30 a3 15)) x0 10 (cI (wI o30 x0 9 (cI o30 a3 15)) a4 16)) x0 11 (cI (wI (wI o30 x0 9 (cI o30 a3 15)) x0 10 (cI (wI o30 x0 9 (cI o30 a3 15)) a4 16)) a5 12))) else (some (3, wI (wI (wI o30 x0 9 (cI o30 a3 15)) x0 10 (cI (wI o30 x0 9 (cI o30 a3 15)) a4 16)) x0 11 (cI (wI (wI o30 x0 9 (cI o30 a3 15)) x0 10 (cI (wI o30 x0 9 (cI o30 a3 15)) a4 16)) a5 12)))) else (some (6, wI (wI (wI o30 x0 9 (cI o30 a3 15)) x0 10 (cI (wI o30 x0 9 (cI o30 a3 15)) a4 16)) x0 11 (cI (wI (wI o30 x0 9 (cI o30 a3 15)) x0 10 (cI (wI o30 x0 9 (cI o30 a3 15)) a4 16)) a5 12))))))))) else (some (5, o3.2))))
set_option maxRecDepth 100000 in
set_option maxHeartbeats 4000000 in
theorem wfC_X8_demand {p : Program} {l : Launch} {e : Env} {R : Room} {s : State} {m : MethodId} {args : Array Value} {below : List Frame} {meth : Method} {c : Code} {x : Xc} {o : Int32 × Cm} {N : Nat} {K : Ka} (CX : CC p s m args meth c x K RX8 cX8_demand 3 (some .int)) (hRm : 7 ≤ R.frames ∧ 167 ≤ R.locals) (x0 : Nat) (x1 : Int32) (x2 : Int32) (M : Cm) (H : Heap) (locs : List Loc) (ls : Array Slot) (hf : fC_X8_demand N K x0 x1 x2 M = some o) (hR : RC x K M H) (hS : va_S (AC K) s.heap H locs) (hl : lv_has ls 3 [(0, .ref x0), (1, .int x1), (2, .int x2)]) : W p l e R s m args below meth c H locs 0 0 (MQ below (CQI x K o) args s 0 0 (AC K)) (F0 m 0 ls []) := by
  obtain ⟨hx, hb, hml, hown, hts, hE, hB, hr, hlk⟩ := id CX
  have hL : KLe K K := KLe.rf K
  have hcs : 0 ≤ R.cells ∧ 0 ≤ R.slots := ⟨Nat.zero_le _, Nat.zero_le _⟩
  unfold fC_X8_demand at hf
  refine lv_aload_n hx hb dX8_demand_0 rfl (lv_at hl 0 rfl) ?_
  refine lv_iload_n hx hb dX8_demand_1 rfl (lv_at hl 1 rfl) ?_
  refine lv_iload_n hx hb dX8_demand_2 rfl (lv_at hl 2 rfl) ?_
  obtain ⟨hk_x0_9, hf⟩ := gd_some hf
  obtain ⟨o3, ho3, hf⟩ := bnd_some hf
  refine cr_callIv kc_8 CX hR hL hS (As := [.int x1, .int x2]) (rest := []) hk_x0_9 (MC_X8_canDemand l x N K x0 x1 x2 M o3 ho3) cv_X8_142 ⟨by omega, by omega⟩ rfl rfl (Nat.le_of_ble_eq_true rfl) hl.1 dX8_demand_3 hcs (fun H locs hR hS => ?_)
  refine lv_if_ne (tgt := 11) hx hb dX8_demand_6 (by decide) (fun hc => ?_) (fun hc => ?_)
  · rw [if_neg hc] at hf
    refine lv_aload_n hx hb dX8_demand_11 rfl (lv_at hl 0 rfl) ?_
    refine cr_getI kc_8 CX hR fa_X8_77 rfl hk_x0_9 dX8_demand_12 ?_
    refine lv_if_eq (tgt := 20) hx hb dX8_demand_15 (by decide) (fun hc => ?_) (fun hc => ?_)
    · rw [if_pos hc] at hf
      refine lv_aload_n hx hb dX8_demand_20 rfl (lv_at hl 0 rfl) ?_
      refine cr_getR kc_8 CX hR fa_X8_47 rfl hk_x0_9 dX8_demand_21 ?_
      refine lv_aload_n hx hb dX8_demand_24 rfl (lv_at hl 0 rfl) ?_
      refine cr_getR kc_8 CX hR fa_X8_60 rfl hk_x0_9 dX8_demand_25 ?_
      refine lv_iload_n hx hb dX8_demand_28 rfl (lv_at hl 1 rfl) ?_
      refine lv_iload_n hx hb dX8_demand_29 rfl (lv_at hl 2 rfl) ?_
      obtain ⟨a1, ha1, hf⟩ := nn_some hf
      refine rf_2 ha1 ?_
      obtain ⟨a2, ha2, hf⟩ := nn_some hf
      refine rf_3 ha2 ?_
      obtain ⟨hk_a2_3, hf⟩ := gd_some hf
      obtain ⟨o30, ho30, hf⟩ := bnd_some hf
      refine cr_callVv kc_2 CX hR hL hS (As := [.ref a1, .int x1, .int x2]) (rest := []) hk_a2_3 (MC_X2_runDemand l x N K a2 a1 x1 x2 o3.2 o30 ho30) cv_X8_146 ⟨by omega, by omega⟩ rfl rfl (Nat.le_of_ble_eq_true rfl) hl.1 dX8_demand_30 hcs (fun H locs hR hS => ?_)
      refine lv_aload_n hx hb dX8_demand_33 rfl (lv_at hl 0 rfl) ?_
      refine lv_aload_n hx hb dX8_demand_34 rfl (lv_at hl 0 rfl) ?_
      refine cr_getR kc_8 CX hR fa_X8_47 rfl hk_x0_9 dX8_demand_35 ?_
      obtain ⟨a3, ha3, hf⟩ := nn_some hf
      refine rf_0 ha3 ?_
      obtain ⟨hk_a3_3, hf⟩ := gd_some hf
      refine cr_getI kc_2 CX hR fa_X8_150 rfl hk_a3_3 dX8_demand_38 ?_
      refine cr_putI kc_8 CX hR hL hS fa_X8_68 ⟨rfl, rfl, rfl⟩ hk_x0_9 dX8_demand_41 (fun H locs hR hS => ?_)
      refine lv_aload_n hx hb dX8_demand_44 rfl (lv_at hl 0 rfl) ?_
      refine lv_aload_n hx hb dX8_demand_45 rfl (lv_at hl 0 rfl) ?_
      refine cr_getR kc_8 CX hR fa_X8_47 rfl hk_x0_9 dX8_demand_46 ?_
      obtain ⟨a4, ha4, hf⟩ := nn_some hf
      refine rf_0 ha4 ?_
      obtain ⟨hk_a4_3, hf⟩ := gd_some hf
      refine cr_getI kc_2 CX hR fa_X8_153 rfl hk_a4_3 dX8_demand_49 ?_
      refine cr_putI kc_8 CX hR hL hS fa_X8_71 ⟨rfl, rfl, rfl⟩ hk_x0_9 dX8_demand_52 (fun H locs hR hS => ?_)
      refine lv_aload_n hx hb dX8_demand_55 rfl (lv_at hl 0 rfl) ?_
      refine lv_aload_n hx hb dX8_demand_56 rfl (lv_at hl 0 rfl) ?_
      refine cr_getR kc_8 CX hR fa_X8_47 rfl hk_x0_9 dX8_demand_57 ?_
      obtain ⟨a5, ha5, hf⟩ := nn_some hf
      refine rf_0 ha5 ?_
      obtain ⟨hk_a5_3, hf⟩ := gd_some hf
      refine cr_getI kc_2 CX hR fa_X8_156 rfl hk_a5_3 dX8_demand_60 ?_
      refine cr_putI kc_8 CX hR hL hS fa_X8_74 ⟨rfl, rfl, rfl⟩ hk_x0_9 dX8_demand_63 (fun H locs hR hS => ?_)
      refine lv_aload_n hx hb dX8_demand_66 rfl (lv_at hl 0 rfl) ?_
      refine cr_getR kc_8 CX hR fa_X8_47 rfl hk_x0_9 dX8_demand_67 ?_
      obtain ⟨a6, ha6, hf⟩ := nn_some hf
      refine rf_0 ha6 ?_
      obtain ⟨hk_a6_3, hf⟩ := gd_some hf
      refine cr_getI kc_2 CX hR fa_X8_159 rfl hk_a6_3 dX8_demand_70 ?_
      refine lv_if_eq (tgt := 79) hx hb dX8_demand_73 (by decide) (fun hc => ?_) (fun hc => ?_)
      · rw [if_pos hc] at hf
        refine lv_aload_n hx hb dX8_demand_79 rfl (lv_at hl 0 rfl) ?_
        refine cr_getI kc_8 CX hR fa_X8_68 rfl hk_x0_9 dX8_demand_80 ?_
        by_cases hc0 : (cI (wI (wI (wI o30 x0 9 (cI o30 a3 15)) x0 10 (cI (wI o30 x0 9 (cI o30 a3 15)) a4 16)) x0 11 (cI (wI (wI o30 x0 9 (cI o30 a3 15)) x0 10 (cI (wI o30 x0 9 (cI o30 a3 15)) a4 16)) a5 12)) x0 9) = 0
        · rw [if_pos hc0] at hf
          refine lv_lookup (off := 33) (tgt := 116) hx hb dX8_demand_83 (by decide) (by rw [hc0]; decide) (by decide) ?_
          refine lv_iconst (v := 0) hx hb dX8_demand_116 (by decide) ?_
          exact cr_iret CX hR hS hf dX8_demand_117
        · rw [if_neg hc0] at hf
          by_cases hc1 : (cI (wI (wI (wI o30 x0 9 (cI o30 a3 15)) x0 10 (cI (wI o30 x0 9 (cI o30 a3 15)) a4 16)) x0 11 (cI (wI (wI o30 x0 9 (cI o30 a3 15)) x0 10 (cI (wI o30 x0 9 (cI o30 a3 15)) a4 16)) a5 12)) x0 9) = 20
          · rw [if_pos hc1] at hf
            refine lv_lookup (off := 35) (tgt := 118) hx hb dX8_demand_83 (by decide) (by rw [hc1]; decide) (by decide) ?_
            refine lv_iconst (v := 1) hx hb dX8_demand_118 (by decide) ?_
            exact cr_iret CX hR hS hf dX8_demand_119
          · rw [if_neg hc1] at hf
            by_cases hc2 : (cI (wI (wI (wI o30 x0 9 (cI o30 a3 15)) x0 10 (cI (wI o30 x0 9 (cI o30 a3 15)) a4 16)) x0 11 (cI (wI (wI o30 x0 9 (cI o30 a3 15)) x0 10 (cI (wI o30 x0 9 (cI o30 a3 15)) a4 16)) a5 12)) x0 9) = 21
            · rw [if_pos hc2] at hf
              refine lv_lookup (off := 37) (tgt := 120) hx hb dX8_demand_83 (by decide) (by rw [hc2]; decide) (by decide) ?_
              refine lv_iconst (v := 2) hx hb dX8_demand_120 (by decide) ?_
              exact cr_iret CX hR hS hf dX8_demand_121
            · rw [if_neg hc2] at hf
              have hn0 := tsw_ne (k := 0) rfl hc0
              have hn1 := tsw_ne (k := 20) rfl hc1
              have hn2 := tsw_ne (k := 21) rfl hc2
              refine lv_lookup (off := 39) (tgt := 122) hx hb dX8_demand_83 (by decide) (by simp only [Op.lookupswitch.offset, List.toList_toArray, Ne.symm hn0, Ne.symm hn1, Ne.symm hn2, if_false]) (by decide) ?_
              refine lv_iconst (v := 3) hx hb dX8_demand_122 (by decide) ?_
              exact cr_iret CX hR hS hf dX8_demand_123
      · rw [if_neg hc] at hf
        refine lv_bipush (v := 6) hx hb dX8_demand_76 (by decide) ?_
        exact cr_iret CX hR hS hf dX8_demand_78
    · rw [if_neg hc] at hf
      refine lv_iconst (v := 5) hx hb dX8_demand_18 (by decide) ?_
      exact cr_iret CX hR hS hf dX8_demand_19
  · rw [if_pos hc] at hf
    refine lv_iconst (v := 4) hx hb dX8_demand_9 (by decide) ?_
    exact cr_iret CX hR hS hf dX8_demand_10
theorem MC_X8_demand (l : Launch) (x : Xc) (N : Nat) (K : Ka) (x0 : Nat) (x1 : Int32) (x2 : Int32) (M : Cm) (o : Int32 × Cm) (hf : fC_X8_demand N K x0 x1 x2 M = some o) : CtI l x yX8_demand cX8_demand 3 (some .int) 7 167 [.ref x0, .int x1, .int x2] K M o :=
  cr_metI RX8 (by decide) rfl (Nat.le_of_ble_eq_true rfl) (fun p e s m args below meth c ls CX hR hl => wfC_X8_demand CX ⟨Nat.le_refl _, Nat.le_refl _⟩ x0 x1 x2 M s.heap [] ls hf hR va_S.rf hl)
def bC_X8_ended_22 (N : Nat) (K : Ka) (x0 : Nat) (s0 : Int32) (M : Cm) : Option (Int32 × Cm) := some (s0, M)
set_option maxRecDepth 100000 in
set_option maxHeartbeats 4000000 in
theorem wbC_X8_ended_22 {p : Program} {l : Launch} {e : Env} {R : Room} {s : State} {m : MethodId} {args : Array Value} {below : List Frame} {meth : Method} {c : Code} {x : Xc} {o : Int32 × Cm} {N : Nat} {K : Ka} (CX : CC p s m args meth c x K RX8 cX8_ended 2 (some .int)) (hRm : 0 ≤ R.frames ∧ 0 ≤ R.locals) (x0 : Nat) (s0 : Int32) (M : Cm) (H : Heap) (locs : List Loc) (ls : Array Slot) (hf : bC_X8_ended_22 N K x0 s0 M = some o) (hR : RC x K M H) (hS : va_S (AC K) s.heap H locs) (hl : lv_has ls 2 [(0, .ref x0)]) : W p l e R s m args below meth c H locs 0 0 (MQ below (CQI x K o) args s 0 0 (AC K)) (F0 m 22 ls [.int s0]) := by
  obtain ⟨hx, hb, hml, hown, hts, hE, hB, hr, hlk⟩ := id CX
  have hL : KLe K K := KLe.rf K
  have hcs : 0 ≤ R.cells ∧ 0 ≤ R.slots := ⟨Nat.zero_le _, Nat.zero_le _⟩
  unfold bC_X8_ended_22 at hf
  exact cr_iret CX hR hS hf dX8_ended_22
def fC_X8_ended (N : Nat) (K : Ka) (x0 : Nat) (x1 : Int32) (M : Cm) : Option (Int32 × Cm) := if x1 = 0 then (gd (kd K x0 == 9) (some (cI M x0 9, M))) else (if x1 = 1 then (gd (kd K x0 == 9) ((bC_X8_ended_22 N K) x0 (cI M x0 10) M)) else ((bC_X8_ended_22 N K) x0 0 M))
set_option maxRecDepth 100000 in
set_option maxHeartbeats 4000000 in
theorem wfC_X8_ended {p : Program} {l : Launch} {e : Env} {R : Room} {s : State} {m : MethodId} {args : Array Value} {below : List Frame} {meth : Method} {c : Code} {x : Xc} {o : Int32 × Cm} {N : Nat} {K : Ka} (CX : CC p s m args meth c x K RX8 cX8_ended 2 (some .int)) (hRm : 0 ≤ R.frames ∧ 0 ≤ R.locals) (x0 : Nat) (x1 : Int32) (M : Cm) (H : Heap) (locs : List Loc) (ls : Array Slot) (hf : fC_X8_ended N K x0 x1 M = some o) (hR : RC x K M H) (hS : va_S (AC K) s.heap H locs) (hl : lv_has ls 2 [(0, .ref x0), (1, .int x1)]) : W p l e R s m args below meth c H locs 0 0 (MQ below (CQI x K o) args s 0 0 (AC K)) (F0 m 0 ls []) := by
  obtain ⟨hx, hb, hml, hown, hts, hE, hB, hr, hlk⟩ := id CX
  have hL : KLe K K := KLe.rf K
  have hcs : 0 ≤ R.cells ∧ 0 ≤ R.slots := ⟨Nat.zero_le _, Nat.zero_le _⟩
  unfold fC_X8_ended at hf
  refine lv_iload_n hx hb dX8_ended_0 rfl (lv_at hl 1 rfl) ?_
  refine lv_if_ne (tgt := 9) hx hb dX8_ended_1 (by decide) (fun hc => ?_) (fun hc => ?_)
  · rw [if_neg hc] at hf
    refine lv_iload_n hx hb dX8_ended_9 rfl (lv_at hl 1 rfl) ?_
    refine lv_iconst (v := 1) hx hb dX8_ended_10 (by decide) ?_
    refine lv_icmp_ne (tgt := 21) hx hb dX8_ended_11 (by decide) (fun hc => ?_) (fun hc => ?_)
    · rw [if_neg hc] at hf
      refine lv_iconst (v := 0) hx hb dX8_ended_21 (by decide) ?_
      exact (wbC_X8_ended_22 CX hRm) _ _ _ _ _ _ hf hR hS (lv_sub hl [0] rfl)
    · rw [if_pos hc] at hf
      refine lv_aload_n hx hb dX8_ended_14 rfl (lv_at hl 0 rfl) ?_
      obtain ⟨hk_x0_9, hf⟩ := gd_some hf
      refine cr_getI kc_8 CX hR fa_X8_71 rfl hk_x0_9 dX8_ended_15 ?_
      refine lv_goto (tgt := 22) hx hb dX8_ended_18 (by decide) ?_
      exact (wbC_X8_ended_22 CX hRm) _ _ _ _ _ _ hf hR hS (lv_sub hl [0] rfl)
  · rw [if_pos hc] at hf
    refine lv_aload_n hx hb dX8_ended_4 rfl (lv_at hl 0 rfl) ?_
    obtain ⟨hk_x0_9, hf⟩ := gd_some hf
    refine cr_getI kc_8 CX hR fa_X8_68 rfl hk_x0_9 dX8_ended_5 ?_
    exact cr_iret CX hR hS hf dX8_ended_8
theorem MC_X8_ended (l : Launch) (x : Xc) (N : Nat) (K : Ka) (x0 : Nat) (x1 : Int32) (M : Cm) (o : Int32 × Cm) (hf : fC_X8_ended N K x0 x1 M = some o) : CtI l x yX8_ended cX8_ended 2 (some .int) 0 0 [.ref x0, .int x1] K M o :=
  cr_metI RX8 (by decide) rfl (Nat.le_of_ble_eq_true rfl) (fun p e s m args below meth c ls CX hR hl => wfC_X8_ended CX ⟨Nat.le_refl _, Nat.le_refl _⟩ x0 x1 M s.heap [] ls hf hR va_S.rf hl)
def bC_X8_isUnit_20 (N : Nat) (K : Ka) (x0 : Nat) (s0 : Int32) (M : Cm) : Option (Int32 × Cm) := gd (is01 s0) (some (s0, M))
set_option maxRecDepth 100000 in
set_option maxHeartbeats 4000000 in
theorem wbC_X8_isUnit_20 {p : Program} {l : Launch} {e : Env} {R : Room} {s : State} {m : MethodId} {args : Array Value} {below : List Frame} {meth : Method} {c : Code} {x : Xc} {o : Int32 × Cm} {N : Nat} {K : Ka} (CX : CC p s m args meth c x K RX8 cX8_isUnit 2 (some .boolean)) (hRm : 0 ≤ R.frames ∧ 0 ≤ R.locals) (x0 : Nat) (s0 : Int32) (M : Cm) (H : Heap) (locs : List Loc) (ls : Array Slot) (hf : bC_X8_isUnit_20 N K x0 s0 M = some o) (hR : RC x K M H) (hS : va_S (AC K) s.heap H locs) (hl : lv_has ls 2 [(0, .ref x0)]) : W p l e R s m args below meth c H locs 0 0 (MQ below (CQI x K o) args s 0 0 (AC K)) (F0 m 20 ls [.int s0]) := by
  obtain ⟨hx, hb, hml, hown, hts, hE, hB, hr, hlk⟩ := id CX
  have hL : KLe K K := KLe.rf K
  have hcs : 0 ≤ R.cells ∧ 0 ≤ R.slots := ⟨Nat.zero_le _, Nat.zero_le _⟩
  unfold bC_X8_isUnit_20 at hf
  obtain ⟨hz, hf⟩ := gd_some hf
  exact cr_zret CX hR hS hz hf dX8_isUnit_20
def bC_X8_isUnit_19 (N : Nat) (K : Ka) (x0 : Nat) (M : Cm) : Option (Int32 × Cm) := (bC_X8_isUnit_20 N K) x0 0 M
set_option maxRecDepth 100000 in
set_option maxHeartbeats 4000000 in
theorem wbC_X8_isUnit_19 {p : Program} {l : Launch} {e : Env} {R : Room} {s : State} {m : MethodId} {args : Array Value} {below : List Frame} {meth : Method} {c : Code} {x : Xc} {o : Int32 × Cm} {N : Nat} {K : Ka} (CX : CC p s m args meth c x K RX8 cX8_isUnit 2 (some .boolean)) (hRm : 0 ≤ R.frames ∧ 0 ≤ R.locals) (x0 : Nat) (M : Cm) (H : Heap) (locs : List Loc) (ls : Array Slot) (hf : bC_X8_isUnit_19 N K x0 M = some o) (hR : RC x K M H) (hS : va_S (AC K) s.heap H locs) (hl : lv_has ls 2 [(0, .ref x0)]) : W p l e R s m args below meth c H locs 0 0 (MQ below (CQI x K o) args s 0 0 (AC K)) (F0 m 19 ls []) := by
  obtain ⟨hx, hb, hml, hown, hts, hE, hB, hr, hlk⟩ := id CX
  have hL : KLe K K := KLe.rf K
  have hcs : 0 ≤ R.cells ∧ 0 ≤ R.slots := ⟨Nat.zero_le _, Nat.zero_le _⟩
  unfold bC_X8_isUnit_19 at hf
  refine lv_iconst (v := 0) hx hb dX8_isUnit_19 (by decide) ?_
  exact (wbC_X8_isUnit_20 CX hRm) _ _ _ _ _ _ hf hR hS (lv_sub hl [0] rfl)
def fC_X8_isUnit (N : Nat) (K : Ka) (x0 : Nat) (x1 : Int32) (M : Cm) : Option (Int32 × Cm) := if x1 < 0 then ((bC_X8_isUnit_19 N K) x0 M) else (gd (kd K x0 == 9) (nn (cR M x0 7) fun a1 => gd (kd K a1 == 6) (if (cI M a1 11) ≤ x1 then ((bC_X8_isUnit_19 N K) x0 M) else ((bC_X8_isUnit_20 N K) x0 1 M))))
set_option maxRecDepth 100000 in
set_option maxHeartbeats 4000000 in
theorem wfC_X8_isUnit {p : Program} {l : Launch} {e : Env} {R : Room} {s : State} {m : MethodId} {args : Array Value} {below : List Frame} {meth : Method} {c : Code} {x : Xc} {o : Int32 × Cm} {N : Nat} {K : Ka} (CX : CC p s m args meth c x K RX8 cX8_isUnit 2 (some .boolean)) (hRm : 0 ≤ R.frames ∧ 0 ≤ R.locals) (x0 : Nat) (x1 : Int32) (M : Cm) (H : Heap) (locs : List Loc) (ls : Array Slot) (hf : fC_X8_isUnit N K x0 x1 M = some o) (hR : RC x K M H) (hS : va_S (AC K) s.heap H locs) (hl : lv_has ls 2 [(0, .ref x0), (1, .int x1)]) : W p l e R s m args below meth c H locs 0 0 (MQ below (CQI x K o) args s 0 0 (AC K)) (F0 m 0 ls []) := by
  obtain ⟨hx, hb, hml, hown, hts, hE, hB, hr, hlk⟩ := id CX
  have hL : KLe K K := KLe.rf K
  have hcs : 0 ≤ R.cells ∧ 0 ≤ R.slots := ⟨Nat.zero_le _, Nat.zero_le _⟩
  unfold fC_X8_isUnit at hf
  refine lv_iload_n hx hb dX8_isUnit_0 rfl (lv_at hl 1 rfl) ?_
  refine lv_if_lt (tgt := 19) hx hb dX8_isUnit_1 (by decide) (fun hc => ?_) (fun hc => ?_)
  · rw [if_pos hc] at hf
    exact (wbC_X8_isUnit_19 CX hRm) _ _ _ _ _ hf hR hS (lv_sub hl [0] rfl)
  · rw [if_neg hc] at hf
    refine lv_iload_n hx hb dX8_isUnit_4 rfl (lv_at hl 1 rfl) ?_
    refine lv_aload_n hx hb dX8_isUnit_5 rfl (lv_at hl 0 rfl) ?_
    obtain ⟨hk_x0_9, hf⟩ := gd_some hf
    refine cr_getR kc_8 CX hR fa_X8_60 rfl hk_x0_9 dX8_isUnit_6 ?_
    obtain ⟨a1, ha1, hf⟩ := nn_some hf
    refine rf_0 ha1 ?_
    obtain ⟨hk_a1_6, hf⟩ := gd_some hf
    refine cr_getI kc_5 CX hR fa_X8_133 rfl hk_a1_6 dX8_isUnit_9 ?_
    refine lv_icmp_ge (tgt := 19) hx hb dX8_isUnit_12 (by decide) (fun hc => ?_) (fun hc => ?_)
    · rw [if_pos hc] at hf
      exact (wbC_X8_isUnit_19 CX hRm) _ _ _ _ _ hf hR hS (lv_sub hl [0] rfl)
    · rw [if_neg hc] at hf
      refine lv_iconst (v := 1) hx hb dX8_isUnit_15 (by decide) ?_
      refine lv_goto (tgt := 20) hx hb dX8_isUnit_16 (by decide) ?_
      exact (wbC_X8_isUnit_20 CX hRm) _ _ _ _ _ _ hf hR hS (lv_sub hl [0] rfl)
theorem MC_X8_isUnit (l : Launch) (x : Xc) (N : Nat) (K : Ka) (x0 : Nat) (x1 : Int32) (M : Cm) (o : Int32 × Cm) (hf : fC_X8_isUnit N K x0 x1 M = some o) : CtI l x yX8_isUnit cX8_isUnit 2 (some .boolean) 0 0 [.ref x0, .int x1] K M o :=
  cr_metI RX8 (by decide) rfl (Nat.le_of_ble_eq_true rfl) (fun p e s m args below meth c ls CX hR hl => wfC_X8_isUnit CX ⟨Nat.le_refl _, Nat.le_refl _⟩ x0 x1 M s.heap [] ls hf hR va_S.rf hl)
def bC_X8_plan_18 (N : Nat) (K : Ka) (x0 : Nat) (M : Cm) : Option (Int32 × Cm) := gd (is01 0) (some (0, M))
set_option maxRecDepth 100000 in
set_option maxHeartbeats 4000000 in
theorem wbC_X8_plan_18 {p : Program} {l : Launch} {e : Env} {R : Room} {s : State} {m : MethodId} {args : Array Value} {below : List Frame} {meth : Method} {c : Code} {x : Xc} {o : Int32 × Cm} {N : Nat} {K : Ka} (CX : CC p s m args meth c x K RX8 cX8_plan 3 (some .boolean)) (hRm : 1 ≤ R.frames ∧ 22 ≤ R.locals) (x0 : Nat) (M : Cm) (H : Heap) (locs : List Loc) (ls : Array Slot) (hf : bC_X8_plan_18 N K x0 M = some o) (hR : RC x K M H) (hS : va_S (AC K) s.heap H locs) (hl : lv_has ls 3 [(0, .ref x0)]) : W p l e R s m args below meth c H locs 0 0 (MQ below (CQI x K o) args s 0 0 (AC K)) (F0 m 18 ls []) := by
  obtain ⟨hx, hb, hml, hown, hts, hE, hB, hr, hlk⟩ := id CX
  have hL : KLe K K := KLe.rf K
  have hcs : 0 ≤ R.cells ∧ 0 ≤ R.slots := ⟨Nat.zero_le _, Nat.zero_le _⟩
  unfold bC_X8_plan_18 at hf
  refine lv_iconst (v := 0) hx hb dX8_plan_18 (by decide) ?_
  obtain ⟨hz, hf⟩ := gd_some hf
  exact cr_zret CX hR hS hz hf dX8_plan_19
def fC_X8_plan (N : Nat) (K : Ka) (x0 : Nat) (x1 : Int32) (x2 : Int32) (M : Cm) : Option (Int32 × Cm) := gd (kd K x0 == 9) ((fC_X8_isUnit N K x0 x1 M).bind fun o2 => if o2.1 = 0 then ((bC_X8_plan_18 N K) x0 o2.2) else (if x2 < 0 then ((bC_X8_plan_18 N K) x0 o2.2) else (if x2 ≤ 30 then (nn (cR o2.2 x0 2) fun a1 => gd (kd K a1 == 5) ((fC_X4_isPlanned N K a1 x1 x2 o2.2).bind fun o26 => if o26.1 = 0 then (nn (cR o26.2 x0 2) fun a2 => gd (kd K a2 == 5) (if (cI o26.2 a2 10) < 40 then (nn (cR o26.2 x0 2) fun a3 => gd (kd K a3 == 5) ((fC_X4_addPlan N K a3 x1 x2 o26.2).bind fun o54 => gd (is01 1) (some (1, o54)))) else (gd (is01 0) (some (0, o26.2))))) else (gd (is01 1) (some (1, o26.2))))) else ((bC_X8_plan_18 N K) x0 o2.2))))
set_option maxRecDepth 100000 in
set_option maxHeartbeats 4000000 in
theorem wfC_X8_plan {p : Program} {l : Launch} {e : Env} {R : Room} {s : State} {m : MethodId} {args : Array Value} {below : List Frame} {meth : Method} {c : Code} {x : Xc} {o : Int32 × Cm} {N : Nat} {K : Ka} (CX : CC p s m args meth c x K RX8 cX8_plan 3 (some .boolean)) (hRm : 1 ≤ R.frames ∧ 22 ≤ R.locals) (x0 : Nat) (x1 : Int32) (x2 : Int32) (M : Cm) (H : Heap) (locs : List Loc) (ls : Array Slot) (hf : fC_X8_plan N K x0 x1 x2 M = some o) (hR : RC x K M H) (hS : va_S (AC K) s.heap H locs) (hl : lv_has ls 3 [(0, .ref x0), (1, .int x1), (2, .int x2)]) : W p l e R s m args below meth c H locs 0 0 (MQ below (CQI x K o) args s 0 0 (AC K)) (F0 m 0 ls []) := by
  obtain ⟨hx, hb, hml, hown, hts, hE, hB, hr, hlk⟩ := id CX
  have hL : KLe K K := KLe.rf K
  have hcs : 0 ≤ R.cells ∧ 0 ≤ R.slots := ⟨Nat.zero_le _, Nat.zero_le _⟩
  unfold fC_X8_plan at hf
  refine lv_aload_n hx hb dX8_plan_0 rfl (lv_at hl 0 rfl) ?_
  refine lv_iload_n hx hb dX8_plan_1 rfl (lv_at hl 1 rfl) ?_
  obtain ⟨hk_x0_9, hf⟩ := gd_some hf
  obtain ⟨o2, ho2, hf⟩ := bnd_some hf
  refine cr_callIv kc_8 CX hR hL hS (As := [.int x1]) (rest := []) hk_x0_9 (MC_X8_isUnit l x N K x0 x1 M o2 ho2) cv_X8_162 ⟨by omega, by omega⟩ rfl rfl (Nat.le_of_ble_eq_true rfl) hl.1 dX8_plan_2 hcs (fun H locs hR hS => ?_)
  refine lv_if_eq (tgt := 18) hx hb dX8_plan_5 (by decide) (fun hc => ?_) (fun hc => ?_)
  · rw [if_pos hc] at hf
    exact (wbC_X8_plan_18 CX hRm) _ _ _ _ _ hf hR hS (lv_sub hl [0] rfl)
  · rw [if_neg hc] at hf
    refine lv_iload_n hx hb dX8_plan_8 rfl (lv_at hl 2 rfl) ?_
    refine lv_if_lt (tgt := 18) hx hb dX8_plan_9 (by decide) (fun hc => ?_) (fun hc => ?_)
    · rw [if_pos hc] at hf
      exact (wbC_X8_plan_18 CX hRm) _ _ _ _ _ hf hR hS (lv_sub hl [0] rfl)
    · rw [if_neg hc] at hf
      refine lv_iload_n hx hb dX8_plan_12 rfl (lv_at hl 2 rfl) ?_
      refine lv_bipush (v := 30) hx hb dX8_plan_13 (by decide) ?_
      refine lv_icmp_le (tgt := 20) hx hb dX8_plan_15 (by decide) (fun hc => ?_) (fun hc => ?_)
      · rw [if_pos hc] at hf
        refine lv_aload_n hx hb dX8_plan_20 rfl (lv_at hl 0 rfl) ?_
        refine cr_getR kc_8 CX hR fa_X8_28 rfl hk_x0_9 dX8_plan_21 ?_
        refine lv_iload_n hx hb dX8_plan_24 rfl (lv_at hl 1 rfl) ?_
        refine lv_iload_n hx hb dX8_plan_25 rfl (lv_at hl 2 rfl) ?_
        obtain ⟨a1, ha1, hf⟩ := nn_some hf
        refine rf_2 ha1 ?_
        obtain ⟨hk_a1_5, hf⟩ := gd_some hf
        obtain ⟨o26, ho26, hf⟩ := bnd_some hf
        refine cr_callIv kc_4 CX hR hL hS (As := [.int x1, .int x2]) (rest := []) hk_a1_5 (MC_X4_isPlanned l x N K a1 x1 x2 o2.2 o26 ho26) cv_X8_166 ⟨by omega, by omega⟩ rfl rfl (Nat.le_of_ble_eq_true rfl) hl.1 dX8_plan_26 hcs (fun H locs hR hS => ?_)
        refine lv_if_eq (tgt := 34) hx hb dX8_plan_29 (by decide) (fun hc => ?_) (fun hc => ?_)
        · rw [if_pos hc] at hf
          refine lv_aload_n hx hb dX8_plan_34 rfl (lv_at hl 0 rfl) ?_
          refine cr_getR kc_8 CX hR fa_X8_28 rfl hk_x0_9 dX8_plan_35 ?_
          obtain ⟨a2, ha2, hf⟩ := nn_some hf
          refine rf_0 ha2 ?_
          obtain ⟨hk_a2_5, hf⟩ := gd_some hf
          refine cr_getI kc_4 CX hR fa_X8_169 rfl hk_a2_5 dX8_plan_38 ?_
          refine lv_bipush (v := 40) hx hb dX8_plan_41 (by decide) ?_
          refine lv_icmp_lt (tgt := 48) hx hb dX8_plan_43 (by decide) (fun hc => ?_) (fun hc => ?_)
          · rw [if_pos hc] at hf
            refine lv_aload_n hx hb dX8_plan_48 rfl (lv_at hl 0 rfl) ?_
            refine cr_getR kc_8 CX hR fa_X8_28 rfl hk_x0_9 dX8_plan_49 ?_
            refine lv_iload_n hx hb dX8_plan_52 rfl (lv_at hl 1 rfl) ?_
            refine lv_iload_n hx hb dX8_plan_53 rfl (lv_at hl 2 rfl) ?_
            obtain ⟨a3, ha3, hf⟩ := nn_some hf
            refine rf_2 ha3 ?_
            obtain ⟨hk_a3_5, hf⟩ := gd_some hf
            obtain ⟨o54, ho54, hf⟩ := bnd_some hf
            refine cr_callVv kc_4 CX hR hL hS (As := [.int x1, .int x2]) (rest := []) hk_a3_5 (MC_X4_addPlan l x N K a3 x1 x2 o26.2 o54 ho54) cv_X8_172 ⟨by omega, by omega⟩ rfl rfl (Nat.le_of_ble_eq_true rfl) hl.1 dX8_plan_54 hcs (fun H locs hR hS => ?_)
            refine lv_iconst (v := 1) hx hb dX8_plan_57 (by decide) ?_
            obtain ⟨hz, hf⟩ := gd_some hf
            exact cr_zret CX hR hS hz hf dX8_plan_58
          · rw [if_neg hc] at hf
            refine lv_iconst (v := 0) hx hb dX8_plan_46 (by decide) ?_
            obtain ⟨hz, hf⟩ := gd_some hf
            exact cr_zret CX hR hS hz hf dX8_plan_47
        · rw [if_neg hc] at hf
          refine lv_iconst (v := 1) hx hb dX8_plan_32 (by decide) ?_
          obtain ⟨hz, hf⟩ := gd_some hf
          exact cr_zret CX hR hS hz hf dX8_plan_33
      · rw [if_neg hc] at hf
        exact (wbC_X8_plan_18 CX hRm) _ _ _ _ _ hf hR hS (lv_sub hl [0] rfl)
theorem MC_X8_plan (l : Launch) (x : Xc) (N : Nat) (K : Ka) (x0 : Nat) (x1 : Int32) (x2 : Int32) (M : Cm) (o : Int32 × Cm) (hf : fC_X8_plan N K x0 x1 x2 M = some o) : CtI l x yX8_plan cX8_plan 3 (some .boolean) 1 22 [.ref x0, .int x1, .int x2] K M o :=
  cr_metI RX8 (by decide) rfl (Nat.le_of_ble_eq_true rfl) (fun p e s m args below meth c ls CX hR hl => wfC_X8_plan CX ⟨Nat.le_refl _, Nat.le_refl _⟩ x0 x1 x2 M s.heap [] ls hf hR va_S.rf hl)
def fC_X8_clear (N : Nat) (K : Ka) (x0 : Nat) (M : Cm) : Option (Cm) := gd (kd K x0 == 9) (nn (cR M x0 2) fun a1 => gd (kd K a1 == 5) ((fC_X4_dropPlans N K a1 M).bind fun o4 => some o4))
set_option maxRecDepth 100000 in
set_option maxHeartbeats 4000000 in
theorem wfC_X8_clear {p : Program} {l : Launch} {e : Env} {R : Room} {s : State} {m : MethodId} {args : Array Value} {below : List Frame} {meth : Method} {c : Code} {x : Xc} {o : Cm} {N : Nat} {K : Ka} (CX : CC p s m args meth c x K RX8 cX8_clear 1 none) (hRm : 2 ≤ R.frames ∧ 43 ≤ R.locals) (x0 : Nat) (M : Cm) (H : Heap) (locs : List Loc) (ls : Array Slot) (hf : fC_X8_clear N K x0 M = some o) (hR : RC x K M H) (hS : va_S (AC K) s.heap H locs) (hl : lv_has ls 1 [(0, .ref x0)]) : W p l e R s m args below meth c H locs 0 0 (MQ below (CQV x K o) args s 0 0 (AC K)) (F0 m 0 ls []) := by
  obtain ⟨hx, hb, hml, hown, hts, hE, hB, hr, hlk⟩ := id CX
  have hL : KLe K K := KLe.rf K
  have hcs : 0 ≤ R.cells ∧ 0 ≤ R.slots := ⟨Nat.zero_le _, Nat.zero_le _⟩
  unfold fC_X8_clear at hf
  refine lv_aload_n hx hb dX8_clear_0 rfl (lv_at hl 0 rfl) ?_
  obtain ⟨hk_x0_9, hf⟩ := gd_some hf
  refine cr_getR kc_8 CX hR fa_X8_28 rfl hk_x0_9 dX8_clear_1 ?_
  obtain ⟨a1, ha1, hf⟩ := nn_some hf
  refine rf_0 ha1 ?_
  obtain ⟨hk_a1_5, hf⟩ := gd_some hf
  obtain ⟨o4, ho4, hf⟩ := bnd_some hf
  refine cr_callVv kc_4 CX hR hL hS (As := []) (rest := []) hk_a1_5 (MC_X4_dropPlans l x N K a1 M o4 ho4) cv_X8_176 ⟨by omega, by omega⟩ rfl rfl (Nat.le_of_ble_eq_true rfl) hl.1 dX8_clear_4 hcs (fun H locs hR hS => ?_)
  exact cr_vret CX hR hS hf dX8_clear_7
theorem MC_X8_clear (l : Launch) (x : Xc) (N : Nat) (K : Ka) (x0 : Nat) (M : Cm) (o : Cm) (hf : fC_X8_clear N K x0 M = some o) : CtV l x yX8_clear cX8_clear 1 2 43 [.ref x0] K M o :=
  cr_metV RX8 (by decide) rfl (Nat.le_of_ble_eq_true rfl) (fun p e s m args below meth c ls CX hR hl => wfC_X8_clear CX ⟨Nat.le_refl _, Nat.le_refl _⟩ x0 M s.heap [] ls hf hR va_S.rf hl)
def bC_X8_isHealedWith_22 (N : Nat) (K : Ka) (x0 : Nat) (s0 : Int32) (M : Cm) : Option (Int32 × Cm) := gd (is01 s0) (some (s0, M))
set_option maxRecDepth 100000 in
set_option maxHeartbeats 4000000 in
theorem wbC_X8_isHealedWith_22 {p : Program} {l : Launch} {e : Env} {R : Room} {s : State} {m : MethodId} {args : Array Value} {below : List Frame} {meth : Method} {c : Code} {x : Xc} {o : Int32 × Cm} {N : Nat} {K : Ka} (CX : CC p s m args meth c x K RX8 cX8_isHealedWith 3 (some .boolean)) (hRm : 1 ≤ R.frames ∧ 22 ≤ R.locals) (x0 : Nat) (s0 : Int32) (M : Cm) (H : Heap) (locs : List Loc) (ls : Array Slot) (hf : bC_X8_isHealedWith_22 N K x0 s0 M = some o) (hR : RC x K M H) (hS : va_S (AC K) s.heap H locs) (hl : lv_has ls 3 [(0, .ref x0)]) : W p l e R s m args below meth c H locs 0 0 (MQ below (CQI x K o) args s 0 0 (AC K)) (F0 m 22 ls [.int s0]) := by
  obtain ⟨hx, hb, hml, hown, hts, hE, hB, hr, hlk⟩ := id CX
  have hL : KLe K K := KLe.rf K
  have hcs : 0 ≤ R.cells ∧ 0 ≤ R.slots := ⟨Nat.zero_le _, Nat.zero_le _⟩
  unfold bC_X8_isHealedWith_22 at hf
  obtain ⟨hz, hf⟩ := gd_some hf
  exact cr_zret CX hR hS hz hf dX8_isHealedWith_22
def bC_X8_isHealedWith_17 (N : Nat) (K : Ka) (x0 : Nat) (M : Cm) : Option (Int32 × Cm) := (bC_X8_isHealedWith_22 N K) x0 1 M
set_option maxRecDepth 100000 in
set_option maxHeartbeats 4000000 in
theorem wbC_X8_isHealedWith_17 {p : Program} {l : Launch} {e : Env} {R : Room} {s : State} {m : MethodId} {args : Array Value} {below : List Frame} {meth : Method} {c : Code} {x : Xc} {o : Int32 × Cm} {N : Nat} {K : Ka} (CX : CC p s m args meth c x K RX8 cX8_isHealedWith 3 (some .boolean)) (hRm : 1 ≤ R.frames ∧ 22 ≤ R.locals) (x0 : Nat) (M : Cm) (H : Heap) (locs : List Loc) (ls : Array Slot) (hf : bC_X8_isHealedWith_17 N K x0 M = some o) (hR : RC x K M H) (hS : va_S (AC K) s.heap H locs) (hl : lv_has ls 3 [(0, .ref x0)]) : W p l e R s m args below meth c H locs 0 0 (MQ below (CQI x K o) args s 0 0 (AC K)) (F0 m 17 ls []) := by
  obtain ⟨hx, hb, hml, hown, hts, hE, hB, hr, hlk⟩ := id CX
  have hL : KLe K K := KLe.rf K
  have hcs : 0 ≤ R.cells ∧ 0 ≤ R.slots := ⟨Nat.zero_le _, Nat.zero_le _⟩
  unfold bC_X8_isHealedWith_17 at hf
  refine lv_iconst (v := 1) hx hb dX8_isHealedWith_17 (by decide) ?_
  refine lv_goto (tgt := 22) hx hb dX8_isHealedWith_18 (by decide) ?_
  exact (wbC_X8_isHealedWith_22 CX hRm) _ _ _ _ _ _ hf hR hS (lv_sub hl [0] rfl)
def fC_X8_isHealedWith (N : Nat) (K : Ka) (x0 : Nat) (x1 : Int32) (x2 : Int32) (M : Cm) : Option (Int32 × Cm) := if x1 = x2 then ((bC_X8_isHealedWith_17 N K) x0 M) else (gd (kd K x0 == 9) (nn (cR M x0 7) fun a1 => gd (kd K a1 == 6) ((fC_X5_leaning N K a1 x1 x2 M).bind fun o11 => if o11.1 = 0 then ((bC_X8_isHealedWith_22 N K) x0 0 o11.2) else ((bC_X8_isHealedWith_17 N K) x0 o11.2))))
set_option maxRecDepth 100000 in
set_option maxHeartbeats 4000000 in
theorem wfC_X8_isHealedWith {p : Program} {l : Launch} {e : Env} {R : Room} {s : State} {m : MethodId} {args : Array Value} {below : List Frame} {meth : Method} {c : Code} {x : Xc} {o : Int32 × Cm} {N : Nat} {K : Ka} (CX : CC p s m args meth c x K RX8 cX8_isHealedWith 3 (some .boolean)) (hRm : 1 ≤ R.frames ∧ 22 ≤ R.locals) (x0 : Nat) (x1 : Int32) (x2 : Int32) (M : Cm) (H : Heap) (locs : List Loc) (ls : Array Slot) (hf : fC_X8_isHealedWith N K x0 x1 x2 M = some o) (hR : RC x K M H) (hS : va_S (AC K) s.heap H locs) (hl : lv_has ls 3 [(0, .ref x0), (1, .int x1), (2, .int x2)]) : W p l e R s m args below meth c H locs 0 0 (MQ below (CQI x K o) args s 0 0 (AC K)) (F0 m 0 ls []) := by
  obtain ⟨hx, hb, hml, hown, hts, hE, hB, hr, hlk⟩ := id CX
  have hL : KLe K K := KLe.rf K
  have hcs : 0 ≤ R.cells ∧ 0 ≤ R.slots := ⟨Nat.zero_le _, Nat.zero_le _⟩
  unfold fC_X8_isHealedWith at hf
  refine lv_iload_n hx hb dX8_isHealedWith_0 rfl (lv_at hl 1 rfl) ?_
  refine lv_iload_n hx hb dX8_isHealedWith_1 rfl (lv_at hl 2 rfl) ?_
  refine lv_icmp_eq (tgt := 17) hx hb dX8_isHealedWith_2 (by decide) (fun hc => ?_) (fun hc => ?_)
  · rw [if_pos hc] at hf
    exact (wbC_X8_isHealedWith_17 CX hRm) _ _ _ _ _ hf hR hS (lv_sub hl [0] rfl)
  · rw [if_neg hc] at hf
    refine lv_aload_n hx hb dX8_isHealedWith_5 rfl (lv_at hl 0 rfl) ?_
    obtain ⟨hk_x0_9, hf⟩ := gd_some hf
    refine cr_getR kc_8 CX hR fa_X8_60 rfl hk_x0_9 dX8_isHealedWith_6 ?_
    refine lv_iload_n hx hb dX8_isHealedWith_9 rfl (lv_at hl 1 rfl) ?_
    refine lv_iload_n hx hb dX8_isHealedWith_10 rfl (lv_at hl 2 rfl) ?_
    obtain ⟨a1, ha1, hf⟩ := nn_some hf
    refine rf_2 ha1 ?_
    obtain ⟨hk_a1_6, hf⟩ := gd_some hf
    obtain ⟨o11, ho11, hf⟩ := bnd_some hf
    refine cr_callIv kc_5 CX hR hL hS (As := [.int x1, .int x2]) (rest := []) hk_a1_6 (MC_X5_leaning l x N K a1 x1 x2 M o11 ho11) cv_X8_289 ⟨by omega, by omega⟩ rfl rfl (Nat.le_of_ble_eq_true rfl) hl.1 dX8_isHealedWith_11 hcs (fun H locs hR hS => ?_)
    refine lv_if_eq (tgt := 21) hx hb dX8_isHealedWith_14 (by decide) (fun hc => ?_) (fun hc => ?_)
    · rw [if_pos hc] at hf
      refine lv_iconst (v := 0) hx hb dX8_isHealedWith_21 (by decide) ?_
      exact (wbC_X8_isHealedWith_22 CX hRm) _ _ _ _ _ _ hf hR hS (lv_sub hl [0] rfl)
    · rw [if_neg hc] at hf
      exact (wbC_X8_isHealedWith_17 CX hRm) _ _ _ _ _ hf hR hS (lv_sub hl [0] rfl)
theorem MC_X8_isHealedWith (l : Launch) (x : Xc) (N : Nat) (K : Ka) (x0 : Nat) (x1 : Int32) (x2 : Int32) (M : Cm) (o : Int32 × Cm) (hf : fC_X8_isHealedWith N K x0 x1 x2 M = some o) : CtI l x yX8_isHealedWith cX8_isHealedWith 3 (some .boolean) 1 22 [.ref x0, .int x1, .int x2] K M o :=
  cr_metI RX8 (by decide) rfl (Nat.le_of_ble_eq_true rfl) (fun p e s m args below meth c ls CX hR hl => wfC_X8_isHealedWith CX ⟨Nat.le_refl _, Nat.le_refl _⟩ x0 x1 x2 M s.heap [] ls hf hR va_S.rf hl)
def bC_X8_heal_15 (N : Nat) (K : Ka) (x0 : Nat) (M : Cm) : Option (Int32 × Cm) := some ((-1), M)
set_option maxRecDepth 100000 in
set_option maxHeartbeats 4000000 in
theorem wbC_X8_heal_15 {p : Program} {l : Launch} {e : Env} {R : Room} {s : State} {m : MethodId} {args : Array Value} {below : List Frame} {meth : Method} {c : Code} {x : Xc} {o : Int32 × Cm} {N : Nat} {K : Ka} (CX : CC p s m args meth c x K RX8 cX8_heal 4 (some .int)) (hRm : 3 ≤ R.frames ∧ 67 ≤ R.locals) (x0 : Nat) (M : Cm) (H : Heap) (locs : List Loc) (ls : Array Slot) (hf : bC_X8_heal_15 N K x0 M = some o) (hR : RC x K M H) (hS : va_S (AC K) s.heap H locs) (hl : lv_has ls 4 [(0, .ref x0)]) : W p l e R s m args below meth c H locs 0 0 (MQ below (CQI x K o) args s 0 0 (AC K)) (F0 m 15 ls []) := by
  obtain ⟨hx, hb, hml, hown, hts, hE, hB, hr, hlk⟩ := id CX
  have hL : KLe K K := KLe.rf K
  have hcs : 0 ≤ R.cells ∧ 0 ≤ R.slots := ⟨Nat.zero_le _, Nat.zero_le _⟩
  unfold bC_X8_heal_15 at hf
  refine lv_iconst (v := (-1)) hx hb dX8_heal_15 (by decide) ?_
  exact cr_iret CX hR hS hf dX8_heal_16
def bC_X8_heal_55 (N : Nat) (K : Ka) (r19 : Nat → Int32 → Int32 → Cm → Option (Int32 × Cm)) (k53 : Nat → Cm → Option (Int32 × Cm)) (k61 : Nat → Int32 → Cm → Option (Int32 × Cm)) (x0 : Nat) (x1 : Int32) (x2 : Int32) (M : Cm) : Option (Int32 × Cm) := r19 x0 x1 (x2 + 1) M
set_option maxRecDepth 100000 in
set_option maxHeartbeats 4000000 in
theorem wbC_X8_heal_55 {p : Program} {l : Launch} {e : Env} {R : Room} {s : State} {m : MethodId} {args : Array Value} {below : List Frame} {meth : Method} {c : Code} {x : Xc} {o : Int32 × Cm} {N : Nat} {K : Ka} {r19 : Nat → Int32 → Int32 → Cm → Option (Int32 × Cm)} {k53 : Nat → Cm → Option (Int32 × Cm)} {k61 : Nat → Int32 → Cm → Option (Int32 × Cm)} (CX : CC p s m args meth c x K RX8 cX8_heal 4 (some .int)) (hRm : 3 ≤ R.frames ∧ 67 ≤ R.locals) (hr19 : ∀ (x0 : Nat) (x1 : Int32) (x2 : Int32) (M : Cm) (H : Heap) (locs : List Loc) (ls : Array Slot), r19 x0 x1 x2 M = some o → RC x K M H → va_S (AC K) s.heap H locs → lv_has ls 4 [(0, .ref x0), (1, .int x1), (2, .int x2)] → W p l e R s m args below meth c H locs 0 0 (MQ below (CQI x K o) args s 0 0 (AC K)) (F0 m 19 ls [])) (hk53 : ∀ (x0 : Nat) (M : Cm) (H : Heap) (locs : List Loc) (ls : Array Slot), k53 x0 M = some o → RC x K M H → va_S (AC K) s.heap H locs → lv_has ls 4 [(0, .ref x0)] → W p l e R s m args below meth c H locs 0 0 (MQ below (CQI x K o) args s 0 0 (AC K)) (F0 m 53 ls [])) (hk61 : ∀ (x0 : Nat) (x1 : Int32) (M : Cm) (H : Heap) (locs : List Loc) (ls : Array Slot), k61 x0 x1 M = some o → RC x K M H → va_S (AC K) s.heap H locs → lv_has ls 4 [(0, .ref x0), (1, .int x1)] → W p l e R s m args below meth c H locs 0 0 (MQ below (CQI x K o) args s 0 0 (AC K)) (F0 m 61 ls [])) (x0 : Nat) (x1 : Int32) (x2 : Int32) (M : Cm) (H : Heap) (locs : List Loc) (ls : Array Slot) (hf : bC_X8_heal_55 N K r19 k53 k61 x0 x1 x2 M = some o) (hR : RC x K M H) (hS : va_S (AC K) s.heap H locs) (hl : lv_has ls 4 [(0, .ref x0), (1, .int x1), (2, .int x2)]) : W p l e R s m args below meth c H locs 0 0 (MQ below (CQI x K o) args s 0 0 (AC K)) (F0 m 55 ls []) := by
  obtain ⟨hx, hb, hml, hown, hts, hE, hB, hr, hlk⟩ := id CX
  have hL : KLe K K := KLe.rf K
  have hcs : 0 ≤ R.cells ∧ 0 ≤ R.slots := ⟨Nat.zero_le _, Nat.zero_le _⟩
  unfold bC_X8_heal_55 at hf
  refine lv_iinc (v := x2 + 1) (lv' := [(2, .int (x2 + 1)), (0, .ref x0), (1, .int x1)]) hx hb dX8_heal_55 hl (k := 2) rfl rfl (by decide) rfl (fun ls hl => ?_)
  refine lv_goto (tgt := 19) hx hb dX8_heal_58 (by decide) ?_
  exact hr19 _ _ _ _ _ _ _ hf hR hS (lv_sub hl [1, 2, 0] rfl)
def lC_X8_heal_19 (N : Nat) (K : Ka) (k53 : Nat → Cm → Option (Int32 × Cm)) (k61 : Nat → Int32 → Cm → Option (Int32 × Cm)) : Nat → Nat → Int32 → Int32 → Cm → Option (Int32 × Cm)
  | 0, _, _, _, _ => none
  | n + 1, x0, x1, x2, M => gd (kd K x0 == 9) (nn (cR M x0 7) fun a1 => gd (kd K a1 == 6) (if (cI M a1 11) ≤ x2 then (k61 x0 x1 M) else ((fC_X8_isHealedWith N K x0 x2 x1 M).bind fun o33 => if o33.1 = 0 then ((bC_X8_heal_55 N K (lC_X8_heal_19 N K k53 k61 n) k53 k61) x0 x1 x2 o33.2) else (nn (cR o33.2 x0 2) fun a2 => gd (kd K a2 == 5) (nn (cR o33.2 a2 1) fun a3 => gd (kd K a3 == 22) (ck x2 (le K a3) (if (cI o33.2 a3 (x2 : Int32).toNatClampNeg) < 30 then ((bC_X8_heal_55 N K (lC_X8_heal_19 N K k53 k61 n) k53 k61) x0 x1 x2 o33.2) else (k53 x0 o33.2))))))))
set_option maxRecDepth 100000 in
set_option maxHeartbeats 4000000 in
theorem wlC_X8_heal_19 {p : Program} {l : Launch} {e : Env} {R : Room} {s : State} {m : MethodId} {args : Array Value} {below : List Frame} {meth : Method} {c : Code} {x : Xc} {o : Int32 × Cm} {N : Nat} {K : Ka} {k53 : Nat → Cm → Option (Int32 × Cm)} {k61 : Nat → Int32 → Cm → Option (Int32 × Cm)} (CX : CC p s m args meth c x K RX8 cX8_heal 4 (some .int)) (hRm : 3 ≤ R.frames ∧ 67 ≤ R.locals) (hk53 : ∀ (x0 : Nat) (M : Cm) (H : Heap) (locs : List Loc) (ls : Array Slot), k53 x0 M = some o → RC x K M H → va_S (AC K) s.heap H locs → lv_has ls 4 [(0, .ref x0)] → W p l e R s m args below meth c H locs 0 0 (MQ below (CQI x K o) args s 0 0 (AC K)) (F0 m 53 ls [])) (hk61 : ∀ (x0 : Nat) (x1 : Int32) (M : Cm) (H : Heap) (locs : List Loc) (ls : Array Slot), k61 x0 x1 M = some o → RC x K M H → va_S (AC K) s.heap H locs → lv_has ls 4 [(0, .ref x0), (1, .int x1)] → W p l e R s m args below meth c H locs 0 0 (MQ below (CQI x K o) args s 0 0 (AC K)) (F0 m 61 ls [])) : ∀ (n : Nat) (x0 : Nat) (x1 : Int32) (x2 : Int32) (M : Cm) (H : Heap) (locs : List Loc) (ls : Array Slot), lC_X8_heal_19 N K k53 k61 n x0 x1 x2 M = some o → RC x K M H → va_S (AC K) s.heap H locs → lv_has ls 4 [(0, .ref x0), (1, .int x1), (2, .int x2)] → W p l e R s m args below meth c H locs 0 0 (MQ below (CQI x K o) args s 0 0 (AC K)) (F0 m 19 ls []) := by
  obtain ⟨hx, hb, hml, hown, hts, hE, hB, hr, hlk⟩ := id CX
  have hL : KLe K K := KLe.rf K
  have hcs : 0 ≤ R.cells ∧ 0 ≤ R.slots := ⟨Nat.zero_le _, Nat.zero_le _⟩
  intro n
  induction n with
  | zero => intro x0 x1 x2 M H locs ls hf; cases hf
  | succ n ih =>
    intro x0 x1 x2 M H locs ls hf hR hS hl
    rw [lC_X8_heal_19] at hf
    refine lv_iload_n hx hb dX8_heal_19 rfl (lv_at hl 2 rfl) ?_
    refine lv_aload_n hx hb dX8_heal_20 rfl (lv_at hl 0 rfl) ?_
    obtain ⟨hk_x0_9, hf⟩ := gd_some hf
    refine cr_getR kc_8 CX hR fa_X8_60 rfl hk_x0_9 dX8_heal_21 ?_
    obtain ⟨a1, ha1, hf⟩ := nn_some hf
    refine rf_0 ha1 ?_
    obtain ⟨hk_a1_6, hf⟩ := gd_some hf
    refine cr_getI kc_5 CX hR fa_X8_133 rfl hk_a1_6 dX8_heal_24 ?_
    refine lv_icmp_ge (tgt := 61) hx hb dX8_heal_27 (by decide) (fun hc => ?_) (fun hc => ?_)
    · rw [if_pos hc] at hf
      exact hk61 _ _ _ _ _ _ hf hR hS (lv_sub hl [0, 1] rfl)
    · rw [if_neg hc] at hf
      refine lv_aload_n hx hb dX8_heal_30 rfl (lv_at hl 0 rfl) ?_
      refine lv_iload_n hx hb dX8_heal_31 rfl (lv_at hl 2 rfl) ?_
      refine lv_iload_n hx hb dX8_heal_32 rfl (lv_at hl 1 rfl) ?_
      obtain ⟨o33, ho33, hf⟩ := bnd_some hf
      refine cr_callIv kc_8 CX hR hL hS (As := [.int x2, .int x1]) (rest := []) hk_x0_9 (MC_X8_isHealedWith l x N K x0 x2 x1 M o33 ho33) cv_X8_179 ⟨by omega, by omega⟩ rfl rfl (Nat.le_of_ble_eq_true rfl) hl.1 dX8_heal_33 hcs (fun H locs hR hS => ?_)
      refine lv_if_eq (tgt := 55) hx hb dX8_heal_36 (by decide) (fun hc => ?_) (fun hc => ?_)
      · rw [if_pos hc] at hf
        exact (wbC_X8_heal_55 CX hRm ih hk53 hk61) _ _ _ _ _ _ _ hf hR hS (lv_sub hl [0, 1, 2] rfl)
      · rw [if_neg hc] at hf
        refine lv_aload_n hx hb dX8_heal_39 rfl (lv_at hl 0 rfl) ?_
        refine cr_getR kc_8 CX hR fa_X8_28 rfl hk_x0_9 dX8_heal_40 ?_
        obtain ⟨a2, ha2, hf⟩ := nn_some hf
        refine rf_0 ha2 ?_
        obtain ⟨hk_a2_5, hf⟩ := gd_some hf
        refine cr_getR kc_4 CX hR fa_X8_182 rfl hk_a2_5 dX8_heal_43 ?_
        refine lv_iload_n hx hb dX8_heal_46 rfl (lv_at hl 2 rfl) ?_
        obtain ⟨a3, ha3, hf⟩ := nn_some hf
        refine rf_1 ha3 ?_
        obtain ⟨hk_a3_22, hf⟩ := gd_some hf
        obtain ⟨hi, hf⟩ := ck_some hf
        refine cr_iald CX hR hk_a3_22 hi dX8_heal_47 ?_
        refine lv_bipush (v := 30) hx hb dX8_heal_48 (by decide) ?_
        refine lv_icmp_lt (tgt := 55) hx hb dX8_heal_50 (by decide) (fun hc => ?_) (fun hc => ?_)
        · rw [if_pos hc] at hf
          exact (wbC_X8_heal_55 CX hRm ih hk53 hk61) _ _ _ _ _ _ _ hf hR hS (lv_sub hl [0, 1, 2] rfl)
        · rw [if_neg hc] at hf
          exact hk53 _ _ _ _ _ hf hR hS (lv_sub hl [0] rfl)
def bC_X8_heal_53 (N : Nat) (K : Ka) (x0 : Nat) (M : Cm) : Option (Int32 × Cm) := some ((-1), M)
set_option maxRecDepth 100000 in
set_option maxHeartbeats 4000000 in
theorem wbC_X8_heal_53 {p : Program} {l : Launch} {e : Env} {R : Room} {s : State} {m : MethodId} {args : Array Value} {below : List Frame} {meth : Method} {c : Code} {x : Xc} {o : Int32 × Cm} {N : Nat} {K : Ka} (CX : CC p s m args meth c x K RX8 cX8_heal 4 (some .int)) (hRm : 3 ≤ R.frames ∧ 67 ≤ R.locals) (x0 : Nat) (M : Cm) (H : Heap) (locs : List Loc) (ls : Array Slot) (hf : bC_X8_heal_53 N K x0 M = some o) (hR : RC x K M H) (hS : va_S (AC K) s.heap H locs) (hl : lv_has ls 4 [(0, .ref x0)]) : W p l e R s m args below meth c H locs 0 0 (MQ below (CQI x K o) args s 0 0 (AC K)) (F0 m 53 ls []) := by
  obtain ⟨hx, hb, hml, hown, hts, hE, hB, hr, hlk⟩ := id CX
  have hL : KLe K K := KLe.rf K
  have hcs : 0 ≤ R.cells ∧ 0 ≤ R.slots := ⟨Nat.zero_le _, Nat.zero_le _⟩
  unfold bC_X8_heal_53 at hf
  refine lv_iconst (v := (-1)) hx hb dX8_heal_53 (by decide) ?_
  exact cr_iret CX hR hS hf dX8_heal_54
def bC_X8_heal_96 (N : Nat) (K : Ka) (r65 : Nat → Int32 → Int32 → Int32 → Cm → Option (Int32 × Cm)) (k102 : Nat → Int32 → Cm → Option (Int32 × Cm)) (x0 : Nat) (x1 : Int32) (x2 : Int32) (x3 : Int32) (M : Cm) : Option (Int32 × Cm) := r65 x0 x1 x2 (x3 + 1) M
set_option maxRecDepth 100000 in
set_option maxHeartbeats 4000000 in
theorem wbC_X8_heal_96 {p : Program} {l : Launch} {e : Env} {R : Room} {s : State} {m : MethodId} {args : Array Value} {below : List Frame} {meth : Method} {c : Code} {x : Xc} {o : Int32 × Cm} {N : Nat} {K : Ka} {r65 : Nat → Int32 → Int32 → Int32 → Cm → Option (Int32 × Cm)} {k102 : Nat → Int32 → Cm → Option (Int32 × Cm)} (CX : CC p s m args meth c x K RX8 cX8_heal 4 (some .int)) (hRm : 3 ≤ R.frames ∧ 67 ≤ R.locals) (hr65 : ∀ (x0 : Nat) (x1 : Int32) (x2 : Int32) (x3 : Int32) (M : Cm) (H : Heap) (locs : List Loc) (ls : Array Slot), r65 x0 x1 x2 x3 M = some o → RC x K M H → va_S (AC K) s.heap H locs → lv_has ls 4 [(0, .ref x0), (1, .int x1), (2, .int x2), (3, .int x3)] → W p l e R s m args below meth c H locs 0 0 (MQ below (CQI x K o) args s 0 0 (AC K)) (F0 m 65 ls [])) (hk102 : ∀ (x0 : Nat) (x2 : Int32) (M : Cm) (H : Heap) (locs : List Loc) (ls : Array Slot), k102 x0 x2 M = some o → RC x K M H → va_S (AC K) s.heap H locs → lv_has ls 4 [(0, .ref x0), (2, .int x2)] → W p l e R s m args below meth c H locs 0 0 (MQ below (CQI x K o) args s 0 0 (AC K)) (F0 m 102 ls [])) (x0 : Nat) (x1 : Int32) (x2 : Int32) (x3 : Int32) (M : Cm) (H : Heap) (locs : List Loc) (ls : Array Slot) (hf : bC_X8_heal_96 N K r65 k102 x0 x1 x2 x3 M = some o) (hR : RC x K M H) (hS : va_S (AC K) s.heap H locs) (hl : lv_has ls 4 [(0, .ref x0), (1, .int x1), (2, .int x2), (3, .int x3)]) : W p l e R s m args below meth c H locs 0 0 (MQ below (CQI x K o) args s 0 0 (AC K)) (F0 m 96 ls []) := by
  obtain ⟨hx, hb, hml, hown, hts, hE, hB, hr, hlk⟩ := id CX
  have hL : KLe K K := KLe.rf K
  have hcs : 0 ≤ R.cells ∧ 0 ≤ R.slots := ⟨Nat.zero_le _, Nat.zero_le _⟩
  unfold bC_X8_heal_96 at hf
  refine lv_iinc (v := x3 + 1) (lv' := [(3, .int (x3 + 1)), (0, .ref x0), (1, .int x1), (2, .int x2)]) hx hb dX8_heal_96 hl (k := 3) rfl rfl (by decide) rfl (fun ls hl => ?_)
  refine lv_goto (tgt := 65) hx hb dX8_heal_99 (by decide) ?_
  exact hr65 _ _ _ _ _ _ _ _ hf hR hS (lv_sub hl [1, 2, 3, 0] rfl)
def lC_X8_heal_65 (N : Nat) (K : Ka) (k102 : Nat → Int32 → Cm → Option (Int32 × Cm)) : Nat → Nat → Int32 → Int32 → Int32 → Cm → Option (Int32 × Cm)
  | 0, _, _, _, _, _ => none
  | n + 1, x0, x1, x2, x3, M => gd (kd K x0 == 9) (nn (cR M x0 7) fun a1 => gd (kd K a1 == 6) (if (cI M a1 11) ≤ x3 then (k102 x0 x2 M) else ((fC_X8_isHealedWith N K x0 x3 x1 M).bind fun o79 => if o79.1 = 0 then ((bC_X8_heal_96 N K (lC_X8_heal_65 N K k102 n) k102) x0 x1 x2 x3 o79.2) else (nn (cR o79.2 x0 2) fun a2 => gd (kd K a2 == 5) ((fC_X4_renew N K a2 x3 o79.2).bind fun o90 => (bC_X8_heal_96 N K (lC_X8_heal_65 N K k102 n) k102) x0 x1 (x2 + 1) x3 o90)))))
set_option maxRecDepth 100000 in
set_option maxHeartbeats 4000000 in
theorem wlC_X8_heal_65 {p : Program} {l : Launch} {e : Env} {R : Room} {s : State} {m : MethodId} {args : Array Value} {below : List Frame} {meth : Method} {c : Code} {x : Xc} {o : Int32 × Cm} {N : Nat} {K : Ka} {k102 : Nat → Int32 → Cm → Option (Int32 × Cm)} (CX : CC p s m args meth c x K RX8 cX8_heal 4 (some .int)) (hRm : 3 ≤ R.frames ∧ 67 ≤ R.locals) (hk102 : ∀ (x0 : Nat) (x2 : Int32) (M : Cm) (H : Heap) (locs : List Loc) (ls : Array Slot), k102 x0 x2 M = some o → RC x K M H → va_S (AC K) s.heap H locs → lv_has ls 4 [(0, .ref x0), (2, .int x2)] → W p l e R s m args below meth c H locs 0 0 (MQ below (CQI x K o) args s 0 0 (AC K)) (F0 m 102 ls [])) : ∀ (n : Nat) (x0 : Nat) (x1 : Int32) (x2 : Int32) (x3 : Int32) (M : Cm) (H : Heap) (locs : List Loc) (ls : Array Slot), lC_X8_heal_65 N K k102 n x0 x1 x2 x3 M = some o → RC x K M H → va_S (AC K) s.heap H locs → lv_has ls 4 [(0, .ref x0), (1, .int x1), (2, .int x2), (3, .int x3)] → W p l e R s m args below meth c H locs 0 0 (MQ below (CQI x K o) args s 0 0 (AC K)) (F0 m 65 ls []) := by
  obtain ⟨hx, hb, hml, hown, hts, hE, hB, hr, hlk⟩ := id CX
  have hL : KLe K K := KLe.rf K
  have hcs : 0 ≤ R.cells ∧ 0 ≤ R.slots := ⟨Nat.zero_le _, Nat.zero_le _⟩
  intro n
  induction n with
  | zero => intro x0 x1 x2 x3 M H locs ls hf; cases hf
  | succ n ih =>
    intro x0 x1 x2 x3 M H locs ls hf hR hS hl
    rw [lC_X8_heal_65] at hf
    refine lv_iload_n hx hb dX8_heal_65 rfl (lv_at hl 3 rfl) ?_
    refine lv_aload_n hx hb dX8_heal_66 rfl (lv_at hl 0 rfl) ?_
    obtain ⟨hk_x0_9, hf⟩ := gd_some hf
    refine cr_getR kc_8 CX hR fa_X8_60 rfl hk_x0_9 dX8_heal_67 ?_
    obtain ⟨a1, ha1, hf⟩ := nn_some hf
    refine rf_0 ha1 ?_
    obtain ⟨hk_a1_6, hf⟩ := gd_some hf
    refine cr_getI kc_5 CX hR fa_X8_133 rfl hk_a1_6 dX8_heal_70 ?_
    refine lv_icmp_ge (tgt := 102) hx hb dX8_heal_73 (by decide) (fun hc => ?_) (fun hc => ?_)
    · rw [if_pos hc] at hf
      exact hk102 _ _ _ _ _ _ hf hR hS (lv_sub hl [0, 2] rfl)
    · rw [if_neg hc] at hf
      refine lv_aload_n hx hb dX8_heal_76 rfl (lv_at hl 0 rfl) ?_
      refine lv_iload_n hx hb dX8_heal_77 rfl (lv_at hl 3 rfl) ?_
      refine lv_iload_n hx hb dX8_heal_78 rfl (lv_at hl 1 rfl) ?_
      obtain ⟨o79, ho79, hf⟩ := bnd_some hf
      refine cr_callIv kc_8 CX hR hL hS (As := [.int x3, .int x1]) (rest := []) hk_x0_9 (MC_X8_isHealedWith l x N K x0 x3 x1 M o79 ho79) cv_X8_179 ⟨by omega, by omega⟩ rfl rfl (Nat.le_of_ble_eq_true rfl) hl.1 dX8_heal_79 hcs (fun H locs hR hS => ?_)
      refine lv_if_eq (tgt := 96) hx hb dX8_heal_82 (by decide) (fun hc => ?_) (fun hc => ?_)
      · rw [if_pos hc] at hf
        exact (wbC_X8_heal_96 CX hRm ih hk102) _ _ _ _ _ _ _ _ hf hR hS (lv_sub hl [0, 1, 2, 3] rfl)
      · rw [if_neg hc] at hf
        refine lv_aload_n hx hb dX8_heal_85 rfl (lv_at hl 0 rfl) ?_
        refine cr_getR kc_8 CX hR fa_X8_28 rfl hk_x0_9 dX8_heal_86 ?_
        refine lv_iload_n hx hb dX8_heal_89 rfl (lv_at hl 3 rfl) ?_
        obtain ⟨a2, ha2, hf⟩ := nn_some hf
        refine rf_1 ha2 ?_
        obtain ⟨hk_a2_5, hf⟩ := gd_some hf
        obtain ⟨o90, ho90, hf⟩ := bnd_some hf
        refine cr_callVv kc_4 CX hR hL hS (As := [.int x3]) (rest := []) hk_a2_5 (MC_X4_renew l x N K a2 x3 o79.2 o90 ho90) cv_X8_185 ⟨by omega, by omega⟩ rfl rfl (Nat.le_of_ble_eq_true rfl) hl.1 dX8_heal_90 hcs (fun H locs hR hS => ?_)
        refine lv_iinc (v := x2 + 1) (lv' := [(2, .int (x2 + 1)), (0, .ref x0), (1, .int x1), (3, .int x3)]) hx hb dX8_heal_93 hl (k := 2) rfl rfl (by decide) rfl (fun ls hl => ?_)
        exact (wbC_X8_heal_96 CX hRm ih hk102) _ _ _ _ _ _ _ _ hf hR hS (lv_sub hl [1, 2, 0, 3] rfl)
def bC_X8_heal_102 (N : Nat) (K : Ka) (x0 : Nat) (x2 : Int32) (M : Cm) : Option (Int32 × Cm) := some (x2, M)
set_option maxRecDepth 100000 in
set_option maxHeartbeats 4000000 in
theorem wbC_X8_heal_102 {p : Program} {l : Launch} {e : Env} {R : Room} {s : State} {m : MethodId} {args : Array Value} {below : List Frame} {meth : Method} {c : Code} {x : Xc} {o : Int32 × Cm} {N : Nat} {K : Ka} (CX : CC p s m args meth c x K RX8 cX8_heal 4 (some .int)) (hRm : 3 ≤ R.frames ∧ 67 ≤ R.locals) (x0 : Nat) (x2 : Int32) (M : Cm) (H : Heap) (locs : List Loc) (ls : Array Slot) (hf : bC_X8_heal_102 N K x0 x2 M = some o) (hR : RC x K M H) (hS : va_S (AC K) s.heap H locs) (hl : lv_has ls 4 [(0, .ref x0), (2, .int x2)]) : W p l e R s m args below meth c H locs 0 0 (MQ below (CQI x K o) args s 0 0 (AC K)) (F0 m 102 ls []) := by
  obtain ⟨hx, hb, hml, hown, hts, hE, hB, hr, hlk⟩ := id CX
  have hL : KLe K K := KLe.rf K
  have hcs : 0 ≤ R.cells ∧ 0 ≤ R.slots := ⟨Nat.zero_le _, Nat.zero_le _⟩
  unfold bC_X8_heal_102 at hf
  refine lv_iload_n hx hb dX8_heal_102 rfl (lv_at hl 1 rfl) ?_
  exact cr_iret CX hR hS hf dX8_heal_103
def bC_X8_heal_61 (N : Nat) (K : Ka) (x0 : Nat) (x1 : Int32) (M : Cm) : Option (Int32 × Cm) := (lC_X8_heal_65 N K (bC_X8_heal_102 N K) N) x0 x1 0 0 M
set_option maxRecDepth 100000 in
set_option maxHeartbeats 4000000 in
theorem wbC_X8_heal_61 {p : Program} {l : Launch} {e : Env} {R : Room} {s : State} {m : MethodId} {args : Array Value} {below : List Frame} {meth : Method} {c : Code} {x : Xc} {o : Int32 × Cm} {N : Nat} {K : Ka} (CX : CC p s m args meth c x K RX8 cX8_heal 4 (some .int)) (hRm : 3 ≤ R.frames ∧ 67 ≤ R.locals) (x0 : Nat) (x1 : Int32) (M : Cm) (H : Heap) (locs : List Loc) (ls : Array Slot) (hf : bC_X8_heal_61 N K x0 x1 M = some o) (hR : RC x K M H) (hS : va_S (AC K) s.heap H locs) (hl : lv_has ls 4 [(0, .ref x0), (1, .int x1)]) : W p l e R s m args below meth c H locs 0 0 (MQ below (CQI x K o) args s 0 0 (AC K)) (F0 m 61 ls []) := by
  obtain ⟨hx, hb, hml, hown, hts, hE, hB, hr, hlk⟩ := id CX
  have hL : KLe K K := KLe.rf K
  have hcs : 0 ≤ R.cells ∧ 0 ≤ R.slots := ⟨Nat.zero_le _, Nat.zero_le _⟩
  unfold bC_X8_heal_61 at hf
  refine lv_iconst (v := 0) hx hb dX8_heal_61 (by decide) ?_
  refine lv_istore_n (lv' := [(2, .int 0), (0, .ref x0), (1, .int x1)]) hx hb dX8_heal_62 rfl hl (by decide) rfl (fun ls hl => ?_)
  refine lv_iconst (v := 0) hx hb dX8_heal_63 (by decide) ?_
  refine lv_istore_n (lv' := [(3, .int 0), (2, .int 0), (0, .ref x0), (1, .int x1)]) hx hb dX8_heal_64 rfl hl (by decide) rfl (fun ls hl => ?_)
  exact (wlC_X8_heal_65 CX hRm (wbC_X8_heal_102 CX hRm) N) _ _ _ _ _ _ _ _ hf hR hS (lv_sub hl [2, 3, 1, 0] rfl)
def fC_X8_heal (N : Nat) (K : Ka) (x0 : Nat) (x1 : Int32) (M : Cm) : Option (Int32 × Cm) := gd (kd K x0 == 9) ((fC_X8_isUnit N K x0 x1 M).bind fun o2 => if o2.1 = 0 then ((bC_X8_heal_15 N K) x0 o2.2) else (if (cI o2.2 x0 12) = 0 then ((lC_X8_heal_19 N K (bC_X8_heal_53 N K) (bC_X8_heal_61 N K) N) x0 x1 0 o2.2) else ((bC_X8_heal_15 N K) x0 o2.2)))
set_option maxRecDepth 100000 in
set_option maxHeartbeats 4000000 in
theorem wfC_X8_heal {p : Program} {l : Launch} {e : Env} {R : Room} {s : State} {m : MethodId} {args : Array Value} {below : List Frame} {meth : Method} {c : Code} {x : Xc} {o : Int32 × Cm} {N : Nat} {K : Ka} (CX : CC p s m args meth c x K RX8 cX8_heal 4 (some .int)) (hRm : 3 ≤ R.frames ∧ 67 ≤ R.locals) (x0 : Nat) (x1 : Int32) (M : Cm) (H : Heap) (locs : List Loc) (ls : Array Slot) (hf : fC_X8_heal N K x0 x1 M = some o) (hR : RC x K M H) (hS : va_S (AC K) s.heap H locs) (hl : lv_has ls 4 [(0, .ref x0), (1, .int x1)]) : W p l e R s m args below meth c H locs 0 0 (MQ below (CQI x K o) args s 0 0 (AC K)) (F0 m 0 ls []) := by
  obtain ⟨hx, hb, hml, hown, hts, hE, hB, hr, hlk⟩ := id CX
  have hL : KLe K K := KLe.rf K
  have hcs : 0 ≤ R.cells ∧ 0 ≤ R.slots := ⟨Nat.zero_le _, Nat.zero_le _⟩
  unfold fC_X8_heal at hf
  refine lv_aload_n hx hb dX8_heal_0 rfl (lv_at hl 0 rfl) ?_
  refine lv_iload_n hx hb dX8_heal_1 rfl (lv_at hl 1 rfl) ?_
  obtain ⟨hk_x0_9, hf⟩ := gd_some hf
  obtain ⟨o2, ho2, hf⟩ := bnd_some hf
  refine cr_callIv kc_8 CX hR hL hS (As := [.int x1]) (rest := []) hk_x0_9 (MC_X8_isUnit l x N K x0 x1 M o2 ho2) cv_X8_162 ⟨by omega, by omega⟩ rfl rfl (Nat.le_of_ble_eq_true rfl) hl.1 dX8_heal_2 hcs (fun H locs hR hS => ?_)
  refine lv_if_eq (tgt := 15) hx hb dX8_heal_5 (by decide) (fun hc => ?_) (fun hc => ?_)
  · rw [if_pos hc] at hf
    exact (wbC_X8_heal_15 CX hRm) _ _ _ _ _ hf hR hS (lv_sub hl [0] rfl)
  · rw [if_neg hc] at hf
    refine lv_aload_n hx hb dX8_heal_8 rfl (lv_at hl 0 rfl) ?_
    refine cr_getI kc_8 CX hR fa_X8_77 rfl hk_x0_9 dX8_heal_9 ?_
    refine lv_if_eq (tgt := 17) hx hb dX8_heal_12 (by decide) (fun hc => ?_) (fun hc => ?_)
    · rw [if_pos hc] at hf
      refine lv_iconst (v := 0) hx hb dX8_heal_17 (by decide) ?_
      refine lv_istore_n (lv' := [(2, .int 0), (0, .ref x0), (1, .int x1)]) hx hb dX8_heal_18 rfl hl (by decide) rfl (fun ls hl => ?_)
      exact (wlC_X8_heal_19 CX hRm (wbC_X8_heal_53 CX hRm) (wbC_X8_heal_61 CX hRm) N) _ _ _ _ _ _ _ hf hR hS (lv_sub hl [1, 2, 0] rfl)
    · rw [if_neg hc] at hf
      exact (wbC_X8_heal_15 CX hRm) _ _ _ _ _ hf hR hS (lv_sub hl [0] rfl)
theorem MC_X8_heal (l : Launch) (x : Xc) (N : Nat) (K : Ka) (x0 : Nat) (x1 : Int32) (M : Cm) (o : Int32 × Cm) (hf : fC_X8_heal N K x0 x1 M = some o) : CtI l x yX8_heal cX8_heal 4 (some .int) 3 67 [.ref x0, .int x1] K M o :=
  cr_metI RX8 (by decide) rfl (Nat.le_of_ble_eq_true rfl) (fun p e s m args below meth c ls CX hR hl => wfC_X8_heal CX ⟨Nat.le_refl _, Nat.le_refl _⟩ x0 x1 M s.heap [] ls hf hR va_S.rf hl)
