def fM_thrown (N : Nat)  (S : Ms) : Option (Int32 × Ms) := some (mF S 0, S)
set_option maxRecDepth 100000 in
set_option maxHeartbeats 4000000 in
theorem wfM_thrown {p : Program} {l : Launch} {e : Env} {R : Room} {s : State} {m : MethodId} {args : Array Value} {below : List Frame} {meth : Method} {c : Code} {d : Dd} {g : Gm} {o : Int32 × Ms} {N : Nat} (C : CM p s m args meth c d g cX9_thrown 1 (some .int)) (hRm : 0 ≤ R.frames ∧ 0 ≤ R.locals)  (S : Ms) (H : Heap) (locs : List Loc) (ls : Array Slot) (hf : fM_thrown N  S = some o) (hR : RM d g S H) (hS : va_S (AM g) s.heap H locs) (hl : lv_has ls 1 [(0, .ref g.1)]) : W p l e R s m args below meth c H locs 0 0 (MQ below (QI d g o) args s 0 0 (AM g)) (F0 m 0 ls []) := by
  obtain ⟨hx, hb, hml, hown, hts, hK, hg, hr, hlk⟩ := id C
  unfold fM_thrown at hf
  refine lv_aload_n hx hb dX9_thrown_0 rfl (lv_at hl 0 rfl) ?_
  refine mr_getI C hR fl_1 rfl dX9_thrown_1 ?_
  exact mr_iret C hR hS hf dX9_thrown_4
theorem MM_thrown (l : Launch) (d : Dd) (g : Gm) (N : Nat)  (S : Ms) (o : Int32 × Ms) (hf : fM_thrown N  S = some o) : MtI l d g yX9_thrown cX9_thrown 1 (some .int) 0 0 [.ref g.1] S o :=
  mr_metI (by decide) rfl (Nat.le_of_ble_eq_true rfl) (fun p e s m args below meth c ls C hR hl => wfM_thrown C ⟨Nat.le_refl _, Nat.le_refl _⟩  S s.heap [] ls hf hR va_S.rf hl)
def bM_lay_69 (N : Nat) (r3 : Int64 → Int32 → Ms → Option (Ms)) (k75 : Ms → Option (Ms)) (x1 : Int64) (x3 : Int32) (S : Ms) : Option (Ms) := r3 x1 (x3 + (-8)) S
set_option maxRecDepth 100000 in
set_option maxHeartbeats 4000000 in
theorem wbM_lay_69 {p : Program} {l : Launch} {e : Env} {R : Room} {s : State} {m : MethodId} {args : Array Value} {below : List Frame} {meth : Method} {c : Code} {d : Dd} {g : Gm} {o : Ms} {N : Nat} {r3 : Int64 → Int32 → Ms → Option (Ms)} {k75 : Ms → Option (Ms)} (C : CM p s m args meth c d g cX9_lay 5 none) (hRm : 0 ≤ R.frames ∧ 0 ≤ R.locals) (hr3 : ∀ (x1 : Int64) (x3 : Int32) (S : Ms) (H : Heap) (locs : List Loc) (ls : Array Slot), r3 x1 x3 S = some o → RM d g S H → va_S (AM g) s.heap H locs → lv_has ls 5 [(0, .ref g.1), (1, .long x1), (3, .int x3)] → W p l e R s m args below meth c H locs 0 0 (MQ below (QV d g o) args s 0 0 (AM g)) (F0 m 3 ls [])) (hk75 : ∀  (S : Ms) (H : Heap) (locs : List Loc) (ls : Array Slot), k75 S = some o → RM d g S H → va_S (AM g) s.heap H locs → lv_has ls 5 [(0, .ref g.1)] → W p l e R s m args below meth c H locs 0 0 (MQ below (QV d g o) args s 0 0 (AM g)) (F0 m 75 ls [])) (x1 : Int64) (x3 : Int32) (S : Ms) (H : Heap) (locs : List Loc) (ls : Array Slot) (hf : bM_lay_69 N r3 k75 x1 x3 S = some o) (hR : RM d g S H) (hS : va_S (AM g) s.heap H locs) (hl : lv_has ls 5 [(0, .ref g.1), (1, .long x1), (3, .int x3)]) : W p l e R s m args below meth c H locs 0 0 (MQ below (QV d g o) args s 0 0 (AM g)) (F0 m 69 ls []) := by
  obtain ⟨hx, hb, hml, hown, hts, hK, hg, hr, hlk⟩ := id C
  unfold bM_lay_69 at hf
  refine lv_iinc (v := x3 + (-8)) (lv' := [(3, .int (x3 + (-8))), (0, .ref g.1), (1, .long x1)]) hx hb dX9_lay_69 hl (k := 2) rfl rfl (by decide) rfl (fun ls hl => ?_)
  refine lv_goto (tgt := 3) hx hb dX9_lay_72 (by decide) ?_
  exact hr3 _ _ _ _ _ _ hf hR hS (lv_sub hl [1, 2, 0] rfl)
def bM_lay_38 (N : Nat) (r3 : Int64 → Int32 → Ms → Option (Ms)) (k75 : Ms → Option (Ms)) (x1 : Int64) (x3 : Int32) (x4 : Int32) (S : Ms) : Option (Ms) := if 4000 ≤ (mF S 2) then ((bM_lay_69 N r3 k75) x1 x3 S) else (ck (mF S 2) 4000 ((bM_lay_69 N r3 k75) x1 x3 (pF (pA S 1 (mF S 2 : Int32).toNatClampNeg x4) 2 ((mF (pA S 1 (mF S 2 : Int32).toNatClampNeg x4) 2) + 1))))
set_option maxRecDepth 100000 in
set_option maxHeartbeats 4000000 in
theorem wbM_lay_38 {p : Program} {l : Launch} {e : Env} {R : Room} {s : State} {m : MethodId} {args : Array Value} {below : List Frame} {meth : Method} {c : Code} {d : Dd} {g : Gm} {o : Ms} {N : Nat} {r3 : Int64 → Int32 → Ms → Option (Ms)} {k75 : Ms → Option (Ms)} (C : CM p s m args meth c d g cX9_lay 5 none) (hRm : 0 ≤ R.frames ∧ 0 ≤ R.locals) (hr3 : ∀ (x1 : Int64) (x3 : Int32) (S : Ms) (H : Heap) (locs : List Loc) (ls : Array Slot), r3 x1 x3 S = some o → RM d g S H → va_S (AM g) s.heap H locs → lv_has ls 5 [(0, .ref g.1), (1, .long x1), (3, .int x3)] → W p l e R s m args below meth c H locs 0 0 (MQ below (QV d g o) args s 0 0 (AM g)) (F0 m 3 ls [])) (hk75 : ∀  (S : Ms) (H : Heap) (locs : List Loc) (ls : Array Slot), k75 S = some o → RM d g S H → va_S (AM g) s.heap H locs → lv_has ls 5 [(0, .ref g.1)] → W p l e R s m args below meth c H locs 0 0 (MQ below (QV d g o) args s 0 0 (AM g)) (F0 m 75 ls [])) (x1 : Int64) (x3 : Int32) (x4 : Int32) (S : Ms) (H : Heap) (locs : List Loc) (ls : Array Slot) (hf : bM_lay_38 N r3 k75 x1 x3 x4 S = some o) (hR : RM d g S H) (hS : va_S (AM g) s.heap H locs) (hl : lv_has ls 5 [(0, .ref g.1), (1, .long x1), (3, .int x3), (4, .int x4)]) : W p l e R s m args below meth c H locs 0 0 (MQ below (QV d g o) args s 0 0 (AM g)) (F0 m 38 ls []) := by
  obtain ⟨hx, hb, hml, hown, hts, hK, hg, hr, hlk⟩ := id C
  unfold bM_lay_38 at hf
  refine lv_aload_n hx hb dX9_lay_38 rfl (lv_at hl 0 rfl) ?_
  refine mr_getI C hR fl_11 rfl dX9_lay_39 ?_
  refine lv_sipush (v := 4000) hx hb dX9_lay_42 (by decide) ?_
  refine lv_icmp_ge (tgt := 69) hx hb dX9_lay_45 (by decide) (fun hc => ?_) (fun hc => ?_)
  · rw [if_pos hc] at hf
    exact (wbM_lay_69 C hRm hr3 hk75) _ _ _ _ _ _ hf hR hS (lv_sub hl [0, 1, 2] rfl)
  · rw [if_neg hc] at hf
    refine lv_aload_n hx hb dX9_lay_48 rfl (lv_at hl 0 rfl) ?_
    refine mr_getR C hR fl_14 (by decide) dX9_lay_49 ?_
    refine lv_aload_n hx hb dX9_lay_52 rfl (lv_at hl 0 rfl) ?_
    refine mr_getI C hR fl_11 rfl dX9_lay_53 ?_
    refine lv_iload hx hb dX9_lay_56 (lv_at hl 3 rfl) ?_
    obtain ⟨hi, hf⟩ := ck_some hf
    refine mr_iast C hR hS (k := 1) rfl hi dX9_lay_58 (fun H locs hR hS => ?_)
    refine lv_aload_n hx hb dX9_lay_59 rfl (lv_at hl 0 rfl) ?_
    refine lv_dup hx hb dX9_lay_60 rfl ?_
    refine mr_getI C hR fl_11 rfl dX9_lay_61 ?_
    refine lv_iconst (v := 1) hx hb dX9_lay_64 (by decide) ?_
    refine lv_iadd hx hb dX9_lay_65 ?_
    refine mr_putI C hR hS fl_11 ⟨rfl, rfl, rfl⟩ dX9_lay_66 (fun H locs hR hS => ?_)
    exact (wbM_lay_69 C hRm hr3 hk75) _ _ _ _ _ _ hf hR hS (lv_sub hl [0, 1, 2] rfl)
def lM_lay_3 (N : Nat) (k75 : Ms → Option (Ms)) : Nat → Int64 → Int32 → Ms → Option (Ms)
  | 0, _, _, _ => none
  | n + 1, x1, x3, S => if x3 < 0 then (k75 S) else (if (((x1 >>> ((x3 : Int32).toInt64 &&& 63) : Int64).toInt32) &&& 255) = 10 then ((bM_lay_38 N (lM_lay_3 N k75 n) k75) x1 x3 (((x1 >>> ((x3 : Int32).toInt64 &&& 63) : Int64).toInt32) &&& 255) S) else (if (((x1 >>> ((x3 : Int32).toInt64 &&& 63) : Int64).toInt32) &&& 255) < 32 then ((bM_lay_69 N (lM_lay_3 N k75 n) k75) x1 x3 S) else (if 126 < (((x1 >>> ((x3 : Int32).toInt64 &&& 63) : Int64).toInt32) &&& 255) then ((bM_lay_69 N (lM_lay_3 N k75 n) k75) x1 x3 S) else ((bM_lay_38 N (lM_lay_3 N k75 n) k75) x1 x3 (((x1 >>> ((x3 : Int32).toInt64 &&& 63) : Int64).toInt32) &&& 255) S))))
set_option maxRecDepth 100000 in
set_option maxHeartbeats 4000000 in
theorem wlM_lay_3 {p : Program} {l : Launch} {e : Env} {R : Room} {s : State} {m : MethodId} {args : Array Value} {below : List Frame} {meth : Method} {c : Code} {d : Dd} {g : Gm} {o : Ms} {N : Nat} {k75 : Ms → Option (Ms)} (C : CM p s m args meth c d g cX9_lay 5 none) (hRm : 0 ≤ R.frames ∧ 0 ≤ R.locals) (hk75 : ∀  (S : Ms) (H : Heap) (locs : List Loc) (ls : Array Slot), k75 S = some o → RM d g S H → va_S (AM g) s.heap H locs → lv_has ls 5 [(0, .ref g.1)] → W p l e R s m args below meth c H locs 0 0 (MQ below (QV d g o) args s 0 0 (AM g)) (F0 m 75 ls [])) : ∀ (n : Nat) (x1 : Int64) (x3 : Int32) (S : Ms) (H : Heap) (locs : List Loc) (ls : Array Slot), lM_lay_3 N k75 n x1 x3 S = some o → RM d g S H → va_S (AM g) s.heap H locs → lv_has ls 5 [(0, .ref g.1), (1, .long x1), (3, .int x3)] → W p l e R s m args below meth c H locs 0 0 (MQ below (QV d g o) args s 0 0 (AM g)) (F0 m 3 ls []) := by
  obtain ⟨hx, hb, hml, hown, hts, hK, hg, hr, hlk⟩ := id C
  intro n
  induction n with
  | zero => intro x1 x3 S H locs ls hf; cases hf
  | succ n ih =>
    intro x1 x3 S H locs ls hf hR hS hl
    rw [lM_lay_3] at hf
    refine lv_iload_n hx hb dX9_lay_3 rfl (lv_at hl 2 rfl) ?_
    refine lv_if_lt (tgt := 75) hx hb dX9_lay_4 (by decide) (fun hc => ?_) (fun hc => ?_)
    · rw [if_pos hc] at hf
      exact hk75 _ _ _ _ hf hR hS (lv_sub hl [0] rfl)
    · rw [if_neg hc] at hf
      refine lv_lload_n hx hb dX9_lay_7 rfl (lv_at hl 1 rfl) ?_
      refine lv_iload_n hx hb dX9_lay_8 rfl (lv_at hl 2 rfl) ?_
      refine lv_lshr (v := x1 >>> ((x3 : Int32).toInt64 &&& 63)) hx hb dX9_lay_9 rfl ?_
      refine lv_l2i (v := (x1 >>> ((x3 : Int32).toInt64 &&& 63) : Int64).toInt32) hx hb dX9_lay_10 rfl ?_
      refine lv_sipush (v := 255) hx hb dX9_lay_11 (by decide) ?_
      refine lv_iand hx hb dX9_lay_14 ?_
      refine lv_istore (lv' := [(4, .int (((x1 >>> ((x3 : Int32).toInt64 &&& 63) : Int64).toInt32) &&& 255)), (0, .ref g.1), (1, .long x1), (3, .int x3)]) hx hb dX9_lay_15 hl (by decide) rfl (fun ls hl => ?_)
      refine lv_iload hx hb dX9_lay_17 (lv_at hl 0 rfl) ?_
      refine lv_bipush (v := 10) hx hb dX9_lay_19 (by decide) ?_
      refine lv_icmp_eq (tgt := 38) hx hb dX9_lay_21 (by decide) (fun hc => ?_) (fun hc => ?_)
      · rw [if_pos hc] at hf
        exact (wbM_lay_38 C hRm ih hk75) _ _ _ _ _ _ _ hf hR hS (lv_sub hl [1, 2, 3, 0] rfl)
      · rw [if_neg hc] at hf
        refine lv_iload hx hb dX9_lay_24 (lv_at hl 0 rfl) ?_
        refine lv_bipush (v := 32) hx hb dX9_lay_26 (by decide) ?_
        refine lv_icmp_lt (tgt := 69) hx hb dX9_lay_28 (by decide) (fun hc => ?_) (fun hc => ?_)
        · rw [if_pos hc] at hf
          exact (wbM_lay_69 C hRm ih hk75) _ _ _ _ _ _ hf hR hS (lv_sub hl [1, 2, 3] rfl)
        · rw [if_neg hc] at hf
          refine lv_iload hx hb dX9_lay_31 (lv_at hl 0 rfl) ?_
          refine lv_bipush (v := 126) hx hb dX9_lay_33 (by decide) ?_
          refine lv_icmp_gt (tgt := 69) hx hb dX9_lay_35 (by decide) (fun hc => ?_) (fun hc => ?_)
          · rw [if_pos hc] at hf
            exact (wbM_lay_69 C hRm ih hk75) _ _ _ _ _ _ hf hR hS (lv_sub hl [1, 2, 3] rfl)
          · rw [if_neg hc] at hf
            exact (wbM_lay_38 C hRm ih hk75) _ _ _ _ _ _ _ hf hR hS (lv_sub hl [1, 2, 3, 0] rfl)
def bM_lay_75 (N : Nat)  (S : Ms) : Option (Ms) := some S
set_option maxRecDepth 100000 in
set_option maxHeartbeats 4000000 in
theorem wbM_lay_75 {p : Program} {l : Launch} {e : Env} {R : Room} {s : State} {m : MethodId} {args : Array Value} {below : List Frame} {meth : Method} {c : Code} {d : Dd} {g : Gm} {o : Ms} {N : Nat} (C : CM p s m args meth c d g cX9_lay 5 none) (hRm : 0 ≤ R.frames ∧ 0 ≤ R.locals)  (S : Ms) (H : Heap) (locs : List Loc) (ls : Array Slot) (hf : bM_lay_75 N  S = some o) (hR : RM d g S H) (hS : va_S (AM g) s.heap H locs) (hl : lv_has ls 5 [(0, .ref g.1)]) : W p l e R s m args below meth c H locs 0 0 (MQ below (QV d g o) args s 0 0 (AM g)) (F0 m 75 ls []) := by
  obtain ⟨hx, hb, hml, hown, hts, hK, hg, hr, hlk⟩ := id C
  unfold bM_lay_75 at hf
  exact mr_vret C hR hS hf dX9_lay_75
def fM_lay (N : Nat) (x1 : Int64) (S : Ms) : Option (Ms) := (lM_lay_3 N (bM_lay_75 N) N) x1 56 S
set_option maxRecDepth 100000 in
set_option maxHeartbeats 4000000 in
theorem wfM_lay {p : Program} {l : Launch} {e : Env} {R : Room} {s : State} {m : MethodId} {args : Array Value} {below : List Frame} {meth : Method} {c : Code} {d : Dd} {g : Gm} {o : Ms} {N : Nat} (C : CM p s m args meth c d g cX9_lay 5 none) (hRm : 0 ≤ R.frames ∧ 0 ≤ R.locals) (x1 : Int64) (S : Ms) (H : Heap) (locs : List Loc) (ls : Array Slot) (hf : fM_lay N x1 S = some o) (hR : RM d g S H) (hS : va_S (AM g) s.heap H locs) (hl : lv_has ls 5 [(0, .ref g.1), (1, .long x1)]) : W p l e R s m args below meth c H locs 0 0 (MQ below (QV d g o) args s 0 0 (AM g)) (F0 m 0 ls []) := by
  obtain ⟨hx, hb, hml, hown, hts, hK, hg, hr, hlk⟩ := id C
  unfold fM_lay at hf
  refine lv_bipush (v := 56) hx hb dX9_lay_0 (by decide) ?_
  refine lv_istore_n (lv' := [(3, .int 56), (0, .ref g.1), (1, .long x1)]) hx hb dX9_lay_2 rfl hl (by decide) rfl (fun ls hl => ?_)
  exact (wlM_lay_3 C hRm (wbM_lay_75 C hRm) N) _ _ _ _ _ _ hf hR hS (lv_sub hl [1, 2, 0] rfl)
theorem MM_lay (l : Launch) (d : Dd) (g : Gm) (N : Nat) (x1 : Int64) (S : Ms) (o : Ms) (hf : fM_lay N x1 S = some o) : MtV l d g yX9_lay cX9_lay 5 0 0 [.ref g.1, .long x1] S o :=
  mr_metV (by decide) rfl (Nat.le_of_ble_eq_true rfl) (fun p e s m args below meth c ls C hR hl => wfM_lay C ⟨Nat.le_refl _, Nat.le_refl _⟩ x1 S s.heap [] ls hf hR va_S.rf hl)
def fM_feed (N : Nat) (x1 : Int64) (x3 : Int64) (x5 : Int64) (S : Ms) : Option (Int32 × Ms) := (fM_lay N x1 (pF S 0 0)).bind fun o7 => (fM_lay N x3 o7).bind fun o12 => (fM_lay N x5 o12).bind fun o18 => some (mF o18 2, o18)
set_option maxRecDepth 100000 in
set_option maxHeartbeats 4000000 in
theorem wfM_feed {p : Program} {l : Launch} {e : Env} {R : Room} {s : State} {m : MethodId} {args : Array Value} {below : List Frame} {meth : Method} {c : Code} {d : Dd} {g : Gm} {o : Int32 × Ms} {N : Nat} (C : CM p s m args meth c d g cX9_feed 7 (some .int)) (hRm : 1 ≤ R.frames ∧ 24 ≤ R.locals) (x1 : Int64) (x3 : Int64) (x5 : Int64) (S : Ms) (H : Heap) (locs : List Loc) (ls : Array Slot) (hf : fM_feed N x1 x3 x5 S = some o) (hR : RM d g S H) (hS : va_S (AM g) s.heap H locs) (hl : lv_has ls 7 [(0, .ref g.1), (1, .long x1), (3, .long x3), (5, .long x5)]) : W p l e R s m args below meth c H locs 0 0 (MQ below (QI d g o) args s 0 0 (AM g)) (F0 m 0 ls []) := by
  obtain ⟨hx, hb, hml, hown, hts, hK, hg, hr, hlk⟩ := id C
  unfold fM_feed at hf
  refine lv_aload_n hx hb dX9_feed_0 rfl (lv_at hl 0 rfl) ?_
  refine lv_iconst (v := 0) hx hb dX9_feed_1 (by decide) ?_
  refine mr_putI C hR hS fl_1 ⟨rfl, rfl, rfl⟩ dX9_feed_2 (fun H locs hR hS => ?_)
  refine lv_aload_n hx hb dX9_feed_5 rfl (lv_at hl 0 rfl) ?_
  refine lv_lload_n hx hb dX9_feed_6 rfl (lv_at hl 1 rfl) ?_
  obtain ⟨o7, ho7, hf⟩ := bnd_some hf
  refine mr_callVv C hR hS (As := [.long x1]) (rest := []) (MM_lay l d g N x1 (pF S 0 0) o7 ho7) wv_7 ⟨by omega, by omega⟩ rfl rfl (Nat.le_of_ble_eq_true rfl) hl.1 dX9_feed_7 ⟨Nat.zero_le _, Nat.zero_le _⟩ (fun H locs hR hS => ?_)
  refine lv_aload_n hx hb dX9_feed_10 rfl (lv_at hl 0 rfl) ?_
  refine lv_lload_n hx hb dX9_feed_11 rfl (lv_at hl 2 rfl) ?_
  obtain ⟨o12, ho12, hf⟩ := bnd_some hf
  refine mr_callVv C hR hS (As := [.long x3]) (rest := []) (MM_lay l d g N x3 o7 o12 ho12) wv_7 ⟨by omega, by omega⟩ rfl rfl (Nat.le_of_ble_eq_true rfl) hl.1 dX9_feed_12 ⟨Nat.zero_le _, Nat.zero_le _⟩ (fun H locs hR hS => ?_)
  refine lv_aload_n hx hb dX9_feed_15 rfl (lv_at hl 0 rfl) ?_
  refine lv_lload hx hb dX9_feed_16 (lv_at hl 3 rfl) ?_
  obtain ⟨o18, ho18, hf⟩ := bnd_some hf
  refine mr_callVv C hR hS (As := [.long x5]) (rest := []) (MM_lay l d g N x5 o12 o18 ho18) wv_7 ⟨by omega, by omega⟩ rfl rfl (Nat.le_of_ble_eq_true rfl) hl.1 dX9_feed_18 ⟨Nat.zero_le _, Nat.zero_le _⟩ (fun H locs hR hS => ?_)
  refine lv_aload_n hx hb dX9_feed_21 rfl (lv_at hl 0 rfl) ?_
  refine mr_getI C hR fl_11 rfl dX9_feed_22 ?_
  exact mr_iret C hR hS hf dX9_feed_25
theorem MM_feed (l : Launch) (d : Dd) (g : Gm) (N : Nat) (x1 : Int64) (x3 : Int64) (x5 : Int64) (S : Ms) (o : Int32 × Ms) (hf : fM_feed N x1 x3 x5 S = some o) : MtI l d g yX9_feed cX9_feed 7 (some .int) 1 24 [.ref g.1, .long x1, .long x3, .long x5] S o :=
  mr_metI (by decide) rfl (Nat.le_of_ble_eq_true rfl) (fun p e s m args below meth c ls C hR hl => wfM_feed C ⟨Nat.le_refl _, Nat.le_refl _⟩ x1 x3 x5 S s.heap [] ls hf hR va_S.rf hl)
def bM_isLetter_17 (N : Nat) (s0 : Int32) (S : Ms) : Option (Int32 × Ms) := gd (is01 s0) (some (s0, S))
set_option maxRecDepth 100000 in
set_option maxHeartbeats 4000000 in
theorem wbM_isLetter_17 {p : Program} {l : Launch} {e : Env} {R : Room} {s : State} {m : MethodId} {args : Array Value} {below : List Frame} {meth : Method} {c : Code} {d : Dd} {g : Gm} {o : Int32 × Ms} {N : Nat} (C : CM p s m args meth c d g cX9_isLetter 1 (some .boolean)) (hRm : 0 ≤ R.frames ∧ 0 ≤ R.locals) (s0 : Int32) (S : Ms) (H : Heap) (locs : List Loc) (ls : Array Slot) (hf : bM_isLetter_17 N s0 S = some o) (hR : RM d g S H) (hS : va_S (AM g) s.heap H locs) (hl : lv_has ls 1 []) : W p l e R s m args below meth c H locs 0 0 (MQ below (QI d g o) args s 0 0 (AM g)) (F0 m 17 ls [.int s0]) := by
  obtain ⟨hx, hb, hml, hown, hts, hK, hg, hr, hlk⟩ := id C
  unfold bM_isLetter_17 at hf
  obtain ⟨hz, hf⟩ := gd_some hf
  exact mr_zret C hR hS hz hf dX9_isLetter_17
def bM_isLetter_16 (N : Nat)  (S : Ms) : Option (Int32 × Ms) := (bM_isLetter_17 N) 0 S
set_option maxRecDepth 100000 in
set_option maxHeartbeats 4000000 in
theorem wbM_isLetter_16 {p : Program} {l : Launch} {e : Env} {R : Room} {s : State} {m : MethodId} {args : Array Value} {below : List Frame} {meth : Method} {c : Code} {d : Dd} {g : Gm} {o : Int32 × Ms} {N : Nat} (C : CM p s m args meth c d g cX9_isLetter 1 (some .boolean)) (hRm : 0 ≤ R.frames ∧ 0 ≤ R.locals)  (S : Ms) (H : Heap) (locs : List Loc) (ls : Array Slot) (hf : bM_isLetter_16 N  S = some o) (hR : RM d g S H) (hS : va_S (AM g) s.heap H locs) (hl : lv_has ls 1 []) : W p l e R s m args below meth c H locs 0 0 (MQ below (QI d g o) args s 0 0 (AM g)) (F0 m 16 ls []) := by
  obtain ⟨hx, hb, hml, hown, hts, hK, hg, hr, hlk⟩ := id C
  unfold bM_isLetter_16 at hf
  refine lv_iconst (v := 0) hx hb dX9_isLetter_16 (by decide) ?_
  exact (wbM_isLetter_17 C hRm) _ _ _ _ _ hf hR hS (lv_sub hl [] rfl)
def fM_isLetter (N : Nat) (x0 : Int32) (S : Ms) : Option (Int32 × Ms) := if x0 < 97 then ((bM_isLetter_16 N) S) else (if 122 < x0 then ((bM_isLetter_16 N) S) else ((bM_isLetter_17 N) 1 S))
set_option maxRecDepth 100000 in
set_option maxHeartbeats 4000000 in
theorem wfM_isLetter {p : Program} {l : Launch} {e : Env} {R : Room} {s : State} {m : MethodId} {args : Array Value} {below : List Frame} {meth : Method} {c : Code} {d : Dd} {g : Gm} {o : Int32 × Ms} {N : Nat} (C : CM p s m args meth c d g cX9_isLetter 1 (some .boolean)) (hRm : 0 ≤ R.frames ∧ 0 ≤ R.locals) (x0 : Int32) (S : Ms) (H : Heap) (locs : List Loc) (ls : Array Slot) (hf : fM_isLetter N x0 S = some o) (hR : RM d g S H) (hS : va_S (AM g) s.heap H locs) (hl : lv_has ls 1 [(0, .int x0)]) : W p l e R s m args below meth c H locs 0 0 (MQ below (QI d g o) args s 0 0 (AM g)) (F0 m 0 ls []) := by
  obtain ⟨hx, hb, hml, hown, hts, hK, hg, hr, hlk⟩ := id C
  unfold fM_isLetter at hf
  refine lv_iload_n hx hb dX9_isLetter_0 rfl (lv_at hl 0 rfl) ?_
  refine lv_bipush (v := 97) hx hb dX9_isLetter_1 (by decide) ?_
  refine lv_icmp_lt (tgt := 16) hx hb dX9_isLetter_3 (by decide) (fun hc => ?_) (fun hc => ?_)
  · rw [if_pos hc] at hf
    exact (wbM_isLetter_16 C hRm) _ _ _ _ hf hR hS (lv_sub hl [] rfl)
  · rw [if_neg hc] at hf
    refine lv_iload_n hx hb dX9_isLetter_6 rfl (lv_at hl 0 rfl) ?_
    refine lv_bipush (v := 122) hx hb dX9_isLetter_7 (by decide) ?_
    refine lv_icmp_gt (tgt := 16) hx hb dX9_isLetter_9 (by decide) (fun hc => ?_) (fun hc => ?_)
    · rw [if_pos hc] at hf
      exact (wbM_isLetter_16 C hRm) _ _ _ _ hf hR hS (lv_sub hl [] rfl)
    · rw [if_neg hc] at hf
      refine lv_iconst (v := 1) hx hb dX9_isLetter_12 (by decide) ?_
      refine lv_goto (tgt := 17) hx hb dX9_isLetter_13 (by decide) ?_
      exact (wbM_isLetter_17 C hRm) _ _ _ _ _ hf hR hS (lv_sub hl [] rfl)
theorem MM_isLetter (l : Launch) (d : Dd) (g : Gm) (N : Nat) (x0 : Int32) (S : Ms) (o : Int32 × Ms) (hf : fM_isLetter N x0 S = some o) : MtI l d g yX9_isLetter cX9_isLetter 1 (some .boolean) 0 0 [.int x0] S o :=
  mr_metI (by decide) rfl (Nat.le_of_ble_eq_true rfl) (fun p e s m args below meth c ls C hR hl => wfM_isLetter C ⟨Nat.le_refl _, Nat.le_refl _⟩ x0 S s.heap [] ls hf hR va_S.rf hl)
def bM_isDigit_17 (N : Nat) (s0 : Int32) (S : Ms) : Option (Int32 × Ms) := gd (is01 s0) (some (s0, S))
set_option maxRecDepth 100000 in
set_option maxHeartbeats 4000000 in
theorem wbM_isDigit_17 {p : Program} {l : Launch} {e : Env} {R : Room} {s : State} {m : MethodId} {args : Array Value} {below : List Frame} {meth : Method} {c : Code} {d : Dd} {g : Gm} {o : Int32 × Ms} {N : Nat} (C : CM p s m args meth c d g cX9_isDigit 1 (some .boolean)) (hRm : 0 ≤ R.frames ∧ 0 ≤ R.locals) (s0 : Int32) (S : Ms) (H : Heap) (locs : List Loc) (ls : Array Slot) (hf : bM_isDigit_17 N s0 S = some o) (hR : RM d g S H) (hS : va_S (AM g) s.heap H locs) (hl : lv_has ls 1 []) : W p l e R s m args below meth c H locs 0 0 (MQ below (QI d g o) args s 0 0 (AM g)) (F0 m 17 ls [.int s0]) := by
  obtain ⟨hx, hb, hml, hown, hts, hK, hg, hr, hlk⟩ := id C
  unfold bM_isDigit_17 at hf
  obtain ⟨hz, hf⟩ := gd_some hf
  exact mr_zret C hR hS hz hf dX9_isDigit_17
def bM_isDigit_16 (N : Nat)  (S : Ms) : Option (Int32 × Ms) := (bM_isDigit_17 N) 0 S
set_option maxRecDepth 100000 in
set_option maxHeartbeats 4000000 in
theorem wbM_isDigit_16 {p : Program} {l : Launch} {e : Env} {R : Room} {s : State} {m : MethodId} {args : Array Value} {below : List Frame} {meth : Method} {c : Code} {d : Dd} {g : Gm} {o : Int32 × Ms} {N : Nat} (C : CM p s m args meth c d g cX9_isDigit 1 (some .boolean)) (hRm : 0 ≤ R.frames ∧ 0 ≤ R.locals)  (S : Ms) (H : Heap) (locs : List Loc) (ls : Array Slot) (hf : bM_isDigit_16 N  S = some o) (hR : RM d g S H) (hS : va_S (AM g) s.heap H locs) (hl : lv_has ls 1 []) : W p l e R s m args below meth c H locs 0 0 (MQ below (QI d g o) args s 0 0 (AM g)) (F0 m 16 ls []) := by
  obtain ⟨hx, hb, hml, hown, hts, hK, hg, hr, hlk⟩ := id C
  unfold bM_isDigit_16 at hf
  refine lv_iconst (v := 0) hx hb dX9_isDigit_16 (by decide) ?_
  exact (wbM_isDigit_17 C hRm) _ _ _ _ _ hf hR hS (lv_sub hl [] rfl)
def fM_isDigit (N : Nat) (x0 : Int32) (S : Ms) : Option (Int32 × Ms) := if x0 < 48 then ((bM_isDigit_16 N) S) else (if 57 < x0 then ((bM_isDigit_16 N) S) else ((bM_isDigit_17 N) 1 S))
set_option maxRecDepth 100000 in
set_option maxHeartbeats 4000000 in
theorem wfM_isDigit {p : Program} {l : Launch} {e : Env} {R : Room} {s : State} {m : MethodId} {args : Array Value} {below : List Frame} {meth : Method} {c : Code} {d : Dd} {g : Gm} {o : Int32 × Ms} {N : Nat} (C : CM p s m args meth c d g cX9_isDigit 1 (some .boolean)) (hRm : 0 ≤ R.frames ∧ 0 ≤ R.locals) (x0 : Int32) (S : Ms) (H : Heap) (locs : List Loc) (ls : Array Slot) (hf : fM_isDigit N x0 S = some o) (hR : RM d g S H) (hS : va_S (AM g) s.heap H locs) (hl : lv_has ls 1 [(0, .int x0)]) : W p l e R s m args below meth c H locs 0 0 (MQ below (QI d g o) args s 0 0 (AM g)) (F0 m 0 ls []) := by
  obtain ⟨hx, hb, hml, hown, hts, hK, hg, hr, hlk⟩ := id C
  unfold fM_isDigit at hf
  refine lv_iload_n hx hb dX9_isDigit_0 rfl (lv_at hl 0 rfl) ?_
  refine lv_bipush (v := 48) hx hb dX9_isDigit_1 (by decide) ?_
  refine lv_icmp_lt (tgt := 16) hx hb dX9_isDigit_3 (by decide) (fun hc => ?_) (fun hc => ?_)
  · rw [if_pos hc] at hf
    exact (wbM_isDigit_16 C hRm) _ _ _ _ hf hR hS (lv_sub hl [] rfl)
  · rw [if_neg hc] at hf
    refine lv_iload_n hx hb dX9_isDigit_6 rfl (lv_at hl 0 rfl) ?_
    refine lv_bipush (v := 57) hx hb dX9_isDigit_7 (by decide) ?_
    refine lv_icmp_gt (tgt := 16) hx hb dX9_isDigit_9 (by decide) (fun hc => ?_) (fun hc => ?_)
    · rw [if_pos hc] at hf
      exact (wbM_isDigit_16 C hRm) _ _ _ _ hf hR hS (lv_sub hl [] rfl)
    · rw [if_neg hc] at hf
      refine lv_iconst (v := 1) hx hb dX9_isDigit_12 (by decide) ?_
      refine lv_goto (tgt := 17) hx hb dX9_isDigit_13 (by decide) ?_
      exact (wbM_isDigit_17 C hRm) _ _ _ _ _ hf hR hS (lv_sub hl [] rfl)
theorem MM_isDigit (l : Launch) (d : Dd) (g : Gm) (N : Nat) (x0 : Int32) (S : Ms) (o : Int32 × Ms) (hf : fM_isDigit N x0 S = some o) : MtI l d g yX9_isDigit cX9_isDigit 1 (some .boolean) 0 0 [.int x0] S o :=
  mr_metI (by decide) rfl (Nat.le_of_ble_eq_true rfl) (fun p e s m args below meth c ls C hR hl => wfM_isDigit C ⟨Nat.le_refl _, Nat.le_refl _⟩ x0 S s.heap [] ls hf hR va_S.rf hl)
def bM_rank_18 (N : Nat) (s0 : Int32) (S : Ms) : Option (Int32 × Ms) := some (s0, S)
set_option maxRecDepth 100000 in
set_option maxHeartbeats 4000000 in
theorem wbM_rank_18 {p : Program} {l : Launch} {e : Env} {R : Room} {s : State} {m : MethodId} {args : Array Value} {below : List Frame} {meth : Method} {c : Code} {d : Dd} {g : Gm} {o : Int32 × Ms} {N : Nat} (C : CM p s m args meth c d g cX9_rank 1 (some .int)) (hRm : 1 ≤ R.frames ∧ 20 ≤ R.locals) (s0 : Int32) (S : Ms) (H : Heap) (locs : List Loc) (ls : Array Slot) (hf : bM_rank_18 N s0 S = some o) (hR : RM d g S H) (hS : va_S (AM g) s.heap H locs) (hl : lv_has ls 1 []) : W p l e R s m args below meth c H locs 0 0 (MQ below (QI d g o) args s 0 0 (AM g)) (F0 m 18 ls [.int s0]) := by
  obtain ⟨hx, hb, hml, hown, hts, hK, hg, hr, hlk⟩ := id C
  unfold bM_rank_18 at hf
  exact mr_iret C hR hS hf dX9_rank_18
def fM_rank (N : Nat) (x0 : Int32) (S : Ms) : Option (Int32 × Ms) := (fM_isLetter N x0 S).bind fun o1 => if o1.1 = 0 then ((bM_rank_18 N) (x0 - 21) o1.2) else ((bM_rank_18 N) (x0 - 96) o1.2)
set_option maxRecDepth 100000 in
set_option maxHeartbeats 4000000 in
theorem wfM_rank {p : Program} {l : Launch} {e : Env} {R : Room} {s : State} {m : MethodId} {args : Array Value} {below : List Frame} {meth : Method} {c : Code} {d : Dd} {g : Gm} {o : Int32 × Ms} {N : Nat} (C : CM p s m args meth c d g cX9_rank 1 (some .int)) (hRm : 1 ≤ R.frames ∧ 20 ≤ R.locals) (x0 : Int32) (S : Ms) (H : Heap) (locs : List Loc) (ls : Array Slot) (hf : fM_rank N x0 S = some o) (hR : RM d g S H) (hS : va_S (AM g) s.heap H locs) (hl : lv_has ls 1 [(0, .int x0)]) : W p l e R s m args below meth c H locs 0 0 (MQ below (QI d g o) args s 0 0 (AM g)) (F0 m 0 ls []) := by
  obtain ⟨hx, hb, hml, hown, hts, hK, hg, hr, hlk⟩ := id C
  unfold fM_rank at hf
  refine lv_iload_n hx hb dX9_rank_0 rfl (lv_at hl 0 rfl) ?_
  obtain ⟨o1, ho1, hf⟩ := bnd_some hf
  refine mr_callIs C hR hS (As := [.int x0]) (rest := []) (MM_isLetter l d g N x0 S o1 ho1) ws_261 ⟨by omega, by omega⟩ rfl rfl (Nat.le_of_ble_eq_true rfl) hl.1 dX9_rank_1 ⟨Nat.zero_le _, Nat.zero_le _⟩ (fun H locs hR hS => ?_)
  refine lv_if_eq (tgt := 14) hx hb dX9_rank_4 (by decide) (fun hc => ?_) (fun hc => ?_)
  · rw [if_pos hc] at hf
    refine lv_iload_n hx hb dX9_rank_14 rfl (lv_at hl 0 rfl) ?_
    refine lv_bipush (v := 21) hx hb dX9_rank_15 (by decide) ?_
    refine lv_isub hx hb dX9_rank_17 ?_
    exact (wbM_rank_18 C hRm) _ _ _ _ _ hf hR hS (lv_sub hl [] rfl)
  · rw [if_neg hc] at hf
    refine lv_iload_n hx hb dX9_rank_7 rfl (lv_at hl 0 rfl) ?_
    refine lv_bipush (v := 96) hx hb dX9_rank_8 (by decide) ?_
    refine lv_isub hx hb dX9_rank_10 ?_
    refine lv_goto (tgt := 18) hx hb dX9_rank_11 (by decide) ?_
    exact (wbM_rank_18 C hRm) _ _ _ _ _ hf hR hS (lv_sub hl [] rfl)
theorem MM_rank (l : Launch) (d : Dd) (g : Gm) (N : Nat) (x0 : Int32) (S : Ms) (o : Int32 × Ms) (hf : fM_rank N x0 S = some o) : MtI l d g yX9_rank cX9_rank 1 (some .int) 1 20 [.int x0] S o :=
  mr_metI (by decide) rfl (Nat.le_of_ble_eq_true rfl) (fun p e s m args below meth c ls C hR hl => wfM_rank C ⟨Nat.le_refl _, Nat.le_refl _⟩ x0 S s.heap [] ls hf hR va_S.rf hl)
def bM_find_31 (N : Nat) (r6 : Nat → Int32 → Int32 → Int64 → Int32 → Int32 → Ms → Option (Int32 × Ms)) (k39 : Int32 → Ms → Option (Int32 × Ms)) (x1 : Nat) (x2 : Int32) (x3 : Int32) (x4 : Int64) (x7 : Int32) (s0 : Int32) (S : Ms) : Option (Int32 × Ms) := r6 x1 x2 x3 x4 s0 (x7 + 1) S
set_option maxRecDepth 100000 in
set_option maxHeartbeats 4000000 in
theorem wbM_find_31 {p : Program} {l : Launch} {e : Env} {R : Room} {s : State} {m : MethodId} {args : Array Value} {below : List Frame} {meth : Method} {c : Code} {d : Dd} {g : Gm} {o : Int32 × Ms} {N : Nat} {r6 : Nat → Int32 → Int32 → Int64 → Int32 → Int32 → Ms → Option (Int32 × Ms)} {k39 : Int32 → Ms → Option (Int32 × Ms)} (C : CM p s m args meth c d g cX9_find 8 (some .int)) (hRm : 0 ≤ R.frames ∧ 0 ≤ R.locals) (hr6 : ∀ (x1 : Nat) (x2 : Int32) (x3 : Int32) (x4 : Int64) (x6 : Int32) (x7 : Int32) (S : Ms) (H : Heap) (locs : List Loc) (ls : Array Slot), r6 x1 x2 x3 x4 x6 x7 S = some o → RM d g S H → va_S (AM g) s.heap H locs → lv_has ls 8 [(0, .ref g.1), (1, .ref (g.2 x1)), (2, .int x2), (3, .int x3), (4, .long x4), (6, .int x6), (7, .int x7)] → W p l e R s m args below meth c H locs 0 0 (MQ below (QI d g o) args s 0 0 (AM g)) (F0 m 6 ls [])) (hk39 : ∀ (x6 : Int32) (S : Ms) (H : Heap) (locs : List Loc) (ls : Array Slot), k39 x6 S = some o → RM d g S H → va_S (AM g) s.heap H locs → lv_has ls 8 [(0, .ref g.1), (6, .int x6)] → W p l e R s m args below meth c H locs 0 0 (MQ below (QI d g o) args s 0 0 (AM g)) (F0 m 39 ls [])) (x1 : Nat) (x2 : Int32) (x3 : Int32) (x4 : Int64) (x7 : Int32) (s0 : Int32) (S : Ms) (H : Heap) (locs : List Loc) (ls : Array Slot) (hf : bM_find_31 N r6 k39 x1 x2 x3 x4 x7 s0 S = some o) (hR : RM d g S H) (hS : va_S (AM g) s.heap H locs) (hl : lv_has ls 8 [(0, .ref g.1), (1, .ref (g.2 x1)), (2, .int x2), (3, .int x3), (4, .long x4), (7, .int x7)]) : W p l e R s m args below meth c H locs 0 0 (MQ below (QI d g o) args s 0 0 (AM g)) (F0 m 31 ls [.int s0]) := by
  obtain ⟨hx, hb, hml, hown, hts, hK, hg, hr, hlk⟩ := id C
  unfold bM_find_31 at hf
  refine lv_istore (lv' := [(6, .int s0), (0, .ref g.1), (1, .ref (g.2 x1)), (2, .int x2), (3, .int x3), (4, .long x4), (7, .int x7)]) hx hb dX9_find_31 hl (by decide) rfl (fun ls hl => ?_)
  refine lv_iinc (v := x7 + 1) (lv' := [(7, .int (x7 + 1)), (6, .int s0), (0, .ref g.1), (1, .ref (g.2 x1)), (2, .int x2), (3, .int x3), (4, .long x4)]) hx hb dX9_find_33 hl (k := 6) rfl rfl (by decide) rfl (fun ls hl => ?_)
  refine lv_goto (tgt := 6) hx hb dX9_find_36 (by decide) ?_
  exact hr6 _ _ _ _ _ _ _ _ _ _ hf hR hS (lv_sub hl [2, 3, 4, 5, 6, 1, 0] rfl)
def lM_find_6 (N : Nat) (k39 : Int32 → Ms → Option (Int32 × Ms)) : Nat → Nat → Int32 → Int32 → Int64 → Int32 → Int32 → Ms → Option (Int32 × Ms)
  | 0, _, _, _, _, _, _, _ => none
  | n + 1, x1, x2, x3, x4, x6, x7, S => if x3 ≤ x7 then (k39 x6 S) else (gd (srt x1 == 2) (ck (x2 + x7) (lnM x1) (if (lg_cmp (mL S x1 (x2 + x7 : Int32).toNatClampNeg) x4) = 0 then ((bM_find_31 N (lM_find_6 N k39 n) k39) x1 x2 x3 x4 x7 x7 S) else ((bM_find_31 N (lM_find_6 N k39 n) k39) x1 x2 x3 x4 x7 x6 S))))
set_option maxRecDepth 100000 in
set_option maxHeartbeats 4000000 in
theorem wlM_find_6 {p : Program} {l : Launch} {e : Env} {R : Room} {s : State} {m : MethodId} {args : Array Value} {below : List Frame} {meth : Method} {c : Code} {d : Dd} {g : Gm} {o : Int32 × Ms} {N : Nat} {k39 : Int32 → Ms → Option (Int32 × Ms)} (C : CM p s m args meth c d g cX9_find 8 (some .int)) (hRm : 0 ≤ R.frames ∧ 0 ≤ R.locals) (hk39 : ∀ (x6 : Int32) (S : Ms) (H : Heap) (locs : List Loc) (ls : Array Slot), k39 x6 S = some o → RM d g S H → va_S (AM g) s.heap H locs → lv_has ls 8 [(0, .ref g.1), (6, .int x6)] → W p l e R s m args below meth c H locs 0 0 (MQ below (QI d g o) args s 0 0 (AM g)) (F0 m 39 ls [])) : ∀ (n : Nat) (x1 : Nat) (x2 : Int32) (x3 : Int32) (x4 : Int64) (x6 : Int32) (x7 : Int32) (S : Ms) (H : Heap) (locs : List Loc) (ls : Array Slot), lM_find_6 N k39 n x1 x2 x3 x4 x6 x7 S = some o → RM d g S H → va_S (AM g) s.heap H locs → lv_has ls 8 [(0, .ref g.1), (1, .ref (g.2 x1)), (2, .int x2), (3, .int x3), (4, .long x4), (6, .int x6), (7, .int x7)] → W p l e R s m args below meth c H locs 0 0 (MQ below (QI d g o) args s 0 0 (AM g)) (F0 m 6 ls []) := by
  obtain ⟨hx, hb, hml, hown, hts, hK, hg, hr, hlk⟩ := id C
  intro n
  induction n with
  | zero => intro x1 x2 x3 x4 x6 x7 S H locs ls hf; cases hf
  | succ n ih =>
    intro x1 x2 x3 x4 x6 x7 S H locs ls hf hR hS hl
    rw [lM_find_6] at hf
    refine lv_iload hx hb dX9_find_6 (lv_at hl 6 rfl) ?_
    refine lv_iload_n hx hb dX9_find_8 rfl (lv_at hl 3 rfl) ?_
    refine lv_icmp_ge (tgt := 39) hx hb dX9_find_9 (by decide) (fun hc => ?_) (fun hc => ?_)
    · rw [if_pos hc] at hf
      exact hk39 _ _ _ _ _ hf hR hS (lv_sub hl [0, 5] rfl)
    · rw [if_neg hc] at hf
      refine lv_aload_n hx hb dX9_find_12 rfl (lv_at hl 1 rfl) ?_
      refine lv_iload_n hx hb dX9_find_13 rfl (lv_at hl 2 rfl) ?_
      refine lv_iload hx hb dX9_find_14 (lv_at hl 6 rfl) ?_
      refine lv_iadd hx hb dX9_find_16 ?_
      obtain ⟨hq, hf⟩ := gd_some hf
      obtain ⟨hi, hf⟩ := ck_some hf
      refine mr_lald C hR (k := x1) (by simpa using hq) hi dX9_find_17 ?_
      refine lv_lload hx hb dX9_find_18 (lv_at hl 4 rfl) ?_
      refine W.lcmp hx hb dX9_find_20 ?_
      refine lv_if_ne (tgt := 29) hx hb dX9_find_21 (by decide) (fun hc => ?_) (fun hc => ?_)
      · rw [if_neg hc] at hf
        refine lv_iload hx hb dX9_find_29 (lv_at hl 5 rfl) ?_
        exact (wbM_find_31 C hRm ih hk39) _ _ _ _ _ _ _ _ _ _ hf hR hS (lv_sub hl [0, 1, 2, 3, 4, 6] rfl)
      · rw [if_pos hc] at hf
        refine lv_iload hx hb dX9_find_24 (lv_at hl 6 rfl) ?_
        refine lv_goto (tgt := 31) hx hb dX9_find_26 (by decide) ?_
        exact (wbM_find_31 C hRm ih hk39) _ _ _ _ _ _ _ _ _ _ hf hR hS (lv_sub hl [0, 1, 2, 3, 4, 6] rfl)
def bM_find_39 (N : Nat) (x6 : Int32) (S : Ms) : Option (Int32 × Ms) := some (x6, S)
set_option maxRecDepth 100000 in
set_option maxHeartbeats 4000000 in
theorem wbM_find_39 {p : Program} {l : Launch} {e : Env} {R : Room} {s : State} {m : MethodId} {args : Array Value} {below : List Frame} {meth : Method} {c : Code} {d : Dd} {g : Gm} {o : Int32 × Ms} {N : Nat} (C : CM p s m args meth c d g cX9_find 8 (some .int)) (hRm : 0 ≤ R.frames ∧ 0 ≤ R.locals) (x6 : Int32) (S : Ms) (H : Heap) (locs : List Loc) (ls : Array Slot) (hf : bM_find_39 N x6 S = some o) (hR : RM d g S H) (hS : va_S (AM g) s.heap H locs) (hl : lv_has ls 8 [(0, .ref g.1), (6, .int x6)]) : W p l e R s m args below meth c H locs 0 0 (MQ below (QI d g o) args s 0 0 (AM g)) (F0 m 39 ls []) := by
  obtain ⟨hx, hb, hml, hown, hts, hK, hg, hr, hlk⟩ := id C
  unfold bM_find_39 at hf
  refine lv_iload hx hb dX9_find_39 (lv_at hl 1 rfl) ?_
  exact mr_iret C hR hS hf dX9_find_41
def fM_find (N : Nat) (x1 : Nat) (x2 : Int32) (x3 : Int32) (x4 : Int64) (S : Ms) : Option (Int32 × Ms) := (lM_find_6 N (bM_find_39 N) N) x1 x2 x3 x4 (-1) 0 S
set_option maxRecDepth 100000 in
set_option maxHeartbeats 4000000 in
theorem wfM_find {p : Program} {l : Launch} {e : Env} {R : Room} {s : State} {m : MethodId} {args : Array Value} {below : List Frame} {meth : Method} {c : Code} {d : Dd} {g : Gm} {o : Int32 × Ms} {N : Nat} (C : CM p s m args meth c d g cX9_find 8 (some .int)) (hRm : 0 ≤ R.frames ∧ 0 ≤ R.locals) (x1 : Nat) (x2 : Int32) (x3 : Int32) (x4 : Int64) (S : Ms) (H : Heap) (locs : List Loc) (ls : Array Slot) (hf : fM_find N x1 x2 x3 x4 S = some o) (hR : RM d g S H) (hS : va_S (AM g) s.heap H locs) (hl : lv_has ls 8 [(0, .ref g.1), (1, .ref (g.2 x1)), (2, .int x2), (3, .int x3), (4, .long x4)]) : W p l e R s m args below meth c H locs 0 0 (MQ below (QI d g o) args s 0 0 (AM g)) (F0 m 0 ls []) := by
  obtain ⟨hx, hb, hml, hown, hts, hK, hg, hr, hlk⟩ := id C
  unfold fM_find at hf
  refine lv_iconst (v := (-1)) hx hb dX9_find_0 (by decide) ?_
  refine lv_istore (lv' := [(6, .int (-1)), (0, .ref g.1), (1, .ref (g.2 x1)), (2, .int x2), (3, .int x3), (4, .long x4)]) hx hb dX9_find_1 hl (by decide) rfl (fun ls hl => ?_)
  refine lv_iconst (v := 0) hx hb dX9_find_3 (by decide) ?_
  refine lv_istore (lv' := [(7, .int 0), (6, .int (-1)), (0, .ref g.1), (1, .ref (g.2 x1)), (2, .int x2), (3, .int x3), (4, .long x4)]) hx hb dX9_find_4 hl (by decide) rfl (fun ls hl => ?_)
  exact (wlM_find_6 C hRm (wbM_find_39 C hRm) N) _ _ _ _ _ _ _ _ _ _ hf hR hS (lv_sub hl [2, 3, 4, 5, 6, 1, 0] rfl)
theorem MM_find (l : Launch) (d : Dd) (g : Gm) (N : Nat) (x1 : Nat) (x2 : Int32) (x3 : Int32) (x4 : Int64) (S : Ms) (o : Int32 × Ms) (hf : fM_find N x1 x2 x3 x4 S = some o) : MtI l d g yX9_find cX9_find 8 (some .int) 0 0 [.ref g.1, .ref (g.2 x1), .int x2, .int x3, .long x4] S o :=
  mr_metI (by decide) rfl (Nat.le_of_ble_eq_true rfl) (fun p e s m args below meth c ls C hR hl => wfM_find C ⟨Nat.le_refl _, Nat.le_refl _⟩ x1 x2 x3 x4 S s.heap [] ls hf hR va_S.rf hl)
def fM_findUnit (N : Nat) (x1 : Int64) (S : Ms) : Option (Int32 × Ms) := ck (mF S 12) 2 ((fM_find N 19 (24 * (mF S 12)) (mA S 18 (mF S 12 : Int32).toNatClampNeg) x1 S).bind fun o22 => some (o22.1, o22.2))
set_option maxRecDepth 100000 in
set_option maxHeartbeats 4000000 in
theorem wfM_findUnit {p : Program} {l : Launch} {e : Env} {R : Room} {s : State} {m : MethodId} {args : Array Value} {below : List Frame} {meth : Method} {c : Code} {d : Dd} {g : Gm} {o : Int32 × Ms} {N : Nat} (C : CM p s m args meth c d g cX9_findUnit 3 (some .int)) (hRm : 1 ≤ R.frames ∧ 27 ≤ R.locals) (x1 : Int64) (S : Ms) (H : Heap) (locs : List Loc) (ls : Array Slot) (hf : fM_findUnit N x1 S = some o) (hR : RM d g S H) (hS : va_S (AM g) s.heap H locs) (hl : lv_has ls 3 [(0, .ref g.1), (1, .long x1)]) : W p l e R s m args below meth c H locs 0 0 (MQ below (QI d g o) args s 0 0 (AM g)) (F0 m 0 ls []) := by
  obtain ⟨hx, hb, hml, hown, hts, hK, hg, hr, hlk⟩ := id C
  unfold fM_findUnit at hf
  refine lv_aload_n hx hb dX9_findUnit_0 rfl (lv_at hl 0 rfl) ?_
  refine lv_aload_n hx hb dX9_findUnit_1 rfl (lv_at hl 0 rfl) ?_
  refine mr_getR C hR fl_61 (by decide) dX9_findUnit_2 ?_
  refine lv_bipush (v := 24) hx hb dX9_findUnit_5 (by decide) ?_
  refine lv_aload_n hx hb dX9_findUnit_7 rfl (lv_at hl 0 rfl) ?_
  refine mr_getI C hR fl_297 rfl dX9_findUnit_8 ?_
  refine lv_imul hx hb dX9_findUnit_11 ?_
  refine lv_aload_n hx hb dX9_findUnit_12 rfl (lv_at hl 0 rfl) ?_
  refine mr_getR C hR fl_58 (by decide) dX9_findUnit_13 ?_
  refine lv_aload_n hx hb dX9_findUnit_16 rfl (lv_at hl 0 rfl) ?_
  refine mr_getI C hR fl_297 rfl dX9_findUnit_17 ?_
  obtain ⟨hi, hf⟩ := ck_some hf
  refine mr_iald C hR (k := 18) rfl hi dX9_findUnit_20 ?_
  refine lv_lload_n hx hb dX9_findUnit_21 rfl (lv_at hl 1 rfl) ?_
  obtain ⟨o22, ho22, hf⟩ := bnd_some hf
  refine mr_callIv C hR hS (As := [.ref (g.2 19), .int (24 * (mF S 12)), .int (mA S 18 (mF S 12 : Int32).toNatClampNeg), .long x1]) (rest := []) (MM_find l d g N 19 (24 * (mF S 12)) (mA S 18 (mF S 12 : Int32).toNatClampNeg) x1 S o22 ho22) wv_300 ⟨by omega, by omega⟩ rfl rfl (Nat.le_of_ble_eq_true rfl) hl.1 dX9_findUnit_22 ⟨Nat.zero_le _, Nat.zero_le _⟩ (fun H locs hR hS => ?_)
  exact mr_iret C hR hS hf dX9_findUnit_25
theorem MM_findUnit (l : Launch) (d : Dd) (g : Gm) (N : Nat) (x1 : Int64) (S : Ms) (o : Int32 × Ms) (hf : fM_findUnit N x1 S = some o) : MtI l d g yX9_findUnit cX9_findUnit 3 (some .int) 1 27 [.ref g.1, .long x1] S o :=
  mr_metI (by decide) rfl (Nat.le_of_ble_eq_true rfl) (fun p e s m args below meth c ls C hR hl => wfM_findUnit C ⟨Nat.le_refl _, Nat.le_refl _⟩ x1 S s.heap [] ls hf hR va_S.rf hl)
