def fM_thrown (N : Nat)  (S : Ms) : Option (Int32 × Ms) := some (mF S 0, S)
set_option maxRecDepth 100000 in
set_option maxHeartbeats 4000000 in
theorem wfM_thrown {p : Program} {l : Launch} {e : Env} {R : Room} {s : State} {m : MethodId} {args : Array Value} {below : List Frame} {meth : Method} {c : Code} {d : Dd} {g : Gm} {o : Int32 × Ms} {N : Nat} (C : CM p s m args meth c d g cX9_thrown 1 (some .int)) (hRm : 0 ≤ R.frames ∧ 0 ≤ R.locals)  (S : Ms) (H : Heap) (locs : List Loc) (ls : Array Slot) (hf : fM_thrown N  S = some o) (hR : RM d g S H) (hS : va_S (AM g) s.heap H locs) (hl : lv_has ls 1 [(0, .ref g.1)]) : W p l e R s m args below meth c H locs 0 0 (MQ below (QI d g o) args s 0 0 (AM g)) (F0 m 0 ls []) := by
  obtain ⟨hx, hb, hml, hown, hts, hK, hg, hr, hlk⟩ := id C
  unfold fM_thrown at hf
  refine lv_aload_n hx hb dX9_thrown_0 rfl (lv_at hl 0 rfl) ?_
  refine mr_getI C hR fl_1 rfl dX9_thrown_1 ?_
  exact mr_iret C hR hS hf dX9_thrown_4
theorem MM_thrown (l : Launch) (d : Dd) (g : Gm) (N : Nat)  (S : Ms) (o : Int32 × Ms) (hf : fM_thrown N  S = some o) : MtI l d g yX9_thrown cX9_thrown 1 (some .int) 0 0 [.ref g.1] S o :=
  mr_metI (by decide) rfl (Nat.le_of_ble_eq_true rfl) (fun p e s m args below meth c ls C hR hl => wfM_thrown C ⟨Nat.le_refl _, Nat.le_refl _⟩  S s.heap [] ls hf hR va_S.rf hl)
def bM_lay_69 (N : Nat) (r3 : Int64 → Int32 → Ms → Option (Ms)) (k75 : Ms → Option (Ms)) (x1 : Int64) (x3 : Int32) (S : Ms) : Option (Ms) := r3 x1 (x3 + (-8)) S
set_option maxRecDepth 100000 in
set_option maxHeartbeats 4000000 in
theorem wbM_lay_69 {p : Program} {l : Launch} {e : Env} {R : Room} {s : State} {m : MethodId} {args : Array Value} {below : List Frame} {meth : Method} {c : Code} {d : Dd} {g : Gm} {o : Ms} {N : Nat} {r3 : Int64 → Int32 → Ms → Option (Ms)} {k75 : Ms → Option (Ms)} (C : CM p s m args meth c d g cX9_lay 5 none) (hRm : 0 ≤ R.frames ∧ 0 ≤ R.locals) (hr3 : ∀ (x1 : Int64) (x3 : Int32) (S : Ms) (H : Heap) (locs : List Loc) (ls : Array Slot), r3 x1 x3 S = some o → RM d g S H → va_S (AM g) s.heap H locs → lv_has ls 5 [(0, .ref g.1), (1, .long x1), (3, .int x3)] → W p l e R s m args below meth c H locs 0 0 (MQ below (QV d g o) args s 0 0 (AM g)) (F0 m 3 ls [])) (hk75 : ∀  (S : Ms) (H : Heap) (locs : List Loc) (ls : Array Slot), k75 S = some o → RM d g S H → va_S (AM g) s.heap H locs → lv_has ls 5 [(0, .ref g.1)] → W p l e R s m args below meth c H locs 0 0 (MQ below (QV d g o) args s 0 0 (AM g)) (F0 m 75 ls [])) (x1 : Int64) (x3 : Int32) (S : Ms) (H : Heap) (locs : List Loc) (ls : Array Slot) (hf : bM_lay_69 N r3 k75 x1 x3 S = some o) (hR : RM d g S H) (hS : va_S (AM g) s.heap H locs) (hl : lv_has ls 5 [(0, .ref g.1), (1, .long x1), (3, .int x3)]) : W p l e R s m args below meth c H locs 0 0 (MQ below (QV d g o) args s 0 0 (AM g)) (F0 m 69 ls []) := by
  obtain ⟨hx, hb, hml, hown, hts, hK, hg, hr, hlk⟩ := id C
  unfold bM_lay_69 at hf
  refine lv_iinc (v := x3 + (-8)) (lv' := [(3, .int (x3 + (-8))), (0, .ref g.1), (1, .long x1)]) hx hb dX9_lay_69 hl (k := 2) rfl rfl (by decide) rfl (fun ls hl => ?_)
  refine lv_goto (tgt := 3) hx hb dX9_lay_72 (by decide) ?_
  exact hr3 _ _ _ _ _ _ hf hR hS (lv_sub hl [1, 2, 0] rfl)
def bM_lay_38 (N : Nat) (r3 : Int64 → Int32 → Ms → Option (Ms)) (k75 : Ms → Option (Ms)) (x1 : Int64) (x3 : Int32) (x4 : Int32) (S : Ms) : Option (Ms) := if 4000 ≤ (mF S 2) then ((bM_lay_69 N r3 k75) x1 x3 S) else (ck (mF S 2) 4000 ((bM_lay_69 N r3 k75) x1 x3 (pF (pA S 1 (mF S 2 : Int32).toNatClampNeg x4) 2 ((mF (pA S 1 (mF S 2 : Int32).toNatClampNeg x4) 2) + 1))))
set_option maxRecDepth 100000 in
set_option maxHeartbeats 4000000 in
theorem wbM_lay_38 {p : Program} {l : Launch} {e : Env} {R : Room} {s : State} {m : MethodId} {args : Array Value} {below : List Frame} {meth : Method} {c : Code} {d : Dd} {g : Gm} {o : Ms} {N : Nat} {r3 : Int64 → Int32 → Ms → Option (Ms)} {k75 : Ms → Option (Ms)} (C : CM p s m args meth c d g cX9_lay 5 none) (hRm : 0 ≤ R.frames ∧ 0 ≤ R.locals) (hr3 : ∀ (x1 : Int64) (x3 : Int32) (S : Ms) (H : Heap) (locs : List Loc) (ls : Array Slot), r3 x1 x3 S = some o → RM d g S H → va_S (AM g) s.heap H locs → lv_has ls 5 [(0, .ref g.1), (1, .long x1), (3, .int x3)] → W p l e R s m args below meth c H locs 0 0 (MQ below (QV d g o) args s 0 0 (AM g)) (F0 m 3 ls [])) (hk75 : ∀  (S : Ms) (H : Heap) (locs : List Loc) (ls : Array Slot), k75 S = some o → RM d g S H → va_S (AM g) s.heap H locs → lv_has ls 5 [(0, .ref g.1)] → W p l e R s m args below meth c H locs 0 0 (MQ below (QV d g o) args s 0 0 (AM g)) (F0 m 75 ls [])) (x1 : Int64) (x3 : Int32) (x4 : Int32) (S : Ms) (H : Heap) (locs : List Loc) (ls : Array Slot) (hf : bM_lay_38 N r3 k75 x1 x3 x4 S = some o) (hR : RM d g S H) (hS : va_S (AM g) s.heap H locs) (hl : lv_has ls 5 [(0, .ref g.1), (1, .long x1), (3, .int x3), (4, .int x4)]) : W p l e R s m args below meth c H locs 0 0 (MQ below (QV d g o) args s 0 0 (AM g)) (F0 m 38 ls []) := by
  obtain ⟨hx, hb, hml, hown, hts, hK, hg, hr, hlk⟩ := id C
  unfold bM_lay_38 at hf
  refine lv_aload_n hx hb dX9_lay_38 rfl (lv_at hl 0 rfl) ?_
  refine mr_getI C hR fl_11 rfl dX9_lay_39 ?_
  refine lv_sipush (v := 4000) hx hb dX9_lay_42 (by decide) ?_
  refine lv_icmp_ge (tgt := 69) hx hb dX9_lay_45 (by decide) (fun hc => ?_) (fun hc => ?_)
  · rw [if_pos hc] at hf
    exact (wbM_lay_69 C hRm hr3 hk75) _ _ _ _ _ _ hf hR hS (lv_sub hl [0, 1, 2] rfl)
  · rw [if_neg hc] at hf
    refine lv_aload_n hx hb dX9_lay_48 rfl (lv_at hl 0 rfl) ?_
    refine mr_getR C hR fl_14 (by decide) dX9_lay_49 ?_
    refine lv_aload_n hx hb dX9_lay_52 rfl (lv_at hl 0 rfl) ?_
    refine mr_getI C hR fl_11 rfl dX9_lay_53 ?_
    refine lv_iload hx hb dX9_lay_56 (lv_at hl 3 rfl) ?_
    obtain ⟨hi, hf⟩ := ck_some hf
    refine mr_iast C hR hS (k := 1) rfl hi dX9_lay_58 (fun H locs hR hS => ?_)
    refine lv_aload_n hx hb dX9_lay_59 rfl (lv_at hl 0 rfl) ?_
    refine lv_dup hx hb dX9_lay_60 rfl ?_
    refine mr_getI C hR fl_11 rfl dX9_lay_61 ?_
    refine lv_iconst (v := 1) hx hb dX9_lay_64 (by decide) ?_
    refine lv_iadd hx hb dX9_lay_65 ?_
    refine mr_putI C hR hS fl_11 ⟨rfl, rfl, rfl⟩ dX9_lay_66 (fun H locs hR hS => ?_)
    exact (wbM_lay_69 C hRm hr3 hk75) _ _ _ _ _ _ hf hR hS (lv_sub hl [0, 1, 2] rfl)
def lM_lay_3 (N : Nat) (k75 : Ms → Option (Ms)) : Nat → Int64 → Int32 → Ms → Option (Ms)
  | 0, _, _, _ => none
  | n + 1, x1, x3, S => if x3 < 0 then (k75 S) else (if (((x1 >>> ((x3 : Int32).toInt64 &&& 63) : Int64).toInt32) &&& 255) = 10 then ((bM_lay_38 N (lM_lay_3 N k75 n) k75) x1 x3 (((x1 >>> ((x3 : Int32).toInt64 &&& 63) : Int64).toInt32) &&& 255) S) else (if (((x1 >>> ((x3 : Int32).toInt64 &&& 63) : Int64).toInt32) &&& 255) < 32 then ((bM_lay_69 N (lM_lay_3 N k75 n) k75) x1 x3 S) else (if 126 < (((x1 >>> ((x3 : Int32).toInt64 &&& 63) : Int64).toInt32) &&& 255) then ((bM_lay_69 N (lM_lay_3 N k75 n) k75) x1 x3 S) else ((bM_lay_38 N (lM_lay_3 N k75 n) k75) x1 x3 (((x1 >>> ((x3 : Int32).toInt64 &&& 63) : Int64).toInt32) &&& 255) S))))
set_option maxRecDepth 100000 in
set_option maxHeartbeats 4000000 in
theorem wlM_lay_3 {p : Program} {l : Launch} {e : Env} {R : Room} {s : State} {m : MethodId} {args : Array Value} {below : List Frame} {meth : Method} {c : Code} {d : Dd} {g : Gm} {o : Ms} {N : Nat} {k75 : Ms → Option (Ms)} (C : CM p s m args meth c d g cX9_lay 5 none) (hRm : 0 ≤ R.frames ∧ 0 ≤ R.locals) (hk75 : ∀  (S : Ms) (H : Heap) (locs : List Loc) (ls : Array Slot), k75 S = some o → RM d g S H → va_S (AM g) s.heap H locs → lv_has ls 5 [(0, .ref g.1)] → W p l e R s m args below meth c H locs 0 0 (MQ below (QV d g o) args s 0 0 (AM g)) (F0 m 75 ls [])) : ∀ (n : Nat) (x1 : Int64) (x3 : Int32) (S : Ms) (H : Heap) (locs : List Loc) (ls : Array Slot), lM_lay_3 N k75 n x1 x3 S = some o → RM d g S H → va_S (AM g) s.heap H locs → lv_has ls 5 [(0, .ref g.1), (1, .long x1), (3, .int x3)] → W p l e R s m args below meth c H locs 0 0 (MQ below (QV d g o) args s 0 0 (AM g)) (F0 m 3 ls []) := by
  obtain ⟨hx, hb, hml, hown, hts, hK, hg, hr, hlk⟩ := id C
  intro n
  induction n with
  | zero => intro x1 x3 S H locs ls hf; cases hf
  | succ n ih =>
    intro x1 x3 S H locs ls hf hR hS hl
    rw [lM_lay_3] at hf
    refine lv_iload_n hx hb dX9_lay_3 rfl (lv_at hl 2 rfl) ?_
    refine lv_if_lt (tgt := 75) hx hb dX9_lay_4 (by decide) (fun hc => ?_) (fun hc => ?_)
    · rw [if_pos hc] at hf
      exact hk75 _ _ _ _ hf hR hS (lv_sub hl [0] rfl)
    · rw [if_neg hc] at hf
      refine lv_lload_n hx hb dX9_lay_7 rfl (lv_at hl 1 rfl) ?_
      refine lv_iload_n hx hb dX9_lay_8 rfl (lv_at hl 2 rfl) ?_
      refine lv_lshr (v := x1 >>> ((x3 : Int32).toInt64 &&& 63)) hx hb dX9_lay_9 rfl ?_
      refine lv_l2i (v := (x1 >>> ((x3 : Int32).toInt64 &&& 63) : Int64).toInt32) hx hb dX9_lay_10 rfl ?_
      refine lv_sipush (v := 255) hx hb dX9_lay_11 (by decide) ?_
      refine lv_iand hx hb dX9_lay_14 ?_
      refine lv_istore (lv' := [(4, .int (((x1 >>> ((x3 : Int32).toInt64 &&& 63) : Int64).toInt32) &&& 255)), (0, .ref g.1), (1, .long x1), (3, .int x3)]) hx hb dX9_lay_15 hl (by decide) rfl (fun ls hl => ?_)
      refine lv_iload hx hb dX9_lay_17 (lv_at hl 0 rfl) ?_
      refine lv_bipush (v := 10) hx hb dX9_lay_19 (by decide) ?_
      refine lv_icmp_eq (tgt := 38) hx hb dX9_lay_21 (by decide) (fun hc => ?_) (fun hc => ?_)
      · rw [if_pos hc] at hf
        exact (wbM_lay_38 C hRm ih hk75) _ _ _ _ _ _ _ hf hR hS (lv_sub hl [1, 2, 3, 0] rfl)
      · rw [if_neg hc] at hf
        refine lv_iload hx hb dX9_lay_24 (lv_at hl 0 rfl) ?_
        refine lv_bipush (v := 32) hx hb dX9_lay_26 (by decide) ?_
        refine lv_icmp_lt (tgt := 69) hx hb dX9_lay_28 (by decide) (fun hc => ?_) (fun hc => ?_)
        · rw [if_pos hc] at hf
          exact (wbM_lay_69 C hRm ih hk75) _ _ _ _ _ _ hf hR hS (lv_sub hl [1, 2, 3] rfl)
        · rw [if_neg hc] at hf
          refine lv_iload hx hb dX9_lay_31 (lv_at hl 0 rfl) ?_
          refine lv_bipush (v := 126) hx hb dX9_lay_33 (by decide) ?_
          refine lv_icmp_gt (tgt := 69) hx hb dX9_lay_35 (by decide) (fun hc => ?_) (fun hc => ?_)
          · rw [if_pos hc] at hf
            exact (wbM_lay_69 C hRm ih hk75) _ _ _ _ _ _ hf hR hS (lv_sub hl [1, 2, 3] rfl)
          · rw [if_neg hc] at hf
            exact (wbM_lay_38 C hRm ih hk75) _ _ _ _ _ _ _ hf hR hS (lv_sub hl [1, 2, 3, 0] rfl)
def bM_lay_75 (N : Nat)  (S : Ms) : Option (Ms) := some S
set_option maxRecDepth 100000 in
set_option maxHeartbeats 4000000 in
theorem wbM_lay_75 {p : Program} {l : Launch} {e : Env} {R : Room} {s : State} {m : MethodId} {args : Array Value} {below : List Frame} {meth : Method} {c : Code} {d : Dd} {g : Gm} {o : Ms} {N : Nat} (C : CM p s m args meth c d g cX9_lay 5 none) (hRm : 0 ≤ R.frames ∧ 0 ≤ R.locals)  (S : Ms) (H : Heap) (locs : List Loc) (ls : Array Slot) (hf : bM_lay_75 N  S = some o) (hR : RM d g S H) (hS : va_S (AM g) s.heap H locs) (hl : lv_has ls 5 [(0, .ref g.1)]) : W p l e R s m args below meth c H locs 0 0 (MQ below (QV d g o) args s 0 0 (AM g)) (F0 m 75 ls []) := by
  obtain ⟨hx, hb, hml, hown, hts, hK, hg, hr, hlk⟩ := id C
  unfold bM_lay_75 at hf
  exact mr_vret C hR hS hf dX9_lay_75
def fM_lay (N : Nat) (x1 : Int64) (S : Ms) : Option (Ms) := (lM_lay_3 N (bM_lay_75 N) N) x1 56 S
set_option maxRecDepth 100000 in
set_option maxHeartbeats 4000000 in
theorem wfM_lay {p : Program} {l : Launch} {e : Env} {R : Room} {s : State} {m : MethodId} {args : Array Value} {below : List Frame} {meth : Method} {c : Code} {d : Dd} {g : Gm} {o : Ms} {N : Nat} (C : CM p s m args meth c d g cX9_lay 5 none) (hRm : 0 ≤ R.frames ∧ 0 ≤ R.locals) (x1 : Int64) (S : Ms) (H : Heap) (locs : List Loc) (ls : Array Slot) (hf : fM_lay N x1 S = some o) (hR : RM d g S H) (hS : va_S (AM g) s.heap H locs) (hl : lv_has ls 5 [(0, .ref g.1), (1, .long x1)]) : W p l e R s m args below meth c H locs 0 0 (MQ below (QV d g o) args s 0 0 (AM g)) (F0 m 0 ls []) := by
  obtain ⟨hx, hb, hml, hown, hts, hK, hg, hr, hlk⟩ := id C
  unfold fM_lay at hf
  refine lv_bipush (v := 56) hx hb dX9_lay_0 (by decide) ?_
  refine lv_istore_n (lv' := [(3, .int 56), (0, .ref g.1), (1, .long x1)]) hx hb dX9_lay_2 rfl hl (by decide) rfl (fun ls hl => ?_)
  exact (wlM_lay_3 C hRm (wbM_lay_75 C hRm) N) _ _ _ _ _ _ hf hR hS (lv_sub hl [1, 2, 0] rfl)
theorem MM_lay (l : Launch) (d : Dd) (g : Gm) (N : Nat) (x1 : Int64) (S : Ms) (o : Ms) (hf : fM_lay N x1 S = some o) : MtV l d g yX9_lay cX9_lay 5 0 0 [.ref g.1, .long x1] S o :=
  mr_metV (by decide) rfl (Nat.le_of_ble_eq_true rfl) (fun p e s m args below meth c ls C hR hl => wfM_lay C ⟨Nat.le_refl _, Nat.le_refl _⟩ x1 S s.heap [] ls hf hR va_S.rf hl)
def fM_feed (N : Nat) (x1 : Int64) (x3 : Int64) (x5 : Int64) (S : Ms) : Option (Int32 × Ms) := (fM_lay N x1 (pF S 0 0)).bind fun o7 => (fM_lay N x3 o7).bind fun o12 => (fM_lay N x5 o12).bind fun o18 => some (mF o18 2, o18)
set_option maxRecDepth 100000 in
set_option maxHeartbeats 4000000 in
theorem wfM_feed {p : Program} {l : Launch} {e : Env} {R : Room} {s : State} {m : MethodId} {args : Array Value} {below : List Frame} {meth : Method} {c : Code} {d : Dd} {g : Gm} {o : Int32 × Ms} {N : Nat} (C : CM p s m args meth c d g cX9_feed 7 (some .int)) (hRm : 1 ≤ R.frames ∧ 24 ≤ R.locals) (x1 : Int64) (x3 : Int64) (x5 : Int64) (S : Ms) (H : Heap) (locs : List Loc) (ls : Array Slot) (hf : fM_feed N x1 x3 x5 S = some o) (hR : RM d g S H) (hS : va_S (AM g) s.heap H locs) (hl : lv_has ls 7 [(0, .ref g.1), (1, .long x1), (3, .long x3), (5, .long x5)]) : W p l e R s m args below meth c H locs 0 0 (MQ below (QI d g o) args s 0 0 (AM g)) (F0 m 0 ls []) := by
  obtain ⟨hx, hb, hml, hown, hts, hK, hg, hr, hlk⟩ := id C
  unfold fM_feed at hf
  refine lv_aload_n hx hb dX9_feed_0 rfl (lv_at hl 0 rfl) ?_
  refine lv_iconst (v := 0) hx hb dX9_feed_1 (by decide) ?_
  refine mr_putI C hR hS fl_1 ⟨rfl, rfl, rfl⟩ dX9_feed_2 (fun H locs hR hS => ?_)
  refine lv_aload_n hx hb dX9_feed_5 rfl (lv_at hl 0 rfl) ?_
  refine lv_lload_n hx hb dX9_feed_6 rfl (lv_at hl 1 rfl) ?_
  obtain ⟨o7, ho7, hf⟩ := bnd_some hf
  refine mr_callVv C hR hS (As := [.long x1]) (rest := []) (MM_lay l d g N x1 (pF S 0 0) o7 ho7) wv_7 ⟨by omega, by omega⟩ rfl rfl (Nat.le_of_ble_eq_true rfl) hl.1 dX9_feed_7 ⟨Nat.zero_le _, Nat.zero_le _⟩ (fun H locs hR hS => ?_)
  refine lv_aload_n hx hb dX9_feed_10 rfl (lv_at hl 0 rfl) ?_
  refine lv_lload_n hx hb dX9_feed_11 rfl (lv_at hl 2 rfl) ?_
  obtain ⟨o12, ho12, hf⟩ := bnd_some hf
  refine mr_callVv C hR hS (As := [.long x3]) (rest := []) (MM_lay l d g N x3 o7 o12 ho12) wv_7 ⟨by omega, by omega⟩ rfl rfl (Nat.le_of_ble_eq_true rfl) hl.1 dX9_feed_12 ⟨Nat.zero_le _, Nat.zero_le _⟩ (fun H locs hR hS => ?_)
  refine lv_aload_n hx hb dX9_feed_15 rfl (lv_at hl 0 rfl) ?_
  refine lv_lload hx hb dX9_feed_16 (lv_at hl 3 rfl) ?_
  obtain ⟨o18, ho18, hf⟩ := bnd_some hf
  refine mr_callVv C hR hS (As := [.long x5]) (rest := []) (MM_lay l d g N x5 o12 o18 ho18) wv_7 ⟨by omega, by omega⟩ rfl rfl (Nat.le_of_ble_eq_true rfl) hl.1 dX9_feed_18 ⟨Nat.zero_le _, Nat.zero_le _⟩ (fun H locs hR hS => ?_)
  refine lv_aload_n hx hb dX9_feed_21 rfl (lv_at hl 0 rfl) ?_
  refine mr_getI C hR fl_11 rfl dX9_feed_22 ?_
  exact mr_iret C hR hS hf dX9_feed_25
theorem MM_feed (l : Launch) (d : Dd) (g : Gm) (N : Nat) (x1 : Int64) (x3 : Int64) (x5 : Int64) (S : Ms) (o : Int32 × Ms) (hf : fM_feed N x1 x3 x5 S = some o) : MtI l d g yX9_feed cX9_feed 7 (some .int) 1 24 [.ref g.1, .long x1, .long x3, .long x5] S o :=
  mr_metI (by decide) rfl (Nat.le_of_ble_eq_true rfl) (fun p e s m args below meth c ls C hR hl => wfM_feed C ⟨Nat.le_refl _, Nat.le_refl _⟩ x1 x3 x5 S s.heap [] ls hf hR va_S.rf hl)
def bM_isLetter_17 (N : Nat) (s0 : Int32) (S : Ms) : Option (Int32 × Ms) := gd (is01 s0) (some (s0, S))
set_option maxRecDepth 100000 in
set_option maxHeartbeats 4000000 in
theorem wbM_isLetter_17 {p : Program} {l : Launch} {e : Env} {R : Room} {s : State} {m : MethodId} {args : Array Value} {below : List Frame} {meth : Method} {c : Code} {d : Dd} {g : Gm} {o : Int32 × Ms} {N : Nat} (C : CM p s m args meth c d g cX9_isLetter 1 (some .boolean)) (hRm : 0 ≤ R.frames ∧ 0 ≤ R.locals) (s0 : Int32) (S : Ms) (H : Heap) (locs : List Loc) (ls : Array Slot) (hf : bM_isLetter_17 N s0 S = some o) (hR : RM d g S H) (hS : va_S (AM g) s.heap H locs) (hl : lv_has ls 1 []) : W p l e R s m args below meth c H locs 0 0 (MQ below (QI d g o) args s 0 0 (AM g)) (F0 m 17 ls [.int s0]) := by
  obtain ⟨hx, hb, hml, hown, hts, hK, hg, hr, hlk⟩ := id C
  unfold bM_isLetter_17 at hf
  obtain ⟨hz, hf⟩ := gd_some hf
  exact mr_zret C hR hS hz hf dX9_isLetter_17
def bM_isLetter_16 (N : Nat)  (S : Ms) : Option (Int32 × Ms) := (bM_isLetter_17 N) 0 S
set_option maxRecDepth 100000 in
set_option maxHeartbeats 4000000 in
theorem wbM_isLetter_16 {p : Program} {l : Launch} {e : Env} {R : Room} {s : State} {m : MethodId} {args : Array Value} {below : List Frame} {meth : Method} {c : Code} {d : Dd} {g : Gm} {o : Int32 × Ms} {N : Nat} (C : CM p s m args meth c d g cX9_isLetter 1 (some .boolean)) (hRm : 0 ≤ R.frames ∧ 0 ≤ R.locals)  (S : Ms) (H : Heap) (locs : List Loc) (ls : Array Slot) (hf : bM_isLetter_16 N  S = some o) (hR : RM d g S H) (hS : va_S (AM g) s.heap H locs) (hl : lv_has ls 1 []) : W p l e R s m args below meth c H locs 0 0 (MQ below (QI d g o) args s 0 0 (AM g)) (F0 m 16 ls []) := by
  obtain ⟨hx, hb, hml, hown, hts, hK, hg, hr, hlk⟩ := id C
  unfold bM_isLetter_16 at hf
  refine lv_iconst (v := 0) hx hb dX9_isLetter_16 (by decide) ?_
  exact (wbM_isLetter_17 C hRm) _ _ _ _ _ hf hR hS (lv_sub hl [] rfl)
def fM_isLetter (N : Nat) (x0 : Int32) (S : Ms) : Option (Int32 × Ms) := if x0 < 97 then ((bM_isLetter_16 N) S) else (if 122 < x0 then ((bM_isLetter_16 N) S) else ((bM_isLetter_17 N) 1 S))
set_option maxRecDepth 100000 in
set_option maxHeartbeats 4000000 in
theorem wfM_isLetter {p : Program} {l : Launch} {e : Env} {R : Room} {s : State} {m : MethodId} {args : Array Value} {below : List Frame} {meth : Method} {c : Code} {d : Dd} {g : Gm} {o : Int32 × Ms} {N : Nat} (C : CM p s m args meth c d g cX9_isLetter 1 (some .boolean)) (hRm : 0 ≤ R.frames ∧ 0 ≤ R.locals) (x0 : Int32) (S : Ms) (H : Heap) (locs : List Loc) (ls : Array Slot) (hf : fM_isLetter N x0 S = some o) (hR : RM d g S H) (hS : va_S (AM g) s.heap H locs) (hl : lv_has ls 1 [(0, .int x0)]) : W p l e R s m args below meth c H locs 0 0 (MQ below (QI d g o) args s 0 0 (AM g)) (F0 m 0 ls []) := by
  obtain ⟨hx, hb, hml, hown, hts, hK, hg, hr, hlk⟩ := id C
  unfold fM_isLetter at hf
  refine lv_iload_n hx hb dX9_isLetter_0 rfl (lv_at hl 0 rfl) ?_
  refine lv_bipush (v := 97) hx hb dX9_isLetter_1 (by decide) ?_
  refine lv_icmp_lt (tgt := 16) hx hb dX9_isLetter_3 (by decide) (fun hc => ?_) (fun hc => ?_)
  · rw [if_pos hc] at hf
    exact (wbM_isLetter_16 C hRm) _ _ _ _ hf hR hS (lv_sub hl [] rfl)
  · rw [if_neg hc] at hf
    refine lv_iload_n hx hb dX9_isLetter_6 rfl (lv_at hl 0 rfl) ?_
    refine lv_bipush (v := 122) hx hb dX9_isLetter_7 (by decide) ?_
    refine lv_icmp_gt (tgt := 16) hx hb dX9_isLetter_9 (by decide) (fun hc => ?_) (fun hc => ?_)
    · rw [if_pos hc] at hf
      exact (wbM_isLetter_16 C hRm) _ _ _ _ hf hR hS (lv_sub hl [] rfl)
    · rw [if_neg hc] at hf
      refine lv_iconst (v := 1) hx hb dX9_isLetter_12 (by decide) ?_
      refine lv_goto (tgt := 17) hx hb dX9_isLetter_13 (by decide) ?_
      exact (wbM_isLetter_17 C hRm) _ _ _ _ _ hf hR hS (lv_sub hl [] rfl)
theorem MM_isLetter (l : Launch) (d : Dd) (g : Gm) (N : Nat) (x0 : Int32) (S : Ms) (o : Int32 × Ms) (hf : fM_isLetter N x0 S = some o) : MtI l d g yX9_isLetter cX9_isLetter 1 (some .boolean) 0 0 [.int x0] S o :=
  mr_metI (by decide) rfl (Nat.le_of_ble_eq_true rfl) (fun p e s m args below meth c ls C hR hl => wfM_isLetter C ⟨Nat.le_refl _, Nat.le_refl _⟩ x0 S s.heap [] ls hf hR va_S.rf hl)
def bM_isDigit_17 (N : Nat) (s0 : Int32) (S : Ms) : Option (Int32 × Ms) := gd (is01 s0) (some (s0, S))
set_option maxRecDepth 100000 in
set_option maxHeartbeats 4000000 in
theorem wbM_isDigit_17 {p : Program} {l : Launch} {e : Env} {R : Room} {s : State} {m : MethodId} {args : Array Value} {below : List Frame} {meth : Method} {c : Code} {d : Dd} {g : Gm} {o : Int32 × Ms} {N : Nat} (C : CM p s m args meth c d g cX9_isDigit 1 (some .boolean)) (hRm : 0 ≤ R.frames ∧ 0 ≤ R.locals) (s0 : Int32) (S : Ms) (H : Heap) (locs : List Loc) (ls : Array Slot) (hf : bM_isDigit_17 N s0 S = some o) (hR : RM d g S H) (hS : va_S (AM g) s.heap H locs) (hl : lv_has ls 1 []) : W p l e R s m args below meth c H locs 0 0 (MQ below (QI d g o) args s 0 0 (AM g)) (F0 m 17 ls [.int s0]) := by
  obtain ⟨hx, hb, hml, hown, hts, hK, hg, hr, hlk⟩ := id C
  unfold bM_isDigit_17 at hf
  obtain ⟨hz, hf⟩ := gd_some hf
  exact mr_zret C hR hS hz hf dX9_isDigit_17
def bM_isDigit_16 (N : Nat)  (S : Ms) : Option (Int32 × Ms) := (bM_isDigit_17 N) 0 S
set_option maxRecDepth 100000 in
set_option maxHeartbeats 4000000 in
theorem wbM_isDigit_16 {p : Program} {l : Launch} {e : Env} {R : Room} {s : State} {m : MethodId} {args : Array Value} {below : List Frame} {meth : Method} {c : Code} {d : Dd} {g : Gm} {o : Int32 × Ms} {N : Nat} (C : CM p s m args meth c d g cX9_isDigit 1 (some .boolean)) (hRm : 0 ≤ R.frames ∧ 0 ≤ R.locals)  (S : Ms) (H : Heap) (locs : List Loc) (ls : Array Slot) (hf : bM_isDigit_16 N  S = some o) (hR : RM d g S H) (hS : va_S (AM g) s.heap H locs) (hl : lv_has ls 1 []) : W p l e R s m args below meth c H locs 0 0 (MQ below (QI d g o) args s 0 0 (AM g)) (F0 m 16 ls []) := by
  obtain ⟨hx, hb, hml, hown, hts, hK, hg, hr, hlk⟩ := id C
  unfold bM_isDigit_16 at hf
  refine lv_iconst (v := 0) hx hb dX9_isDigit_16 (by decide) ?_
  exact (wbM_isDigit_17 C hRm) _ _ _ _ _ hf hR hS (lv_sub hl [] rfl)
def fM_isDigit (N : Nat) (x0 : Int32) (S : Ms) : Option (Int32 × Ms) := if x0 < 48 then ((bM_isDigit_16 N) S) else (if 57 < x0 then ((bM_isDigit_16 N) S) else ((bM_isDigit_17 N) 1 S))
set_option maxRecDepth 100000 in
set_option maxHeartbeats 4000000 in
theorem wfM_isDigit {p : Program} {l : Launch} {e : Env} {R : Room} {s : State} {m : MethodId} {args : Array Value} {below : List Frame} {meth : Method} {c : Code} {d : Dd} {g : Gm} {o : Int32 × Ms} {N : Nat} (C : CM p s m args meth c d g cX9_isDigit 1 (some .boolean)) (hRm : 0 ≤ R.frames ∧ 0 ≤ R.locals) (x0 : Int32) (S : Ms) (H : Heap) (locs : List Loc) (ls : Array Slot) (hf : fM_isDigit N x0 S = some o) (hR : RM d g S H) (hS : va_S (AM g) s.heap H locs) (hl : lv_has ls 1 [(0, .int x0)]) : W p l e R s m args below meth c H locs 0 0 (MQ below (QI d g o) args s 0 0 (AM g)) (F0 m 0 ls []) := by
  obtain ⟨hx, hb, hml, hown, hts, hK, hg, hr, hlk⟩ := id C
  unfold fM_isDigit at hf
  refine lv_iload_n hx hb dX9_isDigit_0 rfl (lv_at hl 0 rfl) ?_
  refine lv_bipush (v := 48) hx hb dX9_isDigit_1 (by decide) ?_
  refine lv_icmp_lt (tgt := 16) hx hb dX9_isDigit_3 (by decide) (fun hc => ?_) (fun hc => ?_)
  · rw [if_pos hc] at hf
    exact (wbM_isDigit_16 C hRm) _ _ _ _ hf hR hS (lv_sub hl [] rfl)
  · rw [if_neg hc] at hf
    refine lv_iload_n hx hb dX9_isDigit_6 rfl (lv_at hl 0 rfl) ?_
    refine lv_bipush (v := 57) hx hb dX9_isDigit_7 (by decide) ?_
    refine lv_icmp_gt (tgt := 16) hx hb dX9_isDigit_9 (by decide) (fun hc => ?_) (fun hc => ?_)
    · rw [if_pos hc] at hf
      exact (wbM_isDigit_16 C hRm) _ _ _ _ hf hR hS (lv_sub hl [] rfl)
    · rw [if_neg hc] at hf
      refine lv_iconst (v := 1) hx hb dX9_isDigit_12 (by decide) ?_
      refine lv_goto (tgt := 17) hx hb dX9_isDigit_13 (by decide) ?_
      exact (wbM_isDigit_17 C hRm) _ _ _ _ _ hf hR hS (lv_sub hl [] rfl)
theorem MM_isDigit (l : Launch) (d : Dd) (g : Gm) (N : Nat) (x0 : Int32) (S : Ms) (o : Int32 × Ms) (hf : fM_isDigit N x0 S = some o) : MtI l d g yX9_isDigit cX9_isDigit 1 (some .boolean) 0 0 [.int x0] S o :=
  mr_metI (by decide) rfl (Nat.le_of_ble_eq_true rfl) (fun p e s m args below meth c ls C hR hl => wfM_isDigit C ⟨Nat.le_refl _, Nat.le_refl _⟩ x0 S s.heap [] ls hf hR va_S.rf hl)
def bM_rank_18 (N : Nat) (s0 : Int32) (S : Ms) : Option (Int32 × Ms) := some (s0, S)
set_option maxRecDepth 100000 in
set_option maxHeartbeats 4000000 in
theorem wbM_rank_18 {p : Program} {l : Launch} {e : Env} {R : Room} {s : State} {m : MethodId} {args : Array Value} {below : List Frame} {meth : Method} {c : Code} {d : Dd} {g : Gm} {o : Int32 × Ms} {N : Nat} (C : CM p s m args meth c d g cX9_rank 1 (some .int)) (hRm : 1 ≤ R.frames ∧ 20 ≤ R.locals) (s0 : Int32) (S : Ms) (H : Heap) (locs : List Loc) (ls : Array Slot) (hf : bM_rank_18 N s0 S = some o) (hR : RM d g S H) (hS : va_S (AM g) s.heap H locs) (hl : lv_has ls 1 []) : W p l e R s m args below meth c H locs 0 0 (MQ below (QI d g o) args s 0 0 (AM g)) (F0 m 18 ls [.int s0]) := by
  obtain ⟨hx, hb, hml, hown, hts, hK, hg, hr, hlk⟩ := id C
  unfold bM_rank_18 at hf
  exact mr_iret C hR hS hf dX9_rank_18
def fM_rank (N : Nat) (x0 : Int32) (S : Ms) : Option (Int32 × Ms) := (fM_isLetter N x0 S).bind fun o1 => if o1.1 = 0 then ((bM_rank_18 N) (x0 - 21) o1.2) else ((bM_rank_18 N) (x0 - 96) o1.2)
set_option maxRecDepth 100000 in
set_option maxHeartbeats 4000000 in
theorem wfM_rank {p : Program} {l : Launch} {e : Env} {R : Room} {s : State} {m : MethodId} {args : Array Value} {below : List Frame} {meth : Method} {c : Code} {d : Dd} {g : Gm} {o : Int32 × Ms} {N : Nat} (C : CM p s m args meth c d g cX9_rank 1 (some .int)) (hRm : 1 ≤ R.frames ∧ 20 ≤ R.locals) (x0 : Int32) (S : Ms) (H : Heap) (locs : List Loc) (ls : Array Slot) (hf : fM_rank N x0 S = some o) (hR : RM d g S H) (hS : va_S (AM g) s.heap H locs) (hl : lv_has ls 1 [(0, .int x0)]) : W p l e R s m args below meth c H locs 0 0 (MQ below (QI d g o) args s 0 0 (AM g)) (F0 m 0 ls []) := by
  obtain ⟨hx, hb, hml, hown, hts, hK, hg, hr, hlk⟩ := id C
  unfold fM_rank at hf
  refine lv_iload_n hx hb dX9_rank_0 rfl (lv_at hl 0 rfl) ?_
  obtain ⟨o1, ho1, hf⟩ := bnd_some hf
  refine mr_callIs C hR hS (As := [.int x0]) (rest := []) (MM_isLetter l d g N x0 S o1 ho1) ws_261 ⟨by omega, by omega⟩ rfl rfl (Nat.le_of_ble_eq_true rfl) hl.1 dX9_rank_1 ⟨Nat.zero_le _, Nat.zero_le _⟩ (fun H locs hR hS => ?_)
  refine lv_if_eq (tgt := 14) hx hb dX9_rank_4 (by decide) (fun hc => ?_) (fun hc => ?_)
  · rw [if_pos hc] at hf
    refine lv_iload_n hx hb dX9_rank_14 rfl (lv_at hl 0 rfl) ?_
    refine lv_bipush (v := 21) hx hb dX9_rank_15 (by decide) ?_
    refine lv_isub hx hb dX9_rank_17 ?_
    exact (wbM_rank_18 C hRm) _ _ _ _ _ hf hR hS (lv_sub hl [] rfl)
  · rw [if_neg hc] at hf
    refine lv_iload_n hx hb dX9_rank_7 rfl (lv_at hl 0 rfl) ?_
    refine lv_bipush (v := 96) hx hb dX9_rank_8 (by decide) ?_
    refine lv_isub hx hb dX9_rank_10 ?_
    refine lv_goto (tgt := 18) hx hb dX9_rank_11 (by decide) ?_
    exact (wbM_rank_18 C hRm) _ _ _ _ _ hf hR hS (lv_sub hl [] rfl)
theorem MM_rank (l : Launch) (d : Dd) (g : Gm) (N : Nat) (x0 : Int32) (S : Ms) (o : Int32 × Ms) (hf : fM_rank N x0 S = some o) : MtI l d g yX9_rank cX9_rank 1 (some .int) 1 20 [.int x0] S o :=
  mr_metI (by decide) rfl (Nat.le_of_ble_eq_true rfl) (fun p e s m args below meth c ls C hR hl => wfM_rank C ⟨Nat.le_refl _, Nat.le_refl _⟩ x0 S s.heap [] ls hf hR va_S.rf hl)
def bM_isSignOf_89 (N : Nat) (s0 : Int32) (S : Ms) : Option (Int32 × Ms) := gd (is01 s0) (some (s0, S))
set_option maxRecDepth 100000 in
set_option maxHeartbeats 4000000 in
theorem wbM_isSignOf_89 {p : Program} {l : Launch} {e : Env} {R : Room} {s : State} {m : MethodId} {args : Array Value} {below : List Frame} {meth : Method} {c : Code} {d : Dd} {g : Gm} {o : Int32 × Ms} {N : Nat} (C : CM p s m args meth c d g cX9_isSignOf 1 (some .boolean)) (hRm : 0 ≤ R.frames ∧ 0 ≤ R.locals) (s0 : Int32) (S : Ms) (H : Heap) (locs : List Loc) (ls : Array Slot) (hf : bM_isSignOf_89 N s0 S = some o) (hR : RM d g S H) (hS : va_S (AM g) s.heap H locs) (hl : lv_has ls 1 []) : W p l e R s m args below meth c H locs 0 0 (MQ below (QI d g o) args s 0 0 (AM g)) (F0 m 89 ls [.int s0]) := by
  obtain ⟨hx, hb, hml, hown, hts, hK, hg, hr, hlk⟩ := id C
  unfold bM_isSignOf_89 at hf
  obtain ⟨hz, hf⟩ := gd_some hf
  exact mr_zret C hR hS hz hf dX9_isSignOf_89
def bM_isSignOf_84 (N : Nat)  (S : Ms) : Option (Int32 × Ms) := (bM_isSignOf_89 N) 1 S
set_option maxRecDepth 100000 in
set_option maxHeartbeats 4000000 in
theorem wbM_isSignOf_84 {p : Program} {l : Launch} {e : Env} {R : Room} {s : State} {m : MethodId} {args : Array Value} {below : List Frame} {meth : Method} {c : Code} {d : Dd} {g : Gm} {o : Int32 × Ms} {N : Nat} (C : CM p s m args meth c d g cX9_isSignOf 1 (some .boolean)) (hRm : 0 ≤ R.frames ∧ 0 ≤ R.locals)  (S : Ms) (H : Heap) (locs : List Loc) (ls : Array Slot) (hf : bM_isSignOf_84 N  S = some o) (hR : RM d g S H) (hS : va_S (AM g) s.heap H locs) (hl : lv_has ls 1 []) : W p l e R s m args below meth c H locs 0 0 (MQ below (QI d g o) args s 0 0 (AM g)) (F0 m 84 ls []) := by
  obtain ⟨hx, hb, hml, hown, hts, hK, hg, hr, hlk⟩ := id C
  unfold bM_isSignOf_84 at hf
  refine lv_iconst (v := 1) hx hb dX9_isSignOf_84 (by decide) ?_
  refine lv_goto (tgt := 89) hx hb dX9_isSignOf_85 (by decide) ?_
  exact (wbM_isSignOf_89 C hRm) _ _ _ _ _ hf hR hS (lv_sub hl [] rfl)
def fM_isSignOf (N : Nat) (x0 : Int32) (S : Ms) : Option (Int32 × Ms) := if x0 = 123 then ((bM_isSignOf_84 N) S) else (if x0 = 125 then ((bM_isSignOf_84 N) S) else (if x0 = 40 then ((bM_isSignOf_84 N) S) else (if x0 = 41 then ((bM_isSignOf_84 N) S) else (if x0 = 44 then ((bM_isSignOf_84 N) S) else (if x0 = 59 then ((bM_isSignOf_84 N) S) else (if x0 = 61 then ((bM_isSignOf_84 N) S) else (if x0 = 60 then ((bM_isSignOf_84 N) S) else (if x0 = 43 then ((bM_isSignOf_84 N) S) else (if x0 = 45 then ((bM_isSignOf_84 N) S) else (if x0 = 42 then ((bM_isSignOf_84 N) S) else (if x0 = 47 then ((bM_isSignOf_84 N) S) else (if x0 = 37 then ((bM_isSignOf_84 N) S) else (if x0 = 46 then ((bM_isSignOf_84 N) S) else ((bM_isSignOf_89 N) 0 S))))))))))))))
set_option maxRecDepth 100000 in
set_option maxHeartbeats 4000000 in
theorem wfM_isSignOf {p : Program} {l : Launch} {e : Env} {R : Room} {s : State} {m : MethodId} {args : Array Value} {below : List Frame} {meth : Method} {c : Code} {d : Dd} {g : Gm} {o : Int32 × Ms} {N : Nat} (C : CM p s m args meth c d g cX9_isSignOf 1 (some .boolean)) (hRm : 0 ≤ R.frames ∧ 0 ≤ R.locals) (x0 : Int32) (S : Ms) (H : Heap) (locs : List Loc) (ls : Array Slot) (hf : fM_isSignOf N x0 S = some o) (hR : RM d g S H) (hS : va_S (AM g) s.heap H locs) (hl : lv_has ls 1 [(0, .int x0)]) : W p l e R s m args below meth c H locs 0 0 (MQ below (QI d g o) args s 0 0 (AM g)) (F0 m 0 ls []) := by
  obtain ⟨hx, hb, hml, hown, hts, hK, hg, hr, hlk⟩ := id C
  unfold fM_isSignOf at hf
  refine lv_iload_n hx hb dX9_isSignOf_0 rfl (lv_at hl 0 rfl) ?_
  refine lv_bipush (v := 123) hx hb dX9_isSignOf_1 (by decide) ?_
  refine lv_icmp_eq (tgt := 84) hx hb dX9_isSignOf_3 (by decide) (fun hc => ?_) (fun hc => ?_)
  · rw [if_pos hc] at hf
    exact (wbM_isSignOf_84 C hRm) _ _ _ _ hf hR hS (lv_sub hl [] rfl)
  · rw [if_neg hc] at hf
    refine lv_iload_n hx hb dX9_isSignOf_6 rfl (lv_at hl 0 rfl) ?_
    refine lv_bipush (v := 125) hx hb dX9_isSignOf_7 (by decide) ?_
    refine lv_icmp_eq (tgt := 84) hx hb dX9_isSignOf_9 (by decide) (fun hc => ?_) (fun hc => ?_)
    · rw [if_pos hc] at hf
      exact (wbM_isSignOf_84 C hRm) _ _ _ _ hf hR hS (lv_sub hl [] rfl)
    · rw [if_neg hc] at hf
      refine lv_iload_n hx hb dX9_isSignOf_12 rfl (lv_at hl 0 rfl) ?_
      refine lv_bipush (v := 40) hx hb dX9_isSignOf_13 (by decide) ?_
      refine lv_icmp_eq (tgt := 84) hx hb dX9_isSignOf_15 (by decide) (fun hc => ?_) (fun hc => ?_)
      · rw [if_pos hc] at hf
        exact (wbM_isSignOf_84 C hRm) _ _ _ _ hf hR hS (lv_sub hl [] rfl)
      · rw [if_neg hc] at hf
        refine lv_iload_n hx hb dX9_isSignOf_18 rfl (lv_at hl 0 rfl) ?_
        refine lv_bipush (v := 41) hx hb dX9_isSignOf_19 (by decide) ?_
        refine lv_icmp_eq (tgt := 84) hx hb dX9_isSignOf_21 (by decide) (fun hc => ?_) (fun hc => ?_)
        · rw [if_pos hc] at hf
          exact (wbM_isSignOf_84 C hRm) _ _ _ _ hf hR hS (lv_sub hl [] rfl)
        · rw [if_neg hc] at hf
          refine lv_iload_n hx hb dX9_isSignOf_24 rfl (lv_at hl 0 rfl) ?_
          refine lv_bipush (v := 44) hx hb dX9_isSignOf_25 (by decide) ?_
          refine lv_icmp_eq (tgt := 84) hx hb dX9_isSignOf_27 (by decide) (fun hc => ?_) (fun hc => ?_)
          · rw [if_pos hc] at hf
            exact (wbM_isSignOf_84 C hRm) _ _ _ _ hf hR hS (lv_sub hl [] rfl)
          · rw [if_neg hc] at hf
            refine lv_iload_n hx hb dX9_isSignOf_30 rfl (lv_at hl 0 rfl) ?_
            refine lv_bipush (v := 59) hx hb dX9_isSignOf_31 (by decide) ?_
            refine lv_icmp_eq (tgt := 84) hx hb dX9_isSignOf_33 (by decide) (fun hc => ?_) (fun hc => ?_)
            · rw [if_pos hc] at hf
              exact (wbM_isSignOf_84 C hRm) _ _ _ _ hf hR hS (lv_sub hl [] rfl)
            · rw [if_neg hc] at hf
              refine lv_iload_n hx hb dX9_isSignOf_36 rfl (lv_at hl 0 rfl) ?_
              refine lv_bipush (v := 61) hx hb dX9_isSignOf_37 (by decide) ?_
              refine lv_icmp_eq (tgt := 84) hx hb dX9_isSignOf_39 (by decide) (fun hc => ?_) (fun hc => ?_)
              · rw [if_pos hc] at hf
                exact (wbM_isSignOf_84 C hRm) _ _ _ _ hf hR hS (lv_sub hl [] rfl)
              · rw [if_neg hc] at hf
                refine lv_iload_n hx hb dX9_isSignOf_42 rfl (lv_at hl 0 rfl) ?_
                refine lv_bipush (v := 60) hx hb dX9_isSignOf_43 (by decide) ?_
                refine lv_icmp_eq (tgt := 84) hx hb dX9_isSignOf_45 (by decide) (fun hc => ?_) (fun hc => ?_)
                · rw [if_pos hc] at hf
                  exact (wbM_isSignOf_84 C hRm) _ _ _ _ hf hR hS (lv_sub hl [] rfl)
                · rw [if_neg hc] at hf
                  refine lv_iload_n hx hb dX9_isSignOf_48 rfl (lv_at hl 0 rfl) ?_
                  refine lv_bipush (v := 43) hx hb dX9_isSignOf_49 (by decide) ?_
                  refine lv_icmp_eq (tgt := 84) hx hb dX9_isSignOf_51 (by decide) (fun hc => ?_) (fun hc => ?_)
                  · rw [if_pos hc] at hf
                    exact (wbM_isSignOf_84 C hRm) _ _ _ _ hf hR hS (lv_sub hl [] rfl)
                  · rw [if_neg hc] at hf
                    refine lv_iload_n hx hb dX9_isSignOf_54 rfl (lv_at hl 0 rfl) ?_
                    refine lv_bipush (v := 45) hx hb dX9_isSignOf_55 (by decide) ?_
                    refine lv_icmp_eq (tgt := 84) hx hb dX9_isSignOf_57 (by decide) (fun hc => ?_) (fun hc => ?_)
                    · rw [if_pos hc] at hf
                      exact (wbM_isSignOf_84 C hRm) _ _ _ _ hf hR hS (lv_sub hl [] rfl)
                    · rw [if_neg hc] at hf
                      refine lv_iload_n hx hb dX9_isSignOf_60 rfl (lv_at hl 0 rfl) ?_
                      refine lv_bipush (v := 42) hx hb dX9_isSignOf_61 (by decide) ?_
                      refine lv_icmp_eq (tgt := 84) hx hb dX9_isSignOf_63 (by decide) (fun hc => ?_) (fun hc => ?_)
                      · rw [if_pos hc] at hf
                        exact (wbM_isSignOf_84 C hRm) _ _ _ _ hf hR hS (lv_sub hl [] rfl)
                      · rw [if_neg hc] at hf
                        refine lv_iload_n hx hb dX9_isSignOf_66 rfl (lv_at hl 0 rfl) ?_
                        refine lv_bipush (v := 47) hx hb dX9_isSignOf_67 (by decide) ?_
                        refine lv_icmp_eq (tgt := 84) hx hb dX9_isSignOf_69 (by decide) (fun hc => ?_) (fun hc => ?_)
                        · rw [if_pos hc] at hf
                          exact (wbM_isSignOf_84 C hRm) _ _ _ _ hf hR hS (lv_sub hl [] rfl)
                        · rw [if_neg hc] at hf
                          refine lv_iload_n hx hb dX9_isSignOf_72 rfl (lv_at hl 0 rfl) ?_
                          refine lv_bipush (v := 37) hx hb dX9_isSignOf_73 (by decide) ?_
                          refine lv_icmp_eq (tgt := 84) hx hb dX9_isSignOf_75 (by decide) (fun hc => ?_) (fun hc => ?_)
                          · rw [if_pos hc] at hf
                            exact (wbM_isSignOf_84 C hRm) _ _ _ _ hf hR hS (lv_sub hl [] rfl)
                          · rw [if_neg hc] at hf
                            refine lv_iload_n hx hb dX9_isSignOf_78 rfl (lv_at hl 0 rfl) ?_
                            refine lv_bipush (v := 46) hx hb dX9_isSignOf_79 (by decide) ?_
                            refine lv_icmp_ne (tgt := 88) hx hb dX9_isSignOf_81 (by decide) (fun hc => ?_) (fun hc => ?_)
                            · rw [if_neg hc] at hf
                              refine lv_iconst (v := 0) hx hb dX9_isSignOf_88 (by decide) ?_
                              exact (wbM_isSignOf_89 C hRm) _ _ _ _ _ hf hR hS (lv_sub hl [] rfl)
                            · rw [if_pos hc] at hf
                              exact (wbM_isSignOf_84 C hRm) _ _ _ _ hf hR hS (lv_sub hl [] rfl)
theorem MM_isSignOf (l : Launch) (d : Dd) (g : Gm) (N : Nat) (x0 : Int32) (S : Ms) (o : Int32 × Ms) (hf : fM_isSignOf N x0 S = some o) : MtI l d g yX9_isSignOf cX9_isSignOf 1 (some .boolean) 0 0 [.int x0] S o :=
  mr_metI (by decide) rfl (Nat.le_of_ble_eq_true rfl) (fun p e s m args below meth c ls C hR hl => wfM_isSignOf C ⟨Nat.le_refl _, Nat.le_refl _⟩ x0 S s.heap [] ls hf hR va_S.rf hl)
def bM_cutAll_44 (N : Nat) (r17 : Int32 → Int32 → Ms → Option (Ms)) (k293 : Int32 → Ms → Option (Ms)) (x1 : Int32) (x2 : Int32) (S : Ms) : Option (Ms) := r17 x1 (x2 + 1) S
set_option maxRecDepth 100000 in
set_option maxHeartbeats 4000000 in
theorem wbM_cutAll_44 {p : Program} {l : Launch} {e : Env} {R : Room} {s : State} {m : MethodId} {args : Array Value} {below : List Frame} {meth : Method} {c : Code} {d : Dd} {g : Gm} {o : Ms} {N : Nat} {r17 : Int32 → Int32 → Ms → Option (Ms)} {k293 : Int32 → Ms → Option (Ms)} (C : CM p s m args meth c d g cX9_cutAll 7 none) (hRm : 2 ≤ R.frames ∧ 40 ≤ R.locals) (hr17 : ∀ (x1 : Int32) (x2 : Int32) (S : Ms) (H : Heap) (locs : List Loc) (ls : Array Slot), r17 x1 x2 S = some o → RM d g S H → va_S (AM g) s.heap H locs → lv_has ls 7 [(0, .ref g.1), (1, .int x1), (2, .int x2)] → W p l e R s m args below meth c H locs 0 0 (MQ below (QV d g o) args s 0 0 (AM g)) (F0 m 17 ls [])) (hk293 : ∀ (x1 : Int32) (S : Ms) (H : Heap) (locs : List Loc) (ls : Array Slot), k293 x1 S = some o → RM d g S H → va_S (AM g) s.heap H locs → lv_has ls 7 [(0, .ref g.1), (1, .int x1)] → W p l e R s m args below meth c H locs 0 0 (MQ below (QV d g o) args s 0 0 (AM g)) (F0 m 293 ls [])) (x1 : Int32) (x2 : Int32) (S : Ms) (H : Heap) (locs : List Loc) (ls : Array Slot) (hf : bM_cutAll_44 N r17 k293 x1 x2 S = some o) (hR : RM d g S H) (hS : va_S (AM g) s.heap H locs) (hl : lv_has ls 7 [(0, .ref g.1), (1, .int x1), (2, .int x2)]) : W p l e R s m args below meth c H locs 0 0 (MQ below (QV d g o) args s 0 0 (AM g)) (F0 m 44 ls []) := by
  obtain ⟨hx, hb, hml, hown, hts, hK, hg, hr, hlk⟩ := id C
  unfold bM_cutAll_44 at hf
  refine lv_iinc (v := x2 + 1) (lv' := [(2, .int (x2 + 1)), (0, .ref g.1), (1, .int x1)]) hx hb dX9_cutAll_44 hl (k := 2) rfl rfl (by decide) rfl (fun ls hl => ?_)
  refine lv_goto (tgt := 17) hx hb dX9_cutAll_47 (by decide) ?_
  exact hr17 _ _ _ _ _ _ hf hR hS (lv_sub hl [1, 2, 0] rfl)
def bM_cutAll_133 (N : Nat) (r70 : Int32 → Int32 → Int32 → Int64 → Ms → Option (Ms)) (k141 : Int32 → Int32 → Int32 → Int64 → Ms → Option (Ms)) (x1 : Int32) (x2 : Int32) (x4 : Int32) (s0 : Int64) (S : Ms) : Option (Ms) := r70 x1 (x2 + 1) x4 s0 S
set_option maxRecDepth 100000 in
set_option maxHeartbeats 4000000 in
theorem wbM_cutAll_133 {p : Program} {l : Launch} {e : Env} {R : Room} {s : State} {m : MethodId} {args : Array Value} {below : List Frame} {meth : Method} {c : Code} {d : Dd} {g : Gm} {o : Ms} {N : Nat} {r70 : Int32 → Int32 → Int32 → Int64 → Ms → Option (Ms)} {k141 : Int32 → Int32 → Int32 → Int64 → Ms → Option (Ms)} (C : CM p s m args meth c d g cX9_cutAll 7 none) (hRm : 2 ≤ R.frames ∧ 40 ≤ R.locals) (hr70 : ∀ (x1 : Int32) (x2 : Int32) (x4 : Int32) (x5 : Int64) (S : Ms) (H : Heap) (locs : List Loc) (ls : Array Slot), r70 x1 x2 x4 x5 S = some o → RM d g S H → va_S (AM g) s.heap H locs → lv_has ls 7 [(0, .ref g.1), (1, .int x1), (2, .int x2), (4, .int x4), (5, .long x5)] → W p l e R s m args below meth c H locs 0 0 (MQ below (QV d g o) args s 0 0 (AM g)) (F0 m 70 ls [])) (hk141 : ∀ (x1 : Int32) (x2 : Int32) (x4 : Int32) (x5 : Int64) (S : Ms) (H : Heap) (locs : List Loc) (ls : Array Slot), k141 x1 x2 x4 x5 S = some o → RM d g S H → va_S (AM g) s.heap H locs → lv_has ls 7 [(0, .ref g.1), (1, .int x1), (2, .int x2), (4, .int x4), (5, .long x5)] → W p l e R s m args below meth c H locs 0 0 (MQ below (QV d g o) args s 0 0 (AM g)) (F0 m 141 ls [])) (x1 : Int32) (x2 : Int32) (x4 : Int32) (s0 : Int64) (S : Ms) (H : Heap) (locs : List Loc) (ls : Array Slot) (hf : bM_cutAll_133 N r70 k141 x1 x2 x4 s0 S = some o) (hR : RM d g S H) (hS : va_S (AM g) s.heap H locs) (hl : lv_has ls 7 [(0, .ref g.1), (1, .int x1), (2, .int x2), (4, .int x4)]) : W p l e R s m args below meth c H locs 0 0 (MQ below (QV d g o) args s 0 0 (AM g)) (F0 m 133 ls [.long s0]) := by
  obtain ⟨hx, hb, hml, hown, hts, hK, hg, hr, hlk⟩ := id C
  unfold bM_cutAll_133 at hf
  refine lv_lstore (lv' := [(5, .long s0), (0, .ref g.1), (1, .int x1), (2, .int x2), (4, .int x4)]) hx hb dX9_cutAll_133 hl (by decide) rfl (fun ls hl => ?_)
  refine lv_iinc (v := x2 + 1) (lv' := [(2, .int (x2 + 1)), (5, .long s0), (0, .ref g.1), (1, .int x1), (4, .int x4)]) hx hb dX9_cutAll_135 hl (k := 3) rfl rfl (by decide) rfl (fun ls hl => ?_)
  refine lv_goto (tgt := 70) hx hb dX9_cutAll_138 (by decide) ?_
  exact hr70 _ _ _ _ _ _ _ _ hf hR hS (lv_sub hl [2, 3, 0, 4, 1] rfl)
def bM_cutAll_102 (N : Nat) (r70 : Int32 → Int32 → Int32 → Int64 → Ms → Option (Ms)) (k141 : Int32 → Int32 → Int32 → Int64 → Ms → Option (Ms)) (x1 : Int32) (x2 : Int32) (x4 : Int32) (x5 : Int64) (S : Ms) : Option (Ms) := if 12 ≤ (x2 - x4) then ((bM_cutAll_133 N r70 k141) x1 x2 x4 x5 S) else (ck x2 4000 ((fM_rank N (mA S 1 (x2 : Int32).toNatClampNeg) S).bind fun o123 => (bM_cutAll_133 N r70 k141) x1 x2 x4 ((37 * x5) + ((o123.1 : Int32).toInt64)) o123.2))
set_option maxRecDepth 100000 in
set_option maxHeartbeats 4000000 in
theorem wbM_cutAll_102 {p : Program} {l : Launch} {e : Env} {R : Room} {s : State} {m : MethodId} {args : Array Value} {below : List Frame} {meth : Method} {c : Code} {d : Dd} {g : Gm} {o : Ms} {N : Nat} {r70 : Int32 → Int32 → Int32 → Int64 → Ms → Option (Ms)} {k141 : Int32 → Int32 → Int32 → Int64 → Ms → Option (Ms)} (C : CM p s m args meth c d g cX9_cutAll 7 none) (hRm : 2 ≤ R.frames ∧ 40 ≤ R.locals) (hr70 : ∀ (x1 : Int32) (x2 : Int32) (x4 : Int32) (x5 : Int64) (S : Ms) (H : Heap) (locs : List Loc) (ls : Array Slot), r70 x1 x2 x4 x5 S = some o → RM d g S H → va_S (AM g) s.heap H locs → lv_has ls 7 [(0, .ref g.1), (1, .int x1), (2, .int x2), (4, .int x4), (5, .long x5)] → W p l e R s m args below meth c H locs 0 0 (MQ below (QV d g o) args s 0 0 (AM g)) (F0 m 70 ls [])) (hk141 : ∀ (x1 : Int32) (x2 : Int32) (x4 : Int32) (x5 : Int64) (S : Ms) (H : Heap) (locs : List Loc) (ls : Array Slot), k141 x1 x2 x4 x5 S = some o → RM d g S H → va_S (AM g) s.heap H locs → lv_has ls 7 [(0, .ref g.1), (1, .int x1), (2, .int x2), (4, .int x4), (5, .long x5)] → W p l e R s m args below meth c H locs 0 0 (MQ below (QV d g o) args s 0 0 (AM g)) (F0 m 141 ls [])) (x1 : Int32) (x2 : Int32) (x4 : Int32) (x5 : Int64) (S : Ms) (H : Heap) (locs : List Loc) (ls : Array Slot) (hf : bM_cutAll_102 N r70 k141 x1 x2 x4 x5 S = some o) (hR : RM d g S H) (hS : va_S (AM g) s.heap H locs) (hl : lv_has ls 7 [(0, .ref g.1), (1, .int x1), (2, .int x2), (4, .int x4), (5, .long x5)]) : W p l e R s m args below meth c H locs 0 0 (MQ below (QV d g o) args s 0 0 (AM g)) (F0 m 102 ls []) := by
  obtain ⟨hx, hb, hml, hown, hts, hK, hg, hr, hlk⟩ := id C
  unfold bM_cutAll_102 at hf
  refine lv_iload_n hx hb dX9_cutAll_102 rfl (lv_at hl 2 rfl) ?_
  refine lv_iload hx hb dX9_cutAll_103 (lv_at hl 3 rfl) ?_
  refine lv_isub hx hb dX9_cutAll_105 ?_
  refine lv_bipush (v := 12) hx hb dX9_cutAll_106 (by decide) ?_
  refine lv_icmp_ge (tgt := 131) hx hb dX9_cutAll_108 (by decide) (fun hc => ?_) (fun hc => ?_)
  · rw [if_pos hc] at hf
    refine lv_lload hx hb dX9_cutAll_131 (lv_at hl 4 rfl) ?_
    exact (wbM_cutAll_133 C hRm hr70 hk141) _ _ _ _ _ _ _ _ hf hR hS (lv_sub hl [0, 1, 2, 3] rfl)
  · rw [if_neg hc] at hf
    refine lv_ldc2 hx hb hown (hts _ wd_1402) dX9_cutAll_111 ?_
    refine lv_lload hx hb dX9_cutAll_114 (lv_at hl 4 rfl) ?_
    refine lv_lmul hx hb dX9_cutAll_116 ?_
    refine lv_aload_n hx hb dX9_cutAll_117 rfl (lv_at hl 0 rfl) ?_
    refine mr_getR C hR fl_14 (by decide) dX9_cutAll_118 ?_
    refine lv_iload_n hx hb dX9_cutAll_121 rfl (lv_at hl 2 rfl) ?_
    obtain ⟨hi, hf⟩ := ck_some hf
    refine mr_iald C hR (k := 1) rfl hi dX9_cutAll_122 ?_
    obtain ⟨o123, ho123, hf⟩ := bnd_some hf
    refine mr_callIs C hR hS (As := [.int (mA S 1 (x2 : Int32).toNatClampNeg)]) (rest := [.long (37 * x5)]) (MM_rank l d g N (mA S 1 (x2 : Int32).toNatClampNeg) S o123 ho123) ws_257 ⟨by omega, by omega⟩ rfl rfl (Nat.le_of_ble_eq_true rfl) hl.1 dX9_cutAll_123 ⟨Nat.zero_le _, Nat.zero_le _⟩ (fun H locs hR hS => ?_)
    refine lv_i2l (v := (o123.1 : Int32).toInt64) hx hb dX9_cutAll_126 rfl ?_
    refine lv_ladd hx hb dX9_cutAll_127 ?_
    refine lv_goto (tgt := 133) hx hb dX9_cutAll_128 (by decide) ?_
    exact (wbM_cutAll_133 C hRm hr70 hk141) _ _ _ _ _ _ _ _ hf hR hS (lv_sub hl [0, 1, 2, 3] rfl)
def lM_cutAll_70 (N : Nat) (k141 : Int32 → Int32 → Int32 → Int64 → Ms → Option (Ms)) : Nat → Int32 → Int32 → Int32 → Int64 → Ms → Option (Ms)
  | 0, _, _, _, _, _ => none
  | n + 1, x1, x2, x4, x5, S => if (mF S 3) ≤ x2 then (k141 x1 x2 x4 x5 S) else (ck x2 4000 ((fM_isLetter N (mA S 1 (x2 : Int32).toNatClampNeg) S).bind fun o84 => if o84.1 = 0 then (ck x2 4000 ((fM_isDigit N (mA o84.2 1 (x2 : Int32).toNatClampNeg) o84.2).bind fun o96 => if o96.1 = 0 then (k141 x1 x2 x4 x5 o96.2) else ((bM_cutAll_102 N (lM_cutAll_70 N k141 n) k141) x1 x2 x4 x5 o96.2))) else ((bM_cutAll_102 N (lM_cutAll_70 N k141 n) k141) x1 x2 x4 x5 o84.2)))
set_option maxRecDepth 100000 in
set_option maxHeartbeats 4000000 in
theorem wlM_cutAll_70 {p : Program} {l : Launch} {e : Env} {R : Room} {s : State} {m : MethodId} {args : Array Value} {below : List Frame} {meth : Method} {c : Code} {d : Dd} {g : Gm} {o : Ms} {N : Nat} {k141 : Int32 → Int32 → Int32 → Int64 → Ms → Option (Ms)} (C : CM p s m args meth c d g cX9_cutAll 7 none) (hRm : 2 ≤ R.frames ∧ 40 ≤ R.locals) (hk141 : ∀ (x1 : Int32) (x2 : Int32) (x4 : Int32) (x5 : Int64) (S : Ms) (H : Heap) (locs : List Loc) (ls : Array Slot), k141 x1 x2 x4 x5 S = some o → RM d g S H → va_S (AM g) s.heap H locs → lv_has ls 7 [(0, .ref g.1), (1, .int x1), (2, .int x2), (4, .int x4), (5, .long x5)] → W p l e R s m args below meth c H locs 0 0 (MQ below (QV d g o) args s 0 0 (AM g)) (F0 m 141 ls [])) : ∀ (n : Nat) (x1 : Int32) (x2 : Int32) (x4 : Int32) (x5 : Int64) (S : Ms) (H : Heap) (locs : List Loc) (ls : Array Slot), lM_cutAll_70 N k141 n x1 x2 x4 x5 S = some o → RM d g S H → va_S (AM g) s.heap H locs → lv_has ls 7 [(0, .ref g.1), (1, .int x1), (2, .int x2), (4, .int x4), (5, .long x5)] → W p l e R s m args below meth c H locs 0 0 (MQ below (QV d g o) args s 0 0 (AM g)) (F0 m 70 ls []) := by
  obtain ⟨hx, hb, hml, hown, hts, hK, hg, hr, hlk⟩ := id C
  intro n
  induction n with
  | zero => intro x1 x2 x4 x5 S H locs ls hf; cases hf
  | succ n ih =>
    intro x1 x2 x4 x5 S H locs ls hf hR hS hl
    rw [lM_cutAll_70] at hf
    refine lv_iload_n hx hb dX9_cutAll_70 rfl (lv_at hl 2 rfl) ?_
    refine lv_aload_n hx hb dX9_cutAll_71 rfl (lv_at hl 0 rfl) ?_
    refine mr_getI C hR fl_265 rfl dX9_cutAll_72 ?_
    refine lv_icmp_ge (tgt := 141) hx hb dX9_cutAll_75 (by decide) (fun hc => ?_) (fun hc => ?_)
    · rw [if_pos hc] at hf
      exact hk141 _ _ _ _ _ _ _ _ hf hR hS (lv_sub hl [0, 1, 2, 3, 4] rfl)
    · rw [if_neg hc] at hf
      refine lv_aload_n hx hb dX9_cutAll_78 rfl (lv_at hl 0 rfl) ?_
      refine mr_getR C hR fl_14 (by decide) dX9_cutAll_79 ?_
      refine lv_iload_n hx hb dX9_cutAll_82 rfl (lv_at hl 2 rfl) ?_
      obtain ⟨hi, hf⟩ := ck_some hf
      refine mr_iald C hR (k := 1) rfl hi dX9_cutAll_83 ?_
      obtain ⟨o84, ho84, hf⟩ := bnd_some hf
      refine mr_callIs C hR hS (As := [.int (mA S 1 (x2 : Int32).toNatClampNeg)]) (rest := []) (MM_isLetter l d g N (mA S 1 (x2 : Int32).toNatClampNeg) S o84 ho84) ws_261 ⟨by omega, by omega⟩ rfl rfl (Nat.le_of_ble_eq_true rfl) hl.1 dX9_cutAll_84 ⟨Nat.zero_le _, Nat.zero_le _⟩ (fun H locs hR hS => ?_)
      refine lv_if_ne (tgt := 102) hx hb dX9_cutAll_87 (by decide) (fun hc => ?_) (fun hc => ?_)
      · rw [if_neg hc] at hf
        exact (wbM_cutAll_102 C hRm ih hk141) _ _ _ _ _ _ _ _ hf hR hS (lv_sub hl [0, 1, 2, 3, 4] rfl)
      · rw [if_pos hc] at hf
        refine lv_aload_n hx hb dX9_cutAll_90 rfl (lv_at hl 0 rfl) ?_
        refine mr_getR C hR fl_14 (by decide) dX9_cutAll_91 ?_
        refine lv_iload_n hx hb dX9_cutAll_94 rfl (lv_at hl 2 rfl) ?_
        obtain ⟨hi, hf⟩ := ck_some hf
        refine mr_iald C hR (k := 1) rfl hi dX9_cutAll_95 ?_
        obtain ⟨o96, ho96, hf⟩ := bnd_some hf
        refine mr_callIs C hR hS (As := [.int (mA o84.2 1 (x2 : Int32).toNatClampNeg)]) (rest := []) (MM_isDigit l d g N (mA o84.2 1 (x2 : Int32).toNatClampNeg) o84.2 o96 ho96) ws_268 ⟨by omega, by omega⟩ rfl rfl (Nat.le_of_ble_eq_true rfl) hl.1 dX9_cutAll_96 ⟨Nat.zero_le _, Nat.zero_le _⟩ (fun H locs hR hS => ?_)
        refine lv_if_eq (tgt := 141) hx hb dX9_cutAll_99 (by decide) (fun hc => ?_) (fun hc => ?_)
        · rw [if_pos hc] at hf
          exact hk141 _ _ _ _ _ _ _ _ hf hR hS (lv_sub hl [0, 1, 2, 3, 4] rfl)
        · rw [if_neg hc] at hf
          exact (wbM_cutAll_102 C hRm ih hk141) _ _ _ _ _ _ _ _ hf hR hS (lv_sub hl [0, 1, 2, 3, 4] rfl)
def bM_cutAll_279 (N : Nat) (r17 : Int32 → Int32 → Ms → Option (Ms)) (k293 : Int32 → Ms → Option (Ms)) (x1 : Int32) (x2 : Int32) (x5 : Int64) (S : Ms) : Option (Ms) := ck x1 4002 (r17 (x1 + 1) x2 (pL S 6 (x1 : Int32).toNatClampNeg x5))
set_option maxRecDepth 100000 in
set_option maxHeartbeats 4000000 in
theorem wbM_cutAll_279 {p : Program} {l : Launch} {e : Env} {R : Room} {s : State} {m : MethodId} {args : Array Value} {below : List Frame} {meth : Method} {c : Code} {d : Dd} {g : Gm} {o : Ms} {N : Nat} {r17 : Int32 → Int32 → Ms → Option (Ms)} {k293 : Int32 → Ms → Option (Ms)} (C : CM p s m args meth c d g cX9_cutAll 7 none) (hRm : 2 ≤ R.frames ∧ 40 ≤ R.locals) (hr17 : ∀ (x1 : Int32) (x2 : Int32) (S : Ms) (H : Heap) (locs : List Loc) (ls : Array Slot), r17 x1 x2 S = some o → RM d g S H → va_S (AM g) s.heap H locs → lv_has ls 7 [(0, .ref g.1), (1, .int x1), (2, .int x2)] → W p l e R s m args below meth c H locs 0 0 (MQ below (QV d g o) args s 0 0 (AM g)) (F0 m 17 ls [])) (hk293 : ∀ (x1 : Int32) (S : Ms) (H : Heap) (locs : List Loc) (ls : Array Slot), k293 x1 S = some o → RM d g S H → va_S (AM g) s.heap H locs → lv_has ls 7 [(0, .ref g.1), (1, .int x1)] → W p l e R s m args below meth c H locs 0 0 (MQ below (QV d g o) args s 0 0 (AM g)) (F0 m 293 ls [])) (x1 : Int32) (x2 : Int32) (x5 : Int64) (S : Ms) (H : Heap) (locs : List Loc) (ls : Array Slot) (hf : bM_cutAll_279 N r17 k293 x1 x2 x5 S = some o) (hR : RM d g S H) (hS : va_S (AM g) s.heap H locs) (hl : lv_has ls 7 [(0, .ref g.1), (1, .int x1), (2, .int x2), (5, .long x5)]) : W p l e R s m args below meth c H locs 0 0 (MQ below (QV d g o) args s 0 0 (AM g)) (F0 m 279 ls []) := by
  obtain ⟨hx, hb, hml, hown, hts, hK, hg, hr, hlk⟩ := id C
  unfold bM_cutAll_279 at hf
  refine lv_aload_n hx hb dX9_cutAll_279 rfl (lv_at hl 0 rfl) ?_
  refine mr_getR C hR fl_30 (by decide) dX9_cutAll_280 ?_
  refine lv_iload_n hx hb dX9_cutAll_283 rfl (lv_at hl 1 rfl) ?_
  refine lv_lload hx hb dX9_cutAll_284 (lv_at hl 3 rfl) ?_
  obtain ⟨hi, hf⟩ := ck_some hf
  refine mr_last C hR hS (k := 6) rfl hi dX9_cutAll_286 (fun H locs hR hS => ?_)
  refine lv_iinc (v := x1 + 1) (lv' := [(1, .int (x1 + 1)), (0, .ref g.1), (2, .int x2), (5, .long x5)]) hx hb dX9_cutAll_287 hl (k := 1) rfl rfl (by decide) rfl (fun ls hl => ?_)
  refine lv_goto (tgt := 17) hx hb dX9_cutAll_290 (by decide) ?_
  exact hr17 _ _ _ _ _ _ hf hR hS (lv_sub hl [1, 0, 2] rfl)
def bM_cutAll_160 (N : Nat) (r17 : Int32 → Int32 → Ms → Option (Ms)) (k293 : Int32 → Ms → Option (Ms)) (x1 : Int32) (x2 : Int32) (x5 : Int64) (s1 : Int32) (s2 : Int32) (S : Ms) : Option (Ms) := ck s1 4002 ((bM_cutAll_279 N r17 k293) x1 x2 x5 (pA S 4 (s1 : Int32).toNatClampNeg s2))
set_option maxRecDepth 100000 in
set_option maxHeartbeats 4000000 in
theorem wbM_cutAll_160 {p : Program} {l : Launch} {e : Env} {R : Room} {s : State} {m : MethodId} {args : Array Value} {below : List Frame} {meth : Method} {c : Code} {d : Dd} {g : Gm} {o : Ms} {N : Nat} {r17 : Int32 → Int32 → Ms → Option (Ms)} {k293 : Int32 → Ms → Option (Ms)} (C : CM p s m args meth c d g cX9_cutAll 7 none) (hRm : 2 ≤ R.frames ∧ 40 ≤ R.locals) (hr17 : ∀ (x1 : Int32) (x2 : Int32) (S : Ms) (H : Heap) (locs : List Loc) (ls : Array Slot), r17 x1 x2 S = some o → RM d g S H → va_S (AM g) s.heap H locs → lv_has ls 7 [(0, .ref g.1), (1, .int x1), (2, .int x2)] → W p l e R s m args below meth c H locs 0 0 (MQ below (QV d g o) args s 0 0 (AM g)) (F0 m 17 ls [])) (hk293 : ∀ (x1 : Int32) (S : Ms) (H : Heap) (locs : List Loc) (ls : Array Slot), k293 x1 S = some o → RM d g S H → va_S (AM g) s.heap H locs → lv_has ls 7 [(0, .ref g.1), (1, .int x1)] → W p l e R s m args below meth c H locs 0 0 (MQ below (QV d g o) args s 0 0 (AM g)) (F0 m 293 ls [])) (x1 : Int32) (x2 : Int32) (x5 : Int64) (s1 : Int32) (s2 : Int32) (S : Ms) (H : Heap) (locs : List Loc) (ls : Array Slot) (hf : bM_cutAll_160 N r17 k293 x1 x2 x5 s1 s2 S = some o) (hR : RM d g S H) (hS : va_S (AM g) s.heap H locs) (hl : lv_has ls 7 [(0, .ref g.1), (1, .int x1), (2, .int x2), (5, .long x5)]) : W p l e R s m args below meth c H locs 0 0 (MQ below (QV d g o) args s 0 0 (AM g)) (F0 m 160 ls [.int s2, .int s1, .ref (g.2 4)]) := by
  obtain ⟨hx, hb, hml, hown, hts, hK, hg, hr, hlk⟩ := id C
  unfold bM_cutAll_160 at hf
  obtain ⟨hi, hf⟩ := ck_some hf
  refine mr_iast C hR hS (k := 4) rfl hi dX9_cutAll_160 (fun H locs hR hS => ?_)
  refine lv_goto (tgt := 279) hx hb dX9_cutAll_161 (by decide) ?_
  exact (wbM_cutAll_279 C hRm hr17 hk293) _ _ _ _ _ _ _ hf hR hS (lv_sub hl [0, 1, 2, 3] rfl)
def bM_cutAll_141 (N : Nat) (r17 : Int32 → Int32 → Ms → Option (Ms)) (k293 : Int32 → Ms → Option (Ms)) (x1 : Int32) (x2 : Int32) (x4 : Int32) (x5 : Int64) (S : Ms) : Option (Ms) := if (x2 - x4) ≤ 12 then ((bM_cutAll_160 N r17 k293) x1 x2 x5 x1 1 S) else ((bM_cutAll_160 N r17 k293) x1 x2 x5 x1 4 S)
set_option maxRecDepth 100000 in
set_option maxHeartbeats 4000000 in
theorem wbM_cutAll_141 {p : Program} {l : Launch} {e : Env} {R : Room} {s : State} {m : MethodId} {args : Array Value} {below : List Frame} {meth : Method} {c : Code} {d : Dd} {g : Gm} {o : Ms} {N : Nat} {r17 : Int32 → Int32 → Ms → Option (Ms)} {k293 : Int32 → Ms → Option (Ms)} (C : CM p s m args meth c d g cX9_cutAll 7 none) (hRm : 2 ≤ R.frames ∧ 40 ≤ R.locals) (hr17 : ∀ (x1 : Int32) (x2 : Int32) (S : Ms) (H : Heap) (locs : List Loc) (ls : Array Slot), r17 x1 x2 S = some o → RM d g S H → va_S (AM g) s.heap H locs → lv_has ls 7 [(0, .ref g.1), (1, .int x1), (2, .int x2)] → W p l e R s m args below meth c H locs 0 0 (MQ below (QV d g o) args s 0 0 (AM g)) (F0 m 17 ls [])) (hk293 : ∀ (x1 : Int32) (S : Ms) (H : Heap) (locs : List Loc) (ls : Array Slot), k293 x1 S = some o → RM d g S H → va_S (AM g) s.heap H locs → lv_has ls 7 [(0, .ref g.1), (1, .int x1)] → W p l e R s m args below meth c H locs 0 0 (MQ below (QV d g o) args s 0 0 (AM g)) (F0 m 293 ls [])) (x1 : Int32) (x2 : Int32) (x4 : Int32) (x5 : Int64) (S : Ms) (H : Heap) (locs : List Loc) (ls : Array Slot) (hf : bM_cutAll_141 N r17 k293 x1 x2 x4 x5 S = some o) (hR : RM d g S H) (hS : va_S (AM g) s.heap H locs) (hl : lv_has ls 7 [(0, .ref g.1), (1, .int x1), (2, .int x2), (4, .int x4), (5, .long x5)]) : W p l e R s m args below meth c H locs 0 0 (MQ below (QV d g o) args s 0 0 (AM g)) (F0 m 141 ls []) := by
  obtain ⟨hx, hb, hml, hown, hts, hK, hg, hr, hlk⟩ := id C
  unfold bM_cutAll_141 at hf
  refine lv_aload_n hx hb dX9_cutAll_141 rfl (lv_at hl 0 rfl) ?_
  refine mr_getR C hR fl_24 (by decide) dX9_cutAll_142 ?_
  refine lv_iload_n hx hb dX9_cutAll_145 rfl (lv_at hl 1 rfl) ?_
  refine lv_iload_n hx hb dX9_cutAll_146 rfl (lv_at hl 2 rfl) ?_
  refine lv_iload hx hb dX9_cutAll_147 (lv_at hl 3 rfl) ?_
  refine lv_isub hx hb dX9_cutAll_149 ?_
  refine lv_bipush (v := 12) hx hb dX9_cutAll_150 (by decide) ?_
  refine lv_icmp_le (tgt := 159) hx hb dX9_cutAll_152 (by decide) (fun hc => ?_) (fun hc => ?_)
  · rw [if_pos hc] at hf
    refine lv_iconst (v := 1) hx hb dX9_cutAll_159 (by decide) ?_
    exact (wbM_cutAll_160 C hRm hr17 hk293) _ _ _ _ _ _ _ _ _ hf hR hS (lv_sub hl [0, 1, 2, 4] rfl)
  · rw [if_neg hc] at hf
    refine lv_iconst (v := 4) hx hb dX9_cutAll_155 (by decide) ?_
    refine lv_goto (tgt := 160) hx hb dX9_cutAll_156 (by decide) ?_
    exact (wbM_cutAll_160 C hRm hr17 hk293) _ _ _ _ _ _ _ _ _ hf hR hS (lv_sub hl [0, 1, 2, 4] rfl)
def bM_cutAll_223 (N : Nat) (r171 : Int32 → Int32 → Int32 → Int64 → Ms → Option (Ms)) (k231 : Int32 → Int32 → Int32 → Int64 → Ms → Option (Ms)) (x1 : Int32) (x2 : Int32) (x4 : Int32) (s0 : Int64) (S : Ms) : Option (Ms) := r171 x1 (x2 + 1) x4 s0 S
set_option maxRecDepth 100000 in
set_option maxHeartbeats 4000000 in
theorem wbM_cutAll_223 {p : Program} {l : Launch} {e : Env} {R : Room} {s : State} {m : MethodId} {args : Array Value} {below : List Frame} {meth : Method} {c : Code} {d : Dd} {g : Gm} {o : Ms} {N : Nat} {r171 : Int32 → Int32 → Int32 → Int64 → Ms → Option (Ms)} {k231 : Int32 → Int32 → Int32 → Int64 → Ms → Option (Ms)} (C : CM p s m args meth c d g cX9_cutAll 7 none) (hRm : 2 ≤ R.frames ∧ 40 ≤ R.locals) (hr171 : ∀ (x1 : Int32) (x2 : Int32) (x4 : Int32) (x5 : Int64) (S : Ms) (H : Heap) (locs : List Loc) (ls : Array Slot), r171 x1 x2 x4 x5 S = some o → RM d g S H → va_S (AM g) s.heap H locs → lv_has ls 7 [(0, .ref g.1), (1, .int x1), (2, .int x2), (4, .int x4), (5, .long x5)] → W p l e R s m args below meth c H locs 0 0 (MQ below (QV d g o) args s 0 0 (AM g)) (F0 m 171 ls [])) (hk231 : ∀ (x1 : Int32) (x2 : Int32) (x4 : Int32) (x5 : Int64) (S : Ms) (H : Heap) (locs : List Loc) (ls : Array Slot), k231 x1 x2 x4 x5 S = some o → RM d g S H → va_S (AM g) s.heap H locs → lv_has ls 7 [(0, .ref g.1), (1, .int x1), (2, .int x2), (4, .int x4), (5, .long x5)] → W p l e R s m args below meth c H locs 0 0 (MQ below (QV d g o) args s 0 0 (AM g)) (F0 m 231 ls [])) (x1 : Int32) (x2 : Int32) (x4 : Int32) (s0 : Int64) (S : Ms) (H : Heap) (locs : List Loc) (ls : Array Slot) (hf : bM_cutAll_223 N r171 k231 x1 x2 x4 s0 S = some o) (hR : RM d g S H) (hS : va_S (AM g) s.heap H locs) (hl : lv_has ls 7 [(0, .ref g.1), (1, .int x1), (2, .int x2), (4, .int x4)]) : W p l e R s m args below meth c H locs 0 0 (MQ below (QV d g o) args s 0 0 (AM g)) (F0 m 223 ls [.long s0]) := by
  obtain ⟨hx, hb, hml, hown, hts, hK, hg, hr, hlk⟩ := id C
  unfold bM_cutAll_223 at hf
  refine lv_lstore (lv' := [(5, .long s0), (0, .ref g.1), (1, .int x1), (2, .int x2), (4, .int x4)]) hx hb dX9_cutAll_223 hl (by decide) rfl (fun ls hl => ?_)
  refine lv_iinc (v := x2 + 1) (lv' := [(2, .int (x2 + 1)), (5, .long s0), (0, .ref g.1), (1, .int x1), (4, .int x4)]) hx hb dX9_cutAll_225 hl (k := 3) rfl rfl (by decide) rfl (fun ls hl => ?_)
  refine lv_goto (tgt := 171) hx hb dX9_cutAll_228 (by decide) ?_
  exact hr171 _ _ _ _ _ _ _ _ hf hR hS (lv_sub hl [2, 3, 0, 4, 1] rfl)
def lM_cutAll_171 (N : Nat) (k231 : Int32 → Int32 → Int32 → Int64 → Ms → Option (Ms)) : Nat → Int32 → Int32 → Int32 → Int64 → Ms → Option (Ms)
  | 0, _, _, _, _, _ => none
  | n + 1, x1, x2, x4, x5, S => if (mF S 3) ≤ x2 then (k231 x1 x2 x4 x5 S) else (ck x2 4000 ((fM_isDigit N (mA S 1 (x2 : Int32).toNatClampNeg) S).bind fun o185 => if o185.1 = 0 then (k231 x1 x2 x4 x5 o185.2) else (if 9 ≤ (x2 - x4) then ((bM_cutAll_223 N (lM_cutAll_171 N k231 n) k231) x1 x2 x4 x5 o185.2) else (ck x2 4000 ((bM_cutAll_223 N (lM_cutAll_171 N k231 n) k231) x1 x2 x4 (((10 * x5) + ((mA o185.2 1 (x2 : Int32).toNatClampNeg : Int32).toInt64)) - 48) o185.2)))))
set_option maxRecDepth 100000 in
set_option maxHeartbeats 4000000 in
theorem wlM_cutAll_171 {p : Program} {l : Launch} {e : Env} {R : Room} {s : State} {m : MethodId} {args : Array Value} {below : List Frame} {meth : Method} {c : Code} {d : Dd} {g : Gm} {o : Ms} {N : Nat} {k231 : Int32 → Int32 → Int32 → Int64 → Ms → Option (Ms)} (C : CM p s m args meth c d g cX9_cutAll 7 none) (hRm : 2 ≤ R.frames ∧ 40 ≤ R.locals) (hk231 : ∀ (x1 : Int32) (x2 : Int32) (x4 : Int32) (x5 : Int64) (S : Ms) (H : Heap) (locs : List Loc) (ls : Array Slot), k231 x1 x2 x4 x5 S = some o → RM d g S H → va_S (AM g) s.heap H locs → lv_has ls 7 [(0, .ref g.1), (1, .int x1), (2, .int x2), (4, .int x4), (5, .long x5)] → W p l e R s m args below meth c H locs 0 0 (MQ below (QV d g o) args s 0 0 (AM g)) (F0 m 231 ls [])) : ∀ (n : Nat) (x1 : Int32) (x2 : Int32) (x4 : Int32) (x5 : Int64) (S : Ms) (H : Heap) (locs : List Loc) (ls : Array Slot), lM_cutAll_171 N k231 n x1 x2 x4 x5 S = some o → RM d g S H → va_S (AM g) s.heap H locs → lv_has ls 7 [(0, .ref g.1), (1, .int x1), (2, .int x2), (4, .int x4), (5, .long x5)] → W p l e R s m args below meth c H locs 0 0 (MQ below (QV d g o) args s 0 0 (AM g)) (F0 m 171 ls []) := by
  obtain ⟨hx, hb, hml, hown, hts, hK, hg, hr, hlk⟩ := id C
  intro n
  induction n with
  | zero => intro x1 x2 x4 x5 S H locs ls hf; cases hf
  | succ n ih =>
    intro x1 x2 x4 x5 S H locs ls hf hR hS hl
    rw [lM_cutAll_171] at hf
    refine lv_iload_n hx hb dX9_cutAll_171 rfl (lv_at hl 2 rfl) ?_
    refine lv_aload_n hx hb dX9_cutAll_172 rfl (lv_at hl 0 rfl) ?_
    refine mr_getI C hR fl_265 rfl dX9_cutAll_173 ?_
    refine lv_icmp_ge (tgt := 231) hx hb dX9_cutAll_176 (by decide) (fun hc => ?_) (fun hc => ?_)
    · rw [if_pos hc] at hf
      exact hk231 _ _ _ _ _ _ _ _ hf hR hS (lv_sub hl [0, 1, 2, 3, 4] rfl)
    · rw [if_neg hc] at hf
      refine lv_aload_n hx hb dX9_cutAll_179 rfl (lv_at hl 0 rfl) ?_
      refine mr_getR C hR fl_14 (by decide) dX9_cutAll_180 ?_
      refine lv_iload_n hx hb dX9_cutAll_183 rfl (lv_at hl 2 rfl) ?_
      obtain ⟨hi, hf⟩ := ck_some hf
      refine mr_iald C hR (k := 1) rfl hi dX9_cutAll_184 ?_
      obtain ⟨o185, ho185, hf⟩ := bnd_some hf
      refine mr_callIs C hR hS (As := [.int (mA S 1 (x2 : Int32).toNatClampNeg)]) (rest := []) (MM_isDigit l d g N (mA S 1 (x2 : Int32).toNatClampNeg) S o185 ho185) ws_268 ⟨by omega, by omega⟩ rfl rfl (Nat.le_of_ble_eq_true rfl) hl.1 dX9_cutAll_185 ⟨Nat.zero_le _, Nat.zero_le _⟩ (fun H locs hR hS => ?_)
      refine lv_if_eq (tgt := 231) hx hb dX9_cutAll_188 (by decide) (fun hc => ?_) (fun hc => ?_)
      · rw [if_pos hc] at hf
        exact hk231 _ _ _ _ _ _ _ _ hf hR hS (lv_sub hl [0, 1, 2, 3, 4] rfl)
      · rw [if_neg hc] at hf
        refine lv_iload_n hx hb dX9_cutAll_191 rfl (lv_at hl 2 rfl) ?_
        refine lv_iload hx hb dX9_cutAll_192 (lv_at hl 3 rfl) ?_
        refine lv_isub hx hb dX9_cutAll_194 ?_
        refine lv_bipush (v := 9) hx hb dX9_cutAll_195 (by decide) ?_
        refine lv_icmp_ge (tgt := 221) hx hb dX9_cutAll_197 (by decide) (fun hc => ?_) (fun hc => ?_)
        · rw [if_pos hc] at hf
          refine lv_lload hx hb dX9_cutAll_221 (lv_at hl 4 rfl) ?_
          exact (wbM_cutAll_223 C hRm ih hk231) _ _ _ _ _ _ _ _ hf hR hS (lv_sub hl [0, 1, 2, 3] rfl)
        · rw [if_neg hc] at hf
          refine lv_ldc2 hx hb hown (hts _ wd_1745) dX9_cutAll_200 ?_
          refine lv_lload hx hb dX9_cutAll_203 (lv_at hl 4 rfl) ?_
          refine lv_lmul hx hb dX9_cutAll_205 ?_
          refine lv_aload_n hx hb dX9_cutAll_206 rfl (lv_at hl 0 rfl) ?_
          refine mr_getR C hR fl_14 (by decide) dX9_cutAll_207 ?_
          refine lv_iload_n hx hb dX9_cutAll_210 rfl (lv_at hl 2 rfl) ?_
          obtain ⟨hi, hf⟩ := ck_some hf
          refine mr_iald C hR (k := 1) rfl hi dX9_cutAll_211 ?_
          refine lv_i2l (v := (mA o185.2 1 (x2 : Int32).toNatClampNeg : Int32).toInt64) hx hb dX9_cutAll_212 rfl ?_
          refine lv_ladd hx hb dX9_cutAll_213 ?_
          refine lv_ldc2 hx hb hown (hts _ wd_1746) dX9_cutAll_214 ?_
          refine lv_lsub hx hb dX9_cutAll_217 ?_
          refine lv_goto (tgt := 223) hx hb dX9_cutAll_218 (by decide) ?_
          exact (wbM_cutAll_223 C hRm ih hk231) _ _ _ _ _ _ _ _ hf hR hS (lv_sub hl [0, 1, 2, 3] rfl)
def bM_cutAll_250 (N : Nat) (r17 : Int32 → Int32 → Ms → Option (Ms)) (k293 : Int32 → Ms → Option (Ms)) (x1 : Int32) (x2 : Int32) (x5 : Int64) (s1 : Int32) (s2 : Int32) (S : Ms) : Option (Ms) := ck s1 4002 ((bM_cutAll_279 N r17 k293) x1 x2 x5 (pA S 4 (s1 : Int32).toNatClampNeg s2))
set_option maxRecDepth 100000 in
set_option maxHeartbeats 4000000 in
theorem wbM_cutAll_250 {p : Program} {l : Launch} {e : Env} {R : Room} {s : State} {m : MethodId} {args : Array Value} {below : List Frame} {meth : Method} {c : Code} {d : Dd} {g : Gm} {o : Ms} {N : Nat} {r17 : Int32 → Int32 → Ms → Option (Ms)} {k293 : Int32 → Ms → Option (Ms)} (C : CM p s m args meth c d g cX9_cutAll 7 none) (hRm : 2 ≤ R.frames ∧ 40 ≤ R.locals) (hr17 : ∀ (x1 : Int32) (x2 : Int32) (S : Ms) (H : Heap) (locs : List Loc) (ls : Array Slot), r17 x1 x2 S = some o → RM d g S H → va_S (AM g) s.heap H locs → lv_has ls 7 [(0, .ref g.1), (1, .int x1), (2, .int x2)] → W p l e R s m args below meth c H locs 0 0 (MQ below (QV d g o) args s 0 0 (AM g)) (F0 m 17 ls [])) (hk293 : ∀ (x1 : Int32) (S : Ms) (H : Heap) (locs : List Loc) (ls : Array Slot), k293 x1 S = some o → RM d g S H → va_S (AM g) s.heap H locs → lv_has ls 7 [(0, .ref g.1), (1, .int x1)] → W p l e R s m args below meth c H locs 0 0 (MQ below (QV d g o) args s 0 0 (AM g)) (F0 m 293 ls [])) (x1 : Int32) (x2 : Int32) (x5 : Int64) (s1 : Int32) (s2 : Int32) (S : Ms) (H : Heap) (locs : List Loc) (ls : Array Slot) (hf : bM_cutAll_250 N r17 k293 x1 x2 x5 s1 s2 S = some o) (hR : RM d g S H) (hS : va_S (AM g) s.heap H locs) (hl : lv_has ls 7 [(0, .ref g.1), (1, .int x1), (2, .int x2), (5, .long x5)]) : W p l e R s m args below meth c H locs 0 0 (MQ below (QV d g o) args s 0 0 (AM g)) (F0 m 250 ls [.int s2, .int s1, .ref (g.2 4)]) := by
  obtain ⟨hx, hb, hml, hown, hts, hK, hg, hr, hlk⟩ := id C
  unfold bM_cutAll_250 at hf
  obtain ⟨hi, hf⟩ := ck_some hf
  refine mr_iast C hR hS (k := 4) rfl hi dX9_cutAll_250 (fun H locs hR hS => ?_)
  refine lv_goto (tgt := 279) hx hb dX9_cutAll_251 (by decide) ?_
  exact (wbM_cutAll_279 C hRm hr17 hk293) _ _ _ _ _ _ _ hf hR hS (lv_sub hl [0, 1, 2, 3] rfl)
def bM_cutAll_231 (N : Nat) (r17 : Int32 → Int32 → Ms → Option (Ms)) (k293 : Int32 → Ms → Option (Ms)) (x1 : Int32) (x2 : Int32) (x4 : Int32) (x5 : Int64) (S : Ms) : Option (Ms) := if (x2 - x4) ≤ 9 then ((bM_cutAll_250 N r17 k293) x1 x2 x5 x1 2 S) else ((bM_cutAll_250 N r17 k293) x1 x2 x5 x1 4 S)
set_option maxRecDepth 100000 in
set_option maxHeartbeats 4000000 in
theorem wbM_cutAll_231 {p : Program} {l : Launch} {e : Env} {R : Room} {s : State} {m : MethodId} {args : Array Value} {below : List Frame} {meth : Method} {c : Code} {d : Dd} {g : Gm} {o : Ms} {N : Nat} {r17 : Int32 → Int32 → Ms → Option (Ms)} {k293 : Int32 → Ms → Option (Ms)} (C : CM p s m args meth c d g cX9_cutAll 7 none) (hRm : 2 ≤ R.frames ∧ 40 ≤ R.locals) (hr17 : ∀ (x1 : Int32) (x2 : Int32) (S : Ms) (H : Heap) (locs : List Loc) (ls : Array Slot), r17 x1 x2 S = some o → RM d g S H → va_S (AM g) s.heap H locs → lv_has ls 7 [(0, .ref g.1), (1, .int x1), (2, .int x2)] → W p l e R s m args below meth c H locs 0 0 (MQ below (QV d g o) args s 0 0 (AM g)) (F0 m 17 ls [])) (hk293 : ∀ (x1 : Int32) (S : Ms) (H : Heap) (locs : List Loc) (ls : Array Slot), k293 x1 S = some o → RM d g S H → va_S (AM g) s.heap H locs → lv_has ls 7 [(0, .ref g.1), (1, .int x1)] → W p l e R s m args below meth c H locs 0 0 (MQ below (QV d g o) args s 0 0 (AM g)) (F0 m 293 ls [])) (x1 : Int32) (x2 : Int32) (x4 : Int32) (x5 : Int64) (S : Ms) (H : Heap) (locs : List Loc) (ls : Array Slot) (hf : bM_cutAll_231 N r17 k293 x1 x2 x4 x5 S = some o) (hR : RM d g S H) (hS : va_S (AM g) s.heap H locs) (hl : lv_has ls 7 [(0, .ref g.1), (1, .int x1), (2, .int x2), (4, .int x4), (5, .long x5)]) : W p l e R s m args below meth c H locs 0 0 (MQ below (QV d g o) args s 0 0 (AM g)) (F0 m 231 ls []) := by
  obtain ⟨hx, hb, hml, hown, hts, hK, hg, hr, hlk⟩ := id C
  unfold bM_cutAll_231 at hf
  refine lv_aload_n hx hb dX9_cutAll_231 rfl (lv_at hl 0 rfl) ?_
  refine mr_getR C hR fl_24 (by decide) dX9_cutAll_232 ?_
  refine lv_iload_n hx hb dX9_cutAll_235 rfl (lv_at hl 1 rfl) ?_
  refine lv_iload_n hx hb dX9_cutAll_236 rfl (lv_at hl 2 rfl) ?_
  refine lv_iload hx hb dX9_cutAll_237 (lv_at hl 3 rfl) ?_
  refine lv_isub hx hb dX9_cutAll_239 ?_
  refine lv_bipush (v := 9) hx hb dX9_cutAll_240 (by decide) ?_
  refine lv_icmp_le (tgt := 249) hx hb dX9_cutAll_242 (by decide) (fun hc => ?_) (fun hc => ?_)
  · rw [if_pos hc] at hf
    refine lv_iconst (v := 2) hx hb dX9_cutAll_249 (by decide) ?_
    exact (wbM_cutAll_250 C hRm hr17 hk293) _ _ _ _ _ _ _ _ _ hf hR hS (lv_sub hl [0, 1, 2, 4] rfl)
  · rw [if_neg hc] at hf
    refine lv_iconst (v := 4) hx hb dX9_cutAll_245 (by decide) ?_
    refine lv_goto (tgt := 250) hx hb dX9_cutAll_246 (by decide) ?_
    exact (wbM_cutAll_250 C hRm hr17 hk293) _ _ _ _ _ _ _ _ _ hf hR hS (lv_sub hl [0, 1, 2, 4] rfl)
def bM_cutAll_275 (N : Nat) (r17 : Int32 → Int32 → Ms → Option (Ms)) (k293 : Int32 → Ms → Option (Ms)) (x1 : Int32) (x2 : Int32) (x5 : Int64) (s1 : Int32) (s2 : Int32) (S : Ms) : Option (Ms) := ck s1 4002 ((bM_cutAll_279 N r17 k293) x1 (x2 + 1) x5 (pA S 4 (s1 : Int32).toNatClampNeg s2))
set_option maxRecDepth 100000 in
set_option maxHeartbeats 4000000 in
theorem wbM_cutAll_275 {p : Program} {l : Launch} {e : Env} {R : Room} {s : State} {m : MethodId} {args : Array Value} {below : List Frame} {meth : Method} {c : Code} {d : Dd} {g : Gm} {o : Ms} {N : Nat} {r17 : Int32 → Int32 → Ms → Option (Ms)} {k293 : Int32 → Ms → Option (Ms)} (C : CM p s m args meth c d g cX9_cutAll 7 none) (hRm : 2 ≤ R.frames ∧ 40 ≤ R.locals) (hr17 : ∀ (x1 : Int32) (x2 : Int32) (S : Ms) (H : Heap) (locs : List Loc) (ls : Array Slot), r17 x1 x2 S = some o → RM d g S H → va_S (AM g) s.heap H locs → lv_has ls 7 [(0, .ref g.1), (1, .int x1), (2, .int x2)] → W p l e R s m args below meth c H locs 0 0 (MQ below (QV d g o) args s 0 0 (AM g)) (F0 m 17 ls [])) (hk293 : ∀ (x1 : Int32) (S : Ms) (H : Heap) (locs : List Loc) (ls : Array Slot), k293 x1 S = some o → RM d g S H → va_S (AM g) s.heap H locs → lv_has ls 7 [(0, .ref g.1), (1, .int x1)] → W p l e R s m args below meth c H locs 0 0 (MQ below (QV d g o) args s 0 0 (AM g)) (F0 m 293 ls [])) (x1 : Int32) (x2 : Int32) (x5 : Int64) (s1 : Int32) (s2 : Int32) (S : Ms) (H : Heap) (locs : List Loc) (ls : Array Slot) (hf : bM_cutAll_275 N r17 k293 x1 x2 x5 s1 s2 S = some o) (hR : RM d g S H) (hS : va_S (AM g) s.heap H locs) (hl : lv_has ls 7 [(0, .ref g.1), (1, .int x1), (2, .int x2), (5, .long x5)]) : W p l e R s m args below meth c H locs 0 0 (MQ below (QV d g o) args s 0 0 (AM g)) (F0 m 275 ls [.int s2, .int s1, .ref (g.2 4)]) := by
  obtain ⟨hx, hb, hml, hown, hts, hK, hg, hr, hlk⟩ := id C
  unfold bM_cutAll_275 at hf
  obtain ⟨hi, hf⟩ := ck_some hf
  refine mr_iast C hR hS (k := 4) rfl hi dX9_cutAll_275 (fun H locs hR hS => ?_)
  refine lv_iinc (v := x2 + 1) (lv' := [(2, .int (x2 + 1)), (0, .ref g.1), (1, .int x1), (5, .long x5)]) hx hb dX9_cutAll_276 hl (k := 2) rfl rfl (by decide) rfl (fun ls hl => ?_)
  exact (wbM_cutAll_279 C hRm hr17 hk293) _ _ _ _ _ _ _ hf hR hS (lv_sub hl [1, 2, 0, 3] rfl)
def lM_cutAll_17 (N : Nat) (k293 : Int32 → Ms → Option (Ms)) : Nat → Int32 → Int32 → Ms → Option (Ms)
  | 0, _, _, _ => none
  | n + 1, x1, x2, S => if (mF S 3) ≤ x2 then (k293 x1 S) else (ck x2 4000 (if (mA S 1 (x2 : Int32).toNatClampNeg) = 10 then ((bM_cutAll_44 N (lM_cutAll_17 N k293 n) k293) x1 x2 S) else (if (mA S 1 (x2 : Int32).toNatClampNeg) = 32 then ((bM_cutAll_44 N (lM_cutAll_17 N k293 n) k293) x1 x2 S) else (ck x1 4002 ((fM_isLetter N (mA S 1 (x2 : Int32).toNatClampNeg) (pA S 5 (x1 : Int32).toNatClampNeg x2)).bind fun o64 => if o64.1 = 0 then ((fM_isDigit N (mA S 1 (x2 : Int32).toNatClampNeg) o64.2).bind fun o165 => if o165.1 = 0 then ((fM_isSignOf N (mA S 1 (x2 : Int32).toNatClampNeg) o165.2).bind fun o264 => if o264.1 = 0 then ((bM_cutAll_275 N (lM_cutAll_17 N k293 n) k293) x1 x2 ((mA S 1 (x2 : Int32).toNatClampNeg : Int32).toInt64) x1 4 o264.2) else ((bM_cutAll_275 N (lM_cutAll_17 N k293 n) k293) x1 x2 ((mA S 1 (x2 : Int32).toNatClampNeg : Int32).toInt64) x1 3 o264.2)) else ((lM_cutAll_171 N (bM_cutAll_231 N (lM_cutAll_17 N k293 n) k293) N) x1 x2 x2 0 o165.2)) else ((lM_cutAll_70 N (bM_cutAll_141 N (lM_cutAll_17 N k293 n) k293) N) x1 x2 x2 0 o64.2))))))
set_option maxRecDepth 100000 in
set_option maxHeartbeats 4000000 in
theorem wlM_cutAll_17 {p : Program} {l : Launch} {e : Env} {R : Room} {s : State} {m : MethodId} {args : Array Value} {below : List Frame} {meth : Method} {c : Code} {d : Dd} {g : Gm} {o : Ms} {N : Nat} {k293 : Int32 → Ms → Option (Ms)} (C : CM p s m args meth c d g cX9_cutAll 7 none) (hRm : 2 ≤ R.frames ∧ 40 ≤ R.locals) (hk293 : ∀ (x1 : Int32) (S : Ms) (H : Heap) (locs : List Loc) (ls : Array Slot), k293 x1 S = some o → RM d g S H → va_S (AM g) s.heap H locs → lv_has ls 7 [(0, .ref g.1), (1, .int x1)] → W p l e R s m args below meth c H locs 0 0 (MQ below (QV d g o) args s 0 0 (AM g)) (F0 m 293 ls [])) : ∀ (n : Nat) (x1 : Int32) (x2 : Int32) (S : Ms) (H : Heap) (locs : List Loc) (ls : Array Slot), lM_cutAll_17 N k293 n x1 x2 S = some o → RM d g S H → va_S (AM g) s.heap H locs → lv_has ls 7 [(0, .ref g.1), (1, .int x1), (2, .int x2)] → W p l e R s m args below meth c H locs 0 0 (MQ below (QV d g o) args s 0 0 (AM g)) (F0 m 17 ls []) := by
  obtain ⟨hx, hb, hml, hown, hts, hK, hg, hr, hlk⟩ := id C
  intro n
  induction n with
  | zero => intro x1 x2 S H locs ls hf; cases hf
  | succ n ih =>
    intro x1 x2 S H locs ls hf hR hS hl
    rw [lM_cutAll_17] at hf
    refine lv_iload_n hx hb dX9_cutAll_17 rfl (lv_at hl 2 rfl) ?_
    refine lv_aload_n hx hb dX9_cutAll_18 rfl (lv_at hl 0 rfl) ?_
    refine mr_getI C hR fl_265 rfl dX9_cutAll_19 ?_
    refine lv_icmp_ge (tgt := 293) hx hb dX9_cutAll_22 (by decide) (fun hc => ?_) (fun hc => ?_)
    · rw [if_pos hc] at hf
      exact hk293 _ _ _ _ _ hf hR hS (lv_sub hl [0, 1] rfl)
    · rw [if_neg hc] at hf
      refine lv_aload_n hx hb dX9_cutAll_25 rfl (lv_at hl 0 rfl) ?_
      refine mr_getR C hR fl_14 (by decide) dX9_cutAll_26 ?_
      refine lv_iload_n hx hb dX9_cutAll_29 rfl (lv_at hl 2 rfl) ?_
      obtain ⟨hi, hf⟩ := ck_some hf
      refine mr_iald C hR (k := 1) rfl hi dX9_cutAll_30 ?_
      refine lv_istore_n (lv' := [(3, .int (mA S 1 (x2 : Int32).toNatClampNeg)), (0, .ref g.1), (1, .int x1), (2, .int x2)]) hx hb dX9_cutAll_31 rfl hl (by decide) rfl (fun ls hl => ?_)
      refine lv_iload_n hx hb dX9_cutAll_32 rfl (lv_at hl 0 rfl) ?_
      refine lv_bipush (v := 10) hx hb dX9_cutAll_33 (by decide) ?_
      refine lv_icmp_eq (tgt := 44) hx hb dX9_cutAll_35 (by decide) (fun hc => ?_) (fun hc => ?_)
      · rw [if_pos hc] at hf
        exact (wbM_cutAll_44 C hRm ih hk293) _ _ _ _ _ _ hf hR hS (lv_sub hl [1, 2, 3] rfl)
      · rw [if_neg hc] at hf
        refine lv_iload_n hx hb dX9_cutAll_38 rfl (lv_at hl 0 rfl) ?_
        refine lv_bipush (v := 32) hx hb dX9_cutAll_39 (by decide) ?_
        refine lv_icmp_ne (tgt := 50) hx hb dX9_cutAll_41 (by decide) (fun hc => ?_) (fun hc => ?_)
        · rw [if_neg hc] at hf
          refine lv_iload_n hx hb dX9_cutAll_50 rfl (lv_at hl 3 rfl) ?_
          refine lv_istore (lv' := [(4, .int x2), (3, .int (mA S 1 (x2 : Int32).toNatClampNeg)), (0, .ref g.1), (1, .int x1), (2, .int x2)]) hx hb dX9_cutAll_51 hl (by decide) rfl (fun ls hl => ?_)
          refine lv_lconst (v := 0) hx hb dX9_cutAll_53 (by decide) ?_
          refine lv_lstore (lv' := [(5, .long 0), (4, .int x2), (3, .int (mA S 1 (x2 : Int32).toNatClampNeg)), (0, .ref g.1), (1, .int x1), (2, .int x2)]) hx hb dX9_cutAll_54 hl (by decide) rfl (fun ls hl => ?_)
          refine lv_aload_n hx hb dX9_cutAll_56 rfl (lv_at hl 3 rfl) ?_
          refine mr_getR C hR fl_27 (by decide) dX9_cutAll_57 ?_
          refine lv_iload_n hx hb dX9_cutAll_60 rfl (lv_at hl 4 rfl) ?_
          refine lv_iload_n hx hb dX9_cutAll_61 rfl (lv_at hl 5 rfl) ?_
          obtain ⟨hi, hf⟩ := ck_some hf
          refine mr_iast C hR hS (k := 5) rfl hi dX9_cutAll_62 (fun H locs hR hS => ?_)
          refine lv_iload_n hx hb dX9_cutAll_63 rfl (lv_at hl 2 rfl) ?_
          obtain ⟨o64, ho64, hf⟩ := bnd_some hf
          refine mr_callIs C hR hS (As := [.int (mA S 1 (x2 : Int32).toNatClampNeg)]) (rest := []) (MM_isLetter l d g N (mA S 1 (x2 : Int32).toNatClampNeg) (pA S 5 (x1 : Int32).toNatClampNeg x2) o64 ho64) ws_261 ⟨by omega, by omega⟩ rfl rfl (Nat.le_of_ble_eq_true rfl) hl.1 dX9_cutAll_64 ⟨Nat.zero_le _, Nat.zero_le _⟩ (fun H locs hR hS => ?_)
          refine lv_if_eq (tgt := 164) hx hb dX9_cutAll_67 (by decide) (fun hc => ?_) (fun hc => ?_)
          · rw [if_pos hc] at hf
            refine lv_iload_n hx hb dX9_cutAll_164 rfl (lv_at hl 2 rfl) ?_
            obtain ⟨o165, ho165, hf⟩ := bnd_some hf
            refine mr_callIs C hR hS (As := [.int (mA S 1 (x2 : Int32).toNatClampNeg)]) (rest := []) (MM_isDigit l d g N (mA S 1 (x2 : Int32).toNatClampNeg) o64.2 o165 ho165) ws_268 ⟨by omega, by omega⟩ rfl rfl (Nat.le_of_ble_eq_true rfl) hl.1 dX9_cutAll_165 ⟨Nat.zero_le _, Nat.zero_le _⟩ (fun H locs hR hS => ?_)
            refine lv_if_eq (tgt := 254) hx hb dX9_cutAll_168 (by decide) (fun hc => ?_) (fun hc => ?_)
            · rw [if_pos hc] at hf
              refine lv_iload_n hx hb dX9_cutAll_254 rfl (lv_at hl 2 rfl) ?_
              refine lv_i2l (v := (mA S 1 (x2 : Int32).toNatClampNeg : Int32).toInt64) hx hb dX9_cutAll_255 rfl ?_
              refine lv_lstore (lv' := [(5, .long ((mA S 1 (x2 : Int32).toNatClampNeg : Int32).toInt64)), (4, .int x2), (3, .int (mA S 1 (x2 : Int32).toNatClampNeg)), (0, .ref g.1), (1, .int x1), (2, .int x2)]) hx hb dX9_cutAll_256 hl (by decide) rfl (fun ls hl => ?_)
              refine lv_aload_n hx hb dX9_cutAll_258 rfl (lv_at hl 3 rfl) ?_
              refine mr_getR C hR fl_24 (by decide) dX9_cutAll_259 ?_
              refine lv_iload_n hx hb dX9_cutAll_262 rfl (lv_at hl 4 rfl) ?_
              refine lv_iload_n hx hb dX9_cutAll_263 rfl (lv_at hl 2 rfl) ?_
              obtain ⟨o264, ho264, hf⟩ := bnd_some hf
              refine mr_callIs C hR hS (As := [.int (mA S 1 (x2 : Int32).toNatClampNeg)]) (rest := [.int x1, .ref (g.2 4)]) (MM_isSignOf l d g N (mA S 1 (x2 : Int32).toNatClampNeg) o165.2 o264 ho264) ws_275 ⟨by omega, by omega⟩ rfl rfl (Nat.le_of_ble_eq_true rfl) hl.1 dX9_cutAll_264 ⟨Nat.zero_le _, Nat.zero_le _⟩ (fun H locs hR hS => ?_)
              refine lv_if_eq (tgt := 274) hx hb dX9_cutAll_267 (by decide) (fun hc => ?_) (fun hc => ?_)
              · rw [if_pos hc] at hf
                refine lv_iconst (v := 4) hx hb dX9_cutAll_274 (by decide) ?_
                exact (wbM_cutAll_275 C hRm ih hk293) _ _ _ _ _ _ _ _ _ hf hR hS (lv_sub hl [3, 4, 5, 0] rfl)
              · rw [if_neg hc] at hf
                refine lv_iconst (v := 3) hx hb dX9_cutAll_270 (by decide) ?_
                refine lv_goto (tgt := 275) hx hb dX9_cutAll_271 (by decide) ?_
                exact (wbM_cutAll_275 C hRm ih hk293) _ _ _ _ _ _ _ _ _ hf hR hS (lv_sub hl [3, 4, 5, 0] rfl)
            · rw [if_neg hc] at hf
              exact (wlM_cutAll_171 C hRm (wbM_cutAll_231 C hRm ih hk293) N) _ _ _ _ _ _ _ _ hf hR hS (lv_sub hl [3, 4, 5, 1, 0] rfl)
          · rw [if_neg hc] at hf
            exact (wlM_cutAll_70 C hRm (wbM_cutAll_141 C hRm ih hk293) N) _ _ _ _ _ _ _ _ hf hR hS (lv_sub hl [3, 4, 5, 1, 0] rfl)
        · rw [if_pos hc] at hf
          exact (wbM_cutAll_44 C hRm ih hk293) _ _ _ _ _ _ hf hR hS (lv_sub hl [1, 2, 3] rfl)
def bM_cutAll_293 (N : Nat) (x1 : Int32) (S : Ms) : Option (Ms) := ck x1 4002 (ck x1 4002 (some (pF (pF (pA (pA S 4 (x1 : Int32).toNatClampNeg 0) 5 (x1 : Int32).toNatClampNeg (mF (pA S 4 (x1 : Int32).toNatClampNeg 0) 3)) 7 0) 8 0)))
set_option maxRecDepth 100000 in
set_option maxHeartbeats 4000000 in
theorem wbM_cutAll_293 {p : Program} {l : Launch} {e : Env} {R : Room} {s : State} {m : MethodId} {args : Array Value} {below : List Frame} {meth : Method} {c : Code} {d : Dd} {g : Gm} {o : Ms} {N : Nat} (C : CM p s m args meth c d g cX9_cutAll 7 none) (hRm : 2 ≤ R.frames ∧ 40 ≤ R.locals) (x1 : Int32) (S : Ms) (H : Heap) (locs : List Loc) (ls : Array Slot) (hf : bM_cutAll_293 N x1 S = some o) (hR : RM d g S H) (hS : va_S (AM g) s.heap H locs) (hl : lv_has ls 7 [(0, .ref g.1), (1, .int x1)]) : W p l e R s m args below meth c H locs 0 0 (MQ below (QV d g o) args s 0 0 (AM g)) (F0 m 293 ls []) := by
  obtain ⟨hx, hb, hml, hown, hts, hK, hg, hr, hlk⟩ := id C
  unfold bM_cutAll_293 at hf
  refine lv_aload_n hx hb dX9_cutAll_293 rfl (lv_at hl 0 rfl) ?_
  refine mr_getR C hR fl_24 (by decide) dX9_cutAll_294 ?_
  refine lv_iload_n hx hb dX9_cutAll_297 rfl (lv_at hl 1 rfl) ?_
  refine lv_iconst (v := 0) hx hb dX9_cutAll_298 (by decide) ?_
  obtain ⟨hi, hf⟩ := ck_some hf
  refine mr_iast C hR hS (k := 4) rfl hi dX9_cutAll_299 (fun H locs hR hS => ?_)
  refine lv_aload_n hx hb dX9_cutAll_300 rfl (lv_at hl 0 rfl) ?_
  refine mr_getR C hR fl_27 (by decide) dX9_cutAll_301 ?_
  refine lv_iload_n hx hb dX9_cutAll_304 rfl (lv_at hl 1 rfl) ?_
  refine lv_aload_n hx hb dX9_cutAll_305 rfl (lv_at hl 0 rfl) ?_
  refine mr_getI C hR fl_265 rfl dX9_cutAll_306 ?_
  obtain ⟨hi, hf⟩ := ck_some hf
  refine mr_iast C hR hS (k := 5) rfl hi dX9_cutAll_309 (fun H locs hR hS => ?_)
  refine lv_aload_n hx hb dX9_cutAll_310 rfl (lv_at hl 0 rfl) ?_
  refine lv_iconst (v := 0) hx hb dX9_cutAll_311 (by decide) ?_
  refine mr_putI C hR hS fl_278 ⟨rfl, rfl, rfl⟩ dX9_cutAll_312 (fun H locs hR hS => ?_)
  refine lv_aload_n hx hb dX9_cutAll_315 rfl (lv_at hl 0 rfl) ?_
  refine lv_iconst (v := 0) hx hb dX9_cutAll_316 (by decide) ?_
  refine mr_putI C hR hS fl_281 ⟨rfl, rfl, rfl⟩ dX9_cutAll_317 (fun H locs hR hS => ?_)
  exact mr_vret C hR hS hf dX9_cutAll_320
def fM_cutAll (N : Nat)  (S : Ms) : Option (Ms) := (lM_cutAll_17 N (bM_cutAll_293 N) N) 0 0 (pF (pF S 3 (mF S 2)) 2 0)
set_option maxRecDepth 100000 in
set_option maxHeartbeats 4000000 in
theorem wfM_cutAll {p : Program} {l : Launch} {e : Env} {R : Room} {s : State} {m : MethodId} {args : Array Value} {below : List Frame} {meth : Method} {c : Code} {d : Dd} {g : Gm} {o : Ms} {N : Nat} (C : CM p s m args meth c d g cX9_cutAll 7 none) (hRm : 2 ≤ R.frames ∧ 40 ≤ R.locals)  (S : Ms) (H : Heap) (locs : List Loc) (ls : Array Slot) (hf : fM_cutAll N  S = some o) (hR : RM d g S H) (hS : va_S (AM g) s.heap H locs) (hl : lv_has ls 7 [(0, .ref g.1)]) : W p l e R s m args below meth c H locs 0 0 (MQ below (QV d g o) args s 0 0 (AM g)) (F0 m 0 ls []) := by
  obtain ⟨hx, hb, hml, hown, hts, hK, hg, hr, hlk⟩ := id C
  unfold fM_cutAll at hf
  refine lv_aload_n hx hb dX9_cutAll_0 rfl (lv_at hl 0 rfl) ?_
  refine lv_aload_n hx hb dX9_cutAll_1 rfl (lv_at hl 0 rfl) ?_
  refine mr_getI C hR fl_11 rfl dX9_cutAll_2 ?_
  refine mr_putI C hR hS fl_265 ⟨rfl, rfl, rfl⟩ dX9_cutAll_5 (fun H locs hR hS => ?_)
  refine lv_aload_n hx hb dX9_cutAll_8 rfl (lv_at hl 0 rfl) ?_
  refine lv_iconst (v := 0) hx hb dX9_cutAll_9 (by decide) ?_
  refine mr_putI C hR hS fl_11 ⟨rfl, rfl, rfl⟩ dX9_cutAll_10 (fun H locs hR hS => ?_)
  refine lv_iconst (v := 0) hx hb dX9_cutAll_13 (by decide) ?_
  refine lv_istore_n (lv' := [(1, .int 0), (0, .ref g.1)]) hx hb dX9_cutAll_14 rfl hl (by decide) rfl (fun ls hl => ?_)
  refine lv_iconst (v := 0) hx hb dX9_cutAll_15 (by decide) ?_
  refine lv_istore_n (lv' := [(2, .int 0), (1, .int 0), (0, .ref g.1)]) hx hb dX9_cutAll_16 rfl hl (by decide) rfl (fun ls hl => ?_)
  exact (wlM_cutAll_17 C hRm (wbM_cutAll_293 C hRm) N) _ _ _ _ _ _ hf hR hS (lv_sub hl [2, 1, 0] rfl)
theorem MM_cutAll (l : Launch) (d : Dd) (g : Gm) (N : Nat)  (S : Ms) (o : Ms) (hf : fM_cutAll N  S = some o) : MtV l d g yX9_cutAll cX9_cutAll 7 2 40 [.ref g.1] S o :=
  mr_metV (by decide) rfl (Nat.le_of_ble_eq_true rfl) (fun p e s m args below meth c ls C hR hl => wfM_cutAll C ⟨Nat.le_refl _, Nat.le_refl _⟩  S s.heap [] ls hf hR va_S.rf hl)
def bM_wrong_25 (N : Nat)  (S : Ms) : Option (Ms) := some S
set_option maxRecDepth 100000 in
set_option maxHeartbeats 4000000 in
theorem wbM_wrong_25 {p : Program} {l : Launch} {e : Env} {R : Room} {s : State} {m : MethodId} {args : Array Value} {below : List Frame} {meth : Method} {c : Code} {d : Dd} {g : Gm} {o : Ms} {N : Nat} (C : CM p s m args meth c d g cX9_wrong 2 none) (hRm : 0 ≤ R.frames ∧ 0 ≤ R.locals)  (S : Ms) (H : Heap) (locs : List Loc) (ls : Array Slot) (hf : bM_wrong_25 N  S = some o) (hR : RM d g S H) (hS : va_S (AM g) s.heap H locs) (hl : lv_has ls 2 [(0, .ref g.1)]) : W p l e R s m args below meth c H locs 0 0 (MQ below (QV d g o) args s 0 0 (AM g)) (F0 m 25 ls []) := by
  obtain ⟨hx, hb, hml, hown, hts, hK, hg, hr, hlk⟩ := id C
  unfold bM_wrong_25 at hf
  exact mr_vret C hR hS hf dX9_wrong_25
def fM_wrong (N : Nat) (x1 : Int32) (S : Ms) : Option (Ms) := if (mF S 8) = 0 then (ck (mF S 7) 4002 ((bM_wrong_25 N) (pF S 8 (x1 + (16 * (mA S 5 (mF S 7 : Int32).toNatClampNeg)))))) else ((bM_wrong_25 N) S)
set_option maxRecDepth 100000 in
set_option maxHeartbeats 4000000 in
theorem wfM_wrong {p : Program} {l : Launch} {e : Env} {R : Room} {s : State} {m : MethodId} {args : Array Value} {below : List Frame} {meth : Method} {c : Code} {d : Dd} {g : Gm} {o : Ms} {N : Nat} (C : CM p s m args meth c d g cX9_wrong 2 none) (hRm : 0 ≤ R.frames ∧ 0 ≤ R.locals) (x1 : Int32) (S : Ms) (H : Heap) (locs : List Loc) (ls : Array Slot) (hf : fM_wrong N x1 S = some o) (hR : RM d g S H) (hS : va_S (AM g) s.heap H locs) (hl : lv_has ls 2 [(0, .ref g.1), (1, .int x1)]) : W p l e R s m args below meth c H locs 0 0 (MQ below (QV d g o) args s 0 0 (AM g)) (F0 m 0 ls []) := by
  obtain ⟨hx, hb, hml, hown, hts, hK, hg, hr, hlk⟩ := id C
  unfold fM_wrong at hf
  refine lv_aload_n hx hb dX9_wrong_0 rfl (lv_at hl 0 rfl) ?_
  refine mr_getI C hR fl_281 rfl dX9_wrong_1 ?_
  refine lv_if_ne (tgt := 25) hx hb dX9_wrong_4 (by decide) (fun hc => ?_) (fun hc => ?_)
  · rw [if_neg hc] at hf
    exact (wbM_wrong_25 C hRm) _ _ _ _ hf hR hS (lv_sub hl [0] rfl)
  · rw [if_pos hc] at hf
    refine lv_aload_n hx hb dX9_wrong_7 rfl (lv_at hl 0 rfl) ?_
    refine lv_iload_n hx hb dX9_wrong_8 rfl (lv_at hl 1 rfl) ?_
    refine lv_bipush (v := 16) hx hb dX9_wrong_9 (by decide) ?_
    refine lv_aload_n hx hb dX9_wrong_11 rfl (lv_at hl 0 rfl) ?_
    refine mr_getR C hR fl_27 (by decide) dX9_wrong_12 ?_
    refine lv_aload_n hx hb dX9_wrong_15 rfl (lv_at hl 0 rfl) ?_
    refine mr_getI C hR fl_278 rfl dX9_wrong_16 ?_
    obtain ⟨hi, hf⟩ := ck_some hf
    refine mr_iald C hR (k := 5) rfl hi dX9_wrong_19 ?_
    refine lv_imul hx hb dX9_wrong_20 ?_
    refine lv_iadd hx hb dX9_wrong_21 ?_
    refine mr_putI C hR hS fl_281 ⟨rfl, rfl, rfl⟩ dX9_wrong_22 (fun H locs hR hS => ?_)
    exact (wbM_wrong_25 C hRm) _ _ _ _ hf hR hS (lv_sub hl [0] rfl)
theorem MM_wrong (l : Launch) (d : Dd) (g : Gm) (N : Nat) (x1 : Int32) (S : Ms) (o : Ms) (hf : fM_wrong N x1 S = some o) : MtV l d g yX9_wrong cX9_wrong 2 0 0 [.ref g.1, .int x1] S o :=
  mr_metV (by decide) rfl (Nat.le_of_ble_eq_true rfl) (fun p e s m args below meth c ls C hR hl => wfM_wrong C ⟨Nat.le_refl _, Nat.le_refl _⟩ x1 S s.heap [] ls hf hR va_S.rf hl)
def bM_isSign_40 (N : Nat) (s0 : Int32) (S : Ms) : Option (Int32 × Ms) := gd (is01 s0) (some (s0, S))
set_option maxRecDepth 100000 in
set_option maxHeartbeats 4000000 in
theorem wbM_isSign_40 {p : Program} {l : Launch} {e : Env} {R : Room} {s : State} {m : MethodId} {args : Array Value} {below : List Frame} {meth : Method} {c : Code} {d : Dd} {g : Gm} {o : Int32 × Ms} {N : Nat} (C : CM p s m args meth c d g cX9_isSign 2 (some .boolean)) (hRm : 0 ≤ R.frames ∧ 0 ≤ R.locals) (s0 : Int32) (S : Ms) (H : Heap) (locs : List Loc) (ls : Array Slot) (hf : bM_isSign_40 N s0 S = some o) (hR : RM d g S H) (hS : va_S (AM g) s.heap H locs) (hl : lv_has ls 2 [(0, .ref g.1)]) : W p l e R s m args below meth c H locs 0 0 (MQ below (QI d g o) args s 0 0 (AM g)) (F0 m 40 ls [.int s0]) := by
  obtain ⟨hx, hb, hml, hown, hts, hK, hg, hr, hlk⟩ := id C
  unfold bM_isSign_40 at hf
  obtain ⟨hz, hf⟩ := gd_some hf
  exact mr_zret C hR hS hz hf dX9_isSign_40
def bM_isSign_39 (N : Nat)  (S : Ms) : Option (Int32 × Ms) := (bM_isSign_40 N) 0 S
set_option maxRecDepth 100000 in
set_option maxHeartbeats 4000000 in
theorem wbM_isSign_39 {p : Program} {l : Launch} {e : Env} {R : Room} {s : State} {m : MethodId} {args : Array Value} {below : List Frame} {meth : Method} {c : Code} {d : Dd} {g : Gm} {o : Int32 × Ms} {N : Nat} (C : CM p s m args meth c d g cX9_isSign 2 (some .boolean)) (hRm : 0 ≤ R.frames ∧ 0 ≤ R.locals)  (S : Ms) (H : Heap) (locs : List Loc) (ls : Array Slot) (hf : bM_isSign_39 N  S = some o) (hR : RM d g S H) (hS : va_S (AM g) s.heap H locs) (hl : lv_has ls 2 [(0, .ref g.1)]) : W p l e R s m args below meth c H locs 0 0 (MQ below (QI d g o) args s 0 0 (AM g)) (F0 m 39 ls []) := by
  obtain ⟨hx, hb, hml, hown, hts, hK, hg, hr, hlk⟩ := id C
  unfold bM_isSign_39 at hf
  refine lv_iconst (v := 0) hx hb dX9_isSign_39 (by decide) ?_
  exact (wbM_isSign_40 C hRm) _ _ _ _ _ hf hR hS (lv_sub hl [0] rfl)
def fM_isSign (N : Nat) (x1 : Int32) (S : Ms) : Option (Int32 × Ms) := if (mF S 8) = 0 then (ck (mF S 7) 4002 (if (mA S 4 (mF S 7 : Int32).toNatClampNeg) = 3 then (ck (mF S 7) 4002 (if (lg_cmp (mL S 6 (mF S 7 : Int32).toNatClampNeg) ((x1 : Int32).toInt64)) = 0 then ((bM_isSign_40 N) 1 S) else ((bM_isSign_39 N) S))) else ((bM_isSign_39 N) S))) else ((bM_isSign_39 N) S)
set_option maxRecDepth 100000 in
set_option maxHeartbeats 4000000 in
theorem wfM_isSign {p : Program} {l : Launch} {e : Env} {R : Room} {s : State} {m : MethodId} {args : Array Value} {below : List Frame} {meth : Method} {c : Code} {d : Dd} {g : Gm} {o : Int32 × Ms} {N : Nat} (C : CM p s m args meth c d g cX9_isSign 2 (some .boolean)) (hRm : 0 ≤ R.frames ∧ 0 ≤ R.locals) (x1 : Int32) (S : Ms) (H : Heap) (locs : List Loc) (ls : Array Slot) (hf : fM_isSign N x1 S = some o) (hR : RM d g S H) (hS : va_S (AM g) s.heap H locs) (hl : lv_has ls 2 [(0, .ref g.1), (1, .int x1)]) : W p l e R s m args below meth c H locs 0 0 (MQ below (QI d g o) args s 0 0 (AM g)) (F0 m 0 ls []) := by
  obtain ⟨hx, hb, hml, hown, hts, hK, hg, hr, hlk⟩ := id C
  unfold fM_isSign at hf
  refine lv_aload_n hx hb dX9_isSign_0 rfl (lv_at hl 0 rfl) ?_
  refine mr_getI C hR fl_281 rfl dX9_isSign_1 ?_
  refine lv_if_ne (tgt := 39) hx hb dX9_isSign_4 (by decide) (fun hc => ?_) (fun hc => ?_)
  · rw [if_neg hc] at hf
    exact (wbM_isSign_39 C hRm) _ _ _ _ hf hR hS (lv_sub hl [0] rfl)
  · rw [if_pos hc] at hf
    refine lv_aload_n hx hb dX9_isSign_7 rfl (lv_at hl 0 rfl) ?_
    refine mr_getR C hR fl_24 (by decide) dX9_isSign_8 ?_
    refine lv_aload_n hx hb dX9_isSign_11 rfl (lv_at hl 0 rfl) ?_
    refine mr_getI C hR fl_278 rfl dX9_isSign_12 ?_
    obtain ⟨hi, hf⟩ := ck_some hf
    refine mr_iald C hR (k := 4) rfl hi dX9_isSign_15 ?_
    refine lv_iconst (v := 3) hx hb dX9_isSign_16 (by decide) ?_
    refine lv_icmp_ne (tgt := 39) hx hb dX9_isSign_17 (by decide) (fun hc => ?_) (fun hc => ?_)
    · rw [if_neg hc] at hf
      exact (wbM_isSign_39 C hRm) _ _ _ _ hf hR hS (lv_sub hl [0] rfl)
    · rw [if_pos hc] at hf
      refine lv_aload_n hx hb dX9_isSign_20 rfl (lv_at hl 0 rfl) ?_
      refine mr_getR C hR fl_30 (by decide) dX9_isSign_21 ?_
      refine lv_aload_n hx hb dX9_isSign_24 rfl (lv_at hl 0 rfl) ?_
      refine mr_getI C hR fl_278 rfl dX9_isSign_25 ?_
      obtain ⟨hi, hf⟩ := ck_some hf
      refine mr_lald C hR (k := 6) rfl hi dX9_isSign_28 ?_
      refine lv_iload_n hx hb dX9_isSign_29 rfl (lv_at hl 1 rfl) ?_
      refine lv_i2l (v := (x1 : Int32).toInt64) hx hb dX9_isSign_30 rfl ?_
      refine W.lcmp hx hb dX9_isSign_31 ?_
      refine lv_if_ne (tgt := 39) hx hb dX9_isSign_32 (by decide) (fun hc => ?_) (fun hc => ?_)
      · rw [if_neg hc] at hf
        exact (wbM_isSign_39 C hRm) _ _ _ _ hf hR hS (lv_sub hl [0] rfl)
      · rw [if_pos hc] at hf
        refine lv_iconst (v := 1) hx hb dX9_isSign_35 (by decide) ?_
        refine lv_goto (tgt := 40) hx hb dX9_isSign_36 (by decide) ?_
        exact (wbM_isSign_40 C hRm) _ _ _ _ _ hf hR hS (lv_sub hl [0] rfl)
theorem MM_isSign (l : Launch) (d : Dd) (g : Gm) (N : Nat) (x1 : Int32) (S : Ms) (o : Int32 × Ms) (hf : fM_isSign N x1 S = some o) : MtI l d g yX9_isSign cX9_isSign 2 (some .boolean) 0 0 [.ref g.1, .int x1] S o :=
  mr_metI (by decide) rfl (Nat.le_of_ble_eq_true rfl) (fun p e s m args below meth c ls C hR hl => wfM_isSign C ⟨Nat.le_refl _, Nat.le_refl _⟩ x1 S s.heap [] ls hf hR va_S.rf hl)
def bM_isWord_44 (N : Nat) (s0 : Int32) (S : Ms) : Option (Int32 × Ms) := gd (is01 s0) (some (s0, S))
set_option maxRecDepth 100000 in
set_option maxHeartbeats 4000000 in
theorem wbM_isWord_44 {p : Program} {l : Launch} {e : Env} {R : Room} {s : State} {m : MethodId} {args : Array Value} {below : List Frame} {meth : Method} {c : Code} {d : Dd} {g : Gm} {o : Int32 × Ms} {N : Nat} (C : CM p s m args meth c d g cX9_isWord 2 (some .boolean)) (hRm : 0 ≤ R.frames ∧ 0 ≤ R.locals) (s0 : Int32) (S : Ms) (H : Heap) (locs : List Loc) (ls : Array Slot) (hf : bM_isWord_44 N s0 S = some o) (hR : RM d g S H) (hS : va_S (AM g) s.heap H locs) (hl : lv_has ls 2 [(0, .ref g.1)]) : W p l e R s m args below meth c H locs 0 0 (MQ below (QI d g o) args s 0 0 (AM g)) (F0 m 44 ls [.int s0]) := by
  obtain ⟨hx, hb, hml, hown, hts, hK, hg, hr, hlk⟩ := id C
  unfold bM_isWord_44 at hf
  obtain ⟨hz, hf⟩ := gd_some hf
  exact mr_zret C hR hS hz hf dX9_isWord_44
def bM_isWord_43 (N : Nat)  (S : Ms) : Option (Int32 × Ms) := (bM_isWord_44 N) 0 S
set_option maxRecDepth 100000 in
set_option maxHeartbeats 4000000 in
theorem wbM_isWord_43 {p : Program} {l : Launch} {e : Env} {R : Room} {s : State} {m : MethodId} {args : Array Value} {below : List Frame} {meth : Method} {c : Code} {d : Dd} {g : Gm} {o : Int32 × Ms} {N : Nat} (C : CM p s m args meth c d g cX9_isWord 2 (some .boolean)) (hRm : 0 ≤ R.frames ∧ 0 ≤ R.locals)  (S : Ms) (H : Heap) (locs : List Loc) (ls : Array Slot) (hf : bM_isWord_43 N  S = some o) (hR : RM d g S H) (hS : va_S (AM g) s.heap H locs) (hl : lv_has ls 2 [(0, .ref g.1)]) : W p l e R s m args below meth c H locs 0 0 (MQ below (QI d g o) args s 0 0 (AM g)) (F0 m 43 ls []) := by
  obtain ⟨hx, hb, hml, hown, hts, hK, hg, hr, hlk⟩ := id C
  unfold bM_isWord_43 at hf
  refine lv_iconst (v := 0) hx hb dX9_isWord_43 (by decide) ?_
  exact (wbM_isWord_44 C hRm) _ _ _ _ _ hf hR hS (lv_sub hl [0] rfl)
def fM_isWord (N : Nat) (x1 : Int32) (S : Ms) : Option (Int32 × Ms) := if (mF S 8) = 0 then (ck (mF S 7) 4002 (if (mA S 4 (mF S 7 : Int32).toNatClampNeg) = 1 then (ck (mF S 7) 4002 (ck x1 26 (if (lg_cmp (mL S 6 (mF S 7 : Int32).toNatClampNeg) (mL S 10 (x1 : Int32).toNatClampNeg)) = 0 then ((bM_isWord_44 N) 1 S) else ((bM_isWord_43 N) S)))) else ((bM_isWord_43 N) S))) else ((bM_isWord_43 N) S)
set_option maxRecDepth 100000 in
set_option maxHeartbeats 4000000 in
theorem wfM_isWord {p : Program} {l : Launch} {e : Env} {R : Room} {s : State} {m : MethodId} {args : Array Value} {below : List Frame} {meth : Method} {c : Code} {d : Dd} {g : Gm} {o : Int32 × Ms} {N : Nat} (C : CM p s m args meth c d g cX9_isWord 2 (some .boolean)) (hRm : 0 ≤ R.frames ∧ 0 ≤ R.locals) (x1 : Int32) (S : Ms) (H : Heap) (locs : List Loc) (ls : Array Slot) (hf : fM_isWord N x1 S = some o) (hR : RM d g S H) (hS : va_S (AM g) s.heap H locs) (hl : lv_has ls 2 [(0, .ref g.1), (1, .int x1)]) : W p l e R s m args below meth c H locs 0 0 (MQ below (QI d g o) args s 0 0 (AM g)) (F0 m 0 ls []) := by
  obtain ⟨hx, hb, hml, hown, hts, hK, hg, hr, hlk⟩ := id C
  unfold fM_isWord at hf
  refine lv_aload_n hx hb dX9_isWord_0 rfl (lv_at hl 0 rfl) ?_
  refine mr_getI C hR fl_281 rfl dX9_isWord_1 ?_
  refine lv_if_ne (tgt := 43) hx hb dX9_isWord_4 (by decide) (fun hc => ?_) (fun hc => ?_)
  · rw [if_neg hc] at hf
    exact (wbM_isWord_43 C hRm) _ _ _ _ hf hR hS (lv_sub hl [0] rfl)
  · rw [if_pos hc] at hf
    refine lv_aload_n hx hb dX9_isWord_7 rfl (lv_at hl 0 rfl) ?_
    refine mr_getR C hR fl_24 (by decide) dX9_isWord_8 ?_
    refine lv_aload_n hx hb dX9_isWord_11 rfl (lv_at hl 0 rfl) ?_
    refine mr_getI C hR fl_278 rfl dX9_isWord_12 ?_
    obtain ⟨hi, hf⟩ := ck_some hf
    refine mr_iald C hR (k := 4) rfl hi dX9_isWord_15 ?_
    refine lv_iconst (v := 1) hx hb dX9_isWord_16 (by decide) ?_
    refine lv_icmp_ne (tgt := 43) hx hb dX9_isWord_17 (by decide) (fun hc => ?_) (fun hc => ?_)
    · rw [if_neg hc] at hf
      exact (wbM_isWord_43 C hRm) _ _ _ _ hf hR hS (lv_sub hl [0] rfl)
    · rw [if_pos hc] at hf
      refine lv_aload_n hx hb dX9_isWord_20 rfl (lv_at hl 0 rfl) ?_
      refine mr_getR C hR fl_30 (by decide) dX9_isWord_21 ?_
      refine lv_aload_n hx hb dX9_isWord_24 rfl (lv_at hl 0 rfl) ?_
      refine mr_getI C hR fl_278 rfl dX9_isWord_25 ?_
      obtain ⟨hi, hf⟩ := ck_some hf
      refine mr_lald C hR (k := 6) rfl hi dX9_isWord_28 ?_
      refine lv_aload_n hx hb dX9_isWord_29 rfl (lv_at hl 0 rfl) ?_
      refine mr_getR C hR fl_40 (by decide) dX9_isWord_30 ?_
      refine lv_iload_n hx hb dX9_isWord_33 rfl (lv_at hl 1 rfl) ?_
      obtain ⟨hi, hf⟩ := ck_some hf
      refine mr_lald C hR (k := 10) rfl hi dX9_isWord_34 ?_
      refine W.lcmp hx hb dX9_isWord_35 ?_
      refine lv_if_ne (tgt := 43) hx hb dX9_isWord_36 (by decide) (fun hc => ?_) (fun hc => ?_)
      · rw [if_neg hc] at hf
        exact (wbM_isWord_43 C hRm) _ _ _ _ hf hR hS (lv_sub hl [0] rfl)
      · rw [if_pos hc] at hf
        refine lv_iconst (v := 1) hx hb dX9_isWord_39 (by decide) ?_
        refine lv_goto (tgt := 44) hx hb dX9_isWord_40 (by decide) ?_
        exact (wbM_isWord_44 C hRm) _ _ _ _ _ hf hR hS (lv_sub hl [0] rfl)
theorem MM_isWord (l : Launch) (d : Dd) (g : Gm) (N : Nat) (x1 : Int32) (S : Ms) (o : Int32 × Ms) (hf : fM_isWord N x1 S = some o) : MtI l d g yX9_isWord cX9_isWord 2 (some .boolean) 0 0 [.ref g.1, .int x1] S o :=
  mr_metI (by decide) rfl (Nat.le_of_ble_eq_true rfl) (fun p e s m args below meth c ls C hR hl => wfM_isWord C ⟨Nat.le_refl _, Nat.le_refl _⟩ x1 S s.heap [] ls hf hR va_S.rf hl)
def bM_takeSign_26 (N : Nat)  (S : Ms) : Option (Ms) := some S
set_option maxRecDepth 100000 in
set_option maxHeartbeats 4000000 in
theorem wbM_takeSign_26 {p : Program} {l : Launch} {e : Env} {R : Room} {s : State} {m : MethodId} {args : Array Value} {below : List Frame} {meth : Method} {c : Code} {d : Dd} {g : Gm} {o : Ms} {N : Nat} (C : CM p s m args meth c d g cX9_takeSign 2 none) (hRm : 1 ≤ R.frames ∧ 21 ≤ R.locals)  (S : Ms) (H : Heap) (locs : List Loc) (ls : Array Slot) (hf : bM_takeSign_26 N  S = some o) (hR : RM d g S H) (hS : va_S (AM g) s.heap H locs) (hl : lv_has ls 2 [(0, .ref g.1)]) : W p l e R s m args below meth c H locs 0 0 (MQ below (QV d g o) args s 0 0 (AM g)) (F0 m 26 ls []) := by
  obtain ⟨hx, hb, hml, hown, hts, hK, hg, hr, hlk⟩ := id C
  unfold bM_takeSign_26 at hf
  exact mr_vret C hR hS hf dX9_takeSign_26
def fM_takeSign (N : Nat) (x1 : Int32) (S : Ms) : Option (Ms) := (fM_isSign N x1 S).bind fun o2 => if o2.1 = 0 then ((fM_wrong N 1 o2.2).bind fun o23 => (bM_takeSign_26 N) o23) else ((bM_takeSign_26 N) (pF o2.2 7 ((mF o2.2 7) + 1)))
set_option maxRecDepth 100000 in
set_option maxHeartbeats 4000000 in
theorem wfM_takeSign {p : Program} {l : Launch} {e : Env} {R : Room} {s : State} {m : MethodId} {args : Array Value} {below : List Frame} {meth : Method} {c : Code} {d : Dd} {g : Gm} {o : Ms} {N : Nat} (C : CM p s m args meth c d g cX9_takeSign 2 none) (hRm : 1 ≤ R.frames ∧ 21 ≤ R.locals) (x1 : Int32) (S : Ms) (H : Heap) (locs : List Loc) (ls : Array Slot) (hf : fM_takeSign N x1 S = some o) (hR : RM d g S H) (hS : va_S (AM g) s.heap H locs) (hl : lv_has ls 2 [(0, .ref g.1), (1, .int x1)]) : W p l e R s m args below meth c H locs 0 0 (MQ below (QV d g o) args s 0 0 (AM g)) (F0 m 0 ls []) := by
  obtain ⟨hx, hb, hml, hown, hts, hK, hg, hr, hlk⟩ := id C
  unfold fM_takeSign at hf
  refine lv_aload_n hx hb dX9_takeSign_0 rfl (lv_at hl 0 rfl) ?_
  refine lv_iload_n hx hb dX9_takeSign_1 rfl (lv_at hl 1 rfl) ?_
  obtain ⟨o2, ho2, hf⟩ := bnd_some hf
  refine mr_callIv C hR hS (As := [.int x1]) (rest := []) (MM_isSign l d g N x1 S o2 ho2) wv_284 ⟨by omega, by omega⟩ rfl rfl (Nat.le_of_ble_eq_true rfl) hl.1 dX9_takeSign_2 ⟨Nat.zero_le _, Nat.zero_le _⟩ (fun H locs hR hS => ?_)
  refine lv_if_eq (tgt := 21) hx hb dX9_takeSign_5 (by decide) (fun hc => ?_) (fun hc => ?_)
  · rw [if_pos hc] at hf
    refine lv_aload_n hx hb dX9_takeSign_21 rfl (lv_at hl 0 rfl) ?_
    refine lv_iconst (v := 1) hx hb dX9_takeSign_22 (by decide) ?_
    obtain ⟨o23, ho23, hf⟩ := bnd_some hf
    refine mr_callVv C hR hS (As := [.int 1]) (rest := []) (MM_wrong l d g N 1 o2.2 o23 ho23) wv_287 ⟨by omega, by omega⟩ rfl rfl (Nat.le_of_ble_eq_true rfl) hl.1 dX9_takeSign_23 ⟨Nat.zero_le _, Nat.zero_le _⟩ (fun H locs hR hS => ?_)
    exact (wbM_takeSign_26 C hRm) _ _ _ _ hf hR hS (lv_sub hl [0] rfl)
  · rw [if_neg hc] at hf
    refine lv_aload_n hx hb dX9_takeSign_8 rfl (lv_at hl 0 rfl) ?_
    refine lv_dup hx hb dX9_takeSign_9 rfl ?_
    refine mr_getI C hR fl_278 rfl dX9_takeSign_10 ?_
    refine lv_iconst (v := 1) hx hb dX9_takeSign_13 (by decide) ?_
    refine lv_iadd hx hb dX9_takeSign_14 ?_
    refine mr_putI C hR hS fl_278 ⟨rfl, rfl, rfl⟩ dX9_takeSign_15 (fun H locs hR hS => ?_)
    refine lv_goto (tgt := 26) hx hb dX9_takeSign_18 (by decide) ?_
    exact (wbM_takeSign_26 C hRm) _ _ _ _ hf hR hS (lv_sub hl [0] rfl)
theorem MM_takeSign (l : Launch) (d : Dd) (g : Gm) (N : Nat) (x1 : Int32) (S : Ms) (o : Ms) (hf : fM_takeSign N x1 S = some o) : MtV l d g yX9_takeSign cX9_takeSign 2 1 21 [.ref g.1, .int x1] S o :=
  mr_metV (by decide) rfl (Nat.le_of_ble_eq_true rfl) (fun p e s m args below meth c ls C hR hl => wfM_takeSign C ⟨Nat.le_refl _, Nat.le_refl _⟩ x1 S s.heap [] ls hf hR va_S.rf hl)
def bM_hasSign_20 (N : Nat) (x2 : Int32) (s1 : Int32) (s2 : Int32) (S : Ms) : Option (Int32 × Ms) := gd (is01 x2) (some (x2, pF S 7 (s1 + s2)))
set_option maxRecDepth 100000 in
set_option maxHeartbeats 4000000 in
theorem wbM_hasSign_20 {p : Program} {l : Launch} {e : Env} {R : Room} {s : State} {m : MethodId} {args : Array Value} {below : List Frame} {meth : Method} {c : Code} {d : Dd} {g : Gm} {o : Int32 × Ms} {N : Nat} (C : CM p s m args meth c d g cX9_hasSign 3 (some .boolean)) (hRm : 1 ≤ R.frames ∧ 21 ≤ R.locals) (x2 : Int32) (s1 : Int32) (s2 : Int32) (S : Ms) (H : Heap) (locs : List Loc) (ls : Array Slot) (hf : bM_hasSign_20 N x2 s1 s2 S = some o) (hR : RM d g S H) (hS : va_S (AM g) s.heap H locs) (hl : lv_has ls 3 [(0, .ref g.1), (2, .int x2)]) : W p l e R s m args below meth c H locs 0 0 (MQ below (QI d g o) args s 0 0 (AM g)) (F0 m 20 ls [.int s2, .int s1, .ref g.1]) := by
  obtain ⟨hx, hb, hml, hown, hts, hK, hg, hr, hlk⟩ := id C
  unfold bM_hasSign_20 at hf
  refine lv_iadd hx hb dX9_hasSign_20 ?_
  refine mr_putI C hR hS fl_278 ⟨rfl, rfl, rfl⟩ dX9_hasSign_21 (fun H locs hR hS => ?_)
  refine lv_iload_n hx hb dX9_hasSign_24 rfl (lv_at hl 1 rfl) ?_
  obtain ⟨hz, hf⟩ := gd_some hf
  exact mr_zret C hR hS hz hf dX9_hasSign_25
def fM_hasSign (N : Nat) (x1 : Int32) (S : Ms) : Option (Int32 × Ms) := (fM_isSign N x1 S).bind fun o2 => if o2.1 = 0 then ((bM_hasSign_20 N) o2.1 (mF o2.2 7) 0 o2.2) else ((bM_hasSign_20 N) o2.1 (mF o2.2 7) 1 o2.2)
set_option maxRecDepth 100000 in
set_option maxHeartbeats 4000000 in
theorem wfM_hasSign {p : Program} {l : Launch} {e : Env} {R : Room} {s : State} {m : MethodId} {args : Array Value} {below : List Frame} {meth : Method} {c : Code} {d : Dd} {g : Gm} {o : Int32 × Ms} {N : Nat} (C : CM p s m args meth c d g cX9_hasSign 3 (some .boolean)) (hRm : 1 ≤ R.frames ∧ 21 ≤ R.locals) (x1 : Int32) (S : Ms) (H : Heap) (locs : List Loc) (ls : Array Slot) (hf : fM_hasSign N x1 S = some o) (hR : RM d g S H) (hS : va_S (AM g) s.heap H locs) (hl : lv_has ls 3 [(0, .ref g.1), (1, .int x1)]) : W p l e R s m args below meth c H locs 0 0 (MQ below (QI d g o) args s 0 0 (AM g)) (F0 m 0 ls []) := by
  obtain ⟨hx, hb, hml, hown, hts, hK, hg, hr, hlk⟩ := id C
  unfold fM_hasSign at hf
  refine lv_aload_n hx hb dX9_hasSign_0 rfl (lv_at hl 0 rfl) ?_
  refine lv_iload_n hx hb dX9_hasSign_1 rfl (lv_at hl 1 rfl) ?_
  obtain ⟨o2, ho2, hf⟩ := bnd_some hf
  refine mr_callIv C hR hS (As := [.int x1]) (rest := []) (MM_isSign l d g N x1 S o2 ho2) wv_284 ⟨by omega, by omega⟩ rfl rfl (Nat.le_of_ble_eq_true rfl) hl.1 dX9_hasSign_2 ⟨Nat.zero_le _, Nat.zero_le _⟩ (fun H locs hR hS => ?_)
  refine lv_istore_n (lv' := [(2, .int o2.1), (0, .ref g.1), (1, .int x1)]) hx hb dX9_hasSign_5 rfl hl (by decide) rfl (fun ls hl => ?_)
  refine lv_aload_n hx hb dX9_hasSign_6 rfl (lv_at hl 1 rfl) ?_
  refine lv_dup hx hb dX9_hasSign_7 rfl ?_
  refine mr_getI C hR fl_278 rfl dX9_hasSign_8 ?_
  refine lv_iload_n hx hb dX9_hasSign_11 rfl (lv_at hl 0 rfl) ?_
  refine lv_if_eq (tgt := 19) hx hb dX9_hasSign_12 (by decide) (fun hc => ?_) (fun hc => ?_)
  · rw [if_pos hc] at hf
    refine lv_iconst (v := 0) hx hb dX9_hasSign_19 (by decide) ?_
    exact (wbM_hasSign_20 C hRm) _ _ _ _ _ _ _ hf hR hS (lv_sub hl [1, 0] rfl)
  · rw [if_neg hc] at hf
    refine lv_iconst (v := 1) hx hb dX9_hasSign_15 (by decide) ?_
    refine lv_goto (tgt := 20) hx hb dX9_hasSign_16 (by decide) ?_
    exact (wbM_hasSign_20 C hRm) _ _ _ _ _ _ _ hf hR hS (lv_sub hl [1, 0] rfl)
theorem MM_hasSign (l : Launch) (d : Dd) (g : Gm) (N : Nat) (x1 : Int32) (S : Ms) (o : Int32 × Ms) (hf : fM_hasSign N x1 S = some o) : MtI l d g yX9_hasSign cX9_hasSign 3 (some .boolean) 1 21 [.ref g.1, .int x1] S o :=
  mr_metI (by decide) rfl (Nat.le_of_ble_eq_true rfl) (fun p e s m args below meth c ls C hR hl => wfM_hasSign C ⟨Nat.le_refl _, Nat.le_refl _⟩ x1 S s.heap [] ls hf hR va_S.rf hl)
def bM_hasWord_20 (N : Nat) (x2 : Int32) (s1 : Int32) (s2 : Int32) (S : Ms) : Option (Int32 × Ms) := gd (is01 x2) (some (x2, pF S 7 (s1 + s2)))
set_option maxRecDepth 100000 in
set_option maxHeartbeats 4000000 in
theorem wbM_hasWord_20 {p : Program} {l : Launch} {e : Env} {R : Room} {s : State} {m : MethodId} {args : Array Value} {below : List Frame} {meth : Method} {c : Code} {d : Dd} {g : Gm} {o : Int32 × Ms} {N : Nat} (C : CM p s m args meth c d g cX9_hasWord 3 (some .boolean)) (hRm : 1 ≤ R.frames ∧ 21 ≤ R.locals) (x2 : Int32) (s1 : Int32) (s2 : Int32) (S : Ms) (H : Heap) (locs : List Loc) (ls : Array Slot) (hf : bM_hasWord_20 N x2 s1 s2 S = some o) (hR : RM d g S H) (hS : va_S (AM g) s.heap H locs) (hl : lv_has ls 3 [(0, .ref g.1), (2, .int x2)]) : W p l e R s m args below meth c H locs 0 0 (MQ below (QI d g o) args s 0 0 (AM g)) (F0 m 20 ls [.int s2, .int s1, .ref g.1]) := by
  obtain ⟨hx, hb, hml, hown, hts, hK, hg, hr, hlk⟩ := id C
  unfold bM_hasWord_20 at hf
  refine lv_iadd hx hb dX9_hasWord_20 ?_
  refine mr_putI C hR hS fl_278 ⟨rfl, rfl, rfl⟩ dX9_hasWord_21 (fun H locs hR hS => ?_)
  refine lv_iload_n hx hb dX9_hasWord_24 rfl (lv_at hl 1 rfl) ?_
  obtain ⟨hz, hf⟩ := gd_some hf
  exact mr_zret C hR hS hz hf dX9_hasWord_25
def fM_hasWord (N : Nat) (x1 : Int32) (S : Ms) : Option (Int32 × Ms) := (fM_isWord N x1 S).bind fun o2 => if o2.1 = 0 then ((bM_hasWord_20 N) o2.1 (mF o2.2 7) 0 o2.2) else ((bM_hasWord_20 N) o2.1 (mF o2.2 7) 1 o2.2)
set_option maxRecDepth 100000 in
set_option maxHeartbeats 4000000 in
theorem wfM_hasWord {p : Program} {l : Launch} {e : Env} {R : Room} {s : State} {m : MethodId} {args : Array Value} {below : List Frame} {meth : Method} {c : Code} {d : Dd} {g : Gm} {o : Int32 × Ms} {N : Nat} (C : CM p s m args meth c d g cX9_hasWord 3 (some .boolean)) (hRm : 1 ≤ R.frames ∧ 21 ≤ R.locals) (x1 : Int32) (S : Ms) (H : Heap) (locs : List Loc) (ls : Array Slot) (hf : fM_hasWord N x1 S = some o) (hR : RM d g S H) (hS : va_S (AM g) s.heap H locs) (hl : lv_has ls 3 [(0, .ref g.1), (1, .int x1)]) : W p l e R s m args below meth c H locs 0 0 (MQ below (QI d g o) args s 0 0 (AM g)) (F0 m 0 ls []) := by
  obtain ⟨hx, hb, hml, hown, hts, hK, hg, hr, hlk⟩ := id C
  unfold fM_hasWord at hf
  refine lv_aload_n hx hb dX9_hasWord_0 rfl (lv_at hl 0 rfl) ?_
  refine lv_iload_n hx hb dX9_hasWord_1 rfl (lv_at hl 1 rfl) ?_
  obtain ⟨o2, ho2, hf⟩ := bnd_some hf
  refine mr_callIv C hR hS (As := [.int x1]) (rest := []) (MM_isWord l d g N x1 S o2 ho2) wv_291 ⟨by omega, by omega⟩ rfl rfl (Nat.le_of_ble_eq_true rfl) hl.1 dX9_hasWord_2 ⟨Nat.zero_le _, Nat.zero_le _⟩ (fun H locs hR hS => ?_)
  refine lv_istore_n (lv' := [(2, .int o2.1), (0, .ref g.1), (1, .int x1)]) hx hb dX9_hasWord_5 rfl hl (by decide) rfl (fun ls hl => ?_)
  refine lv_aload_n hx hb dX9_hasWord_6 rfl (lv_at hl 1 rfl) ?_
  refine lv_dup hx hb dX9_hasWord_7 rfl ?_
  refine mr_getI C hR fl_278 rfl dX9_hasWord_8 ?_
  refine lv_iload_n hx hb dX9_hasWord_11 rfl (lv_at hl 0 rfl) ?_
  refine lv_if_eq (tgt := 19) hx hb dX9_hasWord_12 (by decide) (fun hc => ?_) (fun hc => ?_)
  · rw [if_pos hc] at hf
    refine lv_iconst (v := 0) hx hb dX9_hasWord_19 (by decide) ?_
    exact (wbM_hasWord_20 C hRm) _ _ _ _ _ _ _ hf hR hS (lv_sub hl [1, 0] rfl)
  · rw [if_neg hc] at hf
    refine lv_iconst (v := 1) hx hb dX9_hasWord_15 (by decide) ?_
    refine lv_goto (tgt := 20) hx hb dX9_hasWord_16 (by decide) ?_
    exact (wbM_hasWord_20 C hRm) _ _ _ _ _ _ _ hf hR hS (lv_sub hl [1, 0] rfl)
theorem MM_hasWord (l : Launch) (d : Dd) (g : Gm) (N : Nat) (x1 : Int32) (S : Ms) (o : Int32 × Ms) (hf : fM_hasWord N x1 S = some o) : MtI l d g yX9_hasWord cX9_hasWord 3 (some .boolean) 1 21 [.ref g.1, .int x1] S o :=
  mr_metI (by decide) rfl (Nat.le_of_ble_eq_true rfl) (fun p e s m args below meth c ls C hR hl => wfM_hasWord C ⟨Nat.le_refl _, Nat.le_refl _⟩ x1 S s.heap [] ls hf hR va_S.rf hl)
def bM_takeWord_13 (N : Nat)  (S : Ms) : Option (Ms) := some S
set_option maxRecDepth 100000 in
set_option maxHeartbeats 4000000 in
theorem wbM_takeWord_13 {p : Program} {l : Launch} {e : Env} {R : Room} {s : State} {m : MethodId} {args : Array Value} {below : List Frame} {meth : Method} {c : Code} {d : Dd} {g : Gm} {o : Ms} {N : Nat} (C : CM p s m args meth c d g cX9_takeWord 2 none) (hRm : 2 ≤ R.frames ∧ 43 ≤ R.locals)  (S : Ms) (H : Heap) (locs : List Loc) (ls : Array Slot) (hf : bM_takeWord_13 N  S = some o) (hR : RM d g S H) (hS : va_S (AM g) s.heap H locs) (hl : lv_has ls 2 [(0, .ref g.1)]) : W p l e R s m args below meth c H locs 0 0 (MQ below (QV d g o) args s 0 0 (AM g)) (F0 m 13 ls []) := by
  obtain ⟨hx, hb, hml, hown, hts, hK, hg, hr, hlk⟩ := id C
  unfold bM_takeWord_13 at hf
  exact mr_vret C hR hS hf dX9_takeWord_13
def fM_takeWord (N : Nat) (x1 : Int32) (S : Ms) : Option (Ms) := (fM_hasWord N x1 S).bind fun o2 => if o2.1 = 0 then ((fM_wrong N 1 o2.2).bind fun o10 => (bM_takeWord_13 N) o10) else ((bM_takeWord_13 N) o2.2)
set_option maxRecDepth 100000 in
set_option maxHeartbeats 4000000 in
theorem wfM_takeWord {p : Program} {l : Launch} {e : Env} {R : Room} {s : State} {m : MethodId} {args : Array Value} {below : List Frame} {meth : Method} {c : Code} {d : Dd} {g : Gm} {o : Ms} {N : Nat} (C : CM p s m args meth c d g cX9_takeWord 2 none) (hRm : 2 ≤ R.frames ∧ 43 ≤ R.locals) (x1 : Int32) (S : Ms) (H : Heap) (locs : List Loc) (ls : Array Slot) (hf : fM_takeWord N x1 S = some o) (hR : RM d g S H) (hS : va_S (AM g) s.heap H locs) (hl : lv_has ls 2 [(0, .ref g.1), (1, .int x1)]) : W p l e R s m args below meth c H locs 0 0 (MQ below (QV d g o) args s 0 0 (AM g)) (F0 m 0 ls []) := by
  obtain ⟨hx, hb, hml, hown, hts, hK, hg, hr, hlk⟩ := id C
  unfold fM_takeWord at hf
  refine lv_aload_n hx hb dX9_takeWord_0 rfl (lv_at hl 0 rfl) ?_
  refine lv_iload_n hx hb dX9_takeWord_1 rfl (lv_at hl 1 rfl) ?_
  obtain ⟨o2, ho2, hf⟩ := bnd_some hf
  refine mr_callIv C hR hS (As := [.int x1]) (rest := []) (MM_hasWord l d g N x1 S o2 ho2) wv_294 ⟨by omega, by omega⟩ rfl rfl (Nat.le_of_ble_eq_true rfl) hl.1 dX9_takeWord_2 ⟨Nat.zero_le _, Nat.zero_le _⟩ (fun H locs hR hS => ?_)
  refine lv_if_ne (tgt := 13) hx hb dX9_takeWord_5 (by decide) (fun hc => ?_) (fun hc => ?_)
  · rw [if_neg hc] at hf
    exact (wbM_takeWord_13 C hRm) _ _ _ _ hf hR hS (lv_sub hl [0] rfl)
  · rw [if_pos hc] at hf
    refine lv_aload_n hx hb dX9_takeWord_8 rfl (lv_at hl 0 rfl) ?_
    refine lv_iconst (v := 1) hx hb dX9_takeWord_9 (by decide) ?_
    obtain ⟨o10, ho10, hf⟩ := bnd_some hf
    refine mr_callVv C hR hS (As := [.int 1]) (rest := []) (MM_wrong l d g N 1 o2.2 o10 ho10) wv_287 ⟨by omega, by omega⟩ rfl rfl (Nat.le_of_ble_eq_true rfl) hl.1 dX9_takeWord_10 ⟨Nat.zero_le _, Nat.zero_le _⟩ (fun H locs hR hS => ?_)
    exact (wbM_takeWord_13 C hRm) _ _ _ _ hf hR hS (lv_sub hl [0] rfl)
theorem MM_takeWord (l : Launch) (d : Dd) (g : Gm) (N : Nat) (x1 : Int32) (S : Ms) (o : Ms) (hf : fM_takeWord N x1 S = some o) : MtV l d g yX9_takeWord cX9_takeWord 2 2 43 [.ref g.1, .int x1] S o :=
  mr_metV (by decide) rfl (Nat.le_of_ble_eq_true rfl) (fun p e s m args below meth c ls C hR hl => wfM_takeWord C ⟨Nat.le_refl _, Nat.le_refl _⟩ x1 S s.heap [] ls hf hR va_S.rf hl)
def bM_isName_62 (N : Nat) (r28 : Int32 → Int32 → Ms → Option (Int32 × Ms)) (k69 : Int32 → Ms → Option (Int32 × Ms)) (x2 : Int32) (s0 : Int32) (S : Ms) : Option (Int32 × Ms) := r28 s0 (x2 + 1) S
set_option maxRecDepth 100000 in
set_option maxHeartbeats 4000000 in
theorem wbM_isName_62 {p : Program} {l : Launch} {e : Env} {R : Room} {s : State} {m : MethodId} {args : Array Value} {below : List Frame} {meth : Method} {c : Code} {d : Dd} {g : Gm} {o : Int32 × Ms} {N : Nat} {r28 : Int32 → Int32 → Ms → Option (Int32 × Ms)} {k69 : Int32 → Ms → Option (Int32 × Ms)} (C : CM p s m args meth c d g cX9_isName 3 (some .boolean)) (hRm : 0 ≤ R.frames ∧ 0 ≤ R.locals) (hr28 : ∀ (x1 : Int32) (x2 : Int32) (S : Ms) (H : Heap) (locs : List Loc) (ls : Array Slot), r28 x1 x2 S = some o → RM d g S H → va_S (AM g) s.heap H locs → lv_has ls 3 [(0, .ref g.1), (1, .int x1), (2, .int x2)] → W p l e R s m args below meth c H locs 0 0 (MQ below (QI d g o) args s 0 0 (AM g)) (F0 m 28 ls [])) (hk69 : ∀ (x1 : Int32) (S : Ms) (H : Heap) (locs : List Loc) (ls : Array Slot), k69 x1 S = some o → RM d g S H → va_S (AM g) s.heap H locs → lv_has ls 3 [(0, .ref g.1), (1, .int x1)] → W p l e R s m args below meth c H locs 0 0 (MQ below (QI d g o) args s 0 0 (AM g)) (F0 m 69 ls [])) (x2 : Int32) (s0 : Int32) (S : Ms) (H : Heap) (locs : List Loc) (ls : Array Slot) (hf : bM_isName_62 N r28 k69 x2 s0 S = some o) (hR : RM d g S H) (hS : va_S (AM g) s.heap H locs) (hl : lv_has ls 3 [(0, .ref g.1), (2, .int x2)]) : W p l e R s m args below meth c H locs 0 0 (MQ below (QI d g o) args s 0 0 (AM g)) (F0 m 62 ls [.int s0]) := by
  obtain ⟨hx, hb, hml, hown, hts, hK, hg, hr, hlk⟩ := id C
  unfold bM_isName_62 at hf
  refine lv_istore_n (lv' := [(1, .int s0), (0, .ref g.1), (2, .int x2)]) hx hb dX9_isName_62 rfl hl (by decide) rfl (fun ls hl => ?_)
  refine lv_iinc (v := x2 + 1) (lv' := [(2, .int (x2 + 1)), (1, .int s0), (0, .ref g.1)]) hx hb dX9_isName_63 hl (k := 2) rfl rfl (by decide) rfl (fun ls hl => ?_)
  refine lv_goto (tgt := 28) hx hb dX9_isName_66 (by decide) ?_
  exact hr28 _ _ _ _ _ _ hf hR hS (lv_sub hl [2, 1, 0] rfl)
def lM_isName_28 (N : Nat) (k69 : Int32 → Ms → Option (Int32 × Ms)) : Nat → Int32 → Int32 → Ms → Option (Int32 × Ms)
  | 0, _, _, _ => none
  | n + 1, x1, x2, S => if 25 ≤ x2 then (k69 x1 S) else (if x1 = 0 then (k69 x1 S) else (ck (mF S 7) 4002 (ck x2 26 (if (lg_cmp (mL S 6 (mF S 7 : Int32).toNatClampNeg) (mL S 10 (x2 : Int32).toNatClampNeg)) = 0 then ((bM_isName_62 N (lM_isName_28 N k69 n) k69) x2 0 S) else ((bM_isName_62 N (lM_isName_28 N k69 n) k69) x2 1 S)))))
set_option maxRecDepth 100000 in
set_option maxHeartbeats 4000000 in
theorem wlM_isName_28 {p : Program} {l : Launch} {e : Env} {R : Room} {s : State} {m : MethodId} {args : Array Value} {below : List Frame} {meth : Method} {c : Code} {d : Dd} {g : Gm} {o : Int32 × Ms} {N : Nat} {k69 : Int32 → Ms → Option (Int32 × Ms)} (C : CM p s m args meth c d g cX9_isName 3 (some .boolean)) (hRm : 0 ≤ R.frames ∧ 0 ≤ R.locals) (hk69 : ∀ (x1 : Int32) (S : Ms) (H : Heap) (locs : List Loc) (ls : Array Slot), k69 x1 S = some o → RM d g S H → va_S (AM g) s.heap H locs → lv_has ls 3 [(0, .ref g.1), (1, .int x1)] → W p l e R s m args below meth c H locs 0 0 (MQ below (QI d g o) args s 0 0 (AM g)) (F0 m 69 ls [])) : ∀ (n : Nat) (x1 : Int32) (x2 : Int32) (S : Ms) (H : Heap) (locs : List Loc) (ls : Array Slot), lM_isName_28 N k69 n x1 x2 S = some o → RM d g S H → va_S (AM g) s.heap H locs → lv_has ls 3 [(0, .ref g.1), (1, .int x1), (2, .int x2)] → W p l e R s m args below meth c H locs 0 0 (MQ below (QI d g o) args s 0 0 (AM g)) (F0 m 28 ls []) := by
  obtain ⟨hx, hb, hml, hown, hts, hK, hg, hr, hlk⟩ := id C
  intro n
  induction n with
  | zero => intro x1 x2 S H locs ls hf; cases hf
  | succ n ih =>
    intro x1 x2 S H locs ls hf hR hS hl
    rw [lM_isName_28] at hf
    refine lv_iload_n hx hb dX9_isName_28 rfl (lv_at hl 2 rfl) ?_
    refine lv_bipush (v := 25) hx hb dX9_isName_29 (by decide) ?_
    refine lv_icmp_ge (tgt := 69) hx hb dX9_isName_31 (by decide) (fun hc => ?_) (fun hc => ?_)
    · rw [if_pos hc] at hf
      exact hk69 _ _ _ _ _ hf hR hS (lv_sub hl [0, 1] rfl)
    · rw [if_neg hc] at hf
      refine lv_iload_n hx hb dX9_isName_34 rfl (lv_at hl 1 rfl) ?_
      refine lv_if_eq (tgt := 69) hx hb dX9_isName_35 (by decide) (fun hc => ?_) (fun hc => ?_)
      · rw [if_pos hc] at hf
        exact hk69 _ _ _ _ _ hf hR hS (lv_sub hl [0, 1] rfl)
      · rw [if_neg hc] at hf
        refine lv_aload_n hx hb dX9_isName_38 rfl (lv_at hl 0 rfl) ?_
        refine mr_getR C hR fl_30 (by decide) dX9_isName_39 ?_
        refine lv_aload_n hx hb dX9_isName_42 rfl (lv_at hl 0 rfl) ?_
        refine mr_getI C hR fl_278 rfl dX9_isName_43 ?_
        obtain ⟨hi, hf⟩ := ck_some hf
        refine mr_lald C hR (k := 6) rfl hi dX9_isName_46 ?_
        refine lv_aload_n hx hb dX9_isName_47 rfl (lv_at hl 0 rfl) ?_
        refine mr_getR C hR fl_40 (by decide) dX9_isName_48 ?_
        refine lv_iload_n hx hb dX9_isName_51 rfl (lv_at hl 2 rfl) ?_
        obtain ⟨hi, hf⟩ := ck_some hf
        refine mr_lald C hR (k := 10) rfl hi dX9_isName_52 ?_
        refine W.lcmp hx hb dX9_isName_53 ?_
        refine lv_if_eq (tgt := 61) hx hb dX9_isName_54 (by decide) (fun hc => ?_) (fun hc => ?_)
        · rw [if_pos hc] at hf
          refine lv_iconst (v := 0) hx hb dX9_isName_61 (by decide) ?_
          exact (wbM_isName_62 C hRm ih hk69) _ _ _ _ _ _ hf hR hS (lv_sub hl [0, 2] rfl)
        · rw [if_neg hc] at hf
          refine lv_iconst (v := 1) hx hb dX9_isName_57 (by decide) ?_
          refine lv_goto (tgt := 62) hx hb dX9_isName_58 (by decide) ?_
          exact (wbM_isName_62 C hRm ih hk69) _ _ _ _ _ _ hf hR hS (lv_sub hl [0, 2] rfl)
def bM_isName_69 (N : Nat) (x1 : Int32) (S : Ms) : Option (Int32 × Ms) := gd (is01 x1) (some (x1, S))
set_option maxRecDepth 100000 in
set_option maxHeartbeats 4000000 in
theorem wbM_isName_69 {p : Program} {l : Launch} {e : Env} {R : Room} {s : State} {m : MethodId} {args : Array Value} {below : List Frame} {meth : Method} {c : Code} {d : Dd} {g : Gm} {o : Int32 × Ms} {N : Nat} (C : CM p s m args meth c d g cX9_isName 3 (some .boolean)) (hRm : 0 ≤ R.frames ∧ 0 ≤ R.locals) (x1 : Int32) (S : Ms) (H : Heap) (locs : List Loc) (ls : Array Slot) (hf : bM_isName_69 N x1 S = some o) (hR : RM d g S H) (hS : va_S (AM g) s.heap H locs) (hl : lv_has ls 3 [(0, .ref g.1), (1, .int x1)]) : W p l e R s m args below meth c H locs 0 0 (MQ below (QI d g o) args s 0 0 (AM g)) (F0 m 69 ls []) := by
  obtain ⟨hx, hb, hml, hown, hts, hK, hg, hr, hlk⟩ := id C
  unfold bM_isName_69 at hf
  refine lv_iload_n hx hb dX9_isName_69 rfl (lv_at hl 1 rfl) ?_
  obtain ⟨hz, hf⟩ := gd_some hf
  exact mr_zret C hR hS hz hf dX9_isName_70
def bM_isName_25 (N : Nat) (s0 : Int32) (S : Ms) : Option (Int32 × Ms) := (lM_isName_28 N (bM_isName_69 N) N) s0 0 S
set_option maxRecDepth 100000 in
set_option maxHeartbeats 4000000 in
theorem wbM_isName_25 {p : Program} {l : Launch} {e : Env} {R : Room} {s : State} {m : MethodId} {args : Array Value} {below : List Frame} {meth : Method} {c : Code} {d : Dd} {g : Gm} {o : Int32 × Ms} {N : Nat} (C : CM p s m args meth c d g cX9_isName 3 (some .boolean)) (hRm : 0 ≤ R.frames ∧ 0 ≤ R.locals) (s0 : Int32) (S : Ms) (H : Heap) (locs : List Loc) (ls : Array Slot) (hf : bM_isName_25 N s0 S = some o) (hR : RM d g S H) (hS : va_S (AM g) s.heap H locs) (hl : lv_has ls 3 [(0, .ref g.1)]) : W p l e R s m args below meth c H locs 0 0 (MQ below (QI d g o) args s 0 0 (AM g)) (F0 m 25 ls [.int s0]) := by
  obtain ⟨hx, hb, hml, hown, hts, hK, hg, hr, hlk⟩ := id C
  unfold bM_isName_25 at hf
  refine lv_istore_n (lv' := [(1, .int s0), (0, .ref g.1)]) hx hb dX9_isName_25 rfl hl (by decide) rfl (fun ls hl => ?_)
  refine lv_iconst (v := 0) hx hb dX9_isName_26 (by decide) ?_
  refine lv_istore_n (lv' := [(2, .int 0), (1, .int s0), (0, .ref g.1)]) hx hb dX9_isName_27 rfl hl (by decide) rfl (fun ls hl => ?_)
  exact (wlM_isName_28 C hRm (wbM_isName_69 C hRm) N) _ _ _ _ _ _ hf hR hS (lv_sub hl [2, 1, 0] rfl)
def bM_isName_24 (N : Nat)  (S : Ms) : Option (Int32 × Ms) := (bM_isName_25 N) 0 S
set_option maxRecDepth 100000 in
set_option maxHeartbeats 4000000 in
theorem wbM_isName_24 {p : Program} {l : Launch} {e : Env} {R : Room} {s : State} {m : MethodId} {args : Array Value} {below : List Frame} {meth : Method} {c : Code} {d : Dd} {g : Gm} {o : Int32 × Ms} {N : Nat} (C : CM p s m args meth c d g cX9_isName 3 (some .boolean)) (hRm : 0 ≤ R.frames ∧ 0 ≤ R.locals)  (S : Ms) (H : Heap) (locs : List Loc) (ls : Array Slot) (hf : bM_isName_24 N  S = some o) (hR : RM d g S H) (hS : va_S (AM g) s.heap H locs) (hl : lv_has ls 3 [(0, .ref g.1)]) : W p l e R s m args below meth c H locs 0 0 (MQ below (QI d g o) args s 0 0 (AM g)) (F0 m 24 ls []) := by
  obtain ⟨hx, hb, hml, hown, hts, hK, hg, hr, hlk⟩ := id C
  unfold bM_isName_24 at hf
  refine lv_iconst (v := 0) hx hb dX9_isName_24 (by decide) ?_
  exact (wbM_isName_25 C hRm) _ _ _ _ _ hf hR hS (lv_sub hl [0] rfl)
def fM_isName (N : Nat)  (S : Ms) : Option (Int32 × Ms) := if (mF S 8) = 0 then (ck (mF S 7) 4002 (if (mA S 4 (mF S 7 : Int32).toNatClampNeg) = 1 then ((bM_isName_25 N) 1 S) else ((bM_isName_24 N) S))) else ((bM_isName_24 N) S)
set_option maxRecDepth 100000 in
set_option maxHeartbeats 4000000 in
theorem wfM_isName {p : Program} {l : Launch} {e : Env} {R : Room} {s : State} {m : MethodId} {args : Array Value} {below : List Frame} {meth : Method} {c : Code} {d : Dd} {g : Gm} {o : Int32 × Ms} {N : Nat} (C : CM p s m args meth c d g cX9_isName 3 (some .boolean)) (hRm : 0 ≤ R.frames ∧ 0 ≤ R.locals)  (S : Ms) (H : Heap) (locs : List Loc) (ls : Array Slot) (hf : fM_isName N  S = some o) (hR : RM d g S H) (hS : va_S (AM g) s.heap H locs) (hl : lv_has ls 3 [(0, .ref g.1)]) : W p l e R s m args below meth c H locs 0 0 (MQ below (QI d g o) args s 0 0 (AM g)) (F0 m 0 ls []) := by
  obtain ⟨hx, hb, hml, hown, hts, hK, hg, hr, hlk⟩ := id C
  unfold fM_isName at hf
  refine lv_aload_n hx hb dX9_isName_0 rfl (lv_at hl 0 rfl) ?_
  refine mr_getI C hR fl_281 rfl dX9_isName_1 ?_
  refine lv_if_ne (tgt := 24) hx hb dX9_isName_4 (by decide) (fun hc => ?_) (fun hc => ?_)
  · rw [if_neg hc] at hf
    exact (wbM_isName_24 C hRm) _ _ _ _ hf hR hS (lv_sub hl [0] rfl)
  · rw [if_pos hc] at hf
    refine lv_aload_n hx hb dX9_isName_7 rfl (lv_at hl 0 rfl) ?_
    refine mr_getR C hR fl_24 (by decide) dX9_isName_8 ?_
    refine lv_aload_n hx hb dX9_isName_11 rfl (lv_at hl 0 rfl) ?_
    refine mr_getI C hR fl_278 rfl dX9_isName_12 ?_
    obtain ⟨hi, hf⟩ := ck_some hf
    refine mr_iald C hR (k := 4) rfl hi dX9_isName_15 ?_
    refine lv_iconst (v := 1) hx hb dX9_isName_16 (by decide) ?_
    refine lv_icmp_ne (tgt := 24) hx hb dX9_isName_17 (by decide) (fun hc => ?_) (fun hc => ?_)
    · rw [if_neg hc] at hf
      exact (wbM_isName_24 C hRm) _ _ _ _ hf hR hS (lv_sub hl [0] rfl)
    · rw [if_pos hc] at hf
      refine lv_iconst (v := 1) hx hb dX9_isName_20 (by decide) ?_
      refine lv_goto (tgt := 25) hx hb dX9_isName_21 (by decide) ?_
      exact (wbM_isName_25 C hRm) _ _ _ _ _ hf hR hS (lv_sub hl [0] rfl)
theorem MM_isName (l : Launch) (d : Dd) (g : Gm) (N : Nat)  (S : Ms) (o : Int32 × Ms) (hf : fM_isName N  S = some o) : MtI l d g yX9_isName cX9_isName 3 (some .boolean) 0 0 [.ref g.1] S o :=
  mr_metI (by decide) rfl (Nat.le_of_ble_eq_true rfl) (fun p e s m args below meth c ls C hR hl => wfM_isName C ⟨Nat.le_refl _, Nat.le_refl _⟩  S s.heap [] ls hf hR va_S.rf hl)
def bM_takeNumber_103 (N : Nat) (s0 : Int32) (S : Ms) : Option (Int32 × Ms) := some (s0, S)
set_option maxRecDepth 100000 in
set_option maxHeartbeats 4000000 in
theorem wbM_takeNumber_103 {p : Program} {l : Launch} {e : Env} {R : Room} {s : State} {m : MethodId} {args : Array Value} {below : List Frame} {meth : Method} {c : Code} {d : Dd} {g : Gm} {o : Int32 × Ms} {N : Nat} (C : CM p s m args meth c d g cX9_takeNumber 3 (some .int)) (hRm : 1 ≤ R.frames ∧ 21 ≤ R.locals) (s0 : Int32) (S : Ms) (H : Heap) (locs : List Loc) (ls : Array Slot) (hf : bM_takeNumber_103 N s0 S = some o) (hR : RM d g S H) (hS : va_S (AM g) s.heap H locs) (hl : lv_has ls 3 [(0, .ref g.1)]) : W p l e R s m args below meth c H locs 0 0 (MQ below (QI d g o) args s 0 0 (AM g)) (F0 m 103 ls [.int s0]) := by
  obtain ⟨hx, hb, hml, hown, hts, hK, hg, hr, hlk⟩ := id C
  unfold bM_takeNumber_103 at hf
  exact mr_iret C hR hS hf dX9_takeNumber_103
def bM_takeNumber_70 (N : Nat)  (S : Ms) : Option (Int32 × Ms) := if (mF (pF S 7 ((mF S 7) + 1)) 8) ≤ 0 then (ck ((mF (pF S 7 ((mF S 7) + 1)) 7) - 1) 4002 ((bM_takeNumber_103 N) ((mL (pF S 7 ((mF S 7) + 1)) 6 ((mF (pF S 7 ((mF S 7) + 1)) 7) - 1 : Int32).toNatClampNeg : Int64).toInt32) (pF S 7 ((mF S 7) + 1)))) else ((bM_takeNumber_103 N) 0 (pF S 7 ((mF S 7) + 1)))
set_option maxRecDepth 100000 in
set_option maxHeartbeats 4000000 in
theorem wbM_takeNumber_70 {p : Program} {l : Launch} {e : Env} {R : Room} {s : State} {m : MethodId} {args : Array Value} {below : List Frame} {meth : Method} {c : Code} {d : Dd} {g : Gm} {o : Int32 × Ms} {N : Nat} (C : CM p s m args meth c d g cX9_takeNumber 3 (some .int)) (hRm : 1 ≤ R.frames ∧ 21 ≤ R.locals)  (S : Ms) (H : Heap) (locs : List Loc) (ls : Array Slot) (hf : bM_takeNumber_70 N  S = some o) (hR : RM d g S H) (hS : va_S (AM g) s.heap H locs) (hl : lv_has ls 3 [(0, .ref g.1)]) : W p l e R s m args below meth c H locs 0 0 (MQ below (QI d g o) args s 0 0 (AM g)) (F0 m 70 ls []) := by
  obtain ⟨hx, hb, hml, hown, hts, hK, hg, hr, hlk⟩ := id C
  unfold bM_takeNumber_70 at hf
  refine lv_aload_n hx hb dX9_takeNumber_70 rfl (lv_at hl 0 rfl) ?_
  refine lv_dup hx hb dX9_takeNumber_71 rfl ?_
  refine mr_getI C hR fl_278 rfl dX9_takeNumber_72 ?_
  refine lv_iconst (v := 1) hx hb dX9_takeNumber_75 (by decide) ?_
  refine lv_iadd hx hb dX9_takeNumber_76 ?_
  refine mr_putI C hR hS fl_278 ⟨rfl, rfl, rfl⟩ dX9_takeNumber_77 (fun H locs hR hS => ?_)
  refine lv_aload_n hx hb dX9_takeNumber_80 rfl (lv_at hl 0 rfl) ?_
  refine mr_getI C hR fl_281 rfl dX9_takeNumber_81 ?_
  refine lv_if_le (tgt := 91) hx hb dX9_takeNumber_84 (by decide) (fun hc => ?_) (fun hc => ?_)
  · rw [if_pos hc] at hf
    refine lv_aload_n hx hb dX9_takeNumber_91 rfl (lv_at hl 0 rfl) ?_
    refine mr_getR C hR fl_30 (by decide) dX9_takeNumber_92 ?_
    refine lv_aload_n hx hb dX9_takeNumber_95 rfl (lv_at hl 0 rfl) ?_
    refine mr_getI C hR fl_278 rfl dX9_takeNumber_96 ?_
    refine lv_iconst (v := 1) hx hb dX9_takeNumber_99 (by decide) ?_
    refine lv_isub hx hb dX9_takeNumber_100 ?_
    obtain ⟨hi, hf⟩ := ck_some hf
    refine mr_lald C hR (k := 6) rfl hi dX9_takeNumber_101 ?_
    refine lv_l2i (v := (mL (pF S 7 ((mF S 7) + 1)) 6 ((mF (pF S 7 ((mF S 7) + 1)) 7) - 1 : Int32).toNatClampNeg : Int64).toInt32) hx hb dX9_takeNumber_102 rfl ?_
    exact (wbM_takeNumber_103 C hRm) _ _ _ _ _ hf hR hS (lv_sub hl [0] rfl)
  · rw [if_neg hc] at hf
    refine lv_iconst (v := 0) hx hb dX9_takeNumber_87 (by decide) ?_
    refine lv_goto (tgt := 103) hx hb dX9_takeNumber_88 (by decide) ?_
    exact (wbM_takeNumber_103 C hRm) _ _ _ _ _ hf hR hS (lv_sub hl [0] rfl)
def bM_takeNumber_65 (N : Nat)  (S : Ms) : Option (Int32 × Ms) := (fM_wrong N 4 S).bind fun o67 => (bM_takeNumber_70 N) o67
set_option maxRecDepth 100000 in
set_option maxHeartbeats 4000000 in
theorem wbM_takeNumber_65 {p : Program} {l : Launch} {e : Env} {R : Room} {s : State} {m : MethodId} {args : Array Value} {below : List Frame} {meth : Method} {c : Code} {d : Dd} {g : Gm} {o : Int32 × Ms} {N : Nat} (C : CM p s m args meth c d g cX9_takeNumber 3 (some .int)) (hRm : 1 ≤ R.frames ∧ 21 ≤ R.locals)  (S : Ms) (H : Heap) (locs : List Loc) (ls : Array Slot) (hf : bM_takeNumber_65 N  S = some o) (hR : RM d g S H) (hS : va_S (AM g) s.heap H locs) (hl : lv_has ls 3 [(0, .ref g.1)]) : W p l e R s m args below meth c H locs 0 0 (MQ below (QI d g o) args s 0 0 (AM g)) (F0 m 65 ls []) := by
  obtain ⟨hx, hb, hml, hown, hts, hK, hg, hr, hlk⟩ := id C
  unfold bM_takeNumber_65 at hf
  refine lv_aload_n hx hb dX9_takeNumber_65 rfl (lv_at hl 0 rfl) ?_
  refine lv_iconst (v := 4) hx hb dX9_takeNumber_66 (by decide) ?_
  obtain ⟨o67, ho67, hf⟩ := bnd_some hf
  refine mr_callVv C hR hS (As := [.int 4]) (rest := []) (MM_wrong l d g N 4 S o67 ho67) wv_287 ⟨by omega, by omega⟩ rfl rfl (Nat.le_of_ble_eq_true rfl) hl.1 dX9_takeNumber_67 ⟨Nat.zero_le _, Nat.zero_le _⟩ (fun H locs hR hS => ?_)
  exact (wbM_takeNumber_70 C hRm) _ _ _ _ hf hR hS (lv_sub hl [0] rfl)
def bM_takeNumber_28 (N : Nat) (x1 : Int32) (x2 : Int32) (S : Ms) : Option (Int32 × Ms) := if (mF S 8) = 0 then (ck (mF S 7) 4002 (if (lg_cmp (mL S 6 (mF S 7 : Int32).toNatClampNeg) ((x1 : Int32).toInt64)) < 0 then ((bM_takeNumber_65 N) S) else (ck (mF S 7) 4002 (if (lg_cmp (mL S 6 (mF S 7 : Int32).toNatClampNeg) ((x2 : Int32).toInt64)) ≤ 0 then ((bM_takeNumber_70 N) S) else ((bM_takeNumber_65 N) S))))) else ((bM_takeNumber_70 N) S)
set_option maxRecDepth 100000 in
set_option maxHeartbeats 4000000 in
theorem wbM_takeNumber_28 {p : Program} {l : Launch} {e : Env} {R : Room} {s : State} {m : MethodId} {args : Array Value} {below : List Frame} {meth : Method} {c : Code} {d : Dd} {g : Gm} {o : Int32 × Ms} {N : Nat} (C : CM p s m args meth c d g cX9_takeNumber 3 (some .int)) (hRm : 1 ≤ R.frames ∧ 21 ≤ R.locals) (x1 : Int32) (x2 : Int32) (S : Ms) (H : Heap) (locs : List Loc) (ls : Array Slot) (hf : bM_takeNumber_28 N x1 x2 S = some o) (hR : RM d g S H) (hS : va_S (AM g) s.heap H locs) (hl : lv_has ls 3 [(0, .ref g.1), (1, .int x1), (2, .int x2)]) : W p l e R s m args below meth c H locs 0 0 (MQ below (QI d g o) args s 0 0 (AM g)) (F0 m 28 ls []) := by
  obtain ⟨hx, hb, hml, hown, hts, hK, hg, hr, hlk⟩ := id C
  unfold bM_takeNumber_28 at hf
  refine lv_aload_n hx hb dX9_takeNumber_28 rfl (lv_at hl 0 rfl) ?_
  refine mr_getI C hR fl_281 rfl dX9_takeNumber_29 ?_
  refine lv_if_ne (tgt := 70) hx hb dX9_takeNumber_32 (by decide) (fun hc => ?_) (fun hc => ?_)
  · rw [if_neg hc] at hf
    exact (wbM_takeNumber_70 C hRm) _ _ _ _ hf hR hS (lv_sub hl [0] rfl)
  · rw [if_pos hc] at hf
    refine lv_aload_n hx hb dX9_takeNumber_35 rfl (lv_at hl 0 rfl) ?_
    refine mr_getR C hR fl_30 (by decide) dX9_takeNumber_36 ?_
    refine lv_aload_n hx hb dX9_takeNumber_39 rfl (lv_at hl 0 rfl) ?_
    refine mr_getI C hR fl_278 rfl dX9_takeNumber_40 ?_
    obtain ⟨hi, hf⟩ := ck_some hf
    refine mr_lald C hR (k := 6) rfl hi dX9_takeNumber_43 ?_
    refine lv_iload_n hx hb dX9_takeNumber_44 rfl (lv_at hl 1 rfl) ?_
    refine lv_i2l (v := (x1 : Int32).toInt64) hx hb dX9_takeNumber_45 rfl ?_
    refine W.lcmp hx hb dX9_takeNumber_46 ?_
    refine lv_if_lt (tgt := 65) hx hb dX9_takeNumber_47 (by decide) (fun hc => ?_) (fun hc => ?_)
    · rw [if_pos hc] at hf
      exact (wbM_takeNumber_65 C hRm) _ _ _ _ hf hR hS (lv_sub hl [0] rfl)
    · rw [if_neg hc] at hf
      refine lv_aload_n hx hb dX9_takeNumber_50 rfl (lv_at hl 0 rfl) ?_
      refine mr_getR C hR fl_30 (by decide) dX9_takeNumber_51 ?_
      refine lv_aload_n hx hb dX9_takeNumber_54 rfl (lv_at hl 0 rfl) ?_
      refine mr_getI C hR fl_278 rfl dX9_takeNumber_55 ?_
      obtain ⟨hi, hf⟩ := ck_some hf
      refine mr_lald C hR (k := 6) rfl hi dX9_takeNumber_58 ?_
      refine lv_iload_n hx hb dX9_takeNumber_59 rfl (lv_at hl 2 rfl) ?_
      refine lv_i2l (v := (x2 : Int32).toInt64) hx hb dX9_takeNumber_60 rfl ?_
      refine W.lcmp hx hb dX9_takeNumber_61 ?_
      refine lv_if_le (tgt := 70) hx hb dX9_takeNumber_62 (by decide) (fun hc => ?_) (fun hc => ?_)
      · rw [if_pos hc] at hf
        exact (wbM_takeNumber_70 C hRm) _ _ _ _ hf hR hS (lv_sub hl [0] rfl)
      · rw [if_neg hc] at hf
        exact (wbM_takeNumber_65 C hRm) _ _ _ _ hf hR hS (lv_sub hl [0] rfl)
def fM_takeNumber (N : Nat) (x1 : Int32) (x2 : Int32) (S : Ms) : Option (Int32 × Ms) := if (mF S 8) = 0 then (ck (mF S 7) 4002 (if (mA S 4 (mF S 7 : Int32).toNatClampNeg) = 2 then ((bM_takeNumber_28 N) x1 x2 S) else ((fM_wrong N 1 S).bind fun o22 => (bM_takeNumber_70 N) o22))) else ((bM_takeNumber_28 N) x1 x2 S)
set_option maxRecDepth 100000 in
set_option maxHeartbeats 4000000 in
theorem wfM_takeNumber {p : Program} {l : Launch} {e : Env} {R : Room} {s : State} {m : MethodId} {args : Array Value} {below : List Frame} {meth : Method} {c : Code} {d : Dd} {g : Gm} {o : Int32 × Ms} {N : Nat} (C : CM p s m args meth c d g cX9_takeNumber 3 (some .int)) (hRm : 1 ≤ R.frames ∧ 21 ≤ R.locals) (x1 : Int32) (x2 : Int32) (S : Ms) (H : Heap) (locs : List Loc) (ls : Array Slot) (hf : fM_takeNumber N x1 x2 S = some o) (hR : RM d g S H) (hS : va_S (AM g) s.heap H locs) (hl : lv_has ls 3 [(0, .ref g.1), (1, .int x1), (2, .int x2)]) : W p l e R s m args below meth c H locs 0 0 (MQ below (QI d g o) args s 0 0 (AM g)) (F0 m 0 ls []) := by
  obtain ⟨hx, hb, hml, hown, hts, hK, hg, hr, hlk⟩ := id C
  unfold fM_takeNumber at hf
  refine lv_aload_n hx hb dX9_takeNumber_0 rfl (lv_at hl 0 rfl) ?_
  refine mr_getI C hR fl_281 rfl dX9_takeNumber_1 ?_
  refine lv_if_ne (tgt := 28) hx hb dX9_takeNumber_4 (by decide) (fun hc => ?_) (fun hc => ?_)
  · rw [if_neg hc] at hf
    exact (wbM_takeNumber_28 C hRm) _ _ _ _ _ _ hf hR hS (lv_sub hl [0, 1, 2] rfl)
  · rw [if_pos hc] at hf
    refine lv_aload_n hx hb dX9_takeNumber_7 rfl (lv_at hl 0 rfl) ?_
    refine mr_getR C hR fl_24 (by decide) dX9_takeNumber_8 ?_
    refine lv_aload_n hx hb dX9_takeNumber_11 rfl (lv_at hl 0 rfl) ?_
    refine mr_getI C hR fl_278 rfl dX9_takeNumber_12 ?_
    obtain ⟨hi, hf⟩ := ck_some hf
    refine mr_iald C hR (k := 4) rfl hi dX9_takeNumber_15 ?_
    refine lv_iconst (v := 2) hx hb dX9_takeNumber_16 (by decide) ?_
    refine lv_icmp_eq (tgt := 28) hx hb dX9_takeNumber_17 (by decide) (fun hc => ?_) (fun hc => ?_)
    · rw [if_pos hc] at hf
      exact (wbM_takeNumber_28 C hRm) _ _ _ _ _ _ hf hR hS (lv_sub hl [0, 1, 2] rfl)
    · rw [if_neg hc] at hf
      refine lv_aload_n hx hb dX9_takeNumber_20 rfl (lv_at hl 0 rfl) ?_
      refine lv_iconst (v := 1) hx hb dX9_takeNumber_21 (by decide) ?_
      obtain ⟨o22, ho22, hf⟩ := bnd_some hf
      refine mr_callVv C hR hS (As := [.int 1]) (rest := []) (MM_wrong l d g N 1 S o22 ho22) wv_287 ⟨by omega, by omega⟩ rfl rfl (Nat.le_of_ble_eq_true rfl) hl.1 dX9_takeNumber_22 ⟨Nat.zero_le _, Nat.zero_le _⟩ (fun H locs hR hS => ?_)
      refine lv_goto (tgt := 70) hx hb dX9_takeNumber_25 (by decide) ?_
      exact (wbM_takeNumber_70 C hRm) _ _ _ _ hf hR hS (lv_sub hl [0] rfl)
theorem MM_takeNumber (l : Launch) (d : Dd) (g : Gm) (N : Nat) (x1 : Int32) (x2 : Int32) (S : Ms) (o : Int32 × Ms) (hf : fM_takeNumber N x1 x2 S = some o) : MtI l d g yX9_takeNumber cX9_takeNumber 3 (some .int) 1 21 [.ref g.1, .int x1, .int x2] S o :=
  mr_metI (by decide) rfl (Nat.le_of_ble_eq_true rfl) (fun p e s m args below meth c ls C hR hl => wfM_takeNumber C ⟨Nat.le_refl _, Nat.le_refl _⟩ x1 x2 S s.heap [] ls hf hR va_S.rf hl)
def bM_find_31 (N : Nat) (r6 : Nat → Int32 → Int32 → Int64 → Int32 → Int32 → Ms → Option (Int32 × Ms)) (k39 : Int32 → Ms → Option (Int32 × Ms)) (x1 : Nat) (x2 : Int32) (x3 : Int32) (x4 : Int64) (x7 : Int32) (s0 : Int32) (S : Ms) : Option (Int32 × Ms) := r6 x1 x2 x3 x4 s0 (x7 + 1) S
set_option maxRecDepth 100000 in
set_option maxHeartbeats 4000000 in
theorem wbM_find_31 {p : Program} {l : Launch} {e : Env} {R : Room} {s : State} {m : MethodId} {args : Array Value} {below : List Frame} {meth : Method} {c : Code} {d : Dd} {g : Gm} {o : Int32 × Ms} {N : Nat} {r6 : Nat → Int32 → Int32 → Int64 → Int32 → Int32 → Ms → Option (Int32 × Ms)} {k39 : Int32 → Ms → Option (Int32 × Ms)} (C : CM p s m args meth c d g cX9_find 8 (some .int)) (hRm : 0 ≤ R.frames ∧ 0 ≤ R.locals) (hr6 : ∀ (x1 : Nat) (x2 : Int32) (x3 : Int32) (x4 : Int64) (x6 : Int32) (x7 : Int32) (S : Ms) (H : Heap) (locs : List Loc) (ls : Array Slot), r6 x1 x2 x3 x4 x6 x7 S = some o → RM d g S H → va_S (AM g) s.heap H locs → lv_has ls 8 [(0, .ref g.1), (1, .ref (g.2 x1)), (2, .int x2), (3, .int x3), (4, .long x4), (6, .int x6), (7, .int x7)] → W p l e R s m args below meth c H locs 0 0 (MQ below (QI d g o) args s 0 0 (AM g)) (F0 m 6 ls [])) (hk39 : ∀ (x6 : Int32) (S : Ms) (H : Heap) (locs : List Loc) (ls : Array Slot), k39 x6 S = some o → RM d g S H → va_S (AM g) s.heap H locs → lv_has ls 8 [(0, .ref g.1), (6, .int x6)] → W p l e R s m args below meth c H locs 0 0 (MQ below (QI d g o) args s 0 0 (AM g)) (F0 m 39 ls [])) (x1 : Nat) (x2 : Int32) (x3 : Int32) (x4 : Int64) (x7 : Int32) (s0 : Int32) (S : Ms) (H : Heap) (locs : List Loc) (ls : Array Slot) (hf : bM_find_31 N r6 k39 x1 x2 x3 x4 x7 s0 S = some o) (hR : RM d g S H) (hS : va_S (AM g) s.heap H locs) (hl : lv_has ls 8 [(0, .ref g.1), (1, .ref (g.2 x1)), (2, .int x2), (3, .int x3), (4, .long x4), (7, .int x7)]) : W p l e R s m args below meth c H locs 0 0 (MQ below (QI d g o) args s 0 0 (AM g)) (F0 m 31 ls [.int s0]) := by
  obtain ⟨hx, hb, hml, hown, hts, hK, hg, hr, hlk⟩ := id C
  unfold bM_find_31 at hf
  refine lv_istore (lv' := [(6, .int s0), (0, .ref g.1), (1, .ref (g.2 x1)), (2, .int x2), (3, .int x3), (4, .long x4), (7, .int x7)]) hx hb dX9_find_31 hl (by decide) rfl (fun ls hl => ?_)
  refine lv_iinc (v := x7 + 1) (lv' := [(7, .int (x7 + 1)), (6, .int s0), (0, .ref g.1), (1, .ref (g.2 x1)), (2, .int x2), (3, .int x3), (4, .long x4)]) hx hb dX9_find_33 hl (k := 6) rfl rfl (by decide) rfl (fun ls hl => ?_)
  refine lv_goto (tgt := 6) hx hb dX9_find_36 (by decide) ?_
  exact hr6 _ _ _ _ _ _ _ _ _ _ hf hR hS (lv_sub hl [2, 3, 4, 5, 6, 1, 0] rfl)
def lM_find_6 (N : Nat) (k39 : Int32 → Ms → Option (Int32 × Ms)) : Nat → Nat → Int32 → Int32 → Int64 → Int32 → Int32 → Ms → Option (Int32 × Ms)
  | 0, _, _, _, _, _, _, _ => none
  | n + 1, x1, x2, x3, x4, x6, x7, S => if x3 ≤ x7 then (k39 x6 S) else (gd (srt x1 == 2) (ck (x2 + x7) (lnM x1) (if (lg_cmp (mL S x1 (x2 + x7 : Int32).toNatClampNeg) x4) = 0 then ((bM_find_31 N (lM_find_6 N k39 n) k39) x1 x2 x3 x4 x7 x7 S) else ((bM_find_31 N (lM_find_6 N k39 n) k39) x1 x2 x3 x4 x7 x6 S))))
set_option maxRecDepth 100000 in
set_option maxHeartbeats 4000000 in
theorem wlM_find_6 {p : Program} {l : Launch} {e : Env} {R : Room} {s : State} {m : MethodId} {args : Array Value} {below : List Frame} {meth : Method} {c : Code} {d : Dd} {g : Gm} {o : Int32 × Ms} {N : Nat} {k39 : Int32 → Ms → Option (Int32 × Ms)} (C : CM p s m args meth c d g cX9_find 8 (some .int)) (hRm : 0 ≤ R.frames ∧ 0 ≤ R.locals) (hk39 : ∀ (x6 : Int32) (S : Ms) (H : Heap) (locs : List Loc) (ls : Array Slot), k39 x6 S = some o → RM d g S H → va_S (AM g) s.heap H locs → lv_has ls 8 [(0, .ref g.1), (6, .int x6)] → W p l e R s m args below meth c H locs 0 0 (MQ below (QI d g o) args s 0 0 (AM g)) (F0 m 39 ls [])) : ∀ (n : Nat) (x1 : Nat) (x2 : Int32) (x3 : Int32) (x4 : Int64) (x6 : Int32) (x7 : Int32) (S : Ms) (H : Heap) (locs : List Loc) (ls : Array Slot), lM_find_6 N k39 n x1 x2 x3 x4 x6 x7 S = some o → RM d g S H → va_S (AM g) s.heap H locs → lv_has ls 8 [(0, .ref g.1), (1, .ref (g.2 x1)), (2, .int x2), (3, .int x3), (4, .long x4), (6, .int x6), (7, .int x7)] → W p l e R s m args below meth c H locs 0 0 (MQ below (QI d g o) args s 0 0 (AM g)) (F0 m 6 ls []) := by
  obtain ⟨hx, hb, hml, hown, hts, hK, hg, hr, hlk⟩ := id C
  intro n
  induction n with
  | zero => intro x1 x2 x3 x4 x6 x7 S H locs ls hf; cases hf
  | succ n ih =>
    intro x1 x2 x3 x4 x6 x7 S H locs ls hf hR hS hl
    rw [lM_find_6] at hf
    refine lv_iload hx hb dX9_find_6 (lv_at hl 6 rfl) ?_
    refine lv_iload_n hx hb dX9_find_8 rfl (lv_at hl 3 rfl) ?_
    refine lv_icmp_ge (tgt := 39) hx hb dX9_find_9 (by decide) (fun hc => ?_) (fun hc => ?_)
    · rw [if_pos hc] at hf
      exact hk39 _ _ _ _ _ hf hR hS (lv_sub hl [0, 5] rfl)
    · rw [if_neg hc] at hf
      refine lv_aload_n hx hb dX9_find_12 rfl (lv_at hl 1 rfl) ?_
      refine lv_iload_n hx hb dX9_find_13 rfl (lv_at hl 2 rfl) ?_
      refine lv_iload hx hb dX9_find_14 (lv_at hl 6 rfl) ?_
      refine lv_iadd hx hb dX9_find_16 ?_
      obtain ⟨hq, hf⟩ := gd_some hf
      obtain ⟨hi, hf⟩ := ck_some hf
      refine mr_lald C hR (k := x1) (by simpa using hq) hi dX9_find_17 ?_
      refine lv_lload hx hb dX9_find_18 (lv_at hl 4 rfl) ?_
      refine W.lcmp hx hb dX9_find_20 ?_
      refine lv_if_ne (tgt := 29) hx hb dX9_find_21 (by decide) (fun hc => ?_) (fun hc => ?_)
      · rw [if_neg hc] at hf
        refine lv_iload hx hb dX9_find_29 (lv_at hl 5 rfl) ?_
        exact (wbM_find_31 C hRm ih hk39) _ _ _ _ _ _ _ _ _ _ hf hR hS (lv_sub hl [0, 1, 2, 3, 4, 6] rfl)
      · rw [if_pos hc] at hf
        refine lv_iload hx hb dX9_find_24 (lv_at hl 6 rfl) ?_
        refine lv_goto (tgt := 31) hx hb dX9_find_26 (by decide) ?_
        exact (wbM_find_31 C hRm ih hk39) _ _ _ _ _ _ _ _ _ _ hf hR hS (lv_sub hl [0, 1, 2, 3, 4, 6] rfl)
def bM_find_39 (N : Nat) (x6 : Int32) (S : Ms) : Option (Int32 × Ms) := some (x6, S)
set_option maxRecDepth 100000 in
set_option maxHeartbeats 4000000 in
theorem wbM_find_39 {p : Program} {l : Launch} {e : Env} {R : Room} {s : State} {m : MethodId} {args : Array Value} {below : List Frame} {meth : Method} {c : Code} {d : Dd} {g : Gm} {o : Int32 × Ms} {N : Nat} (C : CM p s m args meth c d g cX9_find 8 (some .int)) (hRm : 0 ≤ R.frames ∧ 0 ≤ R.locals) (x6 : Int32) (S : Ms) (H : Heap) (locs : List Loc) (ls : Array Slot) (hf : bM_find_39 N x6 S = some o) (hR : RM d g S H) (hS : va_S (AM g) s.heap H locs) (hl : lv_has ls 8 [(0, .ref g.1), (6, .int x6)]) : W p l e R s m args below meth c H locs 0 0 (MQ below (QI d g o) args s 0 0 (AM g)) (F0 m 39 ls []) := by
  obtain ⟨hx, hb, hml, hown, hts, hK, hg, hr, hlk⟩ := id C
  unfold bM_find_39 at hf
  refine lv_iload hx hb dX9_find_39 (lv_at hl 1 rfl) ?_
  exact mr_iret C hR hS hf dX9_find_41
def fM_find (N : Nat) (x1 : Nat) (x2 : Int32) (x3 : Int32) (x4 : Int64) (S : Ms) : Option (Int32 × Ms) := (lM_find_6 N (bM_find_39 N) N) x1 x2 x3 x4 (-1) 0 S
set_option maxRecDepth 100000 in
set_option maxHeartbeats 4000000 in
theorem wfM_find {p : Program} {l : Launch} {e : Env} {R : Room} {s : State} {m : MethodId} {args : Array Value} {below : List Frame} {meth : Method} {c : Code} {d : Dd} {g : Gm} {o : Int32 × Ms} {N : Nat} (C : CM p s m args meth c d g cX9_find 8 (some .int)) (hRm : 0 ≤ R.frames ∧ 0 ≤ R.locals) (x1 : Nat) (x2 : Int32) (x3 : Int32) (x4 : Int64) (S : Ms) (H : Heap) (locs : List Loc) (ls : Array Slot) (hf : fM_find N x1 x2 x3 x4 S = some o) (hR : RM d g S H) (hS : va_S (AM g) s.heap H locs) (hl : lv_has ls 8 [(0, .ref g.1), (1, .ref (g.2 x1)), (2, .int x2), (3, .int x3), (4, .long x4)]) : W p l e R s m args below meth c H locs 0 0 (MQ below (QI d g o) args s 0 0 (AM g)) (F0 m 0 ls []) := by
  obtain ⟨hx, hb, hml, hown, hts, hK, hg, hr, hlk⟩ := id C
  unfold fM_find at hf
  refine lv_iconst (v := (-1)) hx hb dX9_find_0 (by decide) ?_
  refine lv_istore (lv' := [(6, .int (-1)), (0, .ref g.1), (1, .ref (g.2 x1)), (2, .int x2), (3, .int x3), (4, .long x4)]) hx hb dX9_find_1 hl (by decide) rfl (fun ls hl => ?_)
  refine lv_iconst (v := 0) hx hb dX9_find_3 (by decide) ?_
  refine lv_istore (lv' := [(7, .int 0), (6, .int (-1)), (0, .ref g.1), (1, .ref (g.2 x1)), (2, .int x2), (3, .int x3), (4, .long x4)]) hx hb dX9_find_4 hl (by decide) rfl (fun ls hl => ?_)
  exact (wlM_find_6 C hRm (wbM_find_39 C hRm) N) _ _ _ _ _ _ _ _ _ _ hf hR hS (lv_sub hl [2, 3, 4, 5, 6, 1, 0] rfl)
theorem MM_find (l : Launch) (d : Dd) (g : Gm) (N : Nat) (x1 : Nat) (x2 : Int32) (x3 : Int32) (x4 : Int64) (S : Ms) (o : Int32 × Ms) (hf : fM_find N x1 x2 x3 x4 S = some o) : MtI l d g yX9_find cX9_find 8 (some .int) 0 0 [.ref g.1, .ref (g.2 x1), .int x2, .int x3, .long x4] S o :=
  mr_metI (by decide) rfl (Nat.le_of_ble_eq_true rfl) (fun p e s m args below meth c ls C hR hl => wfM_find C ⟨Nat.le_refl _, Nat.le_refl _⟩ x1 x2 x3 x4 S s.heap [] ls hf hR va_S.rf hl)
def fM_findUnit (N : Nat) (x1 : Int64) (S : Ms) : Option (Int32 × Ms) := ck (mF S 12) 2 ((fM_find N 19 (24 * (mF S 12)) (mA S 18 (mF S 12 : Int32).toNatClampNeg) x1 S).bind fun o22 => some (o22.1, o22.2))
set_option maxRecDepth 100000 in
set_option maxHeartbeats 4000000 in
theorem wfM_findUnit {p : Program} {l : Launch} {e : Env} {R : Room} {s : State} {m : MethodId} {args : Array Value} {below : List Frame} {meth : Method} {c : Code} {d : Dd} {g : Gm} {o : Int32 × Ms} {N : Nat} (C : CM p s m args meth c d g cX9_findUnit 3 (some .int)) (hRm : 1 ≤ R.frames ∧ 27 ≤ R.locals) (x1 : Int64) (S : Ms) (H : Heap) (locs : List Loc) (ls : Array Slot) (hf : fM_findUnit N x1 S = some o) (hR : RM d g S H) (hS : va_S (AM g) s.heap H locs) (hl : lv_has ls 3 [(0, .ref g.1), (1, .long x1)]) : W p l e R s m args below meth c H locs 0 0 (MQ below (QI d g o) args s 0 0 (AM g)) (F0 m 0 ls []) := by
  obtain ⟨hx, hb, hml, hown, hts, hK, hg, hr, hlk⟩ := id C
  unfold fM_findUnit at hf
  refine lv_aload_n hx hb dX9_findUnit_0 rfl (lv_at hl 0 rfl) ?_
  refine lv_aload_n hx hb dX9_findUnit_1 rfl (lv_at hl 0 rfl) ?_
  refine mr_getR C hR fl_61 (by decide) dX9_findUnit_2 ?_
  refine lv_bipush (v := 24) hx hb dX9_findUnit_5 (by decide) ?_
  refine lv_aload_n hx hb dX9_findUnit_7 rfl (lv_at hl 0 rfl) ?_
  refine mr_getI C hR fl_297 rfl dX9_findUnit_8 ?_
  refine lv_imul hx hb dX9_findUnit_11 ?_
  refine lv_aload_n hx hb dX9_findUnit_12 rfl (lv_at hl 0 rfl) ?_
  refine mr_getR C hR fl_58 (by decide) dX9_findUnit_13 ?_
  refine lv_aload_n hx hb dX9_findUnit_16 rfl (lv_at hl 0 rfl) ?_
  refine mr_getI C hR fl_297 rfl dX9_findUnit_17 ?_
  obtain ⟨hi, hf⟩ := ck_some hf
  refine mr_iald C hR (k := 18) rfl hi dX9_findUnit_20 ?_
  refine lv_lload_n hx hb dX9_findUnit_21 rfl (lv_at hl 1 rfl) ?_
  obtain ⟨o22, ho22, hf⟩ := bnd_some hf
  refine mr_callIv C hR hS (As := [.ref (g.2 19), .int (24 * (mF S 12)), .int (mA S 18 (mF S 12 : Int32).toNatClampNeg), .long x1]) (rest := []) (MM_find l d g N 19 (24 * (mF S 12)) (mA S 18 (mF S 12 : Int32).toNatClampNeg) x1 S o22 ho22) wv_300 ⟨by omega, by omega⟩ rfl rfl (Nat.le_of_ble_eq_true rfl) hl.1 dX9_findUnit_22 ⟨Nat.zero_le _, Nat.zero_le _⟩ (fun H locs hR hS => ?_)
  exact mr_iret C hR hS hf dX9_findUnit_25
theorem MM_findUnit (l : Launch) (d : Dd) (g : Gm) (N : Nat) (x1 : Int64) (S : Ms) (o : Int32 × Ms) (hf : fM_findUnit N x1 S = some o) : MtI l d g yX9_findUnit cX9_findUnit 3 (some .int) 1 27 [.ref g.1, .long x1] S o :=
  mr_metI (by decide) rfl (Nat.le_of_ble_eq_true rfl) (fun p e s m args below meth c ls C hR hl => wfM_findUnit C ⟨Nat.le_refl _, Nat.le_refl _⟩ x1 S s.heap [] ls hf hR va_S.rf hl)
def lM_forget_2 (N : Nat) (k81 : Ms → Option (Ms)) : Nat → Int32 → Ms → Option (Ms)
  | 0, _, _ => none
  | n + 1, x1, S => if 24 ≤ x1 then (k81 S) else (ck x1 24 (ck x1 24 (ck x1 24 (ck x1 24 (ck x1 24 (ck ((24 * (mF (pA (pA (pA (pA (pA S 54 (x1 : Int32).toNatClampNeg 0) 55 (x1 : Int32).toNatClampNeg 0) 57 (x1 : Int32).toNatClampNeg 0) 58 (x1 : Int32).toNatClampNeg 0) 60 (x1 : Int32).toNatClampNeg 0) 11)) + x1) 48 (ck x1 24 (ck x1 24 (ck x1 24 (lM_forget_2 N k81 n (x1 + 1) (pA (pA (pA (pA (pA (pA (pA S 54 (x1 : Int32).toNatClampNeg 0) 55 (x1 : Int32).toNatClampNeg 0) 57 (x1 : Int32).toNatClampNeg 0) 58 (x1 : Int32).toNatClampNeg 0) 60 (x1 : Int32).toNatClampNeg 0) 61 (x1 : Int32).toNatClampNeg (mA (pA (pA (pA (pA (pA S 54 (x1 : Int32).toNatClampNeg 0) 55 (x1 : Int32).toNatClampNeg 0) 57 (x1 : Int32).toNatClampNeg 0) 58 (x1 : Int32).toNatClampNeg 0) 60 (x1 : Int32).toNatClampNeg 0) 15 ((24 * (mF (pA (pA (pA (pA (pA S 54 (x1 : Int32).toNatClampNeg 0) 55 (x1 : Int32).toNatClampNeg 0) 57 (x1 : Int32).toNatClampNeg 0) 58 (x1 : Int32).toNatClampNeg 0) 60 (x1 : Int32).toNatClampNeg 0) 11)) + x1 : Int32).toNatClampNeg)) 62 (x1 : Int32).toNatClampNeg (mA (pA (pA (pA (pA (pA (pA S 54 (x1 : Int32).toNatClampNeg 0) 55 (x1 : Int32).toNatClampNeg 0) 57 (x1 : Int32).toNatClampNeg 0) 58 (x1 : Int32).toNatClampNeg 0) 60 (x1 : Int32).toNatClampNeg 0) 61 (x1 : Int32).toNatClampNeg (mA (pA (pA (pA (pA (pA S 54 (x1 : Int32).toNatClampNeg 0) 55 (x1 : Int32).toNatClampNeg 0) 57 (x1 : Int32).toNatClampNeg 0) 58 (x1 : Int32).toNatClampNeg 0) 60 (x1 : Int32).toNatClampNeg 0) 15 ((24 * (mF (pA (pA (pA (pA (pA S 54 (x1 : Int32).toNatClampNeg 0) 55 (x1 : Int32).toNatClampNeg 0) 57 (x1 : Int32).toNatClampNeg 0) 58 (x1 : Int32).toNatClampNeg 0) 60 (x1 : Int32).toNatClampNeg 0) 11)) + x1 : Int32).toNatClampNeg)) 61 (x1 : Int32).toNatClampNeg))))))))))))
set_option maxRecDepth 100000 in
set_option maxHeartbeats 4000000 in
theorem wlM_forget_2 {p : Program} {l : Launch} {e : Env} {R : Room} {s : State} {m : MethodId} {args : Array Value} {below : List Frame} {meth : Method} {c : Code} {d : Dd} {g : Gm} {o : Ms} {N : Nat} {k81 : Ms → Option (Ms)} (C : CM p s m args meth c d g cX9_forget 2 none) (hRm : 0 ≤ R.frames ∧ 0 ≤ R.locals) (hk81 : ∀  (S : Ms) (H : Heap) (locs : List Loc) (ls : Array Slot), k81 S = some o → RM d g S H → va_S (AM g) s.heap H locs → lv_has ls 2 [(0, .ref g.1)] → W p l e R s m args below meth c H locs 0 0 (MQ below (QV d g o) args s 0 0 (AM g)) (F0 m 81 ls [])) : ∀ (n : Nat) (x1 : Int32) (S : Ms) (H : Heap) (locs : List Loc) (ls : Array Slot), lM_forget_2 N k81 n x1 S = some o → RM d g S H → va_S (AM g) s.heap H locs → lv_has ls 2 [(0, .ref g.1), (1, .int x1)] → W p l e R s m args below meth c H locs 0 0 (MQ below (QV d g o) args s 0 0 (AM g)) (F0 m 2 ls []) := by
  obtain ⟨hx, hb, hml, hown, hts, hK, hg, hr, hlk⟩ := id C
  intro n
  induction n with
  | zero => intro x1 S H locs ls hf; cases hf
  | succ n ih =>
    intro x1 S H locs ls hf hR hS hl
    rw [lM_forget_2] at hf
    refine lv_iload_n hx hb dX9_forget_2 rfl (lv_at hl 1 rfl) ?_
    refine lv_bipush (v := 24) hx hb dX9_forget_3 (by decide) ?_
    refine lv_icmp_ge (tgt := 81) hx hb dX9_forget_5 (by decide) (fun hc => ?_) (fun hc => ?_)
    · rw [if_pos hc] at hf
      exact hk81 _ _ _ _ hf hR hS (lv_sub hl [0] rfl)
    · rw [if_neg hc] at hf
      refine lv_aload_n hx hb dX9_forget_8 rfl (lv_at hl 0 rfl) ?_
      refine mr_getR C hR fl_146 (by decide) dX9_forget_9 ?_
      refine lv_iload_n hx hb dX9_forget_12 rfl (lv_at hl 1 rfl) ?_
      refine lv_iconst (v := 0) hx hb dX9_forget_13 (by decide) ?_
      obtain ⟨hi, hf⟩ := ck_some hf
      refine mr_iast C hR hS (k := 54) rfl hi dX9_forget_14 (fun H locs hR hS => ?_)
      refine lv_aload_n hx hb dX9_forget_15 rfl (lv_at hl 0 rfl) ?_
      refine mr_getR C hR fl_149 (by decide) dX9_forget_16 ?_
      refine lv_iload_n hx hb dX9_forget_19 rfl (lv_at hl 1 rfl) ?_
      refine lv_iconst (v := 0) hx hb dX9_forget_20 (by decide) ?_
      obtain ⟨hi, hf⟩ := ck_some hf
      refine mr_iast C hR hS (k := 55) rfl hi dX9_forget_21 (fun H locs hR hS => ?_)
      refine lv_aload_n hx hb dX9_forget_22 rfl (lv_at hl 0 rfl) ?_
      refine mr_getR C hR fl_155 (by decide) dX9_forget_23 ?_
      refine lv_iload_n hx hb dX9_forget_26 rfl (lv_at hl 1 rfl) ?_
      refine lv_iconst (v := 0) hx hb dX9_forget_27 (by decide) ?_
      obtain ⟨hi, hf⟩ := ck_some hf
      refine mr_iast C hR hS (k := 57) rfl hi dX9_forget_28 (fun H locs hR hS => ?_)
      refine lv_aload_n hx hb dX9_forget_29 rfl (lv_at hl 0 rfl) ?_
      refine mr_getR C hR fl_158 (by decide) dX9_forget_30 ?_
      refine lv_iload_n hx hb dX9_forget_33 rfl (lv_at hl 1 rfl) ?_
      refine lv_iconst (v := 0) hx hb dX9_forget_34 (by decide) ?_
      obtain ⟨hi, hf⟩ := ck_some hf
      refine mr_iast C hR hS (k := 58) rfl hi dX9_forget_35 (fun H locs hR hS => ?_)
      refine lv_aload_n hx hb dX9_forget_36 rfl (lv_at hl 0 rfl) ?_
      refine mr_getR C hR fl_164 (by decide) dX9_forget_37 ?_
      refine lv_iload_n hx hb dX9_forget_40 rfl (lv_at hl 1 rfl) ?_
      refine lv_iconst (v := 0) hx hb dX9_forget_41 (by decide) ?_
      obtain ⟨hi, hf⟩ := ck_some hf
      refine mr_iast C hR hS (k := 60) rfl hi dX9_forget_42 (fun H locs hR hS => ?_)
      refine lv_aload_n hx hb dX9_forget_43 rfl (lv_at hl 0 rfl) ?_
      refine mr_getR C hR fl_167 (by decide) dX9_forget_44 ?_
      refine lv_iload_n hx hb dX9_forget_47 rfl (lv_at hl 1 rfl) ?_
      refine lv_aload_n hx hb dX9_forget_48 rfl (lv_at hl 0 rfl) ?_
      refine mr_getR C hR fl_49 (by decide) dX9_forget_49 ?_
      refine lv_bipush (v := 24) hx hb dX9_forget_52 (by decide) ?_
      refine lv_aload_n hx hb dX9_forget_54 rfl (lv_at hl 0 rfl) ?_
      refine mr_getI C hR fl_307 rfl dX9_forget_55 ?_
      refine lv_imul hx hb dX9_forget_58 ?_
      refine lv_iload_n hx hb dX9_forget_59 rfl (lv_at hl 1 rfl) ?_
      refine lv_iadd hx hb dX9_forget_60 ?_
      obtain ⟨hi, hf⟩ := ck_some hf
      refine mr_iald C hR (k := 15) rfl hi dX9_forget_61 ?_
      obtain ⟨hi, hf⟩ := ck_some hf
      refine mr_iast C hR hS (k := 61) rfl hi dX9_forget_62 (fun H locs hR hS => ?_)
      refine lv_aload_n hx hb dX9_forget_63 rfl (lv_at hl 0 rfl) ?_
      refine mr_getR C hR fl_170 (by decide) dX9_forget_64 ?_
      refine lv_iload_n hx hb dX9_forget_67 rfl (lv_at hl 1 rfl) ?_
      refine lv_aload_n hx hb dX9_forget_68 rfl (lv_at hl 0 rfl) ?_
      refine mr_getR C hR fl_167 (by decide) dX9_forget_69 ?_
      refine lv_iload_n hx hb dX9_forget_72 rfl (lv_at hl 1 rfl) ?_
      obtain ⟨hi, hf⟩ := ck_some hf
      refine mr_iald C hR (k := 61) rfl hi dX9_forget_73 ?_
      obtain ⟨hi, hf⟩ := ck_some hf
      refine mr_iast C hR hS (k := 62) rfl hi dX9_forget_74 (fun H locs hR hS => ?_)
      refine lv_iinc (v := x1 + 1) (lv' := [(1, .int (x1 + 1)), (0, .ref g.1)]) hx hb dX9_forget_75 hl (k := 1) rfl rfl (by decide) rfl (fun ls hl => ?_)
      refine lv_goto (tgt := 2) hx hb dX9_forget_78 (by decide) ?_
      exact ih _ _ _ _ _ hf hR hS (lv_sub hl [1, 0] rfl)
def lM_forget_83 (N : Nat) (k103 : Ms → Option (Ms)) : Nat → Int32 → Ms → Option (Ms)
  | 0, _, _ => none
  | n + 1, x1, S => if 192 ≤ x1 then (k103 S) else (ck x1 192 (lM_forget_83 N k103 n (x1 + 1) (pA S 56 (x1 : Int32).toNatClampNeg 0)))
set_option maxRecDepth 100000 in
set_option maxHeartbeats 4000000 in
theorem wlM_forget_83 {p : Program} {l : Launch} {e : Env} {R : Room} {s : State} {m : MethodId} {args : Array Value} {below : List Frame} {meth : Method} {c : Code} {d : Dd} {g : Gm} {o : Ms} {N : Nat} {k103 : Ms → Option (Ms)} (C : CM p s m args meth c d g cX9_forget 2 none) (hRm : 0 ≤ R.frames ∧ 0 ≤ R.locals) (hk103 : ∀  (S : Ms) (H : Heap) (locs : List Loc) (ls : Array Slot), k103 S = some o → RM d g S H → va_S (AM g) s.heap H locs → lv_has ls 2 [(0, .ref g.1)] → W p l e R s m args below meth c H locs 0 0 (MQ below (QV d g o) args s 0 0 (AM g)) (F0 m 103 ls [])) : ∀ (n : Nat) (x1 : Int32) (S : Ms) (H : Heap) (locs : List Loc) (ls : Array Slot), lM_forget_83 N k103 n x1 S = some o → RM d g S H → va_S (AM g) s.heap H locs → lv_has ls 2 [(0, .ref g.1), (1, .int x1)] → W p l e R s m args below meth c H locs 0 0 (MQ below (QV d g o) args s 0 0 (AM g)) (F0 m 83 ls []) := by
  obtain ⟨hx, hb, hml, hown, hts, hK, hg, hr, hlk⟩ := id C
  intro n
  induction n with
  | zero => intro x1 S H locs ls hf; cases hf
  | succ n ih =>
    intro x1 S H locs ls hf hR hS hl
    rw [lM_forget_83] at hf
    refine lv_iload_n hx hb dX9_forget_83 rfl (lv_at hl 1 rfl) ?_
    refine lv_sipush (v := 192) hx hb dX9_forget_84 (by decide) ?_
    refine lv_icmp_ge (tgt := 103) hx hb dX9_forget_87 (by decide) (fun hc => ?_) (fun hc => ?_)
    · rw [if_pos hc] at hf
      exact hk103 _ _ _ _ hf hR hS (lv_sub hl [0] rfl)
    · rw [if_neg hc] at hf
      refine lv_aload_n hx hb dX9_forget_90 rfl (lv_at hl 0 rfl) ?_
      refine mr_getR C hR fl_152 (by decide) dX9_forget_91 ?_
      refine lv_iload_n hx hb dX9_forget_94 rfl (lv_at hl 1 rfl) ?_
      refine lv_iconst (v := 0) hx hb dX9_forget_95 (by decide) ?_
      obtain ⟨hi, hf⟩ := ck_some hf
      refine mr_iast C hR hS (k := 56) rfl hi dX9_forget_96 (fun H locs hR hS => ?_)
      refine lv_iinc (v := x1 + 1) (lv' := [(1, .int (x1 + 1)), (0, .ref g.1)]) hx hb dX9_forget_97 hl (k := 1) rfl rfl (by decide) rfl (fun ls hl => ?_)
      refine lv_goto (tgt := 83) hx hb dX9_forget_100 (by decide) ?_
      exact ih _ _ _ _ _ hf hR hS (lv_sub hl [1, 0] rfl)
def bM_forget_103 (N : Nat)  (S : Ms) : Option (Ms) := gd (is01 0) (some (pF (pF (pF (pF (pF (pF (pF (pF (pF (pF (pF S 63 0) 64 0) 66 0) 71 0) 75 0) 79 0) 84 0) 87 0) 88 0) 89 0) 101 0))
set_option maxRecDepth 100000 in
set_option maxHeartbeats 4000000 in
theorem wbM_forget_103 {p : Program} {l : Launch} {e : Env} {R : Room} {s : State} {m : MethodId} {args : Array Value} {below : List Frame} {meth : Method} {c : Code} {d : Dd} {g : Gm} {o : Ms} {N : Nat} (C : CM p s m args meth c d g cX9_forget 2 none) (hRm : 0 ≤ R.frames ∧ 0 ≤ R.locals)  (S : Ms) (H : Heap) (locs : List Loc) (ls : Array Slot) (hf : bM_forget_103 N  S = some o) (hR : RM d g S H) (hS : va_S (AM g) s.heap H locs) (hl : lv_has ls 2 [(0, .ref g.1)]) : W p l e R s m args below meth c H locs 0 0 (MQ below (QV d g o) args s 0 0 (AM g)) (F0 m 103 ls []) := by
  obtain ⟨hx, hb, hml, hown, hts, hK, hg, hr, hlk⟩ := id C
  unfold bM_forget_103 at hf
  refine lv_aload_n hx hb dX9_forget_103 rfl (lv_at hl 0 rfl) ?_
  refine lv_iconst (v := 0) hx hb dX9_forget_104 (by decide) ?_
  refine mr_putI C hR hS fl_457 ⟨rfl, rfl, rfl⟩ dX9_forget_105 (fun H locs hR hS => ?_)
  refine lv_aload_n hx hb dX9_forget_108 rfl (lv_at hl 0 rfl) ?_
  refine lv_iconst (v := 0) hx hb dX9_forget_109 (by decide) ?_
  obtain ⟨hq, hf⟩ := gd_some hf
  refine mr_putZ C hR hS fl_460 ⟨rfl, rfl, rfl⟩ hq dX9_forget_110 (fun H locs hR hS => ?_)
  refine lv_aload_n hx hb dX9_forget_113 rfl (lv_at hl 0 rfl) ?_
  refine lv_iconst (v := 0) hx hb dX9_forget_114 (by decide) ?_
  refine mr_putI C hR hS fl_464 ⟨rfl, rfl, rfl⟩ dX9_forget_115 (fun H locs hR hS => ?_)
  refine lv_aload_n hx hb dX9_forget_118 rfl (lv_at hl 0 rfl) ?_
  refine lv_iconst (v := 0) hx hb dX9_forget_119 (by decide) ?_
  refine mr_putI C hR hS fl_467 ⟨rfl, rfl, rfl⟩ dX9_forget_120 (fun H locs hR hS => ?_)
  refine lv_aload_n hx hb dX9_forget_123 rfl (lv_at hl 0 rfl) ?_
  refine lv_iconst (v := 0) hx hb dX9_forget_124 (by decide) ?_
  refine mr_putI C hR hS fl_470 ⟨rfl, rfl, rfl⟩ dX9_forget_125 (fun H locs hR hS => ?_)
  refine lv_aload_n hx hb dX9_forget_128 rfl (lv_at hl 0 rfl) ?_
  refine lv_iconst (v := 0) hx hb dX9_forget_129 (by decide) ?_
  refine mr_putI C hR hS fl_473 ⟨rfl, rfl, rfl⟩ dX9_forget_130 (fun H locs hR hS => ?_)
  refine lv_aload_n hx hb dX9_forget_133 rfl (lv_at hl 0 rfl) ?_
  refine lv_iconst (v := 0) hx hb dX9_forget_134 (by decide) ?_
  refine mr_putI C hR hS fl_476 ⟨rfl, rfl, rfl⟩ dX9_forget_135 (fun H locs hR hS => ?_)
  refine lv_aload_n hx hb dX9_forget_138 rfl (lv_at hl 0 rfl) ?_
  refine lv_iconst (v := 0) hx hb dX9_forget_139 (by decide) ?_
  refine mr_putI C hR hS fl_479 ⟨rfl, rfl, rfl⟩ dX9_forget_140 (fun H locs hR hS => ?_)
  refine lv_aload_n hx hb dX9_forget_143 rfl (lv_at hl 0 rfl) ?_
  refine lv_iconst (v := 0) hx hb dX9_forget_144 (by decide) ?_
  refine mr_putI C hR hS fl_482 ⟨rfl, rfl, rfl⟩ dX9_forget_145 (fun H locs hR hS => ?_)
  refine lv_aload_n hx hb dX9_forget_148 rfl (lv_at hl 0 rfl) ?_
  refine lv_iconst (v := 0) hx hb dX9_forget_149 (by decide) ?_
  refine mr_putI C hR hS fl_485 ⟨rfl, rfl, rfl⟩ dX9_forget_150 (fun H locs hR hS => ?_)
  refine lv_aload_n hx hb dX9_forget_153 rfl (lv_at hl 0 rfl) ?_
  refine lv_iconst (v := 0) hx hb dX9_forget_154 (by decide) ?_
  refine mr_putI C hR hS fl_488 ⟨rfl, rfl, rfl⟩ dX9_forget_155 (fun H locs hR hS => ?_)
  exact mr_vret C hR hS hf dX9_forget_158
def bM_forget_81 (N : Nat)  (S : Ms) : Option (Ms) := (lM_forget_83 N (bM_forget_103 N) N) 0 S
set_option maxRecDepth 100000 in
set_option maxHeartbeats 4000000 in
theorem wbM_forget_81 {p : Program} {l : Launch} {e : Env} {R : Room} {s : State} {m : MethodId} {args : Array Value} {below : List Frame} {meth : Method} {c : Code} {d : Dd} {g : Gm} {o : Ms} {N : Nat} (C : CM p s m args meth c d g cX9_forget 2 none) (hRm : 0 ≤ R.frames ∧ 0 ≤ R.locals)  (S : Ms) (H : Heap) (locs : List Loc) (ls : Array Slot) (hf : bM_forget_81 N  S = some o) (hR : RM d g S H) (hS : va_S (AM g) s.heap H locs) (hl : lv_has ls 2 [(0, .ref g.1)]) : W p l e R s m args below meth c H locs 0 0 (MQ below (QV d g o) args s 0 0 (AM g)) (F0 m 81 ls []) := by
  obtain ⟨hx, hb, hml, hown, hts, hK, hg, hr, hlk⟩ := id C
  unfold bM_forget_81 at hf
  refine lv_iconst (v := 0) hx hb dX9_forget_81 (by decide) ?_
  refine lv_istore_n (lv' := [(1, .int 0), (0, .ref g.1)]) hx hb dX9_forget_82 rfl hl (by decide) rfl (fun ls hl => ?_)
  exact (wlM_forget_83 C hRm (wbM_forget_103 C hRm) N) _ _ _ _ _ hf hR hS (lv_sub hl [1, 0] rfl)
def fM_forget (N : Nat)  (S : Ms) : Option (Ms) := (lM_forget_2 N (bM_forget_81 N) N) 0 S
set_option maxRecDepth 100000 in
set_option maxHeartbeats 4000000 in
theorem wfM_forget {p : Program} {l : Launch} {e : Env} {R : Room} {s : State} {m : MethodId} {args : Array Value} {below : List Frame} {meth : Method} {c : Code} {d : Dd} {g : Gm} {o : Ms} {N : Nat} (C : CM p s m args meth c d g cX9_forget 2 none) (hRm : 0 ≤ R.frames ∧ 0 ≤ R.locals)  (S : Ms) (H : Heap) (locs : List Loc) (ls : Array Slot) (hf : fM_forget N  S = some o) (hR : RM d g S H) (hS : va_S (AM g) s.heap H locs) (hl : lv_has ls 2 [(0, .ref g.1)]) : W p l e R s m args below meth c H locs 0 0 (MQ below (QV d g o) args s 0 0 (AM g)) (F0 m 0 ls []) := by
  obtain ⟨hx, hb, hml, hown, hts, hK, hg, hr, hlk⟩ := id C
  unfold fM_forget at hf
  refine lv_iconst (v := 0) hx hb dX9_forget_0 (by decide) ?_
  refine lv_istore_n (lv' := [(1, .int 0), (0, .ref g.1)]) hx hb dX9_forget_1 rfl hl (by decide) rfl (fun ls hl => ?_)
  exact (wlM_forget_2 C hRm (wbM_forget_81 C hRm) N) _ _ _ _ _ hf hR hS (lv_sub hl [1, 0] rfl)
theorem MM_forget (l : Launch) (d : Dd) (g : Gm) (N : Nat)  (S : Ms) (o : Ms) (hf : fM_forget N  S = some o) : MtV l d g yX9_forget cX9_forget 2 0 0 [.ref g.1] S o :=
  mr_metV (by decide) rfl (Nat.le_of_ble_eq_true rfl) (fun p e s m args below meth c ls C hR hl => wfM_forget C ⟨Nat.le_refl _, Nat.le_refl _⟩  S s.heap [] ls hf hR va_S.rf hl)
