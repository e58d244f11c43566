def bM_noteHalf_88 (N : Nat)  (S : Ms) : Option (Ms) := some S
set_option maxRecDepth 100000 in
set_option maxHeartbeats 4000000 in
theorem wbM_noteHalf_88 {p : Program} {l : Launch} {e : Env} {R : Room} {s : State} {m : MethodId} {args : Array Value} {below : List Frame} {meth : Method} {c : Code} {d : Dd} {g : Gm} {o : Ms} {N : Nat} (C : CM p s m args meth c d g cX9_noteHalf 5 none) (hRm : 0 ≤ R.frames ∧ 0 ≤ R.locals)  (S : Ms) (H : Heap) (locs : List Loc) (ls : Array Slot) (hf : bM_noteHalf_88 N  S = some o) (hR : RM d g S H) (hS : va_S (AM g) s.heap H locs) (hl : lv_has ls 5 [(0, .ref g.1)]) : W p l e R s m args below meth c H locs 0 0 (MQ below (QV d g o) args s 0 0 (AM g)) (F0 m 88 ls []) := by
  obtain ⟨hx, hb, hml, hown, hts, hK, hg, hr, hlk⟩ := id C
  unfold bM_noteHalf_88 at hf
  exact mr_vret C hR hS hf dX9_noteHalf_88
def bM_noteHalf_78 (N : Nat)  (S : Ms) : Option (Ms) := (bM_noteHalf_88 N) (pF S 79 ((mF S 79) + 1))
set_option maxRecDepth 100000 in
set_option maxHeartbeats 4000000 in
theorem wbM_noteHalf_78 {p : Program} {l : Launch} {e : Env} {R : Room} {s : State} {m : MethodId} {args : Array Value} {below : List Frame} {meth : Method} {c : Code} {d : Dd} {g : Gm} {o : Ms} {N : Nat} (C : CM p s m args meth c d g cX9_noteHalf 5 none) (hRm : 0 ≤ R.frames ∧ 0 ≤ R.locals)  (S : Ms) (H : Heap) (locs : List Loc) (ls : Array Slot) (hf : bM_noteHalf_78 N  S = some o) (hR : RM d g S H) (hS : va_S (AM g) s.heap H locs) (hl : lv_has ls 5 [(0, .ref g.1)]) : W p l e R s m args below meth c H locs 0 0 (MQ below (QV d g o) args s 0 0 (AM g)) (F0 m 78 ls []) := by
  obtain ⟨hx, hb, hml, hown, hts, hK, hg, hr, hlk⟩ := id C
  unfold bM_noteHalf_78 at hf
  refine lv_aload_n hx hb dX9_noteHalf_78 rfl (lv_at hl 0 rfl) ?_
  refine lv_dup hx hb dX9_noteHalf_79 rfl ?_
  refine mr_getI C hR fl_473 rfl dX9_noteHalf_80 ?_
  refine lv_iconst (v := 1) hx hb dX9_noteHalf_83 (by decide) ?_
  refine lv_iadd hx hb dX9_noteHalf_84 ?_
  refine mr_putI C hR hS fl_473 ⟨rfl, rfl, rfl⟩ dX9_noteHalf_85 (fun H locs hR hS => ?_)
  exact (wbM_noteHalf_88 C hRm) _ _ _ _ hf hR hS (lv_sub hl [0] rfl)
def fM_noteHalf (N : Nat) (x1 : Int32) (x2 : Int32) (x3 : Int32) (x4 : Int32) (S : Ms) : Option (Ms) := ck x1 24 (if (mA S 54 (x1 : Int32).toNatClampNeg) = 1 then (if x3 = x1 then ((bM_noteHalf_88 N) S) else (if x4 = 0 then (if 200 ≤ (mF S 79) then ((bM_noteHalf_78 N) S) else (ck (mF S 79) 200 (ck (mF (pA S 76 (mF S 79 : Int32).toNatClampNeg x3) 79) 200 (ck ((8 * ((24 * (mF (pA (pA S 76 (mF S 79 : Int32).toNatClampNeg x3) 77 (mF (pA S 76 (mF S 79 : Int32).toNatClampNeg x3) 79 : Int32).toNatClampNeg x1) 11)) + x1)) + x2) 384 (ck (mF (pA (pA S 76 (mF S 79 : Int32).toNatClampNeg x3) 77 (mF (pA S 76 (mF S 79 : Int32).toNatClampNeg x3) 79 : Int32).toNatClampNeg x1) 79) 200 ((bM_noteHalf_78 N) (pA (pA (pA S 76 (mF S 79 : Int32).toNatClampNeg x3) 77 (mF (pA S 76 (mF S 79 : Int32).toNatClampNeg x3) 79 : Int32).toNatClampNeg x1) 78 (mF (pA (pA S 76 (mF S 79 : Int32).toNatClampNeg x3) 77 (mF (pA S 76 (mF S 79 : Int32).toNatClampNeg x3) 79 : Int32).toNatClampNeg x1) 79 : Int32).toNatClampNeg (mA (pA (pA S 76 (mF S 79 : Int32).toNatClampNeg x3) 77 (mF (pA S 76 (mF S 79 : Int32).toNatClampNeg x3) 79 : Int32).toNatClampNeg x1) 29 ((8 * ((24 * (mF (pA (pA S 76 (mF S 79 : Int32).toNatClampNeg x3) 77 (mF (pA S 76 (mF S 79 : Int32).toNatClampNeg x3) 79 : Int32).toNatClampNeg x1) 11)) + x1)) + x2 : Int32).toNatClampNeg)))))))) else ((bM_noteHalf_88 N) S))) else ((bM_noteHalf_88 N) S))
set_option maxRecDepth 100000 in
set_option maxHeartbeats 4000000 in
theorem wfM_noteHalf {p : Program} {l : Launch} {e : Env} {R : Room} {s : State} {m : MethodId} {args : Array Value} {below : List Frame} {meth : Method} {c : Code} {d : Dd} {g : Gm} {o : Ms} {N : Nat} (C : CM p s m args meth c d g cX9_noteHalf 5 none) (hRm : 0 ≤ R.frames ∧ 0 ≤ R.locals) (x1 : Int32) (x2 : Int32) (x3 : Int32) (x4 : Int32) (S : Ms) (H : Heap) (locs : List Loc) (ls : Array Slot) (hf : fM_noteHalf N x1 x2 x3 x4 S = some o) (hR : RM d g S H) (hS : va_S (AM g) s.heap H locs) (hl : lv_has ls 5 [(0, .ref g.1), (1, .int x1), (2, .int x2), (3, .int x3), (4, .int x4)]) : W p l e R s m args below meth c H locs 0 0 (MQ below (QV d g o) args s 0 0 (AM g)) (F0 m 0 ls []) := by
  obtain ⟨hx, hb, hml, hown, hts, hK, hg, hr, hlk⟩ := id C
  unfold fM_noteHalf at hf
  refine lv_aload_n hx hb dX9_noteHalf_0 rfl (lv_at hl 0 rfl) ?_
  refine mr_getR C hR fl_146 (by decide) dX9_noteHalf_1 ?_
  refine lv_iload_n hx hb dX9_noteHalf_4 rfl (lv_at hl 1 rfl) ?_
  obtain ⟨hi, hf⟩ := ck_some hf
  refine mr_iald C hR (k := 54) rfl hi dX9_noteHalf_5 ?_
  refine lv_iconst (v := 1) hx hb dX9_noteHalf_6 (by decide) ?_
  refine lv_icmp_ne (tgt := 88) hx hb dX9_noteHalf_7 (by decide) (fun hc => ?_) (fun hc => ?_)
  · rw [if_neg hc] at hf
    exact (wbM_noteHalf_88 C hRm) _ _ _ _ hf hR hS (lv_sub hl [0] rfl)
  · rw [if_pos hc] at hf
    refine lv_iload_n hx hb dX9_noteHalf_10 rfl (lv_at hl 3 rfl) ?_
    refine lv_iload_n hx hb dX9_noteHalf_11 rfl (lv_at hl 1 rfl) ?_
    refine lv_icmp_eq (tgt := 88) hx hb dX9_noteHalf_12 (by decide) (fun hc => ?_) (fun hc => ?_)
    · rw [if_pos hc] at hf
      exact (wbM_noteHalf_88 C hRm) _ _ _ _ hf hR hS (lv_sub hl [0] rfl)
    · rw [if_neg hc] at hf
      refine lv_iload hx hb dX9_noteHalf_15 (lv_at hl 4 rfl) ?_
      refine lv_if_ne (tgt := 88) hx hb dX9_noteHalf_17 (by decide) (fun hc => ?_) (fun hc => ?_)
      · rw [if_neg hc] at hf
        exact (wbM_noteHalf_88 C hRm) _ _ _ _ hf hR hS (lv_sub hl [0] rfl)
      · rw [if_pos hc] at hf
        refine lv_aload_n hx hb dX9_noteHalf_20 rfl (lv_at hl 0 rfl) ?_
        refine mr_getI C hR fl_473 rfl dX9_noteHalf_21 ?_
        refine lv_sipush (v := 200) hx hb dX9_noteHalf_24 (by decide) ?_
        refine lv_icmp_ge (tgt := 78) hx hb dX9_noteHalf_27 (by decide) (fun hc => ?_) (fun hc => ?_)
        · rw [if_pos hc] at hf
          exact (wbM_noteHalf_78 C hRm) _ _ _ _ hf hR hS (lv_sub hl [0] rfl)
        · rw [if_neg hc] at hf
          refine lv_aload_n hx hb dX9_noteHalf_30 rfl (lv_at hl 0 rfl) ?_
          refine mr_getR C hR fl_188 (by decide) dX9_noteHalf_31 ?_
          refine lv_aload_n hx hb dX9_noteHalf_34 rfl (lv_at hl 0 rfl) ?_
          refine mr_getI C hR fl_473 rfl dX9_noteHalf_35 ?_
          refine lv_iload_n hx hb dX9_noteHalf_38 rfl (lv_at hl 3 rfl) ?_
          obtain ⟨hi, hf⟩ := ck_some hf
          refine mr_iast C hR hS (k := 76) rfl hi dX9_noteHalf_39 (fun H locs hR hS => ?_)
          refine lv_aload_n hx hb dX9_noteHalf_40 rfl (lv_at hl 0 rfl) ?_
          refine mr_getR C hR fl_191 (by decide) dX9_noteHalf_41 ?_
          refine lv_aload_n hx hb dX9_noteHalf_44 rfl (lv_at hl 0 rfl) ?_
          refine mr_getI C hR fl_473 rfl dX9_noteHalf_45 ?_
          refine lv_iload_n hx hb dX9_noteHalf_48 rfl (lv_at hl 1 rfl) ?_
          obtain ⟨hi, hf⟩ := ck_some hf
          refine mr_iast C hR hS (k := 77) rfl hi dX9_noteHalf_49 (fun H locs hR hS => ?_)
          refine lv_aload_n hx hb dX9_noteHalf_50 rfl (lv_at hl 0 rfl) ?_
          refine mr_getR C hR fl_194 (by decide) dX9_noteHalf_51 ?_
          refine lv_aload_n hx hb dX9_noteHalf_54 rfl (lv_at hl 0 rfl) ?_
          refine mr_getI C hR fl_473 rfl dX9_noteHalf_55 ?_
          refine lv_aload_n hx hb dX9_noteHalf_58 rfl (lv_at hl 0 rfl) ?_
          refine mr_getR C hR fl_92 (by decide) dX9_noteHalf_59 ?_
          refine lv_bipush (v := 8) hx hb dX9_noteHalf_62 (by decide) ?_
          refine lv_bipush (v := 24) hx hb dX9_noteHalf_64 (by decide) ?_
          refine lv_aload_n hx hb dX9_noteHalf_66 rfl (lv_at hl 0 rfl) ?_
          refine mr_getI C hR fl_307 rfl dX9_noteHalf_67 ?_
          refine lv_imul hx hb dX9_noteHalf_70 ?_
          refine lv_iload_n hx hb dX9_noteHalf_71 rfl (lv_at hl 1 rfl) ?_
          refine lv_iadd hx hb dX9_noteHalf_72 ?_
          refine lv_imul hx hb dX9_noteHalf_73 ?_
          refine lv_iload_n hx hb dX9_noteHalf_74 rfl (lv_at hl 2 rfl) ?_
          refine lv_iadd hx hb dX9_noteHalf_75 ?_
          obtain ⟨hi, hf⟩ := ck_some hf
          refine mr_iald C hR (k := 29) rfl hi dX9_noteHalf_76 ?_
          obtain ⟨hi, hf⟩ := ck_some hf
          refine mr_iast C hR hS (k := 78) rfl hi dX9_noteHalf_77 (fun H locs hR hS => ?_)
          exact (wbM_noteHalf_78 C hRm) _ _ _ _ hf hR hS (lv_sub hl [0] rfl)
theorem MM_noteHalf (l : Launch) (d : Dd) (g : Gm) (N : Nat) (x1 : Int32) (x2 : Int32) (x3 : Int32) (x4 : Int32) (S : Ms) (o : Ms) (hf : fM_noteHalf N x1 x2 x3 x4 S = some o) : MtV l d g yX9_noteHalf cX9_noteHalf 5 0 0 [.ref g.1, .int x1, .int x2, .int x3, .int x4] S o :=
  mr_metV (by decide) rfl (Nat.le_of_ble_eq_true rfl) (fun p e s m args below meth c ls C hR hl => wfM_noteHalf C ⟨Nat.le_refl _, Nat.le_refl _⟩ x1 x2 x3 x4 S s.heap [] ls hf hR va_S.rf hl)
def bM_noteNeed_60 (N : Nat) (r23 : Int32 → Int32 → Int32 → Int32 → Ms → Option (Ms)) (k68 : Int32 → Int32 → Int32 → Ms → Option (Ms)) (x1 : Int32) (x2 : Int32) (x5 : Int32) (s0 : Int32) (S : Ms) : Option (Ms) := r23 x1 x2 s0 (x5 + 1) S
set_option maxRecDepth 100000 in
set_option maxHeartbeats 4000000 in
theorem wbM_noteNeed_60 {p : Program} {l : Launch} {e : Env} {R : Room} {s : State} {m : MethodId} {args : Array Value} {below : List Frame} {meth : Method} {c : Code} {d : Dd} {g : Gm} {o : Ms} {N : Nat} {r23 : Int32 → Int32 → Int32 → Int32 → Ms → Option (Ms)} {k68 : Int32 → Int32 → Int32 → Ms → Option (Ms)} (C : CM p s m args meth c d g cX9_noteNeed 6 none) (hRm : 0 ≤ R.frames ∧ 0 ≤ R.locals) (hr23 : ∀ (x1 : Int32) (x2 : Int32) (x4 : Int32) (x5 : Int32) (S : Ms) (H : Heap) (locs : List Loc) (ls : Array Slot), r23 x1 x2 x4 x5 S = some o → RM d g S H → va_S (AM g) s.heap H locs → lv_has ls 6 [(0, .ref g.1), (1, .int x1), (2, .int x2), (4, .int x4), (5, .int x5)] → W p l e R s m args below meth c H locs 0 0 (MQ below (QV d g o) args s 0 0 (AM g)) (F0 m 23 ls [])) (hk68 : ∀ (x1 : Int32) (x2 : Int32) (x4 : Int32) (S : Ms) (H : Heap) (locs : List Loc) (ls : Array Slot), k68 x1 x2 x4 S = some o → RM d g S H → va_S (AM g) s.heap H locs → lv_has ls 6 [(0, .ref g.1), (1, .int x1), (2, .int x2), (4, .int x4)] → W p l e R s m args below meth c H locs 0 0 (MQ below (QV d g o) args s 0 0 (AM g)) (F0 m 68 ls [])) (x1 : Int32) (x2 : Int32) (x5 : Int32) (s0 : Int32) (S : Ms) (H : Heap) (locs : List Loc) (ls : Array Slot) (hf : bM_noteNeed_60 N r23 k68 x1 x2 x5 s0 S = some o) (hR : RM d g S H) (hS : va_S (AM g) s.heap H locs) (hl : lv_has ls 6 [(0, .ref g.1), (1, .int x1), (2, .int x2), (5, .int x5)]) : W p l e R s m args below meth c H locs 0 0 (MQ below (QV d g o) args s 0 0 (AM g)) (F0 m 60 ls [.int s0]) := by
  obtain ⟨hx, hb, hml, hown, hts, hK, hg, hr, hlk⟩ := id C
  unfold bM_noteNeed_60 at hf
  refine lv_istore (lv' := [(4, .int s0), (0, .ref g.1), (1, .int x1), (2, .int x2), (5, .int x5)]) hx hb dX9_noteNeed_60 hl (by decide) rfl (fun ls hl => ?_)
  refine lv_iinc (v := x5 + 1) (lv' := [(5, .int (x5 + 1)), (4, .int s0), (0, .ref g.1), (1, .int x1), (2, .int x2)]) hx hb dX9_noteNeed_62 hl (k := 4) rfl rfl (by decide) rfl (fun ls hl => ?_)
  refine lv_goto (tgt := 23) hx hb dX9_noteNeed_65 (by decide) ?_
  exact hr23 _ _ _ _ _ _ _ _ hf hR hS (lv_sub hl [2, 3, 4, 1, 0] rfl)
def lM_noteNeed_23 (N : Nat) (k68 : Int32 → Int32 → Int32 → Ms → Option (Ms)) : Nat → Int32 → Int32 → Int32 → Int32 → Ms → Option (Ms)
  | 0, _, _, _, _, _ => none
  | n + 1, x1, x2, x4, x5, S => if x4 = 0 then (ck x2 24 (if (mA S 60 (x2 : Int32).toNatClampNeg) ≤ x5 then (k68 x1 x2 x4 S) else (ck ((24 * x2) + x5) 576 (if (mA S 59 ((24 * x2) + x5 : Int32).toNatClampNeg) = x1 then ((bM_noteNeed_60 N (lM_noteNeed_23 N k68 n) k68) x1 x2 x5 1 S) else ((bM_noteNeed_60 N (lM_noteNeed_23 N k68 n) k68) x1 x2 x5 0 S))))) else (k68 x1 x2 x4 S)
set_option maxRecDepth 100000 in
set_option maxHeartbeats 4000000 in
theorem wlM_noteNeed_23 {p : Program} {l : Launch} {e : Env} {R : Room} {s : State} {m : MethodId} {args : Array Value} {below : List Frame} {meth : Method} {c : Code} {d : Dd} {g : Gm} {o : Ms} {N : Nat} {k68 : Int32 → Int32 → Int32 → Ms → Option (Ms)} (C : CM p s m args meth c d g cX9_noteNeed 6 none) (hRm : 0 ≤ R.frames ∧ 0 ≤ R.locals) (hk68 : ∀ (x1 : Int32) (x2 : Int32) (x4 : Int32) (S : Ms) (H : Heap) (locs : List Loc) (ls : Array Slot), k68 x1 x2 x4 S = some o → RM d g S H → va_S (AM g) s.heap H locs → lv_has ls 6 [(0, .ref g.1), (1, .int x1), (2, .int x2), (4, .int x4)] → W p l e R s m args below meth c H locs 0 0 (MQ below (QV d g o) args s 0 0 (AM g)) (F0 m 68 ls [])) : ∀ (n : Nat) (x1 : Int32) (x2 : Int32) (x4 : Int32) (x5 : Int32) (S : Ms) (H : Heap) (locs : List Loc) (ls : Array Slot), lM_noteNeed_23 N k68 n x1 x2 x4 x5 S = some o → RM d g S H → va_S (AM g) s.heap H locs → lv_has ls 6 [(0, .ref g.1), (1, .int x1), (2, .int x2), (4, .int x4), (5, .int x5)] → W p l e R s m args below meth c H locs 0 0 (MQ below (QV d g o) args s 0 0 (AM g)) (F0 m 23 ls []) := by
  obtain ⟨hx, hb, hml, hown, hts, hK, hg, hr, hlk⟩ := id C
  intro n
  induction n with
  | zero => intro x1 x2 x4 x5 S H locs ls hf; cases hf
  | succ n ih =>
    intro x1 x2 x4 x5 S H locs ls hf hR hS hl
    rw [lM_noteNeed_23] at hf
    refine lv_iload hx hb dX9_noteNeed_23 (lv_at hl 3 rfl) ?_
    refine lv_if_ne (tgt := 68) hx hb dX9_noteNeed_25 (by decide) (fun hc => ?_) (fun hc => ?_)
    · rw [if_neg hc] at hf
      exact hk68 _ _ _ _ _ _ _ hf hR hS (lv_sub hl [0, 1, 2, 3] rfl)
    · rw [if_pos hc] at hf
      refine lv_iload hx hb dX9_noteNeed_28 (lv_at hl 4 rfl) ?_
      refine lv_aload_n hx hb dX9_noteNeed_30 rfl (lv_at hl 0 rfl) ?_
      refine mr_getR C hR fl_164 (by decide) dX9_noteNeed_31 ?_
      refine lv_iload_n hx hb dX9_noteNeed_34 rfl (lv_at hl 2 rfl) ?_
      obtain ⟨hi, hf⟩ := ck_some hf
      refine mr_iald C hR (k := 60) rfl hi dX9_noteNeed_35 ?_
      refine lv_icmp_ge (tgt := 68) hx hb dX9_noteNeed_36 (by decide) (fun hc => ?_) (fun hc => ?_)
      · rw [if_pos hc] at hf
        exact hk68 _ _ _ _ _ _ _ hf hR hS (lv_sub hl [0, 1, 2, 3] rfl)
      · rw [if_neg hc] at hf
        refine lv_aload_n hx hb dX9_noteNeed_39 rfl (lv_at hl 0 rfl) ?_
        refine mr_getR C hR fl_161 (by decide) dX9_noteNeed_40 ?_
        refine lv_bipush (v := 24) hx hb dX9_noteNeed_43 (by decide) ?_
        refine lv_iload_n hx hb dX9_noteNeed_45 rfl (lv_at hl 2 rfl) ?_
        refine lv_imul hx hb dX9_noteNeed_46 ?_
        refine lv_iload hx hb dX9_noteNeed_47 (lv_at hl 4 rfl) ?_
        refine lv_iadd hx hb dX9_noteNeed_49 ?_
        obtain ⟨hi, hf⟩ := ck_some hf
        refine mr_iald C hR (k := 59) rfl hi dX9_noteNeed_50 ?_
        refine lv_iload_n hx hb dX9_noteNeed_51 rfl (lv_at hl 1 rfl) ?_
        refine lv_icmp_ne (tgt := 59) hx hb dX9_noteNeed_52 (by decide) (fun hc => ?_) (fun hc => ?_)
        · rw [if_neg hc] at hf
          refine lv_iconst (v := 0) hx hb dX9_noteNeed_59 (by decide) ?_
          exact (wbM_noteNeed_60 C hRm ih hk68) _ _ _ _ _ _ _ _ hf hR hS (lv_sub hl [0, 1, 2, 4] rfl)
        · rw [if_pos hc] at hf
          refine lv_iconst (v := 1) hx hb dX9_noteNeed_55 (by decide) ?_
          refine lv_goto (tgt := 60) hx hb dX9_noteNeed_56 (by decide) ?_
          exact (wbM_noteNeed_60 C hRm ih hk68) _ _ _ _ _ _ _ _ hf hR hS (lv_sub hl [0, 1, 2, 4] rfl)
def bM_noteNeed_100 (N : Nat)  (S : Ms) : Option (Ms) := some S
set_option maxRecDepth 100000 in
set_option maxHeartbeats 4000000 in
theorem wbM_noteNeed_100 {p : Program} {l : Launch} {e : Env} {R : Room} {s : State} {m : MethodId} {args : Array Value} {below : List Frame} {meth : Method} {c : Code} {d : Dd} {g : Gm} {o : Ms} {N : Nat} (C : CM p s m args meth c d g cX9_noteNeed 6 none) (hRm : 0 ≤ R.frames ∧ 0 ≤ R.locals)  (S : Ms) (H : Heap) (locs : List Loc) (ls : Array Slot) (hf : bM_noteNeed_100 N  S = some o) (hR : RM d g S H) (hS : va_S (AM g) s.heap H locs) (hl : lv_has ls 6 [(0, .ref g.1)]) : W p l e R s m args below meth c H locs 0 0 (MQ below (QV d g o) args s 0 0 (AM g)) (F0 m 100 ls []) := by
  obtain ⟨hx, hb, hml, hown, hts, hK, hg, hr, hlk⟩ := id C
  unfold bM_noteNeed_100 at hf
  exact mr_vret C hR hS hf dX9_noteNeed_100
def bM_noteNeed_68 (N : Nat) (x1 : Int32) (x2 : Int32) (x4 : Int32) (S : Ms) : Option (Ms) := if x4 = 0 then (ck x2 24 (ck ((24 * x2) + (mA S 60 (x2 : Int32).toNatClampNeg)) 576 (ck x2 24 (ck x2 24 ((bM_noteNeed_100 N) (pA (pA S 59 ((24 * x2) + (mA S 60 (x2 : Int32).toNatClampNeg) : Int32).toNatClampNeg x1) 60 (x2 : Int32).toNatClampNeg ((mA (pA S 59 ((24 * x2) + (mA S 60 (x2 : Int32).toNatClampNeg) : Int32).toNatClampNeg x1) 60 (x2 : Int32).toNatClampNeg) + 1))))))) else ((bM_noteNeed_100 N) S)
set_option maxRecDepth 100000 in
set_option maxHeartbeats 4000000 in
theorem wbM_noteNeed_68 {p : Program} {l : Launch} {e : Env} {R : Room} {s : State} {m : MethodId} {args : Array Value} {below : List Frame} {meth : Method} {c : Code} {d : Dd} {g : Gm} {o : Ms} {N : Nat} (C : CM p s m args meth c d g cX9_noteNeed 6 none) (hRm : 0 ≤ R.frames ∧ 0 ≤ R.locals) (x1 : Int32) (x2 : Int32) (x4 : Int32) (S : Ms) (H : Heap) (locs : List Loc) (ls : Array Slot) (hf : bM_noteNeed_68 N x1 x2 x4 S = some o) (hR : RM d g S H) (hS : va_S (AM g) s.heap H locs) (hl : lv_has ls 6 [(0, .ref g.1), (1, .int x1), (2, .int x2), (4, .int x4)]) : W p l e R s m args below meth c H locs 0 0 (MQ below (QV d g o) args s 0 0 (AM g)) (F0 m 68 ls []) := by
  obtain ⟨hx, hb, hml, hown, hts, hK, hg, hr, hlk⟩ := id C
  unfold bM_noteNeed_68 at hf
  refine lv_iload hx hb dX9_noteNeed_68 (lv_at hl 3 rfl) ?_
  refine lv_if_ne (tgt := 100) hx hb dX9_noteNeed_70 (by decide) (fun hc => ?_) (fun hc => ?_)
  · rw [if_neg hc] at hf
    exact (wbM_noteNeed_100 C hRm) _ _ _ _ hf hR hS (lv_sub hl [0] rfl)
  · rw [if_pos hc] at hf
    refine lv_aload_n hx hb dX9_noteNeed_73 rfl (lv_at hl 0 rfl) ?_
    refine mr_getR C hR fl_161 (by decide) dX9_noteNeed_74 ?_
    refine lv_bipush (v := 24) hx hb dX9_noteNeed_77 (by decide) ?_
    refine lv_iload_n hx hb dX9_noteNeed_79 rfl (lv_at hl 2 rfl) ?_
    refine lv_imul hx hb dX9_noteNeed_80 ?_
    refine lv_aload_n hx hb dX9_noteNeed_81 rfl (lv_at hl 0 rfl) ?_
    refine mr_getR C hR fl_164 (by decide) dX9_noteNeed_82 ?_
    refine lv_iload_n hx hb dX9_noteNeed_85 rfl (lv_at hl 2 rfl) ?_
    obtain ⟨hi, hf⟩ := ck_some hf
    refine mr_iald C hR (k := 60) rfl hi dX9_noteNeed_86 ?_
    refine lv_iadd hx hb dX9_noteNeed_87 ?_
    refine lv_iload_n hx hb dX9_noteNeed_88 rfl (lv_at hl 1 rfl) ?_
    obtain ⟨hi, hf⟩ := ck_some hf
    refine mr_iast C hR hS (k := 59) rfl hi dX9_noteNeed_89 (fun H locs hR hS => ?_)
    refine lv_aload_n hx hb dX9_noteNeed_90 rfl (lv_at hl 0 rfl) ?_
    refine mr_getR C hR fl_164 (by decide) dX9_noteNeed_91 ?_
    refine lv_iload_n hx hb dX9_noteNeed_94 rfl (lv_at hl 2 rfl) ?_
    refine lv_dup2_11 hx hb dX9_noteNeed_95 rfl rfl ?_
    obtain ⟨hi, hf⟩ := ck_some hf
    refine mr_iald C hR (k := 60) rfl hi dX9_noteNeed_96 ?_
    refine lv_iconst (v := 1) hx hb dX9_noteNeed_97 (by decide) ?_
    refine lv_iadd hx hb dX9_noteNeed_98 ?_
    obtain ⟨hi, hf⟩ := ck_some hf
    refine mr_iast C hR hS (k := 60) rfl hi dX9_noteNeed_99 (fun H locs hR hS => ?_)
    exact (wbM_noteNeed_100 C hRm) _ _ _ _ hf hR hS (lv_sub hl [0] rfl)
def bM_noteNeed_18 (N : Nat) (x1 : Int32) (x2 : Int32) (s0 : Int32) (S : Ms) : Option (Ms) := (lM_noteNeed_23 N (bM_noteNeed_68 N) N) x1 x2 s0 0 S
set_option maxRecDepth 100000 in
set_option maxHeartbeats 4000000 in
theorem wbM_noteNeed_18 {p : Program} {l : Launch} {e : Env} {R : Room} {s : State} {m : MethodId} {args : Array Value} {below : List Frame} {meth : Method} {c : Code} {d : Dd} {g : Gm} {o : Ms} {N : Nat} (C : CM p s m args meth c d g cX9_noteNeed 6 none) (hRm : 0 ≤ R.frames ∧ 0 ≤ R.locals) (x1 : Int32) (x2 : Int32) (s0 : Int32) (S : Ms) (H : Heap) (locs : List Loc) (ls : Array Slot) (hf : bM_noteNeed_18 N x1 x2 s0 S = some o) (hR : RM d g S H) (hS : va_S (AM g) s.heap H locs) (hl : lv_has ls 6 [(0, .ref g.1), (1, .int x1), (2, .int x2)]) : W p l e R s m args below meth c H locs 0 0 (MQ below (QV d g o) args s 0 0 (AM g)) (F0 m 18 ls [.int s0]) := by
  obtain ⟨hx, hb, hml, hown, hts, hK, hg, hr, hlk⟩ := id C
  unfold bM_noteNeed_18 at hf
  refine lv_istore (lv' := [(4, .int s0), (0, .ref g.1), (1, .int x1), (2, .int x2)]) hx hb dX9_noteNeed_18 hl (by decide) rfl (fun ls hl => ?_)
  refine lv_iconst (v := 0) hx hb dX9_noteNeed_20 (by decide) ?_
  refine lv_istore (lv' := [(5, .int 0), (4, .int s0), (0, .ref g.1), (1, .int x1), (2, .int x2)]) hx hb dX9_noteNeed_21 hl (by decide) rfl (fun ls hl => ?_)
  exact (wlM_noteNeed_23 C hRm (wbM_noteNeed_68 C hRm) N) _ _ _ _ _ _ _ _ hf hR hS (lv_sub hl [2, 3, 4, 1, 0] rfl)
def bM_noteNeed_13 (N : Nat) (x1 : Int32) (x2 : Int32) (S : Ms) : Option (Ms) := (bM_noteNeed_18 N) x1 x2 1 S
set_option maxRecDepth 100000 in
set_option maxHeartbeats 4000000 in
theorem wbM_noteNeed_13 {p : Program} {l : Launch} {e : Env} {R : Room} {s : State} {m : MethodId} {args : Array Value} {below : List Frame} {meth : Method} {c : Code} {d : Dd} {g : Gm} {o : Ms} {N : Nat} (C : CM p s m args meth c d g cX9_noteNeed 6 none) (hRm : 0 ≤ R.frames ∧ 0 ≤ R.locals) (x1 : Int32) (x2 : Int32) (S : Ms) (H : Heap) (locs : List Loc) (ls : Array Slot) (hf : bM_noteNeed_13 N x1 x2 S = some o) (hR : RM d g S H) (hS : va_S (AM g) s.heap H locs) (hl : lv_has ls 6 [(0, .ref g.1), (1, .int x1), (2, .int x2)]) : W p l e R s m args below meth c H locs 0 0 (MQ below (QV d g o) args s 0 0 (AM g)) (F0 m 13 ls []) := by
  obtain ⟨hx, hb, hml, hown, hts, hK, hg, hr, hlk⟩ := id C
  unfold bM_noteNeed_13 at hf
  refine lv_iconst (v := 1) hx hb dX9_noteNeed_13 (by decide) ?_
  refine lv_goto (tgt := 18) hx hb dX9_noteNeed_14 (by decide) ?_
  exact (wbM_noteNeed_18 C hRm) _ _ _ _ _ _ _ hf hR hS (lv_sub hl [0, 1, 2] rfl)
def fM_noteNeed (N : Nat) (x1 : Int32) (x2 : Int32) (x3 : Int32) (S : Ms) : Option (Ms) := if x2 < 0 then ((bM_noteNeed_13 N) x1 x2 S) else (if x2 = x1 then ((bM_noteNeed_13 N) x1 x2 S) else (if x3 = 0 then ((bM_noteNeed_18 N) x1 x2 0 S) else ((bM_noteNeed_13 N) x1 x2 S)))
set_option maxRecDepth 100000 in
set_option maxHeartbeats 4000000 in
theorem wfM_noteNeed {p : Program} {l : Launch} {e : Env} {R : Room} {s : State} {m : MethodId} {args : Array Value} {below : List Frame} {meth : Method} {c : Code} {d : Dd} {g : Gm} {o : Ms} {N : Nat} (C : CM p s m args meth c d g cX9_noteNeed 6 none) (hRm : 0 ≤ R.frames ∧ 0 ≤ R.locals) (x1 : Int32) (x2 : Int32) (x3 : Int32) (S : Ms) (H : Heap) (locs : List Loc) (ls : Array Slot) (hf : fM_noteNeed N x1 x2 x3 S = some o) (hR : RM d g S H) (hS : va_S (AM g) s.heap H locs) (hl : lv_has ls 6 [(0, .ref g.1), (1, .int x1), (2, .int x2), (3, .int x3)]) : W p l e R s m args below meth c H locs 0 0 (MQ below (QV d g o) args s 0 0 (AM g)) (F0 m 0 ls []) := by
  obtain ⟨hx, hb, hml, hown, hts, hK, hg, hr, hlk⟩ := id C
  unfold fM_noteNeed at hf
  refine lv_iload_n hx hb dX9_noteNeed_0 rfl (lv_at hl 2 rfl) ?_
  refine lv_if_lt (tgt := 13) hx hb dX9_noteNeed_1 (by decide) (fun hc => ?_) (fun hc => ?_)
  · rw [if_pos hc] at hf
    exact (wbM_noteNeed_13 C hRm) _ _ _ _ _ _ hf hR hS (lv_sub hl [0, 1, 2] rfl)
  · rw [if_neg hc] at hf
    refine lv_iload_n hx hb dX9_noteNeed_4 rfl (lv_at hl 2 rfl) ?_
    refine lv_iload_n hx hb dX9_noteNeed_5 rfl (lv_at hl 1 rfl) ?_
    refine lv_icmp_eq (tgt := 13) hx hb dX9_noteNeed_6 (by decide) (fun hc => ?_) (fun hc => ?_)
    · rw [if_pos hc] at hf
      exact (wbM_noteNeed_13 C hRm) _ _ _ _ _ _ hf hR hS (lv_sub hl [0, 1, 2] rfl)
    · rw [if_neg hc] at hf
      refine lv_iload_n hx hb dX9_noteNeed_9 rfl (lv_at hl 3 rfl) ?_
      refine lv_if_eq (tgt := 17) hx hb dX9_noteNeed_10 (by decide) (fun hc => ?_) (fun hc => ?_)
      · rw [if_pos hc] at hf
        refine lv_iconst (v := 0) hx hb dX9_noteNeed_17 (by decide) ?_
        exact (wbM_noteNeed_18 C hRm) _ _ _ _ _ _ _ hf hR hS (lv_sub hl [0, 1, 2] rfl)
      · rw [if_neg hc] at hf
        exact (wbM_noteNeed_13 C hRm) _ _ _ _ _ _ hf hR hS (lv_sub hl [0, 1, 2] rfl)
theorem MM_noteNeed (l : Launch) (d : Dd) (g : Gm) (N : Nat) (x1 : Int32) (x2 : Int32) (x3 : Int32) (S : Ms) (o : Ms) (hf : fM_noteNeed N x1 x2 x3 S = some o) : MtV l d g yX9_noteNeed cX9_noteNeed 6 0 0 [.ref g.1, .int x1, .int x2, .int x3] S o :=
  mr_metV (by decide) rfl (Nat.le_of_ble_eq_true rfl) (fun p e s m args below meth c ls C hR hl => wfM_noteNeed C ⟨Nat.le_refl _, Nat.le_refl _⟩ x1 x2 x3 S s.heap [] ls hf hR va_S.rf hl)
def bM_orders_141 (N : Nat) (s0 : Int32) (S : Ms) : Option (Int32 × Ms) := some (s0, S)
set_option maxRecDepth 100000 in
set_option maxHeartbeats 4000000 in
theorem wbM_orders_141 {p : Program} {l : Launch} {e : Env} {R : Room} {s : State} {m : MethodId} {args : Array Value} {below : List Frame} {meth : Method} {c : Code} {d : Dd} {g : Gm} {o : Int32 × Ms} {N : Nat} (C : CM p s m args meth c d g cX9_orders 5 (some .int)) (hRm : 1 ≤ R.frames ∧ 22 ≤ R.locals) (s0 : Int32) (S : Ms) (H : Heap) (locs : List Loc) (ls : Array Slot) (hf : bM_orders_141 N s0 S = some o) (hR : RM d g S H) (hS : va_S (AM g) s.heap H locs) (hl : lv_has ls 5 [(0, .ref g.1)]) : W p l e R s m args below meth c H locs 0 0 (MQ below (QI d g o) args s 0 0 (AM g)) (F0 m 141 ls [.int s0]) := by
  obtain ⟨hx, hb, hml, hown, hts, hK, hg, hr, hlk⟩ := id C
  unfold bM_orders_141 at hf
  exact mr_iret C hR hS hf dX9_orders_141
def bM_orders_124 (N : Nat) (x4 : Int32) (s1 : Int32) (s2 : Int32) (S : Ms) : Option (Int32 × Ms) := ck s1 24 (if x4 = 0 then ((fM_fails N 12 0 (pA S 62 (s1 : Int32).toNatClampNeg s2)).bind fun o138 => (bM_orders_141 N) o138.1 o138.2) else ((bM_orders_141 N) 0 (pA S 62 (s1 : Int32).toNatClampNeg s2)))
set_option maxRecDepth 100000 in
set_option maxHeartbeats 4000000 in
theorem wbM_orders_124 {p : Program} {l : Launch} {e : Env} {R : Room} {s : State} {m : MethodId} {args : Array Value} {below : List Frame} {meth : Method} {c : Code} {d : Dd} {g : Gm} {o : Int32 × Ms} {N : Nat} (C : CM p s m args meth c d g cX9_orders 5 (some .int)) (hRm : 1 ≤ R.frames ∧ 22 ≤ R.locals) (x4 : Int32) (s1 : Int32) (s2 : Int32) (S : Ms) (H : Heap) (locs : List Loc) (ls : Array Slot) (hf : bM_orders_124 N x4 s1 s2 S = some o) (hR : RM d g S H) (hS : va_S (AM g) s.heap H locs) (hl : lv_has ls 5 [(0, .ref g.1), (4, .int x4)]) : W p l e R s m args below meth c H locs 0 0 (MQ below (QI d g o) args s 0 0 (AM g)) (F0 m 124 ls [.int s2, .int s1, .ref (g.2 62)]) := by
  obtain ⟨hx, hb, hml, hown, hts, hK, hg, hr, hlk⟩ := id C
  unfold bM_orders_124 at hf
  obtain ⟨hi, hf⟩ := ck_some hf
  refine mr_iast C hR hS (k := 62) rfl hi dX9_orders_124 (fun H locs hR hS => ?_)
  refine lv_iload hx hb dX9_orders_125 (lv_at hl 1 rfl) ?_
  refine lv_if_eq (tgt := 134) hx hb dX9_orders_127 (by decide) (fun hc => ?_) (fun hc => ?_)
  · rw [if_pos hc] at hf
    refine lv_aload_n hx hb dX9_orders_134 rfl (lv_at hl 0 rfl) ?_
    refine lv_bipush (v := 12) hx hb dX9_orders_135 (by decide) ?_
    refine lv_iconst (v := 0) hx hb dX9_orders_137 (by decide) ?_
    obtain ⟨o138, ho138, hf⟩ := bnd_some hf
    refine mr_callIv C hR hS (As := [.int 12, .int 0]) (rest := []) (MM_fails l d g N 12 0 (pA S 62 (s1 : Int32).toNatClampNeg s2) o138 ho138) wv_497 ⟨by omega, by omega⟩ rfl rfl (Nat.le_of_ble_eq_true rfl) hl.1 dX9_orders_138 ⟨Nat.zero_le _, Nat.zero_le _⟩ (fun H locs hR hS => ?_)
    exact (wbM_orders_141 C hRm) _ _ _ _ _ hf hR hS (lv_sub hl [0] rfl)
  · rw [if_neg hc] at hf
    refine lv_iconst (v := 0) hx hb dX9_orders_130 (by decide) ?_
    refine lv_goto (tgt := 141) hx hb dX9_orders_131 (by decide) ?_
    exact (wbM_orders_141 C hRm) _ _ _ _ _ hf hR hS (lv_sub hl [0] rfl)
def bM_orders_94 (N : Nat) (x1 : Int32) (x2 : Int32) (x4 : Int32) (S : Ms) : Option (Int32 × Ms) := if x4 = 0 then (ck x1 24 ((bM_orders_124 N) x4 x1 (mA (pF S 84 ((mF S 84) + 1)) 62 (x1 : Int32).toNatClampNeg) (pF S 84 ((mF S 84) + 1)))) else ((bM_orders_124 N) x4 x1 x2 (pF S 84 ((mF S 84) + 1)))
set_option maxRecDepth 100000 in
set_option maxHeartbeats 4000000 in
theorem wbM_orders_94 {p : Program} {l : Launch} {e : Env} {R : Room} {s : State} {m : MethodId} {args : Array Value} {below : List Frame} {meth : Method} {c : Code} {d : Dd} {g : Gm} {o : Int32 × Ms} {N : Nat} (C : CM p s m args meth c d g cX9_orders 5 (some .int)) (hRm : 1 ≤ R.frames ∧ 22 ≤ R.locals) (x1 : Int32) (x2 : Int32) (x4 : Int32) (S : Ms) (H : Heap) (locs : List Loc) (ls : Array Slot) (hf : bM_orders_94 N x1 x2 x4 S = some o) (hR : RM d g S H) (hS : va_S (AM g) s.heap H locs) (hl : lv_has ls 5 [(0, .ref g.1), (1, .int x1), (2, .int x2), (4, .int x4)]) : W p l e R s m args below meth c H locs 0 0 (MQ below (QI d g o) args s 0 0 (AM g)) (F0 m 94 ls []) := by
  obtain ⟨hx, hb, hml, hown, hts, hK, hg, hr, hlk⟩ := id C
  unfold bM_orders_94 at hf
  refine lv_aload_n hx hb dX9_orders_94 rfl (lv_at hl 0 rfl) ?_
  refine lv_dup hx hb dX9_orders_95 rfl ?_
  refine mr_getI C hR fl_476 rfl dX9_orders_96 ?_
  refine lv_iconst (v := 1) hx hb dX9_orders_99 (by decide) ?_
  refine lv_iadd hx hb dX9_orders_100 ?_
  refine mr_putI C hR hS fl_476 ⟨rfl, rfl, rfl⟩ dX9_orders_101 (fun H locs hR hS => ?_)
  refine lv_aload_n hx hb dX9_orders_104 rfl (lv_at hl 0 rfl) ?_
  refine mr_getR C hR fl_170 (by decide) dX9_orders_105 ?_
  refine lv_iload_n hx hb dX9_orders_108 rfl (lv_at hl 1 rfl) ?_
  refine lv_iload hx hb dX9_orders_109 (lv_at hl 3 rfl) ?_
  refine lv_if_eq (tgt := 118) hx hb dX9_orders_111 (by decide) (fun hc => ?_) (fun hc => ?_)
  · rw [if_pos hc] at hf
    refine lv_aload_n hx hb dX9_orders_118 rfl (lv_at hl 0 rfl) ?_
    refine mr_getR C hR fl_170 (by decide) dX9_orders_119 ?_
    refine lv_iload_n hx hb dX9_orders_122 rfl (lv_at hl 1 rfl) ?_
    obtain ⟨hi, hf⟩ := ck_some hf
    refine mr_iald C hR (k := 62) rfl hi dX9_orders_123 ?_
    exact (wbM_orders_124 C hRm) _ _ _ _ _ _ _ hf hR hS (lv_sub hl [0, 3] rfl)
  · rw [if_neg hc] at hf
    refine lv_iload_n hx hb dX9_orders_114 rfl (lv_at hl 2 rfl) ?_
    refine lv_goto (tgt := 124) hx hb dX9_orders_115 (by decide) ?_
    exact (wbM_orders_124 C hRm) _ _ _ _ _ _ _ hf hR hS (lv_sub hl [0, 3] rfl)
def bM_orders_41 (N : Nat) (x1 : Int32) (x2 : Int32) (x3 : Int32) (s0 : Int32) (S : Ms) : Option (Int32 × Ms) := if 200 ≤ (mF S 84) then ((bM_orders_94 N) x1 x2 s0 S) else (ck (mF S 84) 200 (ck (mF (pA S 80 (mF S 84 : Int32).toNatClampNeg x3) 84) 200 (ck (mF (pA (pA S 80 (mF S 84 : Int32).toNatClampNeg x3) 81 (mF (pA S 80 (mF S 84 : Int32).toNatClampNeg x3) 84 : Int32).toNatClampNeg x1) 84) 200 (ck (mF (pA (pA (pA S 80 (mF S 84 : Int32).toNatClampNeg x3) 81 (mF (pA S 80 (mF S 84 : Int32).toNatClampNeg x3) 84 : Int32).toNatClampNeg x1) 82 (mF (pA (pA S 80 (mF S 84 : Int32).toNatClampNeg x3) 81 (mF (pA S 80 (mF S 84 : Int32).toNatClampNeg x3) 84 : Int32).toNatClampNeg x1) 84 : Int32).toNatClampNeg x2) 84) 200 ((bM_orders_94 N) x1 x2 s0 (pA (pA (pA (pA S 80 (mF S 84 : Int32).toNatClampNeg x3) 81 (mF (pA S 80 (mF S 84 : Int32).toNatClampNeg x3) 84 : Int32).toNatClampNeg x1) 82 (mF (pA (pA S 80 (mF S 84 : Int32).toNatClampNeg x3) 81 (mF (pA S 80 (mF S 84 : Int32).toNatClampNeg x3) 84 : Int32).toNatClampNeg x1) 84 : Int32).toNatClampNeg x2) 83 (mF (pA (pA (pA S 80 (mF S 84 : Int32).toNatClampNeg x3) 81 (mF (pA S 80 (mF S 84 : Int32).toNatClampNeg x3) 84 : Int32).toNatClampNeg x1) 82 (mF (pA (pA S 80 (mF S 84 : Int32).toNatClampNeg x3) 81 (mF (pA S 80 (mF S 84 : Int32).toNatClampNeg x3) 84 : Int32).toNatClampNeg x1) 84 : Int32).toNatClampNeg x2) 84 : Int32).toNatClampNeg (vp_nar .boolean s0)))))))
set_option maxRecDepth 100000 in
set_option maxHeartbeats 4000000 in
theorem wbM_orders_41 {p : Program} {l : Launch} {e : Env} {R : Room} {s : State} {m : MethodId} {args : Array Value} {below : List Frame} {meth : Method} {c : Code} {d : Dd} {g : Gm} {o : Int32 × Ms} {N : Nat} (C : CM p s m args meth c d g cX9_orders 5 (some .int)) (hRm : 1 ≤ R.frames ∧ 22 ≤ R.locals) (x1 : Int32) (x2 : Int32) (x3 : Int32) (s0 : Int32) (S : Ms) (H : Heap) (locs : List Loc) (ls : Array Slot) (hf : bM_orders_41 N x1 x2 x3 s0 S = some o) (hR : RM d g S H) (hS : va_S (AM g) s.heap H locs) (hl : lv_has ls 5 [(0, .ref g.1), (1, .int x1), (2, .int x2), (3, .int x3)]) : W p l e R s m args below meth c H locs 0 0 (MQ below (QI d g o) args s 0 0 (AM g)) (F0 m 41 ls [.int s0]) := by
  obtain ⟨hx, hb, hml, hown, hts, hK, hg, hr, hlk⟩ := id C
  unfold bM_orders_41 at hf
  refine lv_istore (lv' := [(4, .int s0), (0, .ref g.1), (1, .int x1), (2, .int x2), (3, .int x3)]) hx hb dX9_orders_41 hl (by decide) rfl (fun ls hl => ?_)
  refine lv_aload_n hx hb dX9_orders_43 rfl (lv_at hl 1 rfl) ?_
  refine mr_getI C hR fl_476 rfl dX9_orders_44 ?_
  refine lv_sipush (v := 200) hx hb dX9_orders_47 (by decide) ?_
  refine lv_icmp_ge (tgt := 94) hx hb dX9_orders_50 (by decide) (fun hc => ?_) (fun hc => ?_)
  · rw [if_pos hc] at hf
    exact (wbM_orders_94 C hRm) _ _ _ _ _ _ _ hf hR hS (lv_sub hl [1, 2, 3, 0] rfl)
  · rw [if_neg hc] at hf
    refine lv_aload_n hx hb dX9_orders_53 rfl (lv_at hl 1 rfl) ?_
    refine mr_getR C hR fl_197 (by decide) dX9_orders_54 ?_
    refine lv_aload_n hx hb dX9_orders_57 rfl (lv_at hl 1 rfl) ?_
    refine mr_getI C hR fl_476 rfl dX9_orders_58 ?_
    refine lv_iload_n hx hb dX9_orders_61 rfl (lv_at hl 4 rfl) ?_
    obtain ⟨hi, hf⟩ := ck_some hf
    refine mr_iast C hR hS (k := 80) rfl hi dX9_orders_62 (fun H locs hR hS => ?_)
    refine lv_aload_n hx hb dX9_orders_63 rfl (lv_at hl 1 rfl) ?_
    refine mr_getR C hR fl_200 (by decide) dX9_orders_64 ?_
    refine lv_aload_n hx hb dX9_orders_67 rfl (lv_at hl 1 rfl) ?_
    refine mr_getI C hR fl_476 rfl dX9_orders_68 ?_
    refine lv_iload_n hx hb dX9_orders_71 rfl (lv_at hl 2 rfl) ?_
    obtain ⟨hi, hf⟩ := ck_some hf
    refine mr_iast C hR hS (k := 81) rfl hi dX9_orders_72 (fun H locs hR hS => ?_)
    refine lv_aload_n hx hb dX9_orders_73 rfl (lv_at hl 1 rfl) ?_
    refine mr_getR C hR fl_203 (by decide) dX9_orders_74 ?_
    refine lv_aload_n hx hb dX9_orders_77 rfl (lv_at hl 1 rfl) ?_
    refine mr_getI C hR fl_476 rfl dX9_orders_78 ?_
    refine lv_iload_n hx hb dX9_orders_81 rfl (lv_at hl 3 rfl) ?_
    obtain ⟨hi, hf⟩ := ck_some hf
    refine mr_iast C hR hS (k := 82) rfl hi dX9_orders_82 (fun H locs hR hS => ?_)
    refine lv_aload_n hx hb dX9_orders_83 rfl (lv_at hl 1 rfl) ?_
    refine mr_getR C hR fl_206 (by decide) dX9_orders_84 ?_
    refine lv_aload_n hx hb dX9_orders_87 rfl (lv_at hl 1 rfl) ?_
    refine mr_getI C hR fl_476 rfl dX9_orders_88 ?_
    refine lv_iload hx hb dX9_orders_91 (lv_at hl 0 rfl) ?_
    obtain ⟨hi, hf⟩ := ck_some hf
    refine mr_zast C hR hS (k := 83) rfl hi dX9_orders_93 (fun H locs hR hS => ?_)
    exact (wbM_orders_94 C hRm) _ _ _ _ _ _ _ hf hR hS (lv_sub hl [1, 2, 3, 0] rfl)
def bM_orders_40 (N : Nat) (x1 : Int32) (x2 : Int32) (x3 : Int32) (S : Ms) : Option (Int32 × Ms) := (bM_orders_41 N) x1 x2 x3 0 S
set_option maxRecDepth 100000 in
set_option maxHeartbeats 4000000 in
theorem wbM_orders_40 {p : Program} {l : Launch} {e : Env} {R : Room} {s : State} {m : MethodId} {args : Array Value} {below : List Frame} {meth : Method} {c : Code} {d : Dd} {g : Gm} {o : Int32 × Ms} {N : Nat} (C : CM p s m args meth c d g cX9_orders 5 (some .int)) (hRm : 1 ≤ R.frames ∧ 22 ≤ R.locals) (x1 : Int32) (x2 : Int32) (x3 : Int32) (S : Ms) (H : Heap) (locs : List Loc) (ls : Array Slot) (hf : bM_orders_40 N x1 x2 x3 S = some o) (hR : RM d g S H) (hS : va_S (AM g) s.heap H locs) (hl : lv_has ls 5 [(0, .ref g.1), (1, .int x1), (2, .int x2), (3, .int x3)]) : W p l e R s m args below meth c H locs 0 0 (MQ below (QI d g o) args s 0 0 (AM g)) (F0 m 40 ls []) := by
  obtain ⟨hx, hb, hml, hown, hts, hK, hg, hr, hlk⟩ := id C
  unfold bM_orders_40 at hf
  refine lv_iconst (v := 0) hx hb dX9_orders_40 (by decide) ?_
  exact (wbM_orders_41 C hRm) _ _ _ _ _ _ _ _ hf hR hS (lv_sub hl [0, 1, 2, 3] rfl)
def fM_orders (N : Nat) (x1 : Int32) (x2 : Int32) (x3 : Int32) (S : Ms) : Option (Int32 × Ms) := ck ((24 * (mF S 11)) + x1) 48 (if x2 < (mA S 15 ((24 * (mF S 11)) + x1 : Int32).toNatClampNeg) then ((bM_orders_40 N) x1 x2 x3 S) else (ck ((24 * (mF S 11)) + x1) 48 (if (mA S 16 ((24 * (mF S 11)) + x1 : Int32).toNatClampNeg) < x2 then ((bM_orders_40 N) x1 x2 x3 S) else ((bM_orders_41 N) x1 x2 x3 1 S))))
set_option maxRecDepth 100000 in
set_option maxHeartbeats 4000000 in
theorem wfM_orders {p : Program} {l : Launch} {e : Env} {R : Room} {s : State} {m : MethodId} {args : Array Value} {below : List Frame} {meth : Method} {c : Code} {d : Dd} {g : Gm} {o : Int32 × Ms} {N : Nat} (C : CM p s m args meth c d g cX9_orders 5 (some .int)) (hRm : 1 ≤ R.frames ∧ 22 ≤ R.locals) (x1 : Int32) (x2 : Int32) (x3 : Int32) (S : Ms) (H : Heap) (locs : List Loc) (ls : Array Slot) (hf : fM_orders N x1 x2 x3 S = some o) (hR : RM d g S H) (hS : va_S (AM g) s.heap H locs) (hl : lv_has ls 5 [(0, .ref g.1), (1, .int x1), (2, .int x2), (3, .int x3)]) : W p l e R s m args below meth c H locs 0 0 (MQ below (QI d g o) args s 0 0 (AM g)) (F0 m 0 ls []) := by
  obtain ⟨hx, hb, hml, hown, hts, hK, hg, hr, hlk⟩ := id C
  unfold fM_orders at hf
  refine lv_iload_n hx hb dX9_orders_0 rfl (lv_at hl 2 rfl) ?_
  refine lv_aload_n hx hb dX9_orders_1 rfl (lv_at hl 0 rfl) ?_
  refine mr_getR C hR fl_49 (by decide) dX9_orders_2 ?_
  refine lv_bipush (v := 24) hx hb dX9_orders_5 (by decide) ?_
  refine lv_aload_n hx hb dX9_orders_7 rfl (lv_at hl 0 rfl) ?_
  refine mr_getI C hR fl_307 rfl dX9_orders_8 ?_
  refine lv_imul hx hb dX9_orders_11 ?_
  refine lv_iload_n hx hb dX9_orders_12 rfl (lv_at hl 1 rfl) ?_
  refine lv_iadd hx hb dX9_orders_13 ?_
  obtain ⟨hi, hf⟩ := ck_some hf
  refine mr_iald C hR (k := 15) rfl hi dX9_orders_14 ?_
  refine lv_icmp_lt (tgt := 40) hx hb dX9_orders_15 (by decide) (fun hc => ?_) (fun hc => ?_)
  · rw [if_pos hc] at hf
    exact (wbM_orders_40 C hRm) _ _ _ _ _ _ _ hf hR hS (lv_sub hl [0, 1, 2, 3] rfl)
  · rw [if_neg hc] at hf
    refine lv_iload_n hx hb dX9_orders_18 rfl (lv_at hl 2 rfl) ?_
    refine lv_aload_n hx hb dX9_orders_19 rfl (lv_at hl 0 rfl) ?_
    refine mr_getR C hR fl_52 (by decide) dX9_orders_20 ?_
    refine lv_bipush (v := 24) hx hb dX9_orders_23 (by decide) ?_
    refine lv_aload_n hx hb dX9_orders_25 rfl (lv_at hl 0 rfl) ?_
    refine mr_getI C hR fl_307 rfl dX9_orders_26 ?_
    refine lv_imul hx hb dX9_orders_29 ?_
    refine lv_iload_n hx hb dX9_orders_30 rfl (lv_at hl 1 rfl) ?_
    refine lv_iadd hx hb dX9_orders_31 ?_
    obtain ⟨hi, hf⟩ := ck_some hf
    refine mr_iald C hR (k := 16) rfl hi dX9_orders_32 ?_
    refine lv_icmp_gt (tgt := 40) hx hb dX9_orders_33 (by decide) (fun hc => ?_) (fun hc => ?_)
    · rw [if_pos hc] at hf
      exact (wbM_orders_40 C hRm) _ _ _ _ _ _ _ hf hR hS (lv_sub hl [0, 1, 2, 3] rfl)
    · rw [if_neg hc] at hf
      refine lv_iconst (v := 1) hx hb dX9_orders_36 (by decide) ?_
      refine lv_goto (tgt := 41) hx hb dX9_orders_37 (by decide) ?_
      exact (wbM_orders_41 C hRm) _ _ _ _ _ _ _ _ hf hR hS (lv_sub hl [0, 1, 2, 3] rfl)
theorem MM_orders (l : Launch) (d : Dd) (g : Gm) (N : Nat) (x1 : Int32) (x2 : Int32) (x3 : Int32) (S : Ms) (o : Int32 × Ms) (hf : fM_orders N x1 x2 x3 S = some o) : MtI l d g yX9_orders cX9_orders 5 (some .int) 1 22 [.ref g.1, .int x1, .int x2, .int x3] S o :=
  mr_metI (by decide) rfl (Nat.le_of_ble_eq_true rfl) (fun p e s m args below meth c ls C hR hl => wfM_orders C ⟨Nat.le_refl _, Nat.le_refl _⟩ x1 x2 x3 S s.heap [] ls hf hR va_S.rf hl)
def fM_pop (N : Nat)  (S : Ms) : Option (Int32 × Ms) := ck (mF (pF S 95 ((mF S 95) - 1)) 95) 4000 (some (mA (pF S 95 ((mF S 95) - 1)) 94 (mF (pF S 95 ((mF S 95) - 1)) 95 : Int32).toNatClampNeg, pF S 95 ((mF S 95) - 1)))
set_option maxRecDepth 100000 in
set_option maxHeartbeats 4000000 in
theorem wfM_pop {p : Program} {l : Launch} {e : Env} {R : Room} {s : State} {m : MethodId} {args : Array Value} {below : List Frame} {meth : Method} {c : Code} {d : Dd} {g : Gm} {o : Int32 × Ms} {N : Nat} (C : CM p s m args meth c d g cX9_pop 1 (some .int)) (hRm : 0 ≤ R.frames ∧ 0 ≤ R.locals)  (S : Ms) (H : Heap) (locs : List Loc) (ls : Array Slot) (hf : fM_pop N  S = some o) (hR : RM d g S H) (hS : va_S (AM g) s.heap H locs) (hl : lv_has ls 1 [(0, .ref g.1)]) : W p l e R s m args below meth c H locs 0 0 (MQ below (QI d g o) args s 0 0 (AM g)) (F0 m 0 ls []) := by
  obtain ⟨hx, hb, hml, hown, hts, hK, hg, hr, hlk⟩ := id C
  unfold fM_pop at hf
  refine lv_aload_n hx hb dX9_pop_0 rfl (lv_at hl 0 rfl) ?_
  refine lv_dup hx hb dX9_pop_1 rfl ?_
  refine mr_getI C hR fl_532 rfl dX9_pop_2 ?_
  refine lv_iconst (v := 1) hx hb dX9_pop_5 (by decide) ?_
  refine lv_isub hx hb dX9_pop_6 ?_
  refine mr_putI C hR hS fl_532 ⟨rfl, rfl, rfl⟩ dX9_pop_7 (fun H locs hR hS => ?_)
  refine lv_aload_n hx hb dX9_pop_10 rfl (lv_at hl 0 rfl) ?_
  refine mr_getR C hR fl_218 (by decide) dX9_pop_11 ?_
  refine lv_aload_n hx hb dX9_pop_14 rfl (lv_at hl 0 rfl) ?_
  refine mr_getI C hR fl_532 rfl dX9_pop_15 ?_
  obtain ⟨hi, hf⟩ := ck_some hf
  refine mr_iald C hR (k := 94) rfl hi dX9_pop_18 ?_
  exact mr_iret C hR hS hf dX9_pop_19
theorem MM_pop (l : Launch) (d : Dd) (g : Gm) (N : Nat)  (S : Ms) (o : Int32 × Ms) (hf : fM_pop N  S = some o) : MtI l d g yX9_pop cX9_pop 1 (some .int) 0 0 [.ref g.1] S o :=
  mr_metI (by decide) rfl (Nat.le_of_ble_eq_true rfl) (fun p e s m args below meth c ls C hR hl => wfM_pop C ⟨Nat.le_refl _, Nat.le_refl _⟩  S s.heap [] ls hf hR va_S.rf hl)
def fM_push (N : Nat) (x1 : Int32) (S : Ms) : Option (Ms) := ck (mF S 95) 4000 (some (pF (pA S 94 (mF S 95 : Int32).toNatClampNeg x1) 95 ((mF (pA S 94 (mF S 95 : Int32).toNatClampNeg x1) 95) + 1)))
set_option maxRecDepth 100000 in
set_option maxHeartbeats 4000000 in
theorem wfM_push {p : Program} {l : Launch} {e : Env} {R : Room} {s : State} {m : MethodId} {args : Array Value} {below : List Frame} {meth : Method} {c : Code} {d : Dd} {g : Gm} {o : Ms} {N : Nat} (C : CM p s m args meth c d g cX9_push 2 none) (hRm : 0 ≤ R.frames ∧ 0 ≤ R.locals) (x1 : Int32) (S : Ms) (H : Heap) (locs : List Loc) (ls : Array Slot) (hf : fM_push N x1 S = some o) (hR : RM d g S H) (hS : va_S (AM g) s.heap H locs) (hl : lv_has ls 2 [(0, .ref g.1), (1, .int x1)]) : W p l e R s m args below meth c H locs 0 0 (MQ below (QV d g o) args s 0 0 (AM g)) (F0 m 0 ls []) := by
  obtain ⟨hx, hb, hml, hown, hts, hK, hg, hr, hlk⟩ := id C
  unfold fM_push at hf
  refine lv_aload_n hx hb dX9_push_0 rfl (lv_at hl 0 rfl) ?_
  refine mr_getR C hR fl_218 (by decide) dX9_push_1 ?_
  refine lv_aload_n hx hb dX9_push_4 rfl (lv_at hl 0 rfl) ?_
  refine mr_getI C hR fl_532 rfl dX9_push_5 ?_
  refine lv_iload_n hx hb dX9_push_8 rfl (lv_at hl 1 rfl) ?_
  obtain ⟨hi, hf⟩ := ck_some hf
  refine mr_iast C hR hS (k := 94) rfl hi dX9_push_9 (fun H locs hR hS => ?_)
  refine lv_aload_n hx hb dX9_push_10 rfl (lv_at hl 0 rfl) ?_
  refine lv_dup hx hb dX9_push_11 rfl ?_
  refine mr_getI C hR fl_532 rfl dX9_push_12 ?_
  refine lv_iconst (v := 1) hx hb dX9_push_15 (by decide) ?_
  refine lv_iadd hx hb dX9_push_16 ?_
  refine mr_putI C hR hS fl_532 ⟨rfl, rfl, rfl⟩ dX9_push_17 (fun H locs hR hS => ?_)
  exact mr_vret C hR hS hf dX9_push_20
theorem MM_push (l : Launch) (d : Dd) (g : Gm) (N : Nat) (x1 : Int32) (S : Ms) (o : Ms) (hf : fM_push N x1 S = some o) : MtV l d g yX9_push cX9_push 2 0 0 [.ref g.1, .int x1] S o :=
  mr_metV (by decide) rfl (Nat.le_of_ble_eq_true rfl) (fun p e s m args below meth c ls C hR hl => wfM_push C ⟨Nat.le_refl _, Nat.le_refl _⟩ x1 S s.heap [] ls hf hR va_S.rf hl)
def bM_reckons_206 (N : Nat)  (S : Ms) : Option (Int32 × Ms) := some (0, S)
set_option maxRecDepth 100000 in
set_option maxHeartbeats 4000000 in
theorem wbM_reckons_206 {p : Program} {l : Launch} {e : Env} {R : Room} {s : State} {m : MethodId} {args : Array Value} {below : List Frame} {meth : Method} {c : Code} {d : Dd} {g : Gm} {o : Int32 × Ms} {N : Nat} (C : CM p s m args meth c d g cX9_reckons 5 (some .int)) (hRm : 1 ≤ R.frames ∧ 22 ≤ R.locals)  (S : Ms) (H : Heap) (locs : List Loc) (ls : Array Slot) (hf : bM_reckons_206 N  S = some o) (hR : RM d g S H) (hS : va_S (AM g) s.heap H locs) (hl : lv_has ls 5 [(0, .ref g.1)]) : W p l e R s m args below meth c H locs 0 0 (MQ below (QI d g o) args s 0 0 (AM g)) (F0 m 206 ls []) := by
  obtain ⟨hx, hb, hml, hown, hts, hK, hg, hr, hlk⟩ := id C
  unfold bM_reckons_206 at hf
  refine lv_iconst (v := 0) hx hb dX9_reckons_206 (by decide) ?_
  exact mr_iret C hR hS hf dX9_reckons_207
def bM_reckons_203 (N : Nat) (s1 : Int32) (S : Ms) : Option (Int32 × Ms) := (fM_push N s1 S).bind fun o203 => (bM_reckons_206 N) o203
set_option maxRecDepth 100000 in
set_option maxHeartbeats 4000000 in
theorem wbM_reckons_203 {p : Program} {l : Launch} {e : Env} {R : Room} {s : State} {m : MethodId} {args : Array Value} {below : List Frame} {meth : Method} {c : Code} {d : Dd} {g : Gm} {o : Int32 × Ms} {N : Nat} (C : CM p s m args meth c d g cX9_reckons 5 (some .int)) (hRm : 1 ≤ R.frames ∧ 22 ≤ R.locals) (s1 : Int32) (S : Ms) (H : Heap) (locs : List Loc) (ls : Array Slot) (hf : bM_reckons_203 N s1 S = some o) (hR : RM d g S H) (hS : va_S (AM g) s.heap H locs) (hl : lv_has ls 5 [(0, .ref g.1)]) : W p l e R s m args below meth c H locs 0 0 (MQ below (QI d g o) args s 0 0 (AM g)) (F0 m 203 ls [.int s1, .ref g.1]) := by
  obtain ⟨hx, hb, hml, hown, hts, hK, hg, hr, hlk⟩ := id C
  unfold bM_reckons_203 at hf
  obtain ⟨o203, ho203, hf⟩ := bnd_some hf
  refine mr_callVv C hR hS (As := [.int s1]) (rest := []) (MM_push l d g N s1 S o203 ho203) wv_549 ⟨by omega, by omega⟩ rfl rfl (Nat.le_of_ble_eq_true rfl) hl.1 dX9_reckons_203 ⟨Nat.zero_le _, Nat.zero_le _⟩ (fun H locs hR hS => ?_)
  exact (wbM_reckons_206 C hRm) _ _ _ _ hf hR hS (lv_sub hl [0] rfl)
def bM_reckons_106 (N : Nat) (x1 : Int32) (x3 : Int32) (x4 : Int32) (S : Ms) : Option (Int32 × Ms) := if x1 = 18 then ((bM_reckons_203 N) (x4 * x3) S) else (if x1 = 19 then (gd (x3 != 0) ((bM_reckons_203 N) (x4 / x3) S)) else (if x1 = 20 then (gd (x3 != 0) ((bM_reckons_203 N) (x4 - x4 / x3 * x3) S)) else (if x1 = 21 then ((bM_reckons_203 N) (x4 + x3) S) else (if x1 = 22 then ((bM_reckons_203 N) (x4 - x3) S) else (if x1 = 23 then (if x3 ≤ x4 then ((bM_reckons_203 N) 0 S) else ((bM_reckons_203 N) 1 S)) else (if x4 = x3 then ((bM_reckons_203 N) 1 S) else ((bM_reckons_203 N) 0 S)))))))
set_option maxRecDepth 100000 in
set_option maxHeartbeats 4000000 in
theorem wbM_reckons_106 {p : Program} {l : Launch} {e : Env} {R : Room} {s : State} {m : MethodId} {args : Array Value} {below : List Frame} {meth : Method} {c : Code} {d : Dd} {g : Gm} {o : Int32 × Ms} {N : Nat} (C : CM p s m args meth c d g cX9_reckons 5 (some .int)) (hRm : 1 ≤ R.frames ∧ 22 ≤ R.locals) (x1 : Int32) (x3 : Int32) (x4 : Int32) (S : Ms) (H : Heap) (locs : List Loc) (ls : Array Slot) (hf : bM_reckons_106 N x1 x3 x4 S = some o) (hR : RM d g S H) (hS : va_S (AM g) s.heap H locs) (hl : lv_has ls 5 [(0, .ref g.1), (1, .int x1), (3, .int x3), (4, .int x4)]) : W p l e R s m args below meth c H locs 0 0 (MQ below (QI d g o) args s 0 0 (AM g)) (F0 m 106 ls []) := by
  obtain ⟨hx, hb, hml, hown, hts, hK, hg, hr, hlk⟩ := id C
  unfold bM_reckons_106 at hf
  refine lv_aload_n hx hb dX9_reckons_106 rfl (lv_at hl 0 rfl) ?_
  refine lv_iload_n hx hb dX9_reckons_107 rfl (lv_at hl 1 rfl) ?_
  refine lv_bipush (v := 18) hx hb dX9_reckons_108 (by decide) ?_
  refine lv_icmp_ne (tgt := 120) hx hb dX9_reckons_110 (by decide) (fun hc => ?_) (fun hc => ?_)
  · rw [if_neg hc] at hf
    refine lv_iload_n hx hb dX9_reckons_120 rfl (lv_at hl 1 rfl) ?_
    refine lv_bipush (v := 19) hx hb dX9_reckons_121 (by decide) ?_
    refine lv_icmp_ne (tgt := 133) hx hb dX9_reckons_123 (by decide) (fun hc => ?_) (fun hc => ?_)
    · rw [if_neg hc] at hf
      refine lv_iload_n hx hb dX9_reckons_133 rfl (lv_at hl 1 rfl) ?_
      refine lv_bipush (v := 20) hx hb dX9_reckons_134 (by decide) ?_
      refine lv_icmp_ne (tgt := 146) hx hb dX9_reckons_136 (by decide) (fun hc => ?_) (fun hc => ?_)
      · rw [if_neg hc] at hf
        refine lv_iload_n hx hb dX9_reckons_146 rfl (lv_at hl 1 rfl) ?_
        refine lv_bipush (v := 21) hx hb dX9_reckons_147 (by decide) ?_
        refine lv_icmp_ne (tgt := 159) hx hb dX9_reckons_149 (by decide) (fun hc => ?_) (fun hc => ?_)
        · rw [if_neg hc] at hf
          refine lv_iload_n hx hb dX9_reckons_159 rfl (lv_at hl 1 rfl) ?_
          refine lv_bipush (v := 22) hx hb dX9_reckons_160 (by decide) ?_
          refine lv_icmp_ne (tgt := 172) hx hb dX9_reckons_162 (by decide) (fun hc => ?_) (fun hc => ?_)
          · rw [if_neg hc] at hf
            refine lv_iload_n hx hb dX9_reckons_172 rfl (lv_at hl 1 rfl) ?_
            refine lv_bipush (v := 23) hx hb dX9_reckons_173 (by decide) ?_
            refine lv_icmp_ne (tgt := 192) hx hb dX9_reckons_175 (by decide) (fun hc => ?_) (fun hc => ?_)
            · rw [if_neg hc] at hf
              refine lv_iload hx hb dX9_reckons_192 (lv_at hl 3 rfl) ?_
              refine lv_iload_n hx hb dX9_reckons_194 rfl (lv_at hl 2 rfl) ?_
              refine lv_icmp_ne (tgt := 202) hx hb dX9_reckons_195 (by decide) (fun hc => ?_) (fun hc => ?_)
              · rw [if_neg hc] at hf
                refine lv_iconst (v := 0) hx hb dX9_reckons_202 (by decide) ?_
                exact (wbM_reckons_203 C hRm) _ _ _ _ _ hf hR hS (lv_sub hl [0] rfl)
              · rw [if_pos hc] at hf
                refine lv_iconst (v := 1) hx hb dX9_reckons_198 (by decide) ?_
                refine lv_goto (tgt := 203) hx hb dX9_reckons_199 (by decide) ?_
                exact (wbM_reckons_203 C hRm) _ _ _ _ _ hf hR hS (lv_sub hl [0] rfl)
            · rw [if_pos hc] at hf
              refine lv_iload hx hb dX9_reckons_178 (lv_at hl 3 rfl) ?_
              refine lv_iload_n hx hb dX9_reckons_180 rfl (lv_at hl 2 rfl) ?_
              refine lv_icmp_ge (tgt := 188) hx hb dX9_reckons_181 (by decide) (fun hc => ?_) (fun hc => ?_)
              · rw [if_pos hc] at hf
                refine lv_iconst (v := 0) hx hb dX9_reckons_188 (by decide) ?_
                refine lv_goto (tgt := 203) hx hb dX9_reckons_189 (by decide) ?_
                exact (wbM_reckons_203 C hRm) _ _ _ _ _ hf hR hS (lv_sub hl [0] rfl)
              · rw [if_neg hc] at hf
                refine lv_iconst (v := 1) hx hb dX9_reckons_184 (by decide) ?_
                refine lv_goto (tgt := 203) hx hb dX9_reckons_185 (by decide) ?_
                exact (wbM_reckons_203 C hRm) _ _ _ _ _ hf hR hS (lv_sub hl [0] rfl)
          · rw [if_pos hc] at hf
            refine lv_iload hx hb dX9_reckons_165 (lv_at hl 3 rfl) ?_
            refine lv_iload_n hx hb dX9_reckons_167 rfl (lv_at hl 2 rfl) ?_
            refine lv_isub hx hb dX9_reckons_168 ?_
            refine lv_goto (tgt := 203) hx hb dX9_reckons_169 (by decide) ?_
            exact (wbM_reckons_203 C hRm) _ _ _ _ _ hf hR hS (lv_sub hl [0] rfl)
        · rw [if_pos hc] at hf
          refine lv_iload hx hb dX9_reckons_152 (lv_at hl 3 rfl) ?_
          refine lv_iload_n hx hb dX9_reckons_154 rfl (lv_at hl 2 rfl) ?_
          refine lv_iadd hx hb dX9_reckons_155 ?_
          refine lv_goto (tgt := 203) hx hb dX9_reckons_156 (by decide) ?_
          exact (wbM_reckons_203 C hRm) _ _ _ _ _ hf hR hS (lv_sub hl [0] rfl)
      · rw [if_pos hc] at hf
        refine lv_iload hx hb dX9_reckons_139 (lv_at hl 3 rfl) ?_
        refine lv_iload_n hx hb dX9_reckons_141 rfl (lv_at hl 2 rfl) ?_
        obtain ⟨hq, hf⟩ := gd_some hf
        refine lv_irem hx hb dX9_reckons_142 (by simpa using hq) ?_
        refine lv_goto (tgt := 203) hx hb dX9_reckons_143 (by decide) ?_
        exact (wbM_reckons_203 C hRm) _ _ _ _ _ hf hR hS (lv_sub hl [0] rfl)
    · rw [if_pos hc] at hf
      refine lv_iload hx hb dX9_reckons_126 (lv_at hl 3 rfl) ?_
      refine lv_iload_n hx hb dX9_reckons_128 rfl (lv_at hl 2 rfl) ?_
      obtain ⟨hq, hf⟩ := gd_some hf
      refine lv_idiv hx hb dX9_reckons_129 (by simpa using hq) ?_
      refine lv_goto (tgt := 203) hx hb dX9_reckons_130 (by decide) ?_
      exact (wbM_reckons_203 C hRm) _ _ _ _ _ hf hR hS (lv_sub hl [0] rfl)
  · rw [if_pos hc] at hf
    refine lv_iload hx hb dX9_reckons_113 (lv_at hl 3 rfl) ?_
    refine lv_iload_n hx hb dX9_reckons_115 rfl (lv_at hl 2 rfl) ?_
    refine lv_imul hx hb dX9_reckons_116 ?_
    refine lv_goto (tgt := 203) hx hb dX9_reckons_117 (by decide) ?_
    exact (wbM_reckons_203 C hRm) _ _ _ _ _ hf hR hS (lv_sub hl [0] rfl)
def bM_reckons_94 (N : Nat) (x1 : Int32) (x3 : Int32) (x4 : Int32) (S : Ms) : Option (Int32 × Ms) := if x3 = 0 then ((fM_fails N 13 0 S).bind fun o102 => some (o102.1, o102.2)) else ((bM_reckons_106 N) x1 x3 x4 S)
set_option maxRecDepth 100000 in
set_option maxHeartbeats 4000000 in
theorem wbM_reckons_94 {p : Program} {l : Launch} {e : Env} {R : Room} {s : State} {m : MethodId} {args : Array Value} {below : List Frame} {meth : Method} {c : Code} {d : Dd} {g : Gm} {o : Int32 × Ms} {N : Nat} (C : CM p s m args meth c d g cX9_reckons 5 (some .int)) (hRm : 1 ≤ R.frames ∧ 22 ≤ R.locals) (x1 : Int32) (x3 : Int32) (x4 : Int32) (S : Ms) (H : Heap) (locs : List Loc) (ls : Array Slot) (hf : bM_reckons_94 N x1 x3 x4 S = some o) (hR : RM d g S H) (hS : va_S (AM g) s.heap H locs) (hl : lv_has ls 5 [(0, .ref g.1), (1, .int x1), (3, .int x3), (4, .int x4)]) : W p l e R s m args below meth c H locs 0 0 (MQ below (QI d g o) args s 0 0 (AM g)) (F0 m 94 ls []) := by
  obtain ⟨hx, hb, hml, hown, hts, hK, hg, hr, hlk⟩ := id C
  unfold bM_reckons_94 at hf
  refine lv_iload_n hx hb dX9_reckons_94 rfl (lv_at hl 2 rfl) ?_
  refine lv_if_ne (tgt := 106) hx hb dX9_reckons_95 (by decide) (fun hc => ?_) (fun hc => ?_)
  · rw [if_neg hc] at hf
    exact (wbM_reckons_106 C hRm) _ _ _ _ _ _ _ hf hR hS (lv_sub hl [0, 1, 2, 3] rfl)
  · rw [if_pos hc] at hf
    refine lv_aload_n hx hb dX9_reckons_98 rfl (lv_at hl 0 rfl) ?_
    refine lv_bipush (v := 13) hx hb dX9_reckons_99 (by decide) ?_
    refine lv_iconst (v := 0) hx hb dX9_reckons_101 (by decide) ?_
    obtain ⟨o102, ho102, hf⟩ := bnd_some hf
    refine mr_callIv C hR hS (As := [.int 13, .int 0]) (rest := []) (MM_fails l d g N 13 0 S o102 ho102) wv_497 ⟨by omega, by omega⟩ rfl rfl (Nat.le_of_ble_eq_true rfl) hl.1 dX9_reckons_102 ⟨Nat.zero_le _, Nat.zero_le _⟩ (fun H locs hR hS => ?_)
    exact mr_iret C hR hS hf dX9_reckons_105
def fM_reckons (N : Nat) (x1 : Int32) (x2 : Int32) (S : Ms) : Option (Int32 × Ms) := if x1 = 14 then (ck x2 24 ((fM_push N (mA S 61 (x2 : Int32).toNatClampNeg) S).bind fun o13 => (bM_reckons_206 N) o13)) else (if x1 = 15 then ((fM_push N (mF S 98) S).bind fun o30 => (bM_reckons_206 N) o30) else (if x1 = 16 then ((fM_push N (mF S 63) S).bind fun o47 => (bM_reckons_206 N) o47) else (if x1 = 17 then ((fM_pop N S).bind fun o61 => (fM_push N (-o61.1) o61.2).bind fun o65 => (bM_reckons_206 N) o65) else ((fM_pop N S).bind fun o72 => (fM_pop N o72.2).bind fun o77 => if x1 = 19 then ((bM_reckons_94 N) x1 o72.1 o77.1 o77.2) else (if x1 = 20 then ((bM_reckons_94 N) x1 o72.1 o77.1 o77.2) else ((bM_reckons_106 N) x1 o72.1 o77.1 o77.2))))))
set_option maxRecDepth 100000 in
set_option maxHeartbeats 4000000 in
theorem wfM_reckons {p : Program} {l : Launch} {e : Env} {R : Room} {s : State} {m : MethodId} {args : Array Value} {below : List Frame} {meth : Method} {c : Code} {d : Dd} {g : Gm} {o : Int32 × Ms} {N : Nat} (C : CM p s m args meth c d g cX9_reckons 5 (some .int)) (hRm : 1 ≤ R.frames ∧ 22 ≤ R.locals) (x1 : Int32) (x2 : Int32) (S : Ms) (H : Heap) (locs : List Loc) (ls : Array Slot) (hf : fM_reckons N x1 x2 S = some o) (hR : RM d g S H) (hS : va_S (AM g) s.heap H locs) (hl : lv_has ls 5 [(0, .ref g.1), (1, .int x1), (2, .int x2)]) : W p l e R s m args below meth c H locs 0 0 (MQ below (QI d g o) args s 0 0 (AM g)) (F0 m 0 ls []) := by
  obtain ⟨hx, hb, hml, hown, hts, hK, hg, hr, hlk⟩ := id C
  unfold fM_reckons at hf
  refine lv_iload_n hx hb dX9_reckons_0 rfl (lv_at hl 1 rfl) ?_
  refine lv_bipush (v := 14) hx hb dX9_reckons_1 (by decide) ?_
  refine lv_icmp_ne (tgt := 19) hx hb dX9_reckons_3 (by decide) (fun hc => ?_) (fun hc => ?_)
  · rw [if_neg hc] at hf
    refine lv_iload_n hx hb dX9_reckons_19 rfl (lv_at hl 1 rfl) ?_
    refine lv_bipush (v := 15) hx hb dX9_reckons_20 (by decide) ?_
    refine lv_icmp_ne (tgt := 36) hx hb dX9_reckons_22 (by decide) (fun hc => ?_) (fun hc => ?_)
    · rw [if_neg hc] at hf
      refine lv_iload_n hx hb dX9_reckons_36 rfl (lv_at hl 1 rfl) ?_
      refine lv_bipush (v := 16) hx hb dX9_reckons_37 (by decide) ?_
      refine lv_icmp_ne (tgt := 53) hx hb dX9_reckons_39 (by decide) (fun hc => ?_) (fun hc => ?_)
      · rw [if_neg hc] at hf
        refine lv_iload_n hx hb dX9_reckons_53 rfl (lv_at hl 1 rfl) ?_
        refine lv_bipush (v := 17) hx hb dX9_reckons_54 (by decide) ?_
        refine lv_icmp_ne (tgt := 71) hx hb dX9_reckons_56 (by decide) (fun hc => ?_) (fun hc => ?_)
        · rw [if_neg hc] at hf
          refine lv_aload_n hx hb dX9_reckons_71 rfl (lv_at hl 0 rfl) ?_
          obtain ⟨o72, ho72, hf⟩ := bnd_some hf
          refine mr_callIv C hR hS (As := []) (rest := []) (MM_pop l d g N  S o72 ho72) wv_558 ⟨by omega, by omega⟩ rfl rfl (Nat.le_of_ble_eq_true rfl) hl.1 dX9_reckons_72 ⟨Nat.zero_le _, Nat.zero_le _⟩ (fun H locs hR hS => ?_)
          refine lv_istore_n (lv' := [(3, .int o72.1), (0, .ref g.1), (1, .int x1), (2, .int x2)]) hx hb dX9_reckons_75 rfl hl (by decide) rfl (fun ls hl => ?_)
          refine lv_aload_n hx hb dX9_reckons_76 rfl (lv_at hl 1 rfl) ?_
          obtain ⟨o77, ho77, hf⟩ := bnd_some hf
          refine mr_callIv C hR hS (As := []) (rest := []) (MM_pop l d g N  o72.2 o77 ho77) wv_558 ⟨by omega, by omega⟩ rfl rfl (Nat.le_of_ble_eq_true rfl) hl.1 dX9_reckons_77 ⟨Nat.zero_le _, Nat.zero_le _⟩ (fun H locs hR hS => ?_)
          refine lv_istore (lv' := [(4, .int o77.1), (3, .int o72.1), (0, .ref g.1), (1, .int x1), (2, .int x2)]) hx hb dX9_reckons_80 hl (by decide) rfl (fun ls hl => ?_)
          refine lv_iload_n hx hb dX9_reckons_82 rfl (lv_at hl 3 rfl) ?_
          refine lv_bipush (v := 19) hx hb dX9_reckons_83 (by decide) ?_
          refine lv_icmp_eq (tgt := 94) hx hb dX9_reckons_85 (by decide) (fun hc => ?_) (fun hc => ?_)
          · rw [if_pos hc] at hf
            exact (wbM_reckons_94 C hRm) _ _ _ _ _ _ _ hf hR hS (lv_sub hl [2, 3, 1, 0] rfl)
          · rw [if_neg hc] at hf
            refine lv_iload_n hx hb dX9_reckons_88 rfl (lv_at hl 3 rfl) ?_
            refine lv_bipush (v := 20) hx hb dX9_reckons_89 (by decide) ?_
            refine lv_icmp_ne (tgt := 106) hx hb dX9_reckons_91 (by decide) (fun hc => ?_) (fun hc => ?_)
            · rw [if_neg hc] at hf
              exact (wbM_reckons_106 C hRm) _ _ _ _ _ _ _ hf hR hS (lv_sub hl [2, 3, 1, 0] rfl)
            · rw [if_pos hc] at hf
              exact (wbM_reckons_94 C hRm) _ _ _ _ _ _ _ hf hR hS (lv_sub hl [2, 3, 1, 0] rfl)
        · rw [if_pos hc] at hf
          refine lv_aload_n hx hb dX9_reckons_59 rfl (lv_at hl 0 rfl) ?_
          refine lv_aload_n hx hb dX9_reckons_60 rfl (lv_at hl 0 rfl) ?_
          obtain ⟨o61, ho61, hf⟩ := bnd_some hf
          refine mr_callIv C hR hS (As := []) (rest := [.ref g.1]) (MM_pop l d g N  S o61 ho61) wv_558 ⟨by omega, by omega⟩ rfl rfl (Nat.le_of_ble_eq_true rfl) hl.1 dX9_reckons_61 ⟨Nat.zero_le _, Nat.zero_le _⟩ (fun H locs hR hS => ?_)
          refine lv_ineg hx hb dX9_reckons_64 ?_
          obtain ⟨o65, ho65, hf⟩ := bnd_some hf
          refine mr_callVv C hR hS (As := [.int (-o61.1)]) (rest := []) (MM_push l d g N (-o61.1) o61.2 o65 ho65) wv_549 ⟨by omega, by omega⟩ rfl rfl (Nat.le_of_ble_eq_true rfl) hl.1 dX9_reckons_65 ⟨Nat.zero_le _, Nat.zero_le _⟩ (fun H locs hR hS => ?_)
          refine lv_goto (tgt := 206) hx hb dX9_reckons_68 (by decide) ?_
          exact (wbM_reckons_206 C hRm) _ _ _ _ hf hR hS (lv_sub hl [0] rfl)
      · rw [if_pos hc] at hf
        refine lv_aload_n hx hb dX9_reckons_42 rfl (lv_at hl 0 rfl) ?_
        refine lv_aload_n hx hb dX9_reckons_43 rfl (lv_at hl 0 rfl) ?_
        refine mr_getI C hR fl_457 rfl dX9_reckons_44 ?_
        obtain ⟨o47, ho47, hf⟩ := bnd_some hf
        refine mr_callVv C hR hS (As := [.int (mF S 63)]) (rest := []) (MM_push l d g N (mF S 63) S o47 ho47) wv_549 ⟨by omega, by omega⟩ rfl rfl (Nat.le_of_ble_eq_true rfl) hl.1 dX9_reckons_47 ⟨Nat.zero_le _, Nat.zero_le _⟩ (fun H locs hR hS => ?_)
        refine lv_goto (tgt := 206) hx hb dX9_reckons_50 (by decide) ?_
        exact (wbM_reckons_206 C hRm) _ _ _ _ hf hR hS (lv_sub hl [0] rfl)
    · rw [if_pos hc] at hf
      refine lv_aload_n hx hb dX9_reckons_25 rfl (lv_at hl 0 rfl) ?_
      refine lv_aload_n hx hb dX9_reckons_26 rfl (lv_at hl 0 rfl) ?_
      refine mr_getI C hR fl_529 rfl dX9_reckons_27 ?_
      obtain ⟨o30, ho30, hf⟩ := bnd_some hf
      refine mr_callVv C hR hS (As := [.int (mF S 98)]) (rest := []) (MM_push l d g N (mF S 98) S o30 ho30) wv_549 ⟨by omega, by omega⟩ rfl rfl (Nat.le_of_ble_eq_true rfl) hl.1 dX9_reckons_30 ⟨Nat.zero_le _, Nat.zero_le _⟩ (fun H locs hR hS => ?_)
      refine lv_goto (tgt := 206) hx hb dX9_reckons_33 (by decide) ?_
      exact (wbM_reckons_206 C hRm) _ _ _ _ hf hR hS (lv_sub hl [0] rfl)
  · rw [if_pos hc] at hf
    refine lv_aload_n hx hb dX9_reckons_6 rfl (lv_at hl 0 rfl) ?_
    refine lv_aload_n hx hb dX9_reckons_7 rfl (lv_at hl 0 rfl) ?_
    refine mr_getR C hR fl_167 (by decide) dX9_reckons_8 ?_
    refine lv_iload_n hx hb dX9_reckons_11 rfl (lv_at hl 2 rfl) ?_
    obtain ⟨hi, hf⟩ := ck_some hf
    refine mr_iald C hR (k := 61) rfl hi dX9_reckons_12 ?_
    obtain ⟨o13, ho13, hf⟩ := bnd_some hf
    refine mr_callVv C hR hS (As := [.int (mA S 61 (x2 : Int32).toNatClampNeg)]) (rest := []) (MM_push l d g N (mA S 61 (x2 : Int32).toNatClampNeg) S o13 ho13) wv_549 ⟨by omega, by omega⟩ rfl rfl (Nat.le_of_ble_eq_true rfl) hl.1 dX9_reckons_13 ⟨Nat.zero_le _, Nat.zero_le _⟩ (fun H locs hR hS => ?_)
    refine lv_goto (tgt := 206) hx hb dX9_reckons_16 (by decide) ?_
    exact (wbM_reckons_206 C hRm) _ _ _ _ hf hR hS (lv_sub hl [0] rfl)
theorem MM_reckons (l : Launch) (d : Dd) (g : Gm) (N : Nat) (x1 : Int32) (x2 : Int32) (S : Ms) (o : Int32 × Ms) (hf : fM_reckons N x1 x2 S = some o) : MtI l d g yX9_reckons cX9_reckons 5 (some .int) 1 22 [.ref g.1, .int x1, .int x2] S o :=
  mr_metI (by decide) rfl (Nat.le_of_ble_eq_true rfl) (fun p e s m args below meth c ls C hR hl => wfM_reckons C ⟨Nat.le_refl _, Nat.le_refl _⟩ x1 x2 S s.heap [] ls hf hR va_S.rf hl)
def bM_step_21 (N : Nat)  (S : Ms) : Option (Int32 × Ms) := gd (is01 0) (some (0, S))
set_option maxRecDepth 100000 in
set_option maxHeartbeats 4000000 in
theorem wbM_step_21 {p : Program} {l : Launch} {e : Env} {R : Room} {s : State} {m : MethodId} {args : Array Value} {below : List Frame} {meth : Method} {c : Code} {d : Dd} {g : Gm} {o : Int32 × Ms} {N : Nat} (C : CM p s m args meth c d g cX9_step 1 (some .boolean)) (hRm : 0 ≤ R.frames ∧ 0 ≤ R.locals)  (S : Ms) (H : Heap) (locs : List Loc) (ls : Array Slot) (hf : bM_step_21 N  S = some o) (hR : RM d g S H) (hS : va_S (AM g) s.heap H locs) (hl : lv_has ls 1 [(0, .ref g.1)]) : W p l e R s m args below meth c H locs 0 0 (MQ below (QI d g o) args s 0 0 (AM g)) (F0 m 21 ls []) := by
  obtain ⟨hx, hb, hml, hown, hts, hK, hg, hr, hlk⟩ := id C
  unfold bM_step_21 at hf
  refine lv_iconst (v := 0) hx hb dX9_step_21 (by decide) ?_
  obtain ⟨hz, hf⟩ := gd_some hf
  exact mr_zret C hR hS hz hf dX9_step_22
def fM_step (N : Nat)  (S : Ms) : Option (Int32 × Ms) := if (mF S 68) ≤ (mF S 67) then ((bM_step_21 N) S) else (if (mF S 65) = 100000 then ((bM_step_21 N) S) else (gd (is01 1) (some (1, pF (pF S 67 ((mF S 67) + 1)) 65 ((mF (pF S 67 ((mF S 67) + 1)) 65) + 1)))))
set_option maxRecDepth 100000 in
set_option maxHeartbeats 4000000 in
theorem wfM_step {p : Program} {l : Launch} {e : Env} {R : Room} {s : State} {m : MethodId} {args : Array Value} {below : List Frame} {meth : Method} {c : Code} {d : Dd} {g : Gm} {o : Int32 × Ms} {N : Nat} (C : CM p s m args meth c d g cX9_step 1 (some .boolean)) (hRm : 0 ≤ R.frames ∧ 0 ≤ R.locals)  (S : Ms) (H : Heap) (locs : List Loc) (ls : Array Slot) (hf : fM_step N  S = some o) (hR : RM d g S H) (hS : va_S (AM g) s.heap H locs) (hl : lv_has ls 1 [(0, .ref g.1)]) : W p l e R s m args below meth c H locs 0 0 (MQ below (QI d g o) args s 0 0 (AM g)) (F0 m 0 ls []) := by
  obtain ⟨hx, hb, hml, hown, hts, hK, hg, hr, hlk⟩ := id C
  unfold fM_step at hf
  refine lv_aload_n hx hb dX9_step_0 rfl (lv_at hl 0 rfl) ?_
  refine mr_getI C hR fl_516 rfl dX9_step_1 ?_
  refine lv_aload_n hx hb dX9_step_4 rfl (lv_at hl 0 rfl) ?_
  refine mr_getI C hR fl_519 rfl dX9_step_5 ?_
  refine lv_icmp_ge (tgt := 21) hx hb dX9_step_8 (by decide) (fun hc => ?_) (fun hc => ?_)
  · rw [if_pos hc] at hf
    exact (wbM_step_21 C hRm) _ _ _ _ hf hR hS (lv_sub hl [0] rfl)
  · rw [if_neg hc] at hf
    refine lv_aload_n hx hb dX9_step_11 rfl (lv_at hl 0 rfl) ?_
    refine mr_getI C hR fl_522 rfl dX9_step_12 ?_
    refine lv_ldcw hx hb hown (hts _ wd_1948) dX9_step_15 ?_
    refine lv_icmp_ne (tgt := 23) hx hb dX9_step_18 (by decide) (fun hc => ?_) (fun hc => ?_)
    · rw [if_neg hc] at hf
      refine lv_aload_n hx hb dX9_step_23 rfl (lv_at hl 0 rfl) ?_
      refine lv_dup hx hb dX9_step_24 rfl ?_
      refine mr_getI C hR fl_516 rfl dX9_step_25 ?_
      refine lv_iconst (v := 1) hx hb dX9_step_28 (by decide) ?_
      refine lv_iadd hx hb dX9_step_29 ?_
      refine mr_putI C hR hS fl_516 ⟨rfl, rfl, rfl⟩ dX9_step_30 (fun H locs hR hS => ?_)
      refine lv_aload_n hx hb dX9_step_33 rfl (lv_at hl 0 rfl) ?_
      refine lv_dup hx hb dX9_step_34 rfl ?_
      refine mr_getI C hR fl_522 rfl dX9_step_35 ?_
      refine lv_iconst (v := 1) hx hb dX9_step_38 (by decide) ?_
      refine lv_iadd hx hb dX9_step_39 ?_
      refine mr_putI C hR hS fl_522 ⟨rfl, rfl, rfl⟩ dX9_step_40 (fun H locs hR hS => ?_)
      refine lv_iconst (v := 1) hx hb dX9_step_43 (by decide) ?_
      obtain ⟨hz, hf⟩ := gd_some hf
      exact mr_zret C hR hS hz hf dX9_step_44
    · rw [if_pos hc] at hf
      exact (wbM_step_21 C hRm) _ _ _ _ hf hR hS (lv_sub hl [0] rfl)
theorem MM_step (l : Launch) (d : Dd) (g : Gm) (N : Nat)  (S : Ms) (o : Int32 × Ms) (hf : fM_step N  S = some o) : MtI l d g yX9_step cX9_step 1 (some .boolean) 0 0 [.ref g.1] S o :=
  mr_metI (by decide) rfl (Nat.le_of_ble_eq_true rfl) (fun p e s m args below meth c ls C hR hl => wfM_step C ⟨Nat.le_refl _, Nat.le_refl _⟩  S s.heap [] ls hf hR va_S.rf hl)
