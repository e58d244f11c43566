def bM_plan_50 (N : Nat) (r10 : Int32 → Int32 → Int32 → Int32 → Ms → Option (Int32 × Ms)) (k57 : Int32 → Int32 → Int32 → Ms → Option (Int32 × Ms)) (x1 : Int32) (x2 : Int32) (x4 : Int32) (s0 : Int32) (S : Ms) : Option (Int32 × Ms) := r10 x1 x2 s0 (x4 + 1) S
set_option maxRecDepth 100000 in
set_option maxHeartbeats 4000000 in
theorem wbM_plan_50 {p : Program} {l : Launch} {e : Env} {R : Room} {s : State} {m : MethodId} {args : Array Value} {below : List Frame} {meth : Method} {c : Code} {d : Dd} {g : Gm} {o : Int32 × Ms} {N : Nat} {r10 : Int32 → Int32 → Int32 → Int32 → Ms → Option (Int32 × Ms)} {k57 : Int32 → Int32 → Int32 → Ms → Option (Int32 × Ms)} (C : CM p s m args meth c d g cX9_plan 5 (some .boolean)) (hRm : 1 ≤ R.frames ∧ 21 ≤ R.locals) (hr10 : ∀ (x1 : Int32) (x2 : Int32) (x3 : Int32) (x4 : Int32) (S : Ms) (H : Heap) (locs : List Loc) (ls : Array Slot), r10 x1 x2 x3 x4 S = some o → RM d g S H → va_S (AM g) s.heap H locs → lv_has ls 5 [(0, .ref g.1), (1, .int x1), (2, .int x2), (3, .int x3), (4, .int x4)] → W p l e R s m args below meth c H locs 0 0 (MQ below (QI d g o) args s 0 0 (AM g)) (F0 m 10 ls [])) (hk57 : ∀ (x1 : Int32) (x2 : Int32) (x3 : Int32) (S : Ms) (H : Heap) (locs : List Loc) (ls : Array Slot), k57 x1 x2 x3 S = some o → RM d g S H → va_S (AM g) s.heap H locs → lv_has ls 5 [(0, .ref g.1), (1, .int x1), (2, .int x2), (3, .int x3)] → W p l e R s m args below meth c H locs 0 0 (MQ below (QI d g o) args s 0 0 (AM g)) (F0 m 57 ls [])) (x1 : Int32) (x2 : Int32) (x4 : Int32) (s0 : Int32) (S : Ms) (H : Heap) (locs : List Loc) (ls : Array Slot) (hf : bM_plan_50 N r10 k57 x1 x2 x4 s0 S = some o) (hR : RM d g S H) (hS : va_S (AM g) s.heap H locs) (hl : lv_has ls 5 [(0, .ref g.1), (1, .int x1), (2, .int x2), (4, .int x4)]) : W p l e R s m args below meth c H locs 0 0 (MQ below (QI d g o) args s 0 0 (AM g)) (F0 m 50 ls [.int s0]) := by
  obtain ⟨hx, hb, hml, hown, hts, hK, hg, hr, hlk⟩ := id C
  unfold bM_plan_50 at hf
  refine lv_istore_n (lv' := [(3, .int s0), (0, .ref g.1), (1, .int x1), (2, .int x2), (4, .int x4)]) hx hb dX9_plan_50 rfl hl (by decide) rfl (fun ls hl => ?_)
  refine lv_iinc (v := x4 + 1) (lv' := [(4, .int (x4 + 1)), (3, .int s0), (0, .ref g.1), (1, .int x1), (2, .int x2)]) hx hb dX9_plan_51 hl (k := 4) rfl rfl (by decide) rfl (fun ls hl => ?_)
  refine lv_goto (tgt := 10) hx hb dX9_plan_54 (by decide) ?_
  exact hr10 _ _ _ _ _ _ _ _ hf hR hS (lv_sub hl [2, 3, 4, 1, 0] rfl)
def bM_plan_45 (N : Nat) (r10 : Int32 → Int32 → Int32 → Int32 → Ms → Option (Int32 × Ms)) (k57 : Int32 → Int32 → Int32 → Ms → Option (Int32 × Ms)) (x1 : Int32) (x2 : Int32) (x4 : Int32) (S : Ms) : Option (Int32 × Ms) := (bM_plan_50 N r10 k57) x1 x2 x4 1 S
set_option maxRecDepth 100000 in
set_option maxHeartbeats 4000000 in
theorem wbM_plan_45 {p : Program} {l : Launch} {e : Env} {R : Room} {s : State} {m : MethodId} {args : Array Value} {below : List Frame} {meth : Method} {c : Code} {d : Dd} {g : Gm} {o : Int32 × Ms} {N : Nat} {r10 : Int32 → Int32 → Int32 → Int32 → Ms → Option (Int32 × Ms)} {k57 : Int32 → Int32 → Int32 → Ms → Option (Int32 × Ms)} (C : CM p s m args meth c d g cX9_plan 5 (some .boolean)) (hRm : 1 ≤ R.frames ∧ 21 ≤ R.locals) (hr10 : ∀ (x1 : Int32) (x2 : Int32) (x3 : Int32) (x4 : Int32) (S : Ms) (H : Heap) (locs : List Loc) (ls : Array Slot), r10 x1 x2 x3 x4 S = some o → RM d g S H → va_S (AM g) s.heap H locs → lv_has ls 5 [(0, .ref g.1), (1, .int x1), (2, .int x2), (3, .int x3), (4, .int x4)] → W p l e R s m args below meth c H locs 0 0 (MQ below (QI d g o) args s 0 0 (AM g)) (F0 m 10 ls [])) (hk57 : ∀ (x1 : Int32) (x2 : Int32) (x3 : Int32) (S : Ms) (H : Heap) (locs : List Loc) (ls : Array Slot), k57 x1 x2 x3 S = some o → RM d g S H → va_S (AM g) s.heap H locs → lv_has ls 5 [(0, .ref g.1), (1, .int x1), (2, .int x2), (3, .int x3)] → W p l e R s m args below meth c H locs 0 0 (MQ below (QI d g o) args s 0 0 (AM g)) (F0 m 57 ls [])) (x1 : Int32) (x2 : Int32) (x4 : Int32) (S : Ms) (H : Heap) (locs : List Loc) (ls : Array Slot) (hf : bM_plan_45 N r10 k57 x1 x2 x4 S = some o) (hR : RM d g S H) (hS : va_S (AM g) s.heap H locs) (hl : lv_has ls 5 [(0, .ref g.1), (1, .int x1), (2, .int x2), (4, .int x4)]) : W p l e R s m args below meth c H locs 0 0 (MQ below (QI d g o) args s 0 0 (AM g)) (F0 m 45 ls []) := by
  obtain ⟨hx, hb, hml, hown, hts, hK, hg, hr, hlk⟩ := id C
  unfold bM_plan_45 at hf
  refine lv_iconst (v := 1) hx hb dX9_plan_45 (by decide) ?_
  refine lv_goto (tgt := 50) hx hb dX9_plan_46 (by decide) ?_
  exact (wbM_plan_50 C hRm hr10 hk57) _ _ _ _ _ _ _ _ hf hR hS (lv_sub hl [0, 1, 2, 3] rfl)
def bM_plan_49 (N : Nat) (r10 : Int32 → Int32 → Int32 → Int32 → Ms → Option (Int32 × Ms)) (k57 : Int32 → Int32 → Int32 → Ms → Option (Int32 × Ms)) (x1 : Int32) (x2 : Int32) (x4 : Int32) (S : Ms) : Option (Int32 × Ms) := (bM_plan_50 N r10 k57) x1 x2 x4 0 S
set_option maxRecDepth 100000 in
set_option maxHeartbeats 4000000 in
theorem wbM_plan_49 {p : Program} {l : Launch} {e : Env} {R : Room} {s : State} {m : MethodId} {args : Array Value} {below : List Frame} {meth : Method} {c : Code} {d : Dd} {g : Gm} {o : Int32 × Ms} {N : Nat} {r10 : Int32 → Int32 → Int32 → Int32 → Ms → Option (Int32 × Ms)} {k57 : Int32 → Int32 → Int32 → Ms → Option (Int32 × Ms)} (C : CM p s m args meth c d g cX9_plan 5 (some .boolean)) (hRm : 1 ≤ R.frames ∧ 21 ≤ R.locals) (hr10 : ∀ (x1 : Int32) (x2 : Int32) (x3 : Int32) (x4 : Int32) (S : Ms) (H : Heap) (locs : List Loc) (ls : Array Slot), r10 x1 x2 x3 x4 S = some o → RM d g S H → va_S (AM g) s.heap H locs → lv_has ls 5 [(0, .ref g.1), (1, .int x1), (2, .int x2), (3, .int x3), (4, .int x4)] → W p l e R s m args below meth c H locs 0 0 (MQ below (QI d g o) args s 0 0 (AM g)) (F0 m 10 ls [])) (hk57 : ∀ (x1 : Int32) (x2 : Int32) (x3 : Int32) (S : Ms) (H : Heap) (locs : List Loc) (ls : Array Slot), k57 x1 x2 x3 S = some o → RM d g S H → va_S (AM g) s.heap H locs → lv_has ls 5 [(0, .ref g.1), (1, .int x1), (2, .int x2), (3, .int x3)] → W p l e R s m args below meth c H locs 0 0 (MQ below (QI d g o) args s 0 0 (AM g)) (F0 m 57 ls [])) (x1 : Int32) (x2 : Int32) (x4 : Int32) (S : Ms) (H : Heap) (locs : List Loc) (ls : Array Slot) (hf : bM_plan_49 N r10 k57 x1 x2 x4 S = some o) (hR : RM d g S H) (hS : va_S (AM g) s.heap H locs) (hl : lv_has ls 5 [(0, .ref g.1), (1, .int x1), (2, .int x2), (4, .int x4)]) : W p l e R s m args below meth c H locs 0 0 (MQ below (QI d g o) args s 0 0 (AM g)) (F0 m 49 ls []) := by
  obtain ⟨hx, hb, hml, hown, hts, hK, hg, hr, hlk⟩ := id C
  unfold bM_plan_49 at hf
  refine lv_iconst (v := 0) hx hb dX9_plan_49 (by decide) ?_
  exact (wbM_plan_50 C hRm hr10 hk57) _ _ _ _ _ _ _ _ hf hR hS (lv_sub hl [0, 1, 2, 3] rfl)
def lM_plan_10 (N : Nat) (k57 : Int32 → Int32 → Int32 → Ms → Option (Int32 × Ms)) : Nat → Int32 → Int32 → Int32 → Int32 → Ms → Option (Int32 × Ms)
  | 0, _, _, _, _, _ => none
  | n + 1, x1, x2, x3, x4, S => if (mF S 71) ≤ x4 then (k57 x1 x2 x3 S) else (if x3 = 0 then (ck x4 40 (if (mA S 69 (x4 : Int32).toNatClampNeg) = x1 then (ck x4 40 (if (mA S 70 (x4 : Int32).toNatClampNeg) = x2 then ((bM_plan_45 N (lM_plan_10 N k57 n) k57) x1 x2 x4 S) else ((bM_plan_49 N (lM_plan_10 N k57 n) k57) x1 x2 x4 S))) else ((bM_plan_49 N (lM_plan_10 N k57 n) k57) x1 x2 x4 S))) else ((bM_plan_45 N (lM_plan_10 N k57 n) k57) x1 x2 x4 S))
set_option maxRecDepth 100000 in
set_option maxHeartbeats 4000000 in
theorem wlM_plan_10 {p : Program} {l : Launch} {e : Env} {R : Room} {s : State} {m : MethodId} {args : Array Value} {below : List Frame} {meth : Method} {c : Code} {d : Dd} {g : Gm} {o : Int32 × Ms} {N : Nat} {k57 : Int32 → Int32 → Int32 → Ms → Option (Int32 × Ms)} (C : CM p s m args meth c d g cX9_plan 5 (some .boolean)) (hRm : 1 ≤ R.frames ∧ 21 ≤ R.locals) (hk57 : ∀ (x1 : Int32) (x2 : Int32) (x3 : Int32) (S : Ms) (H : Heap) (locs : List Loc) (ls : Array Slot), k57 x1 x2 x3 S = some o → RM d g S H → va_S (AM g) s.heap H locs → lv_has ls 5 [(0, .ref g.1), (1, .int x1), (2, .int x2), (3, .int x3)] → W p l e R s m args below meth c H locs 0 0 (MQ below (QI d g o) args s 0 0 (AM g)) (F0 m 57 ls [])) : ∀ (n : Nat) (x1 : Int32) (x2 : Int32) (x3 : Int32) (x4 : Int32) (S : Ms) (H : Heap) (locs : List Loc) (ls : Array Slot), lM_plan_10 N k57 n x1 x2 x3 x4 S = some o → RM d g S H → va_S (AM g) s.heap H locs → lv_has ls 5 [(0, .ref g.1), (1, .int x1), (2, .int x2), (3, .int x3), (4, .int x4)] → W p l e R s m args below meth c H locs 0 0 (MQ below (QI d g o) args s 0 0 (AM g)) (F0 m 10 ls []) := by
  obtain ⟨hx, hb, hml, hown, hts, hK, hg, hr, hlk⟩ := id C
  intro n
  induction n with
  | zero => intro x1 x2 x3 x4 S H locs ls hf; cases hf
  | succ n ih =>
    intro x1 x2 x3 x4 S H locs ls hf hR hS hl
    rw [lM_plan_10] at hf
    refine lv_iload hx hb dX9_plan_10 (lv_at hl 4 rfl) ?_
    refine lv_aload_n hx hb dX9_plan_12 rfl (lv_at hl 0 rfl) ?_
    refine mr_getI C hR fl_467 rfl dX9_plan_13 ?_
    refine lv_icmp_ge (tgt := 57) hx hb dX9_plan_16 (by decide) (fun hc => ?_) (fun hc => ?_)
    · rw [if_pos hc] at hf
      exact hk57 _ _ _ _ _ _ _ hf hR hS (lv_sub hl [0, 1, 2, 3] rfl)
    · rw [if_neg hc] at hf
      refine lv_iload_n hx hb dX9_plan_19 rfl (lv_at hl 3 rfl) ?_
      refine lv_if_ne (tgt := 45) hx hb dX9_plan_20 (by decide) (fun hc => ?_) (fun hc => ?_)
      · rw [if_neg hc] at hf
        exact (wbM_plan_45 C hRm ih hk57) _ _ _ _ _ _ _ hf hR hS (lv_sub hl [0, 1, 2, 4] rfl)
      · rw [if_pos hc] at hf
        refine lv_aload_n hx hb dX9_plan_23 rfl (lv_at hl 0 rfl) ?_
        refine mr_getR C hR fl_173 (by decide) dX9_plan_24 ?_
        refine lv_iload hx hb dX9_plan_27 (lv_at hl 4 rfl) ?_
        obtain ⟨hi, hf⟩ := ck_some hf
        refine mr_iald C hR (k := 69) rfl hi dX9_plan_29 ?_
        refine lv_iload_n hx hb dX9_plan_30 rfl (lv_at hl 1 rfl) ?_
        refine lv_icmp_ne (tgt := 49) hx hb dX9_plan_31 (by decide) (fun hc => ?_) (fun hc => ?_)
        · rw [if_neg hc] at hf
          exact (wbM_plan_49 C hRm ih hk57) _ _ _ _ _ _ _ hf hR hS (lv_sub hl [0, 1, 2, 4] rfl)
        · rw [if_pos hc] at hf
          refine lv_aload_n hx hb dX9_plan_34 rfl (lv_at hl 0 rfl) ?_
          refine mr_getR C hR fl_176 (by decide) dX9_plan_35 ?_
          refine lv_iload hx hb dX9_plan_38 (lv_at hl 4 rfl) ?_
          obtain ⟨hi, hf⟩ := ck_some hf
          refine mr_iald C hR (k := 70) rfl hi dX9_plan_40 ?_
          refine lv_iload_n hx hb dX9_plan_41 rfl (lv_at hl 2 rfl) ?_
          refine lv_icmp_ne (tgt := 49) hx hb dX9_plan_42 (by decide) (fun hc => ?_) (fun hc => ?_)
          · rw [if_neg hc] at hf
            exact (wbM_plan_49 C hRm ih hk57) _ _ _ _ _ _ _ hf hR hS (lv_sub hl [0, 1, 2, 4] rfl)
          · rw [if_pos hc] at hf
            exact (wbM_plan_45 C hRm ih hk57) _ _ _ _ _ _ _ hf hR hS (lv_sub hl [0, 1, 2, 4] rfl)
def bM_plan_90 (N : Nat)  (S : Ms) : Option (Int32 × Ms) := gd (is01 0) (some (0, S))
set_option maxRecDepth 100000 in
set_option maxHeartbeats 4000000 in
theorem wbM_plan_90 {p : Program} {l : Launch} {e : Env} {R : Room} {s : State} {m : MethodId} {args : Array Value} {below : List Frame} {meth : Method} {c : Code} {d : Dd} {g : Gm} {o : Int32 × Ms} {N : Nat} (C : CM p s m args meth c d g cX9_plan 5 (some .boolean)) (hRm : 1 ≤ R.frames ∧ 21 ≤ R.locals)  (S : Ms) (H : Heap) (locs : List Loc) (ls : Array Slot) (hf : bM_plan_90 N  S = some o) (hR : RM d g S H) (hS : va_S (AM g) s.heap H locs) (hl : lv_has ls 5 [(0, .ref g.1)]) : W p l e R s m args below meth c H locs 0 0 (MQ below (QI d g o) args s 0 0 (AM g)) (F0 m 90 ls []) := by
  obtain ⟨hx, hb, hml, hown, hts, hK, hg, hr, hlk⟩ := id C
  unfold bM_plan_90 at hf
  refine lv_iconst (v := 0) hx hb dX9_plan_90 (by decide) ?_
  obtain ⟨hz, hf⟩ := gd_some hf
  exact mr_zret C hR hS hz hf dX9_plan_91
def bM_plan_57 (N : Nat) (x1 : Int32) (x2 : Int32) (x3 : Int32) (S : Ms) : Option (Int32 × Ms) := if x3 = 0 then ((fM_isUnit N x1 S).bind fun o65 => if o65.1 = 0 then ((bM_plan_90 N) o65.2) else (if x2 < 0 then ((bM_plan_90 N) o65.2) else (if 30 < x2 then ((bM_plan_90 N) o65.2) else (if (mF o65.2 71) = 40 then ((bM_plan_90 N) o65.2) else (ck (mF o65.2 71) 40 (ck (mF (pA o65.2 69 (mF o65.2 71 : Int32).toNatClampNeg x1) 71) 40 (gd (is01 1) (some (1, pF (pA (pA o65.2 69 (mF o65.2 71 : Int32).toNatClampNeg x1) 70 (mF (pA o65.2 69 (mF o65.2 71 : Int32).toNatClampNeg x1) 71 : Int32).toNatClampNeg x2) 71 ((mF (pA (pA o65.2 69 (mF o65.2 71 : Int32).toNatClampNeg x1) 70 (mF (pA o65.2 69 (mF o65.2 71 : Int32).toNatClampNeg x1) 71 : Int32).toNatClampNeg x2) 71) + 1)))))))))) else (gd (is01 1) (some (1, S)))
set_option maxRecDepth 100000 in
set_option maxHeartbeats 4000000 in
theorem wbM_plan_57 {p : Program} {l : Launch} {e : Env} {R : Room} {s : State} {m : MethodId} {args : Array Value} {below : List Frame} {meth : Method} {c : Code} {d : Dd} {g : Gm} {o : Int32 × Ms} {N : Nat} (C : CM p s m args meth c d g cX9_plan 5 (some .boolean)) (hRm : 1 ≤ R.frames ∧ 21 ≤ R.locals) (x1 : Int32) (x2 : Int32) (x3 : Int32) (S : Ms) (H : Heap) (locs : List Loc) (ls : Array Slot) (hf : bM_plan_57 N x1 x2 x3 S = some o) (hR : RM d g S H) (hS : va_S (AM g) s.heap H locs) (hl : lv_has ls 5 [(0, .ref g.1), (1, .int x1), (2, .int x2), (3, .int x3)]) : W p l e R s m args below meth c H locs 0 0 (MQ below (QI d g o) args s 0 0 (AM g)) (F0 m 57 ls []) := by
  obtain ⟨hx, hb, hml, hown, hts, hK, hg, hr, hlk⟩ := id C
  unfold bM_plan_57 at hf
  refine lv_iload_n hx hb dX9_plan_57 rfl (lv_at hl 3 rfl) ?_
  refine lv_if_eq (tgt := 63) hx hb dX9_plan_58 (by decide) (fun hc => ?_) (fun hc => ?_)
  · rw [if_pos hc] at hf
    refine lv_aload_n hx hb dX9_plan_63 rfl (lv_at hl 0 rfl) ?_
    refine lv_iload_n hx hb dX9_plan_64 rfl (lv_at hl 1 rfl) ?_
    obtain ⟨o65, ho65, hf⟩ := bnd_some hf
    refine mr_callIv C hR hS (As := [.int x1]) (rest := []) (MM_isUnit l d g N x1 S o65 ho65) wv_573 ⟨by omega, by omega⟩ rfl rfl (Nat.le_of_ble_eq_true rfl) hl.1 dX9_plan_65 ⟨Nat.zero_le _, Nat.zero_le _⟩ (fun H locs hR hS => ?_)
    refine lv_if_eq (tgt := 90) hx hb dX9_plan_68 (by decide) (fun hc => ?_) (fun hc => ?_)
    · rw [if_pos hc] at hf
      exact (wbM_plan_90 C hRm) _ _ _ _ hf hR hS (lv_sub hl [0] rfl)
    · rw [if_neg hc] at hf
      refine lv_iload_n hx hb dX9_plan_71 rfl (lv_at hl 2 rfl) ?_
      refine lv_if_lt (tgt := 90) hx hb dX9_plan_72 (by decide) (fun hc => ?_) (fun hc => ?_)
      · rw [if_pos hc] at hf
        exact (wbM_plan_90 C hRm) _ _ _ _ hf hR hS (lv_sub hl [0] rfl)
      · rw [if_neg hc] at hf
        refine lv_iload_n hx hb dX9_plan_75 rfl (lv_at hl 2 rfl) ?_
        refine lv_bipush (v := 30) hx hb dX9_plan_76 (by decide) ?_
        refine lv_icmp_gt (tgt := 90) hx hb dX9_plan_78 (by decide) (fun hc => ?_) (fun hc => ?_)
        · rw [if_pos hc] at hf
          exact (wbM_plan_90 C hRm) _ _ _ _ hf hR hS (lv_sub hl [0] rfl)
        · rw [if_neg hc] at hf
          refine lv_aload_n hx hb dX9_plan_81 rfl (lv_at hl 0 rfl) ?_
          refine mr_getI C hR fl_467 rfl dX9_plan_82 ?_
          refine lv_bipush (v := 40) hx hb dX9_plan_85 (by decide) ?_
          refine lv_icmp_ne (tgt := 92) hx hb dX9_plan_87 (by decide) (fun hc => ?_) (fun hc => ?_)
          · rw [if_neg hc] at hf
            refine lv_aload_n hx hb dX9_plan_92 rfl (lv_at hl 0 rfl) ?_
            refine mr_getR C hR fl_173 (by decide) dX9_plan_93 ?_
            refine lv_aload_n hx hb dX9_plan_96 rfl (lv_at hl 0 rfl) ?_
            refine mr_getI C hR fl_467 rfl dX9_plan_97 ?_
            refine lv_iload_n hx hb dX9_plan_100 rfl (lv_at hl 1 rfl) ?_
            obtain ⟨hi, hf⟩ := ck_some hf
            refine mr_iast C hR hS (k := 69) rfl hi dX9_plan_101 (fun H locs hR hS => ?_)
            refine lv_aload_n hx hb dX9_plan_102 rfl (lv_at hl 0 rfl) ?_
            refine mr_getR C hR fl_176 (by decide) dX9_plan_103 ?_
            refine lv_aload_n hx hb dX9_plan_106 rfl (lv_at hl 0 rfl) ?_
            refine mr_getI C hR fl_467 rfl dX9_plan_107 ?_
            refine lv_iload_n hx hb dX9_plan_110 rfl (lv_at hl 2 rfl) ?_
            obtain ⟨hi, hf⟩ := ck_some hf
            refine mr_iast C hR hS (k := 70) rfl hi dX9_plan_111 (fun H locs hR hS => ?_)
            refine lv_aload_n hx hb dX9_plan_112 rfl (lv_at hl 0 rfl) ?_
            refine lv_dup hx hb dX9_plan_113 rfl ?_
            refine mr_getI C hR fl_467 rfl dX9_plan_114 ?_
            refine lv_iconst (v := 1) hx hb dX9_plan_117 (by decide) ?_
            refine lv_iadd hx hb dX9_plan_118 ?_
            refine mr_putI C hR hS fl_467 ⟨rfl, rfl, rfl⟩ dX9_plan_119 (fun H locs hR hS => ?_)
            refine lv_iconst (v := 1) hx hb dX9_plan_122 (by decide) ?_
            obtain ⟨hz, hf⟩ := gd_some hf
            exact mr_zret C hR hS hz hf dX9_plan_123
          · rw [if_pos hc] at hf
            exact (wbM_plan_90 C hRm) _ _ _ _ hf hR hS (lv_sub hl [0] rfl)
  · rw [if_neg hc] at hf
    refine lv_iconst (v := 1) hx hb dX9_plan_61 (by decide) ?_
    obtain ⟨hz, hf⟩ := gd_some hf
    exact mr_zret C hR hS hz hf dX9_plan_62
def fM_plan (N : Nat) (x1 : Int32) (x2 : Int32) (S : Ms) : Option (Int32 × Ms) := (lM_plan_10 N (bM_plan_57 N) N) x1 x2 0 0 (pF S 0 0)
set_option maxRecDepth 100000 in
set_option maxHeartbeats 4000000 in
theorem wfM_plan {p : Program} {l : Launch} {e : Env} {R : Room} {s : State} {m : MethodId} {args : Array Value} {below : List Frame} {meth : Method} {c : Code} {d : Dd} {g : Gm} {o : Int32 × Ms} {N : Nat} (C : CM p s m args meth c d g cX9_plan 5 (some .boolean)) (hRm : 1 ≤ R.frames ∧ 21 ≤ R.locals) (x1 : Int32) (x2 : Int32) (S : Ms) (H : Heap) (locs : List Loc) (ls : Array Slot) (hf : fM_plan N x1 x2 S = some o) (hR : RM d g S H) (hS : va_S (AM g) s.heap H locs) (hl : lv_has ls 5 [(0, .ref g.1), (1, .int x1), (2, .int x2)]) : W p l e R s m args below meth c H locs 0 0 (MQ below (QI d g o) args s 0 0 (AM g)) (F0 m 0 ls []) := by
  obtain ⟨hx, hb, hml, hown, hts, hK, hg, hr, hlk⟩ := id C
  unfold fM_plan at hf
  refine lv_aload_n hx hb dX9_plan_0 rfl (lv_at hl 0 rfl) ?_
  refine lv_iconst (v := 0) hx hb dX9_plan_1 (by decide) ?_
  refine mr_putI C hR hS fl_1 ⟨rfl, rfl, rfl⟩ dX9_plan_2 (fun H locs hR hS => ?_)
  refine lv_iconst (v := 0) hx hb dX9_plan_5 (by decide) ?_
  refine lv_istore_n (lv' := [(3, .int 0), (0, .ref g.1), (1, .int x1), (2, .int x2)]) hx hb dX9_plan_6 rfl hl (by decide) rfl (fun ls hl => ?_)
  refine lv_iconst (v := 0) hx hb dX9_plan_7 (by decide) ?_
  refine lv_istore (lv' := [(4, .int 0), (3, .int 0), (0, .ref g.1), (1, .int x1), (2, .int x2)]) hx hb dX9_plan_8 hl (by decide) rfl (fun ls hl => ?_)
  exact (wlM_plan_10 C hRm (wbM_plan_57 C hRm) N) _ _ _ _ _ _ _ _ hf hR hS (lv_sub hl [2, 3, 4, 1, 0] rfl)
theorem MM_plan (l : Launch) (d : Dd) (g : Gm) (N : Nat) (x1 : Int32) (x2 : Int32) (S : Ms) (o : Int32 × Ms) (hf : fM_plan N x1 x2 S = some o) : MtI l d g yX9_plan cX9_plan 5 (some .boolean) 1 21 [.ref g.1, .int x1, .int x2] S o :=
  mr_metI (by decide) rfl (Nat.le_of_ble_eq_true rfl) (fun p e s m args below meth c ls C hR hl => wfM_plan C ⟨Nat.le_refl _, Nat.le_refl _⟩ x1 x2 S s.heap [] ls hf hR va_S.rf hl)
def fM_clear (N : Nat)  (S : Ms) : Option (Ms) := some (pF (pF S 0 0) 71 0)
set_option maxRecDepth 100000 in
set_option maxHeartbeats 4000000 in
theorem wfM_clear {p : Program} {l : Launch} {e : Env} {R : Room} {s : State} {m : MethodId} {args : Array Value} {below : List Frame} {meth : Method} {c : Code} {d : Dd} {g : Gm} {o : Ms} {N : Nat} (C : CM p s m args meth c d g cX9_clear 1 none) (hRm : 0 ≤ R.frames ∧ 0 ≤ R.locals)  (S : Ms) (H : Heap) (locs : List Loc) (ls : Array Slot) (hf : fM_clear N  S = some o) (hR : RM d g S H) (hS : va_S (AM g) s.heap H locs) (hl : lv_has ls 1 [(0, .ref g.1)]) : W p l e R s m args below meth c H locs 0 0 (MQ below (QV d g o) args s 0 0 (AM g)) (F0 m 0 ls []) := by
  obtain ⟨hx, hb, hml, hown, hts, hK, hg, hr, hlk⟩ := id C
  unfold fM_clear at hf
  refine lv_aload_n hx hb dX9_clear_0 rfl (lv_at hl 0 rfl) ?_
  refine lv_iconst (v := 0) hx hb dX9_clear_1 (by decide) ?_
  refine mr_putI C hR hS fl_1 ⟨rfl, rfl, rfl⟩ dX9_clear_2 (fun H locs hR hS => ?_)
  refine lv_aload_n hx hb dX9_clear_5 rfl (lv_at hl 0 rfl) ?_
  refine lv_iconst (v := 0) hx hb dX9_clear_6 (by decide) ?_
  refine mr_putI C hR hS fl_467 ⟨rfl, rfl, rfl⟩ dX9_clear_7 (fun H locs hR hS => ?_)
  exact mr_vret C hR hS hf dX9_clear_10
theorem MM_clear (l : Launch) (d : Dd) (g : Gm) (N : Nat)  (S : Ms) (o : Ms) (hf : fM_clear N  S = some o) : MtV l d g yX9_clear cX9_clear 1 0 0 [.ref g.1] S o :=
  mr_metV (by decide) rfl (Nat.le_of_ble_eq_true rfl) (fun p e s m args below meth c ls C hR hl => wfM_clear C ⟨Nat.le_refl _, Nat.le_refl _⟩  S s.heap [] ls hf hR va_S.rf hl)
def fM_lean (N : Nat) (x1 : Int32) (x2 : Int32) (S : Ms) : Option (Int32 × Ms) := ck ((24 * ((24 * (mF S 11)) + x1)) + x2) 1152 (gd (is01 (mA S 34 ((24 * ((24 * (mF S 11)) + x1)) + x2 : Int32).toNatClampNeg)) (some (mA S 34 ((24 * ((24 * (mF S 11)) + x1)) + x2 : Int32).toNatClampNeg, S)))
set_option maxRecDepth 100000 in
set_option maxHeartbeats 4000000 in
theorem wfM_lean {p : Program} {l : Launch} {e : Env} {R : Room} {s : State} {m : MethodId} {args : Array Value} {below : List Frame} {meth : Method} {c : Code} {d : Dd} {g : Gm} {o : Int32 × Ms} {N : Nat} (C : CM p s m args meth c d g cX9_lean 3 (some .boolean)) (hRm : 0 ≤ R.frames ∧ 0 ≤ R.locals) (x1 : Int32) (x2 : Int32) (S : Ms) (H : Heap) (locs : List Loc) (ls : Array Slot) (hf : fM_lean N x1 x2 S = some o) (hR : RM d g S H) (hS : va_S (AM g) s.heap H locs) (hl : lv_has ls 3 [(0, .ref g.1), (1, .int x1), (2, .int x2)]) : W p l e R s m args below meth c H locs 0 0 (MQ below (QI d g o) args s 0 0 (AM g)) (F0 m 0 ls []) := by
  obtain ⟨hx, hb, hml, hown, hts, hK, hg, hr, hlk⟩ := id C
  unfold fM_lean at hf
  refine lv_aload_n hx hb dX9_lean_0 rfl (lv_at hl 0 rfl) ?_
  refine mr_getR C hR fl_107 (by decide) dX9_lean_1 ?_
  refine lv_bipush (v := 24) hx hb dX9_lean_4 (by decide) ?_
  refine lv_bipush (v := 24) hx hb dX9_lean_6 (by decide) ?_
  refine lv_aload_n hx hb dX9_lean_8 rfl (lv_at hl 0 rfl) ?_
  refine mr_getI C hR fl_307 rfl dX9_lean_9 ?_
  refine lv_imul hx hb dX9_lean_12 ?_
  refine lv_iload_n hx hb dX9_lean_13 rfl (lv_at hl 1 rfl) ?_
  refine lv_iadd hx hb dX9_lean_14 ?_
  refine lv_imul hx hb dX9_lean_15 ?_
  refine lv_iload_n hx hb dX9_lean_16 rfl (lv_at hl 2 rfl) ?_
  refine lv_iadd hx hb dX9_lean_17 ?_
  obtain ⟨hi, hf⟩ := ck_some hf
  refine mr_zald C hR (k := 34) rfl hi dX9_lean_18 ?_
  obtain ⟨hz, hf⟩ := gd_some hf
  exact mr_zret C hR hS hz hf dX9_lean_19
theorem MM_lean (l : Launch) (d : Dd) (g : Gm) (N : Nat) (x1 : Int32) (x2 : Int32) (S : Ms) (o : Int32 × Ms) (hf : fM_lean N x1 x2 S = some o) : MtI l d g yX9_lean cX9_lean 3 (some .boolean) 0 0 [.ref g.1, .int x1, .int x2] S o :=
  mr_metI (by decide) rfl (Nat.le_of_ble_eq_true rfl) (fun p e s m args below meth c ls C hR hl => wfM_lean C ⟨Nat.le_refl _, Nat.le_refl _⟩ x1 x2 S s.heap [] ls hf hR va_S.rf hl)
def bM_heal_20 (N : Nat)  (S : Ms) : Option (Int32 × Ms) := some ((-1), S)
set_option maxRecDepth 100000 in
set_option maxHeartbeats 4000000 in
theorem wbM_heal_20 {p : Program} {l : Launch} {e : Env} {R : Room} {s : State} {m : MethodId} {args : Array Value} {below : List Frame} {meth : Method} {c : Code} {d : Dd} {g : Gm} {o : Int32 × Ms} {N : Nat} (C : CM p s m args meth c d g cX9_heal 6 (some .int)) (hRm : 1 ≤ R.frames ∧ 22 ≤ R.locals)  (S : Ms) (H : Heap) (locs : List Loc) (ls : Array Slot) (hf : bM_heal_20 N  S = some o) (hR : RM d g S H) (hS : va_S (AM g) s.heap H locs) (hl : lv_has ls 6 [(0, .ref g.1)]) : W p l e R s m args below meth c H locs 0 0 (MQ below (QI d g o) args s 0 0 (AM g)) (F0 m 20 ls []) := by
  obtain ⟨hx, hb, hml, hown, hts, hK, hg, hr, hlk⟩ := id C
  unfold bM_heal_20 at hf
  refine lv_iconst (v := (-1)) hx hb dX9_heal_20 (by decide) ?_
  exact mr_iret C hR hS hf dX9_heal_21
def bM_heal_73 (N : Nat) (r26 : Int32 → Int32 → Int32 → Ms → Option (Int32 × Ms)) (k80 : Int32 → Int32 → Ms → Option (Int32 × Ms)) (x1 : Int32) (x3 : Int32) (s0 : Int32) (S : Ms) : Option (Int32 × Ms) := r26 x1 s0 (x3 + 1) S
set_option maxRecDepth 100000 in
set_option maxHeartbeats 4000000 in
theorem wbM_heal_73 {p : Program} {l : Launch} {e : Env} {R : Room} {s : State} {m : MethodId} {args : Array Value} {below : List Frame} {meth : Method} {c : Code} {d : Dd} {g : Gm} {o : Int32 × Ms} {N : Nat} {r26 : Int32 → Int32 → Int32 → Ms → Option (Int32 × Ms)} {k80 : Int32 → Int32 → Ms → Option (Int32 × Ms)} (C : CM p s m args meth c d g cX9_heal 6 (some .int)) (hRm : 1 ≤ R.frames ∧ 22 ≤ R.locals) (hr26 : ∀ (x1 : Int32) (x2 : Int32) (x3 : Int32) (S : Ms) (H : Heap) (locs : List Loc) (ls : Array Slot), r26 x1 x2 x3 S = some o → RM d g S H → va_S (AM g) s.heap H locs → lv_has ls 6 [(0, .ref g.1), (1, .int x1), (2, .int x2), (3, .int x3)] → W p l e R s m args below meth c H locs 0 0 (MQ below (QI d g o) args s 0 0 (AM g)) (F0 m 26 ls [])) (hk80 : ∀ (x1 : Int32) (x2 : Int32) (S : Ms) (H : Heap) (locs : List Loc) (ls : Array Slot), k80 x1 x2 S = some o → RM d g S H → va_S (AM g) s.heap H locs → lv_has ls 6 [(0, .ref g.1), (1, .int x1), (2, .int x2)] → W p l e R s m args below meth c H locs 0 0 (MQ below (QI d g o) args s 0 0 (AM g)) (F0 m 80 ls [])) (x1 : Int32) (x3 : Int32) (s0 : Int32) (S : Ms) (H : Heap) (locs : List Loc) (ls : Array Slot) (hf : bM_heal_73 N r26 k80 x1 x3 s0 S = some o) (hR : RM d g S H) (hS : va_S (AM g) s.heap H locs) (hl : lv_has ls 6 [(0, .ref g.1), (1, .int x1), (3, .int x3)]) : W p l e R s m args below meth c H locs 0 0 (MQ below (QI d g o) args s 0 0 (AM g)) (F0 m 73 ls [.int s0]) := by
  obtain ⟨hx, hb, hml, hown, hts, hK, hg, hr, hlk⟩ := id C
  unfold bM_heal_73 at hf
  refine lv_istore_n (lv' := [(2, .int s0), (0, .ref g.1), (1, .int x1), (3, .int x3)]) hx hb dX9_heal_73 rfl hl (by decide) rfl (fun ls hl => ?_)
  refine lv_iinc (v := x3 + 1) (lv' := [(3, .int (x3 + 1)), (2, .int s0), (0, .ref g.1), (1, .int x1)]) hx hb dX9_heal_74 hl (k := 3) rfl rfl (by decide) rfl (fun ls hl => ?_)
  refine lv_goto (tgt := 26) hx hb dX9_heal_77 (by decide) ?_
  exact hr26 _ _ _ _ _ _ _ hf hR hS (lv_sub hl [2, 3, 1, 0] rfl)
def bM_heal_68 (N : Nat) (r26 : Int32 → Int32 → Int32 → Ms → Option (Int32 × Ms)) (k80 : Int32 → Int32 → Ms → Option (Int32 × Ms)) (x1 : Int32) (x3 : Int32) (S : Ms) : Option (Int32 × Ms) := (bM_heal_73 N r26 k80) x1 x3 1 S
set_option maxRecDepth 100000 in
set_option maxHeartbeats 4000000 in
theorem wbM_heal_68 {p : Program} {l : Launch} {e : Env} {R : Room} {s : State} {m : MethodId} {args : Array Value} {below : List Frame} {meth : Method} {c : Code} {d : Dd} {g : Gm} {o : Int32 × Ms} {N : Nat} {r26 : Int32 → Int32 → Int32 → Ms → Option (Int32 × Ms)} {k80 : Int32 → Int32 → Ms → Option (Int32 × Ms)} (C : CM p s m args meth c d g cX9_heal 6 (some .int)) (hRm : 1 ≤ R.frames ∧ 22 ≤ R.locals) (hr26 : ∀ (x1 : Int32) (x2 : Int32) (x3 : Int32) (S : Ms) (H : Heap) (locs : List Loc) (ls : Array Slot), r26 x1 x2 x3 S = some o → RM d g S H → va_S (AM g) s.heap H locs → lv_has ls 6 [(0, .ref g.1), (1, .int x1), (2, .int x2), (3, .int x3)] → W p l e R s m args below meth c H locs 0 0 (MQ below (QI d g o) args s 0 0 (AM g)) (F0 m 26 ls [])) (hk80 : ∀ (x1 : Int32) (x2 : Int32) (S : Ms) (H : Heap) (locs : List Loc) (ls : Array Slot), k80 x1 x2 S = some o → RM d g S H → va_S (AM g) s.heap H locs → lv_has ls 6 [(0, .ref g.1), (1, .int x1), (2, .int x2)] → W p l e R s m args below meth c H locs 0 0 (MQ below (QI d g o) args s 0 0 (AM g)) (F0 m 80 ls [])) (x1 : Int32) (x3 : Int32) (S : Ms) (H : Heap) (locs : List Loc) (ls : Array Slot) (hf : bM_heal_68 N r26 k80 x1 x3 S = some o) (hR : RM d g S H) (hS : va_S (AM g) s.heap H locs) (hl : lv_has ls 6 [(0, .ref g.1), (1, .int x1), (3, .int x3)]) : W p l e R s m args below meth c H locs 0 0 (MQ below (QI d g o) args s 0 0 (AM g)) (F0 m 68 ls []) := by
  obtain ⟨hx, hb, hml, hown, hts, hK, hg, hr, hlk⟩ := id C
  unfold bM_heal_68 at hf
  refine lv_iconst (v := 1) hx hb dX9_heal_68 (by decide) ?_
  refine lv_goto (tgt := 73) hx hb dX9_heal_69 (by decide) ?_
  exact (wbM_heal_73 C hRm hr26 hk80) _ _ _ _ _ _ _ hf hR hS (lv_sub hl [0, 1, 2] rfl)
def bM_heal_72 (N : Nat) (r26 : Int32 → Int32 → Int32 → Ms → Option (Int32 × Ms)) (k80 : Int32 → Int32 → Ms → Option (Int32 × Ms)) (x1 : Int32) (x3 : Int32) (S : Ms) : Option (Int32 × Ms) := (bM_heal_73 N r26 k80) x1 x3 0 S
set_option maxRecDepth 100000 in
set_option maxHeartbeats 4000000 in
theorem wbM_heal_72 {p : Program} {l : Launch} {e : Env} {R : Room} {s : State} {m : MethodId} {args : Array Value} {below : List Frame} {meth : Method} {c : Code} {d : Dd} {g : Gm} {o : Int32 × Ms} {N : Nat} {r26 : Int32 → Int32 → Int32 → Ms → Option (Int32 × Ms)} {k80 : Int32 → Int32 → Ms → Option (Int32 × Ms)} (C : CM p s m args meth c d g cX9_heal 6 (some .int)) (hRm : 1 ≤ R.frames ∧ 22 ≤ R.locals) (hr26 : ∀ (x1 : Int32) (x2 : Int32) (x3 : Int32) (S : Ms) (H : Heap) (locs : List Loc) (ls : Array Slot), r26 x1 x2 x3 S = some o → RM d g S H → va_S (AM g) s.heap H locs → lv_has ls 6 [(0, .ref g.1), (1, .int x1), (2, .int x2), (3, .int x3)] → W p l e R s m args below meth c H locs 0 0 (MQ below (QI d g o) args s 0 0 (AM g)) (F0 m 26 ls [])) (hk80 : ∀ (x1 : Int32) (x2 : Int32) (S : Ms) (H : Heap) (locs : List Loc) (ls : Array Slot), k80 x1 x2 S = some o → RM d g S H → va_S (AM g) s.heap H locs → lv_has ls 6 [(0, .ref g.1), (1, .int x1), (2, .int x2)] → W p l e R s m args below meth c H locs 0 0 (MQ below (QI d g o) args s 0 0 (AM g)) (F0 m 80 ls [])) (x1 : Int32) (x3 : Int32) (S : Ms) (H : Heap) (locs : List Loc) (ls : Array Slot) (hf : bM_heal_72 N r26 k80 x1 x3 S = some o) (hR : RM d g S H) (hS : va_S (AM g) s.heap H locs) (hl : lv_has ls 6 [(0, .ref g.1), (1, .int x1), (3, .int x3)]) : W p l e R s m args below meth c H locs 0 0 (MQ below (QI d g o) args s 0 0 (AM g)) (F0 m 72 ls []) := by
  obtain ⟨hx, hb, hml, hown, hts, hK, hg, hr, hlk⟩ := id C
  unfold bM_heal_72 at hf
  refine lv_iconst (v := 0) hx hb dX9_heal_72 (by decide) ?_
  exact (wbM_heal_73 C hRm hr26 hk80) _ _ _ _ _ _ _ hf hR hS (lv_sub hl [0, 1, 2] rfl)
def bM_heal_57 (N : Nat) (r26 : Int32 → Int32 → Int32 → Ms → Option (Int32 × Ms)) (k80 : Int32 → Int32 → Ms → Option (Int32 × Ms)) (x1 : Int32) (x3 : Int32) (S : Ms) : Option (Int32 × Ms) := ck x3 24 (if (mA S 55 (x3 : Int32).toNatClampNeg) = 30 then ((bM_heal_68 N r26 k80) x1 x3 S) else ((bM_heal_72 N r26 k80) x1 x3 S))
set_option maxRecDepth 100000 in
set_option maxHeartbeats 4000000 in
theorem wbM_heal_57 {p : Program} {l : Launch} {e : Env} {R : Room} {s : State} {m : MethodId} {args : Array Value} {below : List Frame} {meth : Method} {c : Code} {d : Dd} {g : Gm} {o : Int32 × Ms} {N : Nat} {r26 : Int32 → Int32 → Int32 → Ms → Option (Int32 × Ms)} {k80 : Int32 → Int32 → Ms → Option (Int32 × Ms)} (C : CM p s m args meth c d g cX9_heal 6 (some .int)) (hRm : 1 ≤ R.frames ∧ 22 ≤ R.locals) (hr26 : ∀ (x1 : Int32) (x2 : Int32) (x3 : Int32) (S : Ms) (H : Heap) (locs : List Loc) (ls : Array Slot), r26 x1 x2 x3 S = some o → RM d g S H → va_S (AM g) s.heap H locs → lv_has ls 6 [(0, .ref g.1), (1, .int x1), (2, .int x2), (3, .int x3)] → W p l e R s m args below meth c H locs 0 0 (MQ below (QI d g o) args s 0 0 (AM g)) (F0 m 26 ls [])) (hk80 : ∀ (x1 : Int32) (x2 : Int32) (S : Ms) (H : Heap) (locs : List Loc) (ls : Array Slot), k80 x1 x2 S = some o → RM d g S H → va_S (AM g) s.heap H locs → lv_has ls 6 [(0, .ref g.1), (1, .int x1), (2, .int x2)] → W p l e R s m args below meth c H locs 0 0 (MQ below (QI d g o) args s 0 0 (AM g)) (F0 m 80 ls [])) (x1 : Int32) (x3 : Int32) (S : Ms) (H : Heap) (locs : List Loc) (ls : Array Slot) (hf : bM_heal_57 N r26 k80 x1 x3 S = some o) (hR : RM d g S H) (hS : va_S (AM g) s.heap H locs) (hl : lv_has ls 6 [(0, .ref g.1), (1, .int x1), (3, .int x3)]) : W p l e R s m args below meth c H locs 0 0 (MQ below (QI d g o) args s 0 0 (AM g)) (F0 m 57 ls []) := by
  obtain ⟨hx, hb, hml, hown, hts, hK, hg, hr, hlk⟩ := id C
  unfold bM_heal_57 at hf
  refine lv_aload_n hx hb dX9_heal_57 rfl (lv_at hl 0 rfl) ?_
  refine mr_getR C hR fl_149 (by decide) dX9_heal_58 ?_
  refine lv_iload_n hx hb dX9_heal_61 rfl (lv_at hl 2 rfl) ?_
  obtain ⟨hi, hf⟩ := ck_some hf
  refine mr_iald C hR (k := 55) rfl hi dX9_heal_62 ?_
  refine lv_bipush (v := 30) hx hb dX9_heal_63 (by decide) ?_
  refine lv_icmp_ne (tgt := 72) hx hb dX9_heal_65 (by decide) (fun hc => ?_) (fun hc => ?_)
  · rw [if_neg hc] at hf
    exact (wbM_heal_72 C hRm hr26 hk80) _ _ _ _ _ _ hf hR hS (lv_sub hl [0, 1, 2] rfl)
  · rw [if_pos hc] at hf
    exact (wbM_heal_68 C hRm hr26 hk80) _ _ _ _ _ _ hf hR hS (lv_sub hl [0, 1, 2] rfl)
def lM_heal_26 (N : Nat) (k80 : Int32 → Int32 → Ms → Option (Int32 × Ms)) : Nat → Int32 → Int32 → Int32 → Ms → Option (Int32 × Ms)
  | 0, _, _, _, _ => none
  | n + 1, x1, x2, x3, S => ck (mF S 11) 2 (if (mA S 18 (mF S 11 : Int32).toNatClampNeg) ≤ x3 then (k80 x1 x2 S) else (if x2 = 0 then (if x3 = x1 then ((bM_heal_57 N (lM_heal_26 N k80 n) k80) x1 x3 S) else ((fM_lean N x3 x1 S).bind fun o51 => if o51.1 = 0 then ((bM_heal_72 N (lM_heal_26 N k80 n) k80) x1 x3 o51.2) else ((bM_heal_57 N (lM_heal_26 N k80 n) k80) x1 x3 o51.2))) else ((bM_heal_68 N (lM_heal_26 N k80 n) k80) x1 x3 S)))
set_option maxRecDepth 100000 in
set_option maxHeartbeats 4000000 in
theorem wlM_heal_26 {p : Program} {l : Launch} {e : Env} {R : Room} {s : State} {m : MethodId} {args : Array Value} {below : List Frame} {meth : Method} {c : Code} {d : Dd} {g : Gm} {o : Int32 × Ms} {N : Nat} {k80 : Int32 → Int32 → Ms → Option (Int32 × Ms)} (C : CM p s m args meth c d g cX9_heal 6 (some .int)) (hRm : 1 ≤ R.frames ∧ 22 ≤ R.locals) (hk80 : ∀ (x1 : Int32) (x2 : Int32) (S : Ms) (H : Heap) (locs : List Loc) (ls : Array Slot), k80 x1 x2 S = some o → RM d g S H → va_S (AM g) s.heap H locs → lv_has ls 6 [(0, .ref g.1), (1, .int x1), (2, .int x2)] → W p l e R s m args below meth c H locs 0 0 (MQ below (QI d g o) args s 0 0 (AM g)) (F0 m 80 ls [])) : ∀ (n : Nat) (x1 : Int32) (x2 : Int32) (x3 : Int32) (S : Ms) (H : Heap) (locs : List Loc) (ls : Array Slot), lM_heal_26 N k80 n x1 x2 x3 S = some o → RM d g S H → va_S (AM g) s.heap H locs → lv_has ls 6 [(0, .ref g.1), (1, .int x1), (2, .int x2), (3, .int x3)] → W p l e R s m args below meth c H locs 0 0 (MQ below (QI d g o) args s 0 0 (AM g)) (F0 m 26 ls []) := by
  obtain ⟨hx, hb, hml, hown, hts, hK, hg, hr, hlk⟩ := id C
  intro n
  induction n with
  | zero => intro x1 x2 x3 S H locs ls hf; cases hf
  | succ n ih =>
    intro x1 x2 x3 S H locs ls hf hR hS hl
    rw [lM_heal_26] at hf
    refine lv_iload_n hx hb dX9_heal_26 rfl (lv_at hl 3 rfl) ?_
    refine lv_aload_n hx hb dX9_heal_27 rfl (lv_at hl 0 rfl) ?_
    refine mr_getR C hR fl_58 (by decide) dX9_heal_28 ?_
    refine lv_aload_n hx hb dX9_heal_31 rfl (lv_at hl 0 rfl) ?_
    refine mr_getI C hR fl_307 rfl dX9_heal_32 ?_
    obtain ⟨hi, hf⟩ := ck_some hf
    refine mr_iald C hR (k := 18) rfl hi dX9_heal_35 ?_
    refine lv_icmp_ge (tgt := 80) hx hb dX9_heal_36 (by decide) (fun hc => ?_) (fun hc => ?_)
    · rw [if_pos hc] at hf
      exact hk80 _ _ _ _ _ _ hf hR hS (lv_sub hl [0, 1, 2] rfl)
    · rw [if_neg hc] at hf
      refine lv_iload_n hx hb dX9_heal_39 rfl (lv_at hl 2 rfl) ?_
      refine lv_if_ne (tgt := 68) hx hb dX9_heal_40 (by decide) (fun hc => ?_) (fun hc => ?_)
      · rw [if_neg hc] at hf
        exact (wbM_heal_68 C hRm ih hk80) _ _ _ _ _ _ hf hR hS (lv_sub hl [0, 1, 3] rfl)
      · rw [if_pos hc] at hf
        refine lv_iload_n hx hb dX9_heal_43 rfl (lv_at hl 3 rfl) ?_
        refine lv_iload_n hx hb dX9_heal_44 rfl (lv_at hl 1 rfl) ?_
        refine lv_icmp_eq (tgt := 57) hx hb dX9_heal_45 (by decide) (fun hc => ?_) (fun hc => ?_)
        · rw [if_pos hc] at hf
          exact (wbM_heal_57 C hRm ih hk80) _ _ _ _ _ _ hf hR hS (lv_sub hl [0, 1, 3] rfl)
        · rw [if_neg hc] at hf
          refine lv_aload_n hx hb dX9_heal_48 rfl (lv_at hl 0 rfl) ?_
          refine lv_iload_n hx hb dX9_heal_49 rfl (lv_at hl 3 rfl) ?_
          refine lv_iload_n hx hb dX9_heal_50 rfl (lv_at hl 1 rfl) ?_
          obtain ⟨o51, ho51, hf⟩ := bnd_some hf
          refine mr_callIv C hR hS (As := [.int x3, .int x1]) (rest := []) (MM_lean l d g N x3 x1 S o51 ho51) wv_576 ⟨by omega, by omega⟩ rfl rfl (Nat.le_of_ble_eq_true rfl) hl.1 dX9_heal_51 ⟨Nat.zero_le _, Nat.zero_le _⟩ (fun H locs hR hS => ?_)
          refine lv_if_eq (tgt := 72) hx hb dX9_heal_54 (by decide) (fun hc => ?_) (fun hc => ?_)
          · rw [if_pos hc] at hf
            exact (wbM_heal_72 C hRm ih hk80) _ _ _ _ _ _ hf hR hS (lv_sub hl [0, 1, 3] rfl)
          · rw [if_neg hc] at hf
            exact (wbM_heal_57 C hRm ih hk80) _ _ _ _ _ _ hf hR hS (lv_sub hl [0, 1, 3] rfl)
def lM_heal_167 (N : Nat) (k194 : Int32 → Int32 → Int32 → Ms → Option (Int32 × Ms)) : Nat → Int32 → Int32 → Int32 → Int32 → Ms → Option (Int32 × Ms)
  | 0, _, _, _, _, _ => none
  | n + 1, x1, x3, x4, x5, S => if 8 ≤ x5 then (k194 x1 x3 x4 S) else (ck ((8 * x4) + x5) 192 (lM_heal_167 N k194 n x1 x3 x4 (x5 + 1) (pA S 56 ((8 * x4) + x5 : Int32).toNatClampNeg 0)))
set_option maxRecDepth 100000 in
set_option maxHeartbeats 4000000 in
theorem wlM_heal_167 {p : Program} {l : Launch} {e : Env} {R : Room} {s : State} {m : MethodId} {args : Array Value} {below : List Frame} {meth : Method} {c : Code} {d : Dd} {g : Gm} {o : Int32 × Ms} {N : Nat} {k194 : Int32 → Int32 → Int32 → Ms → Option (Int32 × Ms)} (C : CM p s m args meth c d g cX9_heal 6 (some .int)) (hRm : 1 ≤ R.frames ∧ 22 ≤ R.locals) (hk194 : ∀ (x1 : Int32) (x3 : Int32) (x4 : Int32) (S : Ms) (H : Heap) (locs : List Loc) (ls : Array Slot), k194 x1 x3 x4 S = some o → RM d g S H → va_S (AM g) s.heap H locs → lv_has ls 6 [(0, .ref g.1), (1, .int x1), (3, .int x3), (4, .int x4)] → W p l e R s m args below meth c H locs 0 0 (MQ below (QI d g o) args s 0 0 (AM g)) (F0 m 194 ls [])) : ∀ (n : Nat) (x1 : Int32) (x3 : Int32) (x4 : Int32) (x5 : Int32) (S : Ms) (H : Heap) (locs : List Loc) (ls : Array Slot), lM_heal_167 N k194 n x1 x3 x4 x5 S = some o → RM d g S H → va_S (AM g) s.heap H locs → lv_has ls 6 [(0, .ref g.1), (1, .int x1), (3, .int x3), (4, .int x4), (5, .int x5)] → W p l e R s m args below meth c H locs 0 0 (MQ below (QI d g o) args s 0 0 (AM g)) (F0 m 167 ls []) := by
  obtain ⟨hx, hb, hml, hown, hts, hK, hg, hr, hlk⟩ := id C
  intro n
  induction n with
  | zero => intro x1 x3 x4 x5 S H locs ls hf; cases hf
  | succ n ih =>
    intro x1 x3 x4 x5 S H locs ls hf hR hS hl
    rw [lM_heal_167] at hf
    refine lv_iload hx hb dX9_heal_167 (lv_at hl 4 rfl) ?_
    refine lv_bipush (v := 8) hx hb dX9_heal_169 (by decide) ?_
    refine lv_icmp_ge (tgt := 194) hx hb dX9_heal_171 (by decide) (fun hc => ?_) (fun hc => ?_)
    · rw [if_pos hc] at hf
      exact hk194 _ _ _ _ _ _ _ hf hR hS (lv_sub hl [0, 1, 2, 3] rfl)
    · rw [if_neg hc] at hf
      refine lv_aload_n hx hb dX9_heal_174 rfl (lv_at hl 0 rfl) ?_
      refine mr_getR C hR fl_152 (by decide) dX9_heal_175 ?_
      refine lv_bipush (v := 8) hx hb dX9_heal_178 (by decide) ?_
      refine lv_iload hx hb dX9_heal_180 (lv_at hl 3 rfl) ?_
      refine lv_imul hx hb dX9_heal_182 ?_
      refine lv_iload hx hb dX9_heal_183 (lv_at hl 4 rfl) ?_
      refine lv_iadd hx hb dX9_heal_185 ?_
      refine lv_iconst (v := 0) hx hb dX9_heal_186 (by decide) ?_
      obtain ⟨hi, hf⟩ := ck_some hf
      refine mr_iast C hR hS (k := 56) rfl hi dX9_heal_187 (fun H locs hR hS => ?_)
      refine lv_iinc (v := x5 + 1) (lv' := [(5, .int (x5 + 1)), (0, .ref g.1), (1, .int x1), (3, .int x3), (4, .int x4)]) hx hb dX9_heal_188 hl (k := 4) rfl rfl (by decide) rfl (fun ls hl => ?_)
      refine lv_goto (tgt := 167) hx hb dX9_heal_191 (by decide) ?_
      exact ih _ _ _ _ _ _ _ _ hf hR hS (lv_sub hl [1, 2, 3, 4, 0] rfl)
def bM_heal_197 (N : Nat) (r91 : Int32 → Int32 → Int32 → Ms → Option (Int32 × Ms)) (k203 : Int32 → Ms → Option (Int32 × Ms)) (x1 : Int32) (x3 : Int32) (x4 : Int32) (S : Ms) : Option (Int32 × Ms) := r91 x1 x3 (x4 + 1) S
set_option maxRecDepth 100000 in
set_option maxHeartbeats 4000000 in
theorem wbM_heal_197 {p : Program} {l : Launch} {e : Env} {R : Room} {s : State} {m : MethodId} {args : Array Value} {below : List Frame} {meth : Method} {c : Code} {d : Dd} {g : Gm} {o : Int32 × Ms} {N : Nat} {r91 : Int32 → Int32 → Int32 → Ms → Option (Int32 × Ms)} {k203 : Int32 → Ms → Option (Int32 × Ms)} (C : CM p s m args meth c d g cX9_heal 6 (some .int)) (hRm : 1 ≤ R.frames ∧ 22 ≤ R.locals) (hr91 : ∀ (x1 : Int32) (x3 : Int32) (x4 : Int32) (S : Ms) (H : Heap) (locs : List Loc) (ls : Array Slot), r91 x1 x3 x4 S = some o → RM d g S H → va_S (AM g) s.heap H locs → lv_has ls 6 [(0, .ref g.1), (1, .int x1), (3, .int x3), (4, .int x4)] → W p l e R s m args below meth c H locs 0 0 (MQ below (QI d g o) args s 0 0 (AM g)) (F0 m 91 ls [])) (hk203 : ∀ (x3 : Int32) (S : Ms) (H : Heap) (locs : List Loc) (ls : Array Slot), k203 x3 S = some o → RM d g S H → va_S (AM g) s.heap H locs → lv_has ls 6 [(0, .ref g.1), (3, .int x3)] → W p l e R s m args below meth c H locs 0 0 (MQ below (QI d g o) args s 0 0 (AM g)) (F0 m 203 ls [])) (x1 : Int32) (x3 : Int32) (x4 : Int32) (S : Ms) (H : Heap) (locs : List Loc) (ls : Array Slot) (hf : bM_heal_197 N r91 k203 x1 x3 x4 S = some o) (hR : RM d g S H) (hS : va_S (AM g) s.heap H locs) (hl : lv_has ls 6 [(0, .ref g.1), (1, .int x1), (3, .int x3), (4, .int x4)]) : W p l e R s m args below meth c H locs 0 0 (MQ below (QI d g o) args s 0 0 (AM g)) (F0 m 197 ls []) := by
  obtain ⟨hx, hb, hml, hown, hts, hK, hg, hr, hlk⟩ := id C
  unfold bM_heal_197 at hf
  refine lv_iinc (v := x4 + 1) (lv' := [(4, .int (x4 + 1)), (0, .ref g.1), (1, .int x1), (3, .int x3)]) hx hb dX9_heal_197 hl (k := 3) rfl rfl (by decide) rfl (fun ls hl => ?_)
  refine lv_goto (tgt := 91) hx hb dX9_heal_200 (by decide) ?_
  exact hr91 _ _ _ _ _ _ _ hf hR hS (lv_sub hl [1, 2, 3, 0] rfl)
def bM_heal_194 (N : Nat) (r91 : Int32 → Int32 → Int32 → Ms → Option (Int32 × Ms)) (k203 : Int32 → Ms → Option (Int32 × Ms)) (x1 : Int32) (x3 : Int32) (x4 : Int32) (S : Ms) : Option (Int32 × Ms) := (bM_heal_197 N r91 k203) x1 (x3 + 1) x4 S
set_option maxRecDepth 100000 in
set_option maxHeartbeats 4000000 in
theorem wbM_heal_194 {p : Program} {l : Launch} {e : Env} {R : Room} {s : State} {m : MethodId} {args : Array Value} {below : List Frame} {meth : Method} {c : Code} {d : Dd} {g : Gm} {o : Int32 × Ms} {N : Nat} {r91 : Int32 → Int32 → Int32 → Ms → Option (Int32 × Ms)} {k203 : Int32 → Ms → Option (Int32 × Ms)} (C : CM p s m args meth c d g cX9_heal 6 (some .int)) (hRm : 1 ≤ R.frames ∧ 22 ≤ R.locals) (hr91 : ∀ (x1 : Int32) (x3 : Int32) (x4 : Int32) (S : Ms) (H : Heap) (locs : List Loc) (ls : Array Slot), r91 x1 x3 x4 S = some o → RM d g S H → va_S (AM g) s.heap H locs → lv_has ls 6 [(0, .ref g.1), (1, .int x1), (3, .int x3), (4, .int x4)] → W p l e R s m args below meth c H locs 0 0 (MQ below (QI d g o) args s 0 0 (AM g)) (F0 m 91 ls [])) (hk203 : ∀ (x3 : Int32) (S : Ms) (H : Heap) (locs : List Loc) (ls : Array Slot), k203 x3 S = some o → RM d g S H → va_S (AM g) s.heap H locs → lv_has ls 6 [(0, .ref g.1), (3, .int x3)] → W p l e R s m args below meth c H locs 0 0 (MQ below (QI d g o) args s 0 0 (AM g)) (F0 m 203 ls [])) (x1 : Int32) (x3 : Int32) (x4 : Int32) (S : Ms) (H : Heap) (locs : List Loc) (ls : Array Slot) (hf : bM_heal_194 N r91 k203 x1 x3 x4 S = some o) (hR : RM d g S H) (hS : va_S (AM g) s.heap H locs) (hl : lv_has ls 6 [(0, .ref g.1), (1, .int x1), (3, .int x3), (4, .int x4)]) : W p l e R s m args below meth c H locs 0 0 (MQ below (QI d g o) args s 0 0 (AM g)) (F0 m 194 ls []) := by
  obtain ⟨hx, hb, hml, hown, hts, hK, hg, hr, hlk⟩ := id C
  unfold bM_heal_194 at hf
  refine lv_iinc (v := x3 + 1) (lv' := [(3, .int (x3 + 1)), (0, .ref g.1), (1, .int x1), (4, .int x4)]) hx hb dX9_heal_194 hl (k := 2) rfl rfl (by decide) rfl (fun ls hl => ?_)
  exact (wbM_heal_197 C hRm hr91 hk203) _ _ _ _ _ _ _ hf hR hS (lv_sub hl [1, 2, 0, 3] rfl)
def bM_heal_121 (N : Nat) (r91 : Int32 → Int32 → Int32 → Ms → Option (Int32 × Ms)) (k203 : Int32 → Ms → Option (Int32 × Ms)) (x1 : Int32) (x3 : Int32) (x4 : Int32) (S : Ms) : Option (Int32 × Ms) := ck x4 24 (ck x4 24 (ck x4 24 (ck x4 24 (ck x4 24 (ck x4 24 ((lM_heal_167 N (bM_heal_194 N r91 k203) N) x1 x3 x4 0 (pA (pA (pA (pA (pA S 55 (x4 : Int32).toNatClampNeg ((mA S 55 (x4 : Int32).toNatClampNeg) + 1)) 54 (x4 : Int32).toNatClampNeg 0) 57 (x4 : Int32).toNatClampNeg 0) 58 (x4 : Int32).toNatClampNeg 0) 60 (x4 : Int32).toNatClampNeg 0)))))))
set_option maxRecDepth 100000 in
set_option maxHeartbeats 4000000 in
theorem wbM_heal_121 {p : Program} {l : Launch} {e : Env} {R : Room} {s : State} {m : MethodId} {args : Array Value} {below : List Frame} {meth : Method} {c : Code} {d : Dd} {g : Gm} {o : Int32 × Ms} {N : Nat} {r91 : Int32 → Int32 → Int32 → Ms → Option (Int32 × Ms)} {k203 : Int32 → Ms → Option (Int32 × Ms)} (C : CM p s m args meth c d g cX9_heal 6 (some .int)) (hRm : 1 ≤ R.frames ∧ 22 ≤ R.locals) (hr91 : ∀ (x1 : Int32) (x3 : Int32) (x4 : Int32) (S : Ms) (H : Heap) (locs : List Loc) (ls : Array Slot), r91 x1 x3 x4 S = some o → RM d g S H → va_S (AM g) s.heap H locs → lv_has ls 6 [(0, .ref g.1), (1, .int x1), (3, .int x3), (4, .int x4)] → W p l e R s m args below meth c H locs 0 0 (MQ below (QI d g o) args s 0 0 (AM g)) (F0 m 91 ls [])) (hk203 : ∀ (x3 : Int32) (S : Ms) (H : Heap) (locs : List Loc) (ls : Array Slot), k203 x3 S = some o → RM d g S H → va_S (AM g) s.heap H locs → lv_has ls 6 [(0, .ref g.1), (3, .int x3)] → W p l e R s m args below meth c H locs 0 0 (MQ below (QI d g o) args s 0 0 (AM g)) (F0 m 203 ls [])) (x1 : Int32) (x3 : Int32) (x4 : Int32) (S : Ms) (H : Heap) (locs : List Loc) (ls : Array Slot) (hf : bM_heal_121 N r91 k203 x1 x3 x4 S = some o) (hR : RM d g S H) (hS : va_S (AM g) s.heap H locs) (hl : lv_has ls 6 [(0, .ref g.1), (1, .int x1), (3, .int x3), (4, .int x4)]) : W p l e R s m args below meth c H locs 0 0 (MQ below (QI d g o) args s 0 0 (AM g)) (F0 m 121 ls []) := by
  obtain ⟨hx, hb, hml, hown, hts, hK, hg, hr, hlk⟩ := id C
  unfold bM_heal_121 at hf
  refine lv_aload_n hx hb dX9_heal_121 rfl (lv_at hl 0 rfl) ?_
  refine mr_getR C hR fl_149 (by decide) dX9_heal_122 ?_
  refine lv_iload hx hb dX9_heal_125 (lv_at hl 3 rfl) ?_
  refine lv_dup2_11 hx hb dX9_heal_127 rfl rfl ?_
  obtain ⟨hi, hf⟩ := ck_some hf
  refine mr_iald C hR (k := 55) rfl hi dX9_heal_128 ?_
  refine lv_iconst (v := 1) hx hb dX9_heal_129 (by decide) ?_
  refine lv_iadd hx hb dX9_heal_130 ?_
  obtain ⟨hi, hf⟩ := ck_some hf
  refine mr_iast C hR hS (k := 55) rfl hi dX9_heal_131 (fun H locs hR hS => ?_)
  refine lv_aload_n hx hb dX9_heal_132 rfl (lv_at hl 0 rfl) ?_
  refine mr_getR C hR fl_146 (by decide) dX9_heal_133 ?_
  refine lv_iload hx hb dX9_heal_136 (lv_at hl 3 rfl) ?_
  refine lv_iconst (v := 0) hx hb dX9_heal_138 (by decide) ?_
  obtain ⟨hi, hf⟩ := ck_some hf
  refine mr_iast C hR hS (k := 54) rfl hi dX9_heal_139 (fun H locs hR hS => ?_)
  refine lv_aload_n hx hb dX9_heal_140 rfl (lv_at hl 0 rfl) ?_
  refine mr_getR C hR fl_155 (by decide) dX9_heal_141 ?_
  refine lv_iload hx hb dX9_heal_144 (lv_at hl 3 rfl) ?_
  refine lv_iconst (v := 0) hx hb dX9_heal_146 (by decide) ?_
  obtain ⟨hi, hf⟩ := ck_some hf
  refine mr_iast C hR hS (k := 57) rfl hi dX9_heal_147 (fun H locs hR hS => ?_)
  refine lv_aload_n hx hb dX9_heal_148 rfl (lv_at hl 0 rfl) ?_
  refine mr_getR C hR fl_158 (by decide) dX9_heal_149 ?_
  refine lv_iload hx hb dX9_heal_152 (lv_at hl 3 rfl) ?_
  refine lv_iconst (v := 0) hx hb dX9_heal_154 (by decide) ?_
  obtain ⟨hi, hf⟩ := ck_some hf
  refine mr_iast C hR hS (k := 58) rfl hi dX9_heal_155 (fun H locs hR hS => ?_)
  refine lv_aload_n hx hb dX9_heal_156 rfl (lv_at hl 0 rfl) ?_
  refine mr_getR C hR fl_164 (by decide) dX9_heal_157 ?_
  refine lv_iload hx hb dX9_heal_160 (lv_at hl 3 rfl) ?_
  refine lv_iconst (v := 0) hx hb dX9_heal_162 (by decide) ?_
  obtain ⟨hi, hf⟩ := ck_some hf
  refine mr_iast C hR hS (k := 60) rfl hi dX9_heal_163 (fun H locs hR hS => ?_)
  refine lv_iconst (v := 0) hx hb dX9_heal_164 (by decide) ?_
  refine lv_istore (lv' := [(5, .int 0), (0, .ref g.1), (1, .int x1), (3, .int x3), (4, .int x4)]) hx hb dX9_heal_165 hl (by decide) rfl (fun ls hl => ?_)
  exact (wlM_heal_167 C hRm (wbM_heal_194 C hRm hr91 hk203) N) _ _ _ _ _ _ _ _ hf hR hS (lv_sub hl [1, 2, 3, 4, 0] rfl)
def lM_heal_91 (N : Nat) (k203 : Int32 → Ms → Option (Int32 × Ms)) : Nat → Int32 → Int32 → Int32 → Ms → Option (Int32 × Ms)
  | 0, _, _, _, _ => none
  | n + 1, x1, x3, x4, S => ck (mF S 11) 2 (if (mA S 18 (mF S 11 : Int32).toNatClampNeg) ≤ x4 then (k203 x3 S) else (if x4 = x1 then ((bM_heal_121 N (lM_heal_91 N k203 n) k203) x1 x3 x4 S) else ((fM_lean N x4 x1 S).bind fun o115 => if o115.1 = 0 then ((bM_heal_197 N (lM_heal_91 N k203 n) k203) x1 x3 x4 o115.2) else ((bM_heal_121 N (lM_heal_91 N k203 n) k203) x1 x3 x4 o115.2))))
set_option maxRecDepth 100000 in
set_option maxHeartbeats 4000000 in
theorem wlM_heal_91 {p : Program} {l : Launch} {e : Env} {R : Room} {s : State} {m : MethodId} {args : Array Value} {below : List Frame} {meth : Method} {c : Code} {d : Dd} {g : Gm} {o : Int32 × Ms} {N : Nat} {k203 : Int32 → Ms → Option (Int32 × Ms)} (C : CM p s m args meth c d g cX9_heal 6 (some .int)) (hRm : 1 ≤ R.frames ∧ 22 ≤ R.locals) (hk203 : ∀ (x3 : Int32) (S : Ms) (H : Heap) (locs : List Loc) (ls : Array Slot), k203 x3 S = some o → RM d g S H → va_S (AM g) s.heap H locs → lv_has ls 6 [(0, .ref g.1), (3, .int x3)] → W p l e R s m args below meth c H locs 0 0 (MQ below (QI d g o) args s 0 0 (AM g)) (F0 m 203 ls [])) : ∀ (n : Nat) (x1 : Int32) (x3 : Int32) (x4 : Int32) (S : Ms) (H : Heap) (locs : List Loc) (ls : Array Slot), lM_heal_91 N k203 n x1 x3 x4 S = some o → RM d g S H → va_S (AM g) s.heap H locs → lv_has ls 6 [(0, .ref g.1), (1, .int x1), (3, .int x3), (4, .int x4)] → W p l e R s m args below meth c H locs 0 0 (MQ below (QI d g o) args s 0 0 (AM g)) (F0 m 91 ls []) := by
  obtain ⟨hx, hb, hml, hown, hts, hK, hg, hr, hlk⟩ := id C
  intro n
  induction n with
  | zero => intro x1 x3 x4 S H locs ls hf; cases hf
  | succ n ih =>
    intro x1 x3 x4 S H locs ls hf hR hS hl
    rw [lM_heal_91] at hf
    refine lv_iload hx hb dX9_heal_91 (lv_at hl 3 rfl) ?_
    refine lv_aload_n hx hb dX9_heal_93 rfl (lv_at hl 0 rfl) ?_
    refine mr_getR C hR fl_58 (by decide) dX9_heal_94 ?_
    refine lv_aload_n hx hb dX9_heal_97 rfl (lv_at hl 0 rfl) ?_
    refine mr_getI C hR fl_307 rfl dX9_heal_98 ?_
    obtain ⟨hi, hf⟩ := ck_some hf
    refine mr_iald C hR (k := 18) rfl hi dX9_heal_101 ?_
    refine lv_icmp_ge (tgt := 203) hx hb dX9_heal_102 (by decide) (fun hc => ?_) (fun hc => ?_)
    · rw [if_pos hc] at hf
      exact hk203 _ _ _ _ _ hf hR hS (lv_sub hl [0, 2] rfl)
    · rw [if_neg hc] at hf
      refine lv_iload hx hb dX9_heal_105 (lv_at hl 3 rfl) ?_
      refine lv_iload_n hx hb dX9_heal_107 rfl (lv_at hl 1 rfl) ?_
      refine lv_icmp_eq (tgt := 121) hx hb dX9_heal_108 (by decide) (fun hc => ?_) (fun hc => ?_)
      · rw [if_pos hc] at hf
        exact (wbM_heal_121 C hRm ih hk203) _ _ _ _ _ _ _ hf hR hS (lv_sub hl [0, 1, 2, 3] rfl)
      · rw [if_neg hc] at hf
        refine lv_aload_n hx hb dX9_heal_111 rfl (lv_at hl 0 rfl) ?_
        refine lv_iload hx hb dX9_heal_112 (lv_at hl 3 rfl) ?_
        refine lv_iload_n hx hb dX9_heal_114 rfl (lv_at hl 1 rfl) ?_
        obtain ⟨o115, ho115, hf⟩ := bnd_some hf
        refine mr_callIv C hR hS (As := [.int x4, .int x1]) (rest := []) (MM_lean l d g N x4 x1 S o115 ho115) wv_576 ⟨by omega, by omega⟩ rfl rfl (Nat.le_of_ble_eq_true rfl) hl.1 dX9_heal_115 ⟨Nat.zero_le _, Nat.zero_le _⟩ (fun H locs hR hS => ?_)
        refine lv_if_eq (tgt := 197) hx hb dX9_heal_118 (by decide) (fun hc => ?_) (fun hc => ?_)
        · rw [if_pos hc] at hf
          exact (wbM_heal_197 C hRm ih hk203) _ _ _ _ _ _ _ hf hR hS (lv_sub hl [0, 1, 2, 3] rfl)
        · rw [if_neg hc] at hf
          exact (wbM_heal_121 C hRm ih hk203) _ _ _ _ _ _ _ hf hR hS (lv_sub hl [0, 1, 2, 3] rfl)
def bM_heal_203 (N : Nat) (x3 : Int32) (S : Ms) : Option (Int32 × Ms) := some (x3, S)
set_option maxRecDepth 100000 in
set_option maxHeartbeats 4000000 in
theorem wbM_heal_203 {p : Program} {l : Launch} {e : Env} {R : Room} {s : State} {m : MethodId} {args : Array Value} {below : List Frame} {meth : Method} {c : Code} {d : Dd} {g : Gm} {o : Int32 × Ms} {N : Nat} (C : CM p s m args meth c d g cX9_heal 6 (some .int)) (hRm : 1 ≤ R.frames ∧ 22 ≤ R.locals) (x3 : Int32) (S : Ms) (H : Heap) (locs : List Loc) (ls : Array Slot) (hf : bM_heal_203 N x3 S = some o) (hR : RM d g S H) (hS : va_S (AM g) s.heap H locs) (hl : lv_has ls 6 [(0, .ref g.1), (3, .int x3)]) : W p l e R s m args below meth c H locs 0 0 (MQ below (QI d g o) args s 0 0 (AM g)) (F0 m 203 ls []) := by
  obtain ⟨hx, hb, hml, hown, hts, hK, hg, hr, hlk⟩ := id C
  unfold bM_heal_203 at hf
  refine lv_iload_n hx hb dX9_heal_203 rfl (lv_at hl 1 rfl) ?_
  exact mr_iret C hR hS hf dX9_heal_204
def bM_heal_80 (N : Nat) (x1 : Int32) (x2 : Int32) (S : Ms) : Option (Int32 × Ms) := if x2 = 0 then ((lM_heal_91 N (bM_heal_203 N) N) x1 0 0 S) else (some ((-1), S))
set_option maxRecDepth 100000 in
set_option maxHeartbeats 4000000 in
theorem wbM_heal_80 {p : Program} {l : Launch} {e : Env} {R : Room} {s : State} {m : MethodId} {args : Array Value} {below : List Frame} {meth : Method} {c : Code} {d : Dd} {g : Gm} {o : Int32 × Ms} {N : Nat} (C : CM p s m args meth c d g cX9_heal 6 (some .int)) (hRm : 1 ≤ R.frames ∧ 22 ≤ R.locals) (x1 : Int32) (x2 : Int32) (S : Ms) (H : Heap) (locs : List Loc) (ls : Array Slot) (hf : bM_heal_80 N x1 x2 S = some o) (hR : RM d g S H) (hS : va_S (AM g) s.heap H locs) (hl : lv_has ls 6 [(0, .ref g.1), (1, .int x1), (2, .int x2)]) : W p l e R s m args below meth c H locs 0 0 (MQ below (QI d g o) args s 0 0 (AM g)) (F0 m 80 ls []) := by
  obtain ⟨hx, hb, hml, hown, hts, hK, hg, hr, hlk⟩ := id C
  unfold bM_heal_80 at hf
  refine lv_iload_n hx hb dX9_heal_80 rfl (lv_at hl 2 rfl) ?_
  refine lv_if_eq (tgt := 86) hx hb dX9_heal_81 (by decide) (fun hc => ?_) (fun hc => ?_)
  · rw [if_pos hc] at hf
    refine lv_iconst (v := 0) hx hb dX9_heal_86 (by decide) ?_
    refine lv_istore_n (lv' := [(3, .int 0), (0, .ref g.1), (1, .int x1), (2, .int x2)]) hx hb dX9_heal_87 rfl hl (by decide) rfl (fun ls hl => ?_)
    refine lv_iconst (v := 0) hx hb dX9_heal_88 (by decide) ?_
    refine lv_istore (lv' := [(4, .int 0), (3, .int 0), (0, .ref g.1), (1, .int x1), (2, .int x2)]) hx hb dX9_heal_89 hl (by decide) rfl (fun ls hl => ?_)
    exact (wlM_heal_91 C hRm (wbM_heal_203 C hRm) N) _ _ _ _ _ _ _ hf hR hS (lv_sub hl [2, 3, 1, 0] rfl)
  · rw [if_neg hc] at hf
    refine lv_iconst (v := (-1)) hx hb dX9_heal_84 (by decide) ?_
    exact mr_iret C hR hS hf dX9_heal_85
def fM_heal (N : Nat) (x1 : Int32) (S : Ms) : Option (Int32 × Ms) := (fM_isUnit N x1 (pF S 0 0)).bind fun o7 => if o7.1 = 0 then ((bM_heal_20 N) o7.2) else (if (mF o7.2 64) = 0 then ((lM_heal_26 N (bM_heal_80 N) N) x1 0 0 o7.2) else ((bM_heal_20 N) o7.2))
set_option maxRecDepth 100000 in
set_option maxHeartbeats 4000000 in
theorem wfM_heal {p : Program} {l : Launch} {e : Env} {R : Room} {s : State} {m : MethodId} {args : Array Value} {below : List Frame} {meth : Method} {c : Code} {d : Dd} {g : Gm} {o : Int32 × Ms} {N : Nat} (C : CM p s m args meth c d g cX9_heal 6 (some .int)) (hRm : 1 ≤ R.frames ∧ 22 ≤ R.locals) (x1 : Int32) (S : Ms) (H : Heap) (locs : List Loc) (ls : Array Slot) (hf : fM_heal N x1 S = some o) (hR : RM d g S H) (hS : va_S (AM g) s.heap H locs) (hl : lv_has ls 6 [(0, .ref g.1), (1, .int x1)]) : W p l e R s m args below meth c H locs 0 0 (MQ below (QI d g o) args s 0 0 (AM g)) (F0 m 0 ls []) := by
  obtain ⟨hx, hb, hml, hown, hts, hK, hg, hr, hlk⟩ := id C
  unfold fM_heal at hf
  refine lv_aload_n hx hb dX9_heal_0 rfl (lv_at hl 0 rfl) ?_
  refine lv_iconst (v := 0) hx hb dX9_heal_1 (by decide) ?_
  refine mr_putI C hR hS fl_1 ⟨rfl, rfl, rfl⟩ dX9_heal_2 (fun H locs hR hS => ?_)
  refine lv_aload_n hx hb dX9_heal_5 rfl (lv_at hl 0 rfl) ?_
  refine lv_iload_n hx hb dX9_heal_6 rfl (lv_at hl 1 rfl) ?_
  obtain ⟨o7, ho7, hf⟩ := bnd_some hf
  refine mr_callIv C hR hS (As := [.int x1]) (rest := []) (MM_isUnit l d g N x1 (pF S 0 0) o7 ho7) wv_573 ⟨by omega, by omega⟩ rfl rfl (Nat.le_of_ble_eq_true rfl) hl.1 dX9_heal_7 ⟨Nat.zero_le _, Nat.zero_le _⟩ (fun H locs hR hS => ?_)
  refine lv_if_eq (tgt := 20) hx hb dX9_heal_10 (by decide) (fun hc => ?_) (fun hc => ?_)
  · rw [if_pos hc] at hf
    exact (wbM_heal_20 C hRm) _ _ _ _ hf hR hS (lv_sub hl [0] rfl)
  · rw [if_neg hc] at hf
    refine lv_aload_n hx hb dX9_heal_13 rfl (lv_at hl 0 rfl) ?_
    refine mr_getI C hR fl_460 rfl dX9_heal_14 ?_
    refine lv_if_eq (tgt := 22) hx hb dX9_heal_17 (by decide) (fun hc => ?_) (fun hc => ?_)
    · rw [if_pos hc] at hf
      refine lv_iconst (v := 0) hx hb dX9_heal_22 (by decide) ?_
      refine lv_istore_n (lv' := [(2, .int 0), (0, .ref g.1), (1, .int x1)]) hx hb dX9_heal_23 rfl hl (by decide) rfl (fun ls hl => ?_)
      refine lv_iconst (v := 0) hx hb dX9_heal_24 (by decide) ?_
      refine lv_istore_n (lv' := [(3, .int 0), (2, .int 0), (0, .ref g.1), (1, .int x1)]) hx hb dX9_heal_25 rfl hl (by decide) rfl (fun ls hl => ?_)
      exact (wlM_heal_26 C hRm (wbM_heal_80 C hRm) N) _ _ _ _ _ _ _ hf hR hS (lv_sub hl [2, 3, 1, 0] rfl)
    · rw [if_neg hc] at hf
      exact (wbM_heal_20 C hRm) _ _ _ _ hf hR hS (lv_sub hl [0] rfl)
theorem MM_heal (l : Launch) (d : Dd) (g : Gm) (N : Nat) (x1 : Int32) (S : Ms) (o : Int32 × Ms) (hf : fM_heal N x1 S = some o) : MtI l d g yX9_heal cX9_heal 6 (some .int) 1 22 [.ref g.1, .int x1] S o :=
  mr_metI (by decide) rfl (Nat.le_of_ble_eq_true rfl) (fun p e s m args below meth c ls C hR hl => wfM_heal C ⟨Nat.le_refl _, Nat.le_refl _⟩ x1 S s.heap [] ls hf hR va_S.rf hl)
def bM_closes_103 (N : Nat) (s1 : Int32) (s2 : Int32) (S : Ms) : Option (Ms) := ck s1 24 (some (pF (pA S 86 (s1 : Int32).toNatClampNeg s2) 87 ((mF (pA S 86 (s1 : Int32).toNatClampNeg s2) 87) + 1)))
set_option maxRecDepth 100000 in
set_option maxHeartbeats 4000000 in
theorem wbM_closes_103 {p : Program} {l : Launch} {e : Env} {R : Room} {s : State} {m : MethodId} {args : Array Value} {below : List Frame} {meth : Method} {c : Code} {d : Dd} {g : Gm} {o : Ms} {N : Nat} (C : CM p s m args meth c d g cX9_closes 4 none) (hRm : 603 ≤ R.frames ∧ 36075 ≤ R.locals) (s1 : Int32) (s2 : Int32) (S : Ms) (H : Heap) (locs : List Loc) (ls : Array Slot) (hf : bM_closes_103 N s1 s2 S = some o) (hR : RM d g S H) (hS : va_S (AM g) s.heap H locs) (hl : lv_has ls 4 [(0, .ref g.1)]) : W p l e R s m args below meth c H locs 0 0 (MQ below (QV d g o) args s 0 0 (AM g)) (F0 m 103 ls [.int s2, .int s1, .ref (g.2 86)]) := by
  obtain ⟨hx, hb, hml, hown, hts, hK, hg, hr, hlk⟩ := id C
  unfold bM_closes_103 at hf
  obtain ⟨hi, hf⟩ := ck_some hf
  refine mr_iast C hR hS (k := 86) rfl hi dX9_closes_103 (fun H locs hR hS => ?_)
  refine lv_aload_n hx hb dX9_closes_104 rfl (lv_at hl 0 rfl) ?_
  refine lv_dup hx hb dX9_closes_105 rfl ?_
  refine mr_getI C hR fl_479 rfl dX9_closes_106 ?_
  refine lv_iconst (v := 1) hx hb dX9_closes_109 (by decide) ?_
  refine lv_iadd hx hb dX9_closes_110 ?_
  refine mr_putI C hR hS fl_479 ⟨rfl, rfl, rfl⟩ dX9_closes_111 (fun H locs hR hS => ?_)
  exact mr_vret C hR hS hf dX9_closes_114
def bM_closes_56 (N : Nat) (x1 : Int32) (x2 : Int32) (S : Ms) : Option (Ms) := ck x1 24 (ck (mF (pA S 54 (x1 : Int32).toNatClampNeg 4) 87) 24 (if x2 = 0 then ((bM_closes_103 N) (mF (pA (pA S 54 (x1 : Int32).toNatClampNeg 4) 85 (mF (pA S 54 (x1 : Int32).toNatClampNeg 4) 87 : Int32).toNatClampNeg x1) 87) 0 (pA (pA S 54 (x1 : Int32).toNatClampNeg 4) 85 (mF (pA S 54 (x1 : Int32).toNatClampNeg 4) 87 : Int32).toNatClampNeg x1)) else (if x2 = 2 then ((bM_closes_103 N) (mF (pA (pA S 54 (x1 : Int32).toNatClampNeg 4) 85 (mF (pA S 54 (x1 : Int32).toNatClampNeg 4) 87 : Int32).toNatClampNeg x1) 87) 22 (pA (pA S 54 (x1 : Int32).toNatClampNeg 4) 85 (mF (pA S 54 (x1 : Int32).toNatClampNeg 4) 87 : Int32).toNatClampNeg x1)) else ((bM_closes_103 N) (mF (pA (pA S 54 (x1 : Int32).toNatClampNeg 4) 85 (mF (pA S 54 (x1 : Int32).toNatClampNeg 4) 87 : Int32).toNatClampNeg x1) 87) (mF (pA (pA S 54 (x1 : Int32).toNatClampNeg 4) 85 (mF (pA S 54 (x1 : Int32).toNatClampNeg 4) 87 : Int32).toNatClampNeg x1) 90) (pA (pA S 54 (x1 : Int32).toNatClampNeg 4) 85 (mF (pA S 54 (x1 : Int32).toNatClampNeg 4) 87 : Int32).toNatClampNeg x1)))))
set_option maxRecDepth 100000 in
set_option maxHeartbeats 4000000 in
theorem wbM_closes_56 {p : Program} {l : Launch} {e : Env} {R : Room} {s : State} {m : MethodId} {args : Array Value} {below : List Frame} {meth : Method} {c : Code} {d : Dd} {g : Gm} {o : Ms} {N : Nat} (C : CM p s m args meth c d g cX9_closes 4 none) (hRm : 603 ≤ R.frames ∧ 36075 ≤ R.locals) (x1 : Int32) (x2 : Int32) (S : Ms) (H : Heap) (locs : List Loc) (ls : Array Slot) (hf : bM_closes_56 N x1 x2 S = some o) (hR : RM d g S H) (hS : va_S (AM g) s.heap H locs) (hl : lv_has ls 4 [(0, .ref g.1), (1, .int x1), (2, .int x2)]) : W p l e R s m args below meth c H locs 0 0 (MQ below (QV d g o) args s 0 0 (AM g)) (F0 m 56 ls []) := by
  obtain ⟨hx, hb, hml, hown, hts, hK, hg, hr, hlk⟩ := id C
  unfold bM_closes_56 at hf
  refine lv_aload_n hx hb dX9_closes_56 rfl (lv_at hl 0 rfl) ?_
  refine mr_getR C hR fl_146 (by decide) dX9_closes_57 ?_
  refine lv_iload_n hx hb dX9_closes_60 rfl (lv_at hl 1 rfl) ?_
  refine lv_iconst (v := 4) hx hb dX9_closes_61 (by decide) ?_
  obtain ⟨hi, hf⟩ := ck_some hf
  refine mr_iast C hR hS (k := 54) rfl hi dX9_closes_62 (fun H locs hR hS => ?_)
  refine lv_aload_n hx hb dX9_closes_63 rfl (lv_at hl 0 rfl) ?_
  refine mr_getR C hR fl_209 (by decide) dX9_closes_64 ?_
  refine lv_aload_n hx hb dX9_closes_67 rfl (lv_at hl 0 rfl) ?_
  refine mr_getI C hR fl_479 rfl dX9_closes_68 ?_
  refine lv_iload_n hx hb dX9_closes_71 rfl (lv_at hl 1 rfl) ?_
  obtain ⟨hi, hf⟩ := ck_some hf
  refine mr_iast C hR hS (k := 85) rfl hi dX9_closes_72 (fun H locs hR hS => ?_)
  refine lv_aload_n hx hb dX9_closes_73 rfl (lv_at hl 0 rfl) ?_
  refine mr_getR C hR fl_212 (by decide) dX9_closes_74 ?_
  refine lv_aload_n hx hb dX9_closes_77 rfl (lv_at hl 0 rfl) ?_
  refine mr_getI C hR fl_479 rfl dX9_closes_78 ?_
  refine lv_iload_n hx hb dX9_closes_81 rfl (lv_at hl 2 rfl) ?_
  refine lv_if_ne (tgt := 89) hx hb dX9_closes_82 (by decide) (fun hc => ?_) (fun hc => ?_)
  · rw [if_neg hc] at hf
    refine lv_iload_n hx hb dX9_closes_89 rfl (lv_at hl 2 rfl) ?_
    refine lv_iconst (v := 2) hx hb dX9_closes_90 (by decide) ?_
    refine lv_icmp_ne (tgt := 99) hx hb dX9_closes_91 (by decide) (fun hc => ?_) (fun hc => ?_)
    · rw [if_neg hc] at hf
      refine lv_aload_n hx hb dX9_closes_99 rfl (lv_at hl 0 rfl) ?_
      refine mr_getI C hR fl_491 rfl dX9_closes_100 ?_
      exact (wbM_closes_103 C hRm) _ _ _ _ _ _ hf hR hS (lv_sub hl [0] rfl)
    · rw [if_pos hc] at hf
      refine lv_bipush (v := 22) hx hb dX9_closes_94 (by decide) ?_
      refine lv_goto (tgt := 103) hx hb dX9_closes_96 (by decide) ?_
      exact (wbM_closes_103 C hRm) _ _ _ _ _ _ hf hR hS (lv_sub hl [0] rfl)
  · rw [if_pos hc] at hf
    refine lv_iconst (v := 0) hx hb dX9_closes_85 (by decide) ?_
    refine lv_goto (tgt := 103) hx hb dX9_closes_86 (by decide) ?_
    exact (wbM_closes_103 C hRm) _ _ _ _ _ _ hf hR hS (lv_sub hl [0] rfl)
def fM_closes (N : Nat) (x1 : Int32) (S : Ms) : Option (Ms) := ck ((24 * (mF S 11)) + x1) 48 (if (mA S 33 ((24 * (mF S 11)) + x1 : Int32).toNatClampNeg) < 0 then ((bM_closes_56 N) x1 0 S) else (ck ((24 * (mF S 11)) + x1) 48 ((fG_works N (mA (pF (pF (pF (pF S 68 2000) 67 0) 95 0) 97 0) 33 ((24 * (mF S 11)) + x1 : Int32).toNatClampNeg) x1 1 (pF (pF (pF (pF S 68 2000) 67 0) 95 0) 97 0)).bind fun o52 => (bM_closes_56 N) x1 o52.1 o52.2)))
set_option maxRecDepth 100000 in
set_option maxHeartbeats 4000000 in
theorem wfM_closes {p : Program} {l : Launch} {e : Env} {R : Room} {s : State} {m : MethodId} {args : Array Value} {below : List Frame} {meth : Method} {c : Code} {d : Dd} {g : Gm} {o : Ms} {N : Nat} (C : CM p s m args meth c d g cX9_closes 4 none) (hRm : 603 ≤ R.frames ∧ 36075 ≤ R.locals) (x1 : Int32) (S : Ms) (H : Heap) (locs : List Loc) (ls : Array Slot) (hf : fM_closes N x1 S = some o) (hR : RM d g S H) (hS : va_S (AM g) s.heap H locs) (hl : lv_has ls 4 [(0, .ref g.1), (1, .int x1)]) : W p l e R s m args below meth c H locs 0 0 (MQ below (QV d g o) args s 0 0 (AM g)) (F0 m 0 ls []) := by
  obtain ⟨hx, hb, hml, hown, hts, hK, hg, hr, hlk⟩ := id C
  unfold fM_closes at hf
  refine lv_iconst (v := 0) hx hb dX9_closes_0 (by decide) ?_
  refine lv_istore_n (lv' := [(2, .int 0), (0, .ref g.1), (1, .int x1)]) hx hb dX9_closes_1 rfl hl (by decide) rfl (fun ls hl => ?_)
  refine lv_bipush (v := 24) hx hb dX9_closes_2 (by decide) ?_
  refine lv_aload_n hx hb dX9_closes_4 rfl (lv_at hl 1 rfl) ?_
  refine mr_getI C hR fl_307 rfl dX9_closes_5 ?_
  refine lv_imul hx hb dX9_closes_8 ?_
  refine lv_iload_n hx hb dX9_closes_9 rfl (lv_at hl 2 rfl) ?_
  refine lv_iadd hx hb dX9_closes_10 ?_
  refine lv_istore_n (lv' := [(3, .int ((24 * (mF S 11)) + x1)), (2, .int 0), (0, .ref g.1), (1, .int x1)]) hx hb dX9_closes_11 rfl hl (by decide) rfl (fun ls hl => ?_)
  refine lv_aload_n hx hb dX9_closes_12 rfl (lv_at hl 2 rfl) ?_
  refine mr_getR C hR fl_104 (by decide) dX9_closes_13 ?_
  refine lv_iload_n hx hb dX9_closes_16 rfl (lv_at hl 0 rfl) ?_
  obtain ⟨hi, hf⟩ := ck_some hf
  refine mr_iald C hR (k := 33) rfl hi dX9_closes_17 ?_
  refine lv_if_lt (tgt := 56) hx hb dX9_closes_18 (by decide) (fun hc => ?_) (fun hc => ?_)
  · rw [if_pos hc] at hf
    exact (wbM_closes_56 C hRm) _ _ _ _ _ _ hf hR hS (lv_sub hl [2, 3, 1] rfl)
  · rw [if_neg hc] at hf
    refine lv_aload_n hx hb dX9_closes_21 rfl (lv_at hl 2 rfl) ?_
    refine lv_sipush (v := 2000) hx hb dX9_closes_22 (by decide) ?_
    refine mr_putI C hR hS fl_519 ⟨rfl, rfl, rfl⟩ dX9_closes_25 (fun H locs hR hS => ?_)
    refine lv_aload_n hx hb dX9_closes_28 rfl (lv_at hl 2 rfl) ?_
    refine lv_iconst (v := 0) hx hb dX9_closes_29 (by decide) ?_
    refine mr_putI C hR hS fl_516 ⟨rfl, rfl, rfl⟩ dX9_closes_30 (fun H locs hR hS => ?_)
    refine lv_aload_n hx hb dX9_closes_33 rfl (lv_at hl 2 rfl) ?_
    refine lv_iconst (v := 0) hx hb dX9_closes_34 (by decide) ?_
    refine mr_putI C hR hS fl_532 ⟨rfl, rfl, rfl⟩ dX9_closes_35 (fun H locs hR hS => ?_)
    refine lv_aload_n hx hb dX9_closes_38 rfl (lv_at hl 2 rfl) ?_
    refine lv_iconst (v := 0) hx hb dX9_closes_39 (by decide) ?_
    refine mr_putI C hR hS fl_535 ⟨rfl, rfl, rfl⟩ dX9_closes_40 (fun H locs hR hS => ?_)
    refine lv_aload_n hx hb dX9_closes_43 rfl (lv_at hl 2 rfl) ?_
    refine lv_aload_n hx hb dX9_closes_44 rfl (lv_at hl 2 rfl) ?_
    refine mr_getR C hR fl_104 (by decide) dX9_closes_45 ?_
    refine lv_iload_n hx hb dX9_closes_48 rfl (lv_at hl 0 rfl) ?_
    obtain ⟨hi, hf⟩ := ck_some hf
    refine mr_iald C hR (k := 33) rfl hi dX9_closes_49 ?_
    refine lv_iload_n hx hb dX9_closes_50 rfl (lv_at hl 3 rfl) ?_
    refine lv_iconst (v := 1) hx hb dX9_closes_51 (by decide) ?_
    obtain ⟨o52, ho52, hf⟩ := bnd_some hf
    refine mr_callIv C hR hS (As := [.int (mA (pF (pF (pF (pF S 68 2000) 67 0) 95 0) 97 0) 33 ((24 * (mF S 11)) + x1 : Int32).toNatClampNeg), .int x1, .int 1]) (rest := []) (MG_works l d g N (mA (pF (pF (pF (pF S 68 2000) 67 0) 95 0) 97 0) 33 ((24 * (mF S 11)) + x1 : Int32).toNatClampNeg) x1 1 (pF (pF (pF (pF S 68 2000) 67 0) 95 0) 97 0) o52 ho52) wv_509 ⟨by omega, by omega⟩ rfl rfl (Nat.le_of_ble_eq_true rfl) hl.1 dX9_closes_52 ⟨Nat.zero_le _, Nat.zero_le _⟩ (fun H locs hR hS => ?_)
    refine lv_istore_n (lv' := [(2, .int o52.1), (3, .int ((24 * (mF S 11)) + x1)), (0, .ref g.1), (1, .int x1)]) hx hb dX9_closes_55 rfl hl (by decide) rfl (fun ls hl => ?_)
    exact (wbM_closes_56 C hRm) _ _ _ _ _ _ hf hR hS (lv_sub hl [2, 3, 0] rfl)
theorem MM_closes (l : Launch) (d : Dd) (g : Gm) (N : Nat) (x1 : Int32) (S : Ms) (o : Ms) (hf : fM_closes N x1 S = some o) : MtV l d g yX9_closes cX9_closes 4 603 36075 [.ref g.1, .int x1] S o :=
  mr_metV (by decide) rfl (Nat.le_of_ble_eq_true rfl) (fun p e s m args below meth c ls C hR hl => wfM_closes C ⟨Nat.le_refl _, Nat.le_refl _⟩ x1 S s.heap [] ls hf hR va_S.rf hl)
def bM_close_67 (N : Nat) (r23 : Int32 → Int32 → Ms → Option (Int32 × Ms)) (k73 : Int32 → Ms → Option (Int32 × Ms)) (x1 : Int32) (x2 : Int32) (S : Ms) : Option (Int32 × Ms) := r23 x1 (x2 + (-1)) S
set_option maxRecDepth 100000 in
set_option maxHeartbeats 4000000 in
theorem wbM_close_67 {p : Program} {l : Launch} {e : Env} {R : Room} {s : State} {m : MethodId} {args : Array Value} {below : List Frame} {meth : Method} {c : Code} {d : Dd} {g : Gm} {o : Int32 × Ms} {N : Nat} {r23 : Int32 → Int32 → Ms → Option (Int32 × Ms)} {k73 : Int32 → Ms → Option (Int32 × Ms)} (C : CM p s m args meth c d g cX9_close 4 (some .int)) (hRm : 604 ≤ R.frames ∧ 36098 ≤ R.locals) (hr23 : ∀ (x1 : Int32) (x2 : Int32) (S : Ms) (H : Heap) (locs : List Loc) (ls : Array Slot), r23 x1 x2 S = some o → RM d g S H → va_S (AM g) s.heap H locs → lv_has ls 4 [(0, .ref g.1), (1, .int x1), (2, .int x2)] → W p l e R s m args below meth c H locs 0 0 (MQ below (QI d g o) args s 0 0 (AM g)) (F0 m 23 ls [])) (hk73 : ∀ (x1 : Int32) (S : Ms) (H : Heap) (locs : List Loc) (ls : Array Slot), k73 x1 S = some o → RM d g S H → va_S (AM g) s.heap H locs → lv_has ls 4 [(0, .ref g.1), (1, .int x1)] → W p l e R s m args below meth c H locs 0 0 (MQ below (QI d g o) args s 0 0 (AM g)) (F0 m 73 ls [])) (x1 : Int32) (x2 : Int32) (S : Ms) (H : Heap) (locs : List Loc) (ls : Array Slot) (hf : bM_close_67 N r23 k73 x1 x2 S = some o) (hR : RM d g S H) (hS : va_S (AM g) s.heap H locs) (hl : lv_has ls 4 [(0, .ref g.1), (1, .int x1), (2, .int x2)]) : W p l e R s m args below meth c H locs 0 0 (MQ below (QI d g o) args s 0 0 (AM g)) (F0 m 67 ls []) := by
  obtain ⟨hx, hb, hml, hown, hts, hK, hg, hr, hlk⟩ := id C
  unfold bM_close_67 at hf
  refine lv_iinc (v := x2 + (-1)) (lv' := [(2, .int (x2 + (-1))), (0, .ref g.1), (1, .int x1)]) hx hb dX9_close_67 hl (k := 2) rfl rfl (by decide) rfl (fun ls hl => ?_)
  refine lv_goto (tgt := 23) hx hb dX9_close_70 (by decide) ?_
  exact hr23 _ _ _ _ _ _ hf hR hS (lv_sub hl [1, 2, 0] rfl)
def lM_close_23 (N : Nat) (k73 : Int32 → Ms → Option (Int32 × Ms)) : Nat → Int32 → Int32 → Ms → Option (Int32 × Ms)
  | 0, _, _, _ => none
  | n + 1, x1, x2, S => if x2 < 0 then (k73 x1 S) else (ck x2 800 (ck (mA S 72 (x2 : Int32).toNatClampNeg) 24 (if (mA S 54 (mA S 72 (x2 : Int32).toNatClampNeg : Int32).toNatClampNeg) = 2 then (ck x2 800 (ck (mA S 72 (x2 : Int32).toNatClampNeg) 24 (if (mA S 73 (x2 : Int32).toNatClampNeg) = (mA S 55 (mA S 72 (x2 : Int32).toNatClampNeg : Int32).toNatClampNeg) then ((fM_closes N (mA S 72 (x2 : Int32).toNatClampNeg) S).bind fun o61 => (bM_close_67 N (lM_close_23 N k73 n) k73) (x1 + 1) x2 o61) else ((bM_close_67 N (lM_close_23 N k73 n) k73) x1 x2 S)))) else ((bM_close_67 N (lM_close_23 N k73 n) k73) x1 x2 S))))
set_option maxRecDepth 100000 in
set_option maxHeartbeats 4000000 in
theorem wlM_close_23 {p : Program} {l : Launch} {e : Env} {R : Room} {s : State} {m : MethodId} {args : Array Value} {below : List Frame} {meth : Method} {c : Code} {d : Dd} {g : Gm} {o : Int32 × Ms} {N : Nat} {k73 : Int32 → Ms → Option (Int32 × Ms)} (C : CM p s m args meth c d g cX9_close 4 (some .int)) (hRm : 604 ≤ R.frames ∧ 36098 ≤ R.locals) (hk73 : ∀ (x1 : Int32) (S : Ms) (H : Heap) (locs : List Loc) (ls : Array Slot), k73 x1 S = some o → RM d g S H → va_S (AM g) s.heap H locs → lv_has ls 4 [(0, .ref g.1), (1, .int x1)] → W p l e R s m args below meth c H locs 0 0 (MQ below (QI d g o) args s 0 0 (AM g)) (F0 m 73 ls [])) : ∀ (n : Nat) (x1 : Int32) (x2 : Int32) (S : Ms) (H : Heap) (locs : List Loc) (ls : Array Slot), lM_close_23 N k73 n x1 x2 S = some o → RM d g S H → va_S (AM g) s.heap H locs → lv_has ls 4 [(0, .ref g.1), (1, .int x1), (2, .int x2)] → W p l e R s m args below meth c H locs 0 0 (MQ below (QI d g o) args s 0 0 (AM g)) (F0 m 23 ls []) := by
  obtain ⟨hx, hb, hml, hown, hts, hK, hg, hr, hlk⟩ := id C
  intro n
  induction n with
  | zero => intro x1 x2 S H locs ls hf; cases hf
  | succ n ih =>
    intro x1 x2 S H locs ls hf hR hS hl
    rw [lM_close_23] at hf
    refine lv_iload_n hx hb dX9_close_23 rfl (lv_at hl 2 rfl) ?_
    refine lv_if_lt (tgt := 73) hx hb dX9_close_24 (by decide) (fun hc => ?_) (fun hc => ?_)
    · rw [if_pos hc] at hf
      exact hk73 _ _ _ _ _ hf hR hS (lv_sub hl [0, 1] rfl)
    · rw [if_neg hc] at hf
      refine lv_aload_n hx hb dX9_close_27 rfl (lv_at hl 0 rfl) ?_
      refine mr_getR C hR fl_179 (by decide) dX9_close_28 ?_
      refine lv_iload_n hx hb dX9_close_31 rfl (lv_at hl 2 rfl) ?_
      obtain ⟨hi, hf⟩ := ck_some hf
      refine mr_iald C hR (k := 72) rfl hi dX9_close_32 ?_
      refine lv_istore_n (lv' := [(3, .int (mA S 72 (x2 : Int32).toNatClampNeg)), (0, .ref g.1), (1, .int x1), (2, .int x2)]) hx hb dX9_close_33 rfl hl (by decide) rfl (fun ls hl => ?_)
      refine lv_aload_n hx hb dX9_close_34 rfl (lv_at hl 1 rfl) ?_
      refine mr_getR C hR fl_146 (by decide) dX9_close_35 ?_
      refine lv_iload_n hx hb dX9_close_38 rfl (lv_at hl 0 rfl) ?_
      obtain ⟨hi, hf⟩ := ck_some hf
      refine mr_iald C hR (k := 54) rfl hi dX9_close_39 ?_
      refine lv_iconst (v := 2) hx hb dX9_close_40 (by decide) ?_
      refine lv_icmp_ne (tgt := 67) hx hb dX9_close_41 (by decide) (fun hc => ?_) (fun hc => ?_)
      · rw [if_neg hc] at hf
        exact (wbM_close_67 C hRm ih hk73) _ _ _ _ _ _ hf hR hS (lv_sub hl [1, 2, 3] rfl)
      · rw [if_pos hc] at hf
        refine lv_aload_n hx hb dX9_close_44 rfl (lv_at hl 1 rfl) ?_
        refine mr_getR C hR fl_182 (by decide) dX9_close_45 ?_
        refine lv_iload_n hx hb dX9_close_48 rfl (lv_at hl 3 rfl) ?_
        obtain ⟨hi, hf⟩ := ck_some hf
        refine mr_iald C hR (k := 73) rfl hi dX9_close_49 ?_
        refine lv_aload_n hx hb dX9_close_50 rfl (lv_at hl 1 rfl) ?_
        refine mr_getR C hR fl_149 (by decide) dX9_close_51 ?_
        refine lv_iload_n hx hb dX9_close_54 rfl (lv_at hl 0 rfl) ?_
        obtain ⟨hi, hf⟩ := ck_some hf
        refine mr_iald C hR (k := 55) rfl hi dX9_close_55 ?_
        refine lv_icmp_ne (tgt := 67) hx hb dX9_close_56 (by decide) (fun hc => ?_) (fun hc => ?_)
        · rw [if_neg hc] at hf
          exact (wbM_close_67 C hRm ih hk73) _ _ _ _ _ _ hf hR hS (lv_sub hl [1, 2, 3] rfl)
        · rw [if_pos hc] at hf
          refine lv_aload_n hx hb dX9_close_59 rfl (lv_at hl 1 rfl) ?_
          refine lv_iload_n hx hb dX9_close_60 rfl (lv_at hl 0 rfl) ?_
          obtain ⟨o61, ho61, hf⟩ := bnd_some hf
          refine mr_callVv C hR hS (As := [.int (mA S 72 (x2 : Int32).toNatClampNeg)]) (rest := []) (MM_closes l d g N (mA S 72 (x2 : Int32).toNatClampNeg) S o61 ho61) wv_579 ⟨by omega, by omega⟩ rfl rfl (Nat.le_of_ble_eq_true rfl) hl.1 dX9_close_61 ⟨Nat.zero_le _, Nat.zero_le _⟩ (fun H locs hR hS => ?_)
          refine lv_iinc (v := x1 + 1) (lv' := [(1, .int (x1 + 1)), (3, .int (mA S 72 (x2 : Int32).toNatClampNeg)), (0, .ref g.1), (2, .int x2)]) hx hb dX9_close_64 hl (k := 2) rfl rfl (by decide) rfl (fun ls hl => ?_)
          exact (wbM_close_67 C hRm ih hk73) _ _ _ _ _ _ hf hR hS (lv_sub hl [2, 0, 3] rfl)
def bM_close_73 (N : Nat) (x1 : Int32) (S : Ms) : Option (Int32 × Ms) := gd (is01 1) (some (x1, pF S 64 1))
set_option maxRecDepth 100000 in
set_option maxHeartbeats 4000000 in
theorem wbM_close_73 {p : Program} {l : Launch} {e : Env} {R : Room} {s : State} {m : MethodId} {args : Array Value} {below : List Frame} {meth : Method} {c : Code} {d : Dd} {g : Gm} {o : Int32 × Ms} {N : Nat} (C : CM p s m args meth c d g cX9_close 4 (some .int)) (hRm : 604 ≤ R.frames ∧ 36098 ≤ R.locals) (x1 : Int32) (S : Ms) (H : Heap) (locs : List Loc) (ls : Array Slot) (hf : bM_close_73 N x1 S = some o) (hR : RM d g S H) (hS : va_S (AM g) s.heap H locs) (hl : lv_has ls 4 [(0, .ref g.1), (1, .int x1)]) : W p l e R s m args below meth c H locs 0 0 (MQ below (QI d g o) args s 0 0 (AM g)) (F0 m 73 ls []) := by
  obtain ⟨hx, hb, hml, hown, hts, hK, hg, hr, hlk⟩ := id C
  unfold bM_close_73 at hf
  refine lv_aload_n hx hb dX9_close_73 rfl (lv_at hl 0 rfl) ?_
  refine lv_iconst (v := 1) hx hb dX9_close_74 (by decide) ?_
  obtain ⟨hq, hf⟩ := gd_some hf
  refine mr_putZ C hR hS fl_460 ⟨rfl, rfl, rfl⟩ hq dX9_close_75 (fun H locs hR hS => ?_)
  refine lv_iload_n hx hb dX9_close_78 rfl (lv_at hl 1 rfl) ?_
  exact mr_iret C hR hS hf dX9_close_79
def fM_close (N : Nat)  (S : Ms) : Option (Int32 × Ms) := if (mF (pF S 0 0) 64) = 0 then ((lM_close_23 N (bM_close_73 N) N) 0 ((mF (pF S 0 0) 75) - 1) (pF S 0 0)) else (some ((-1), pF S 0 0))
set_option maxRecDepth 100000 in
set_option maxHeartbeats 4000000 in
theorem wfM_close {p : Program} {l : Launch} {e : Env} {R : Room} {s : State} {m : MethodId} {args : Array Value} {below : List Frame} {meth : Method} {c : Code} {d : Dd} {g : Gm} {o : Int32 × Ms} {N : Nat} (C : CM p s m args meth c d g cX9_close 4 (some .int)) (hRm : 604 ≤ R.frames ∧ 36098 ≤ R.locals)  (S : Ms) (H : Heap) (locs : List Loc) (ls : Array Slot) (hf : fM_close N  S = some o) (hR : RM d g S H) (hS : va_S (AM g) s.heap H locs) (hl : lv_has ls 4 [(0, .ref g.1)]) : W p l e R s m args below meth c H locs 0 0 (MQ below (QI d g o) args s 0 0 (AM g)) (F0 m 0 ls []) := by
  obtain ⟨hx, hb, hml, hown, hts, hK, hg, hr, hlk⟩ := id C
  unfold fM_close at hf
  refine lv_aload_n hx hb dX9_close_0 rfl (lv_at hl 0 rfl) ?_
  refine lv_iconst (v := 0) hx hb dX9_close_1 (by decide) ?_
  refine mr_putI C hR hS fl_1 ⟨rfl, rfl, rfl⟩ dX9_close_2 (fun H locs hR hS => ?_)
  refine lv_aload_n hx hb dX9_close_5 rfl (lv_at hl 0 rfl) ?_
  refine mr_getI C hR fl_460 rfl dX9_close_6 ?_
  refine lv_if_eq (tgt := 14) hx hb dX9_close_9 (by decide) (fun hc => ?_) (fun hc => ?_)
  · rw [if_pos hc] at hf
    refine lv_iconst (v := 0) hx hb dX9_close_14 (by decide) ?_
    refine lv_istore_n (lv' := [(1, .int 0), (0, .ref g.1)]) hx hb dX9_close_15 rfl hl (by decide) rfl (fun ls hl => ?_)
    refine lv_aload_n hx hb dX9_close_16 rfl (lv_at hl 1 rfl) ?_
    refine mr_getI C hR fl_470 rfl dX9_close_17 ?_
    refine lv_iconst (v := 1) hx hb dX9_close_20 (by decide) ?_
    refine lv_isub hx hb dX9_close_21 ?_
    refine lv_istore_n (lv' := [(2, .int ((mF (pF S 0 0) 75) - 1)), (1, .int 0), (0, .ref g.1)]) hx hb dX9_close_22 rfl hl (by decide) rfl (fun ls hl => ?_)
    exact (wlM_close_23 C hRm (wbM_close_73 C hRm) N) _ _ _ _ _ _ hf hR hS (lv_sub hl [2, 1, 0] rfl)
  · rw [if_neg hc] at hf
    refine lv_iconst (v := (-1)) hx hb dX9_close_12 (by decide) ?_
    exact mr_iret C hR hS hf dX9_close_13
theorem MM_close (l : Launch) (d : Dd) (g : Gm) (N : Nat)  (S : Ms) (o : Int32 × Ms) (hf : fM_close N  S = some o) : MtI l d g yX9_close cX9_close 4 (some .int) 604 36098 [.ref g.1] S o :=
  mr_metI (by decide) rfl (Nat.le_of_ble_eq_true rfl) (fun p e s m args below meth c ls C hR hl => wfM_close C ⟨Nat.le_refl _, Nat.le_refl _⟩  S s.heap [] ls hf hR va_S.rf hl)
def bM_beat_16 (N : Nat)  (S : Ms) : Option (Int32 × Ms) := some ((-1), S)
set_option maxRecDepth 100000 in
set_option maxHeartbeats 4000000 in
theorem wbM_beat_16 {p : Program} {l : Launch} {e : Env} {R : Room} {s : State} {m : MethodId} {args : Array Value} {below : List Frame} {meth : Method} {c : Code} {d : Dd} {g : Gm} {o : Int32 × Ms} {N : Nat} (C : CM p s m args meth c d g cX9_beat 6 (some .int)) (hRm : 0 ≤ R.frames ∧ 0 ≤ R.locals)  (S : Ms) (H : Heap) (locs : List Loc) (ls : Array Slot) (hf : bM_beat_16 N  S = some o) (hR : RM d g S H) (hS : va_S (AM g) s.heap H locs) (hl : lv_has ls 6 [(0, .ref g.1)]) : W p l e R s m args below meth c H locs 0 0 (MQ below (QI d g o) args s 0 0 (AM g)) (F0 m 16 ls []) := by
  obtain ⟨hx, hb, hml, hown, hts, hK, hg, hr, hlk⟩ := id C
  unfold bM_beat_16 at hf
  refine lv_iconst (v := (-1)) hx hb dX9_beat_16 (by decide) ?_
  exact mr_iret C hR hS hf dX9_beat_17
def bM_beat_116 (N : Nat) (r37 : Int32 → Int32 → Int32 → Ms → Option (Int32 × Ms)) (k124 : Int32 → Int32 → Ms → Option (Int32 × Ms)) (x1 : Int32) (x2 : Int32) (x3 : Int32) (s1 : Int32) (s2 : Int32) (s3 : Int32) (S : Ms) : Option (Int32 × Ms) := ck s1 24 (r37 x1 x2 (x3 + 1) (pA S 61 (s1 : Int32).toNatClampNeg (s2 + s3)))
set_option maxRecDepth 100000 in
set_option maxHeartbeats 4000000 in
theorem wbM_beat_116 {p : Program} {l : Launch} {e : Env} {R : Room} {s : State} {m : MethodId} {args : Array Value} {below : List Frame} {meth : Method} {c : Code} {d : Dd} {g : Gm} {o : Int32 × Ms} {N : Nat} {r37 : Int32 → Int32 → Int32 → Ms → Option (Int32 × Ms)} {k124 : Int32 → Int32 → Ms → Option (Int32 × Ms)} (C : CM p s m args meth c d g cX9_beat 6 (some .int)) (hRm : 0 ≤ R.frames ∧ 0 ≤ R.locals) (hr37 : ∀ (x1 : Int32) (x2 : Int32) (x3 : Int32) (S : Ms) (H : Heap) (locs : List Loc) (ls : Array Slot), r37 x1 x2 x3 S = some o → RM d g S H → va_S (AM g) s.heap H locs → lv_has ls 6 [(0, .ref g.1), (1, .int x1), (2, .int x2), (3, .int x3)] → W p l e R s m args below meth c H locs 0 0 (MQ below (QI d g o) args s 0 0 (AM g)) (F0 m 37 ls [])) (hk124 : ∀ (x1 : Int32) (x2 : Int32) (S : Ms) (H : Heap) (locs : List Loc) (ls : Array Slot), k124 x1 x2 S = some o → RM d g S H → va_S (AM g) s.heap H locs → lv_has ls 6 [(0, .ref g.1), (1, .int x1), (2, .int x2)] → W p l e R s m args below meth c H locs 0 0 (MQ below (QI d g o) args s 0 0 (AM g)) (F0 m 124 ls [])) (x1 : Int32) (x2 : Int32) (x3 : Int32) (s1 : Int32) (s2 : Int32) (s3 : Int32) (S : Ms) (H : Heap) (locs : List Loc) (ls : Array Slot) (hf : bM_beat_116 N r37 k124 x1 x2 x3 s1 s2 s3 S = some o) (hR : RM d g S H) (hS : va_S (AM g) s.heap H locs) (hl : lv_has ls 6 [(0, .ref g.1), (1, .int x1), (2, .int x2), (3, .int x3)]) : W p l e R s m args below meth c H locs 0 0 (MQ below (QI d g o) args s 0 0 (AM g)) (F0 m 116 ls [.int s3, .int s2, .int s1, .ref (g.2 61)]) := by
  obtain ⟨hx, hb, hml, hown, hts, hK, hg, hr, hlk⟩ := id C
  unfold bM_beat_116 at hf
  refine lv_iadd hx hb dX9_beat_116 ?_
  obtain ⟨hi, hf⟩ := ck_some hf
  refine mr_iast C hR hS (k := 61) rfl hi dX9_beat_117 (fun H locs hR hS => ?_)
  refine lv_iinc (v := x3 + 1) (lv' := [(3, .int (x3 + 1)), (0, .ref g.1), (1, .int x1), (2, .int x2)]) hx hb dX9_beat_118 hl (k := 3) rfl rfl (by decide) rfl (fun ls hl => ?_)
  refine lv_goto (tgt := 37) hx hb dX9_beat_121 (by decide) ?_
  exact hr37 _ _ _ _ _ _ _ hf hR hS (lv_sub hl [1, 2, 3, 0] rfl)
def lM_beat_37 (N : Nat) (k124 : Int32 → Int32 → Ms → Option (Int32 × Ms)) : Nat → Int32 → Int32 → Int32 → Ms → Option (Int32 × Ms)
  | 0, _, _, _, _ => none
  | n + 1, x1, x2, x3, S => ck (mF S 11) 2 (if (mA S 13 (mF S 11 : Int32).toNatClampNeg) ≤ x3 then (k124 x1 x2 S) else (ck ((24 * (mF S 11)) + x3) 48 (ck x3 24 (ck x3 24 (ck x3 24 (if ((mA S 62 (x3 : Int32).toNatClampNeg) - (mA S 61 (x3 : Int32).toNatClampNeg)) ≤ (mA S 17 ((24 * (mF S 11)) + x3 : Int32).toNatClampNeg) then (if (-(mA S 17 ((24 * (mF S 11)) + x3 : Int32).toNatClampNeg)) ≤ ((mA S 62 (x3 : Int32).toNatClampNeg) - (mA S 61 (x3 : Int32).toNatClampNeg)) then ((bM_beat_116 N (lM_beat_37 N k124 n) k124) x1 x2 x3 x3 (mA S 61 (x3 : Int32).toNatClampNeg) ((mA S 62 (x3 : Int32).toNatClampNeg) - (mA S 61 (x3 : Int32).toNatClampNeg)) S) else ((bM_beat_116 N (lM_beat_37 N k124 n) k124) x1 x2 x3 x3 (mA S 61 (x3 : Int32).toNatClampNeg) (-(mA S 17 ((24 * (mF S 11)) + x3 : Int32).toNatClampNeg)) S)) else ((bM_beat_116 N (lM_beat_37 N k124 n) k124) x1 x2 x3 x3 (mA S 61 (x3 : Int32).toNatClampNeg) (mA S 17 ((24 * (mF S 11)) + x3 : Int32).toNatClampNeg) S)))))))
set_option maxRecDepth 100000 in
set_option maxHeartbeats 4000000 in
theorem wlM_beat_37 {p : Program} {l : Launch} {e : Env} {R : Room} {s : State} {m : MethodId} {args : Array Value} {below : List Frame} {meth : Method} {c : Code} {d : Dd} {g : Gm} {o : Int32 × Ms} {N : Nat} {k124 : Int32 → Int32 → Ms → Option (Int32 × Ms)} (C : CM p s m args meth c d g cX9_beat 6 (some .int)) (hRm : 0 ≤ R.frames ∧ 0 ≤ R.locals) (hk124 : ∀ (x1 : Int32) (x2 : Int32) (S : Ms) (H : Heap) (locs : List Loc) (ls : Array Slot), k124 x1 x2 S = some o → RM d g S H → va_S (AM g) s.heap H locs → lv_has ls 6 [(0, .ref g.1), (1, .int x1), (2, .int x2)] → W p l e R s m args below meth c H locs 0 0 (MQ below (QI d g o) args s 0 0 (AM g)) (F0 m 124 ls [])) : ∀ (n : Nat) (x1 : Int32) (x2 : Int32) (x3 : Int32) (S : Ms) (H : Heap) (locs : List Loc) (ls : Array Slot), lM_beat_37 N k124 n x1 x2 x3 S = some o → RM d g S H → va_S (AM g) s.heap H locs → lv_has ls 6 [(0, .ref g.1), (1, .int x1), (2, .int x2), (3, .int x3)] → W p l e R s m args below meth c H locs 0 0 (MQ below (QI d g o) args s 0 0 (AM g)) (F0 m 37 ls []) := by
  obtain ⟨hx, hb, hml, hown, hts, hK, hg, hr, hlk⟩ := id C
  intro n
  induction n with
  | zero => intro x1 x2 x3 S H locs ls hf; cases hf
  | succ n ih =>
    intro x1 x2 x3 S H locs ls hf hR hS hl
    rw [lM_beat_37] at hf
    refine lv_iload_n hx hb dX9_beat_37 rfl (lv_at hl 3 rfl) ?_
    refine lv_aload_n hx hb dX9_beat_38 rfl (lv_at hl 0 rfl) ?_
    refine mr_getR C hR fl_43 (by decide) dX9_beat_39 ?_
    refine lv_aload_n hx hb dX9_beat_42 rfl (lv_at hl 0 rfl) ?_
    refine mr_getI C hR fl_307 rfl dX9_beat_43 ?_
    obtain ⟨hi, hf⟩ := ck_some hf
    refine mr_iald C hR (k := 13) rfl hi dX9_beat_46 ?_
    refine lv_icmp_ge (tgt := 124) hx hb dX9_beat_47 (by decide) (fun hc => ?_) (fun hc => ?_)
    · rw [if_pos hc] at hf
      exact hk124 _ _ _ _ _ _ hf hR hS (lv_sub hl [0, 1, 2] rfl)
    · rw [if_neg hc] at hf
      refine lv_aload_n hx hb dX9_beat_50 rfl (lv_at hl 0 rfl) ?_
      refine mr_getR C hR fl_55 (by decide) dX9_beat_51 ?_
      refine lv_bipush (v := 24) hx hb dX9_beat_54 (by decide) ?_
      refine lv_aload_n hx hb dX9_beat_56 rfl (lv_at hl 0 rfl) ?_
      refine mr_getI C hR fl_307 rfl dX9_beat_57 ?_
      refine lv_imul hx hb dX9_beat_60 ?_
      refine lv_iload_n hx hb dX9_beat_61 rfl (lv_at hl 3 rfl) ?_
      refine lv_iadd hx hb dX9_beat_62 ?_
      obtain ⟨hi, hf⟩ := ck_some hf
      refine mr_iald C hR (k := 17) rfl hi dX9_beat_63 ?_
      refine lv_istore (lv' := [(4, .int (mA S 17 ((24 * (mF S 11)) + x3 : Int32).toNatClampNeg)), (0, .ref g.1), (1, .int x1), (2, .int x2), (3, .int x3)]) hx hb dX9_beat_64 hl (by decide) rfl (fun ls hl => ?_)
      refine lv_aload_n hx hb dX9_beat_66 rfl (lv_at hl 1 rfl) ?_
      refine mr_getR C hR fl_170 (by decide) dX9_beat_67 ?_
      refine lv_iload_n hx hb dX9_beat_70 rfl (lv_at hl 4 rfl) ?_
      obtain ⟨hi, hf⟩ := ck_some hf
      refine mr_iald C hR (k := 62) rfl hi dX9_beat_71 ?_
      refine lv_aload_n hx hb dX9_beat_72 rfl (lv_at hl 1 rfl) ?_
      refine mr_getR C hR fl_167 (by decide) dX9_beat_73 ?_
      refine lv_iload_n hx hb dX9_beat_76 rfl (lv_at hl 4 rfl) ?_
      obtain ⟨hi, hf⟩ := ck_some hf
      refine mr_iald C hR (k := 61) rfl hi dX9_beat_77 ?_
      refine lv_isub hx hb dX9_beat_78 ?_
      refine lv_istore (lv' := [(5, .int ((mA S 62 (x3 : Int32).toNatClampNeg) - (mA S 61 (x3 : Int32).toNatClampNeg))), (4, .int (mA S 17 ((24 * (mF S 11)) + x3 : Int32).toNatClampNeg)), (0, .ref g.1), (1, .int x1), (2, .int x2), (3, .int x3)]) hx hb dX9_beat_79 hl (by decide) rfl (fun ls hl => ?_)
      refine lv_aload_n hx hb dX9_beat_81 rfl (lv_at hl 2 rfl) ?_
      refine mr_getR C hR fl_167 (by decide) dX9_beat_82 ?_
      refine lv_iload_n hx hb dX9_beat_85 rfl (lv_at hl 5 rfl) ?_
      refine lv_dup2_11 hx hb dX9_beat_86 rfl rfl ?_
      obtain ⟨hi, hf⟩ := ck_some hf
      refine mr_iald C hR (k := 61) rfl hi dX9_beat_87 ?_
      refine lv_iload hx hb dX9_beat_88 (lv_at hl 0 rfl) ?_
      refine lv_iload hx hb dX9_beat_90 (lv_at hl 1 rfl) ?_
      refine lv_icmp_le (tgt := 100) hx hb dX9_beat_92 (by decide) (fun hc => ?_) (fun hc => ?_)
      · rw [if_pos hc] at hf
        refine lv_iload hx hb dX9_beat_100 (lv_at hl 0 rfl) ?_
        refine lv_iload hx hb dX9_beat_102 (lv_at hl 1 rfl) ?_
        refine lv_ineg hx hb dX9_beat_104 ?_
        refine lv_icmp_ge (tgt := 114) hx hb dX9_beat_105 (by decide) (fun hc => ?_) (fun hc => ?_)
        · rw [if_pos hc] at hf
          refine lv_iload hx hb dX9_beat_114 (lv_at hl 0 rfl) ?_
          exact (wbM_beat_116 C hRm ih hk124) _ _ _ _ _ _ _ _ _ _ hf hR hS (lv_sub hl [2, 3, 4, 5] rfl)
        · rw [if_neg hc] at hf
          refine lv_iload hx hb dX9_beat_108 (lv_at hl 1 rfl) ?_
          refine lv_ineg hx hb dX9_beat_110 ?_
          refine lv_goto (tgt := 116) hx hb dX9_beat_111 (by decide) ?_
          exact (wbM_beat_116 C hRm ih hk124) _ _ _ _ _ _ _ _ _ _ hf hR hS (lv_sub hl [2, 3, 4, 5] rfl)
      · rw [if_neg hc] at hf
        refine lv_iload hx hb dX9_beat_95 (lv_at hl 1 rfl) ?_
        refine lv_goto (tgt := 116) hx hb dX9_beat_97 (by decide) ?_
        exact (wbM_beat_116 C hRm ih hk124) _ _ _ _ _ _ _ _ _ _ hf hR hS (lv_sub hl [2, 3, 4, 5] rfl)
def bM_beat_124 (N : Nat) (r20 : Int32 → Int32 → Ms → Option (Int32 × Ms)) (k130 : Ms → Option (Int32 × Ms)) (x1 : Int32) (x2 : Int32) (S : Ms) : Option (Int32 × Ms) := r20 x1 (x2 + 1) S
set_option maxRecDepth 100000 in
set_option maxHeartbeats 4000000 in
theorem wbM_beat_124 {p : Program} {l : Launch} {e : Env} {R : Room} {s : State} {m : MethodId} {args : Array Value} {below : List Frame} {meth : Method} {c : Code} {d : Dd} {g : Gm} {o : Int32 × Ms} {N : Nat} {r20 : Int32 → Int32 → Ms → Option (Int32 × Ms)} {k130 : Ms → Option (Int32 × Ms)} (C : CM p s m args meth c d g cX9_beat 6 (some .int)) (hRm : 0 ≤ R.frames ∧ 0 ≤ R.locals) (hr20 : ∀ (x1 : Int32) (x2 : Int32) (S : Ms) (H : Heap) (locs : List Loc) (ls : Array Slot), r20 x1 x2 S = some o → RM d g S H → va_S (AM g) s.heap H locs → lv_has ls 6 [(0, .ref g.1), (1, .int x1), (2, .int x2)] → W p l e R s m args below meth c H locs 0 0 (MQ below (QI d g o) args s 0 0 (AM g)) (F0 m 20 ls [])) (hk130 : ∀  (S : Ms) (H : Heap) (locs : List Loc) (ls : Array Slot), k130 S = some o → RM d g S H → va_S (AM g) s.heap H locs → lv_has ls 6 [(0, .ref g.1)] → W p l e R s m args below meth c H locs 0 0 (MQ below (QI d g o) args s 0 0 (AM g)) (F0 m 130 ls [])) (x1 : Int32) (x2 : Int32) (S : Ms) (H : Heap) (locs : List Loc) (ls : Array Slot) (hf : bM_beat_124 N r20 k130 x1 x2 S = some o) (hR : RM d g S H) (hS : va_S (AM g) s.heap H locs) (hl : lv_has ls 6 [(0, .ref g.1), (1, .int x1), (2, .int x2)]) : W p l e R s m args below meth c H locs 0 0 (MQ below (QI d g o) args s 0 0 (AM g)) (F0 m 124 ls []) := by
  obtain ⟨hx, hb, hml, hown, hts, hK, hg, hr, hlk⟩ := id C
  unfold bM_beat_124 at hf
  refine lv_iinc (v := x2 + 1) (lv' := [(2, .int (x2 + 1)), (0, .ref g.1), (1, .int x1)]) hx hb dX9_beat_124 hl (k := 2) rfl rfl (by decide) rfl (fun ls hl => ?_)
  refine lv_goto (tgt := 20) hx hb dX9_beat_127 (by decide) ?_
  exact hr20 _ _ _ _ _ _ hf hR hS (lv_sub hl [1, 2, 0] rfl)
def lM_beat_20 (N : Nat) (k130 : Ms → Option (Int32 × Ms)) : Nat → Int32 → Int32 → Ms → Option (Int32 × Ms)
  | 0, _, _, _ => none
  | n + 1, x1, x2, S => if x1 ≤ x2 then (k130 S) else ((lM_beat_37 N (bM_beat_124 N (lM_beat_20 N k130 n) k130) N) x1 x2 0 (pF S 63 ((mF S 63) + 1)))
set_option maxRecDepth 100000 in
set_option maxHeartbeats 4000000 in
theorem wlM_beat_20 {p : Program} {l : Launch} {e : Env} {R : Room} {s : State} {m : MethodId} {args : Array Value} {below : List Frame} {meth : Method} {c : Code} {d : Dd} {g : Gm} {o : Int32 × Ms} {N : Nat} {k130 : Ms → Option (Int32 × Ms)} (C : CM p s m args meth c d g cX9_beat 6 (some .int)) (hRm : 0 ≤ R.frames ∧ 0 ≤ R.locals) (hk130 : ∀  (S : Ms) (H : Heap) (locs : List Loc) (ls : Array Slot), k130 S = some o → RM d g S H → va_S (AM g) s.heap H locs → lv_has ls 6 [(0, .ref g.1)] → W p l e R s m args below meth c H locs 0 0 (MQ below (QI d g o) args s 0 0 (AM g)) (F0 m 130 ls [])) : ∀ (n : Nat) (x1 : Int32) (x2 : Int32) (S : Ms) (H : Heap) (locs : List Loc) (ls : Array Slot), lM_beat_20 N k130 n x1 x2 S = some o → RM d g S H → va_S (AM g) s.heap H locs → lv_has ls 6 [(0, .ref g.1), (1, .int x1), (2, .int x2)] → W p l e R s m args below meth c H locs 0 0 (MQ below (QI d g o) args s 0 0 (AM g)) (F0 m 20 ls []) := by
  obtain ⟨hx, hb, hml, hown, hts, hK, hg, hr, hlk⟩ := id C
  intro n
  induction n with
  | zero => intro x1 x2 S H locs ls hf; cases hf
  | succ n ih =>
    intro x1 x2 S H locs ls hf hR hS hl
    rw [lM_beat_20] at hf
    refine lv_iload_n hx hb dX9_beat_20 rfl (lv_at hl 2 rfl) ?_
    refine lv_iload_n hx hb dX9_beat_21 rfl (lv_at hl 1 rfl) ?_
    refine lv_icmp_ge (tgt := 130) hx hb dX9_beat_22 (by decide) (fun hc => ?_) (fun hc => ?_)
    · rw [if_pos hc] at hf
      exact hk130 _ _ _ _ hf hR hS (lv_sub hl [0] rfl)
    · rw [if_neg hc] at hf
      refine lv_aload_n hx hb dX9_beat_25 rfl (lv_at hl 0 rfl) ?_
      refine lv_dup hx hb dX9_beat_26 rfl ?_
      refine mr_getI C hR fl_457 rfl dX9_beat_27 ?_
      refine lv_iconst (v := 1) hx hb dX9_beat_30 (by decide) ?_
      refine lv_iadd hx hb dX9_beat_31 ?_
      refine mr_putI C hR hS fl_457 ⟨rfl, rfl, rfl⟩ dX9_beat_32 (fun H locs hR hS => ?_)
      refine lv_iconst (v := 0) hx hb dX9_beat_35 (by decide) ?_
      refine lv_istore_n (lv' := [(3, .int 0), (0, .ref g.1), (1, .int x1), (2, .int x2)]) hx hb dX9_beat_36 rfl hl (by decide) rfl (fun ls hl => ?_)
      exact (wlM_beat_37 C hRm (wbM_beat_124 C hRm ih hk130) N) _ _ _ _ _ _ _ hf hR hS (lv_sub hl [1, 2, 3, 0] rfl)
def bM_beat_130 (N : Nat)  (S : Ms) : Option (Int32 × Ms) := some (mF S 63, S)
set_option maxRecDepth 100000 in
set_option maxHeartbeats 4000000 in
theorem wbM_beat_130 {p : Program} {l : Launch} {e : Env} {R : Room} {s : State} {m : MethodId} {args : Array Value} {below : List Frame} {meth : Method} {c : Code} {d : Dd} {g : Gm} {o : Int32 × Ms} {N : Nat} (C : CM p s m args meth c d g cX9_beat 6 (some .int)) (hRm : 0 ≤ R.frames ∧ 0 ≤ R.locals)  (S : Ms) (H : Heap) (locs : List Loc) (ls : Array Slot) (hf : bM_beat_130 N  S = some o) (hR : RM d g S H) (hS : va_S (AM g) s.heap H locs) (hl : lv_has ls 6 [(0, .ref g.1)]) : W p l e R s m args below meth c H locs 0 0 (MQ below (QI d g o) args s 0 0 (AM g)) (F0 m 130 ls []) := by
  obtain ⟨hx, hb, hml, hown, hts, hK, hg, hr, hlk⟩ := id C
  unfold bM_beat_130 at hf
  refine lv_aload_n hx hb dX9_beat_130 rfl (lv_at hl 0 rfl) ?_
  refine mr_getI C hR fl_457 rfl dX9_beat_131 ?_
  exact mr_iret C hR hS hf dX9_beat_134
def fM_beat (N : Nat) (x1 : Int32) (S : Ms) : Option (Int32 × Ms) := if x1 < 0 then ((bM_beat_16 N) (pF S 0 0)) else (if x1 ≤ 1000 then ((lM_beat_20 N (bM_beat_130 N) N) x1 0 (pF S 0 0)) else ((bM_beat_16 N) (pF S 0 0)))
set_option maxRecDepth 100000 in
set_option maxHeartbeats 4000000 in
theorem wfM_beat {p : Program} {l : Launch} {e : Env} {R : Room} {s : State} {m : MethodId} {args : Array Value} {below : List Frame} {meth : Method} {c : Code} {d : Dd} {g : Gm} {o : Int32 × Ms} {N : Nat} (C : CM p s m args meth c d g cX9_beat 6 (some .int)) (hRm : 0 ≤ R.frames ∧ 0 ≤ R.locals) (x1 : Int32) (S : Ms) (H : Heap) (locs : List Loc) (ls : Array Slot) (hf : fM_beat N x1 S = some o) (hR : RM d g S H) (hS : va_S (AM g) s.heap H locs) (hl : lv_has ls 6 [(0, .ref g.1), (1, .int x1)]) : W p l e R s m args below meth c H locs 0 0 (MQ below (QI d g o) args s 0 0 (AM g)) (F0 m 0 ls []) := by
  obtain ⟨hx, hb, hml, hown, hts, hK, hg, hr, hlk⟩ := id C
  unfold fM_beat at hf
  refine lv_aload_n hx hb dX9_beat_0 rfl (lv_at hl 0 rfl) ?_
  refine lv_iconst (v := 0) hx hb dX9_beat_1 (by decide) ?_
  refine mr_putI C hR hS fl_1 ⟨rfl, rfl, rfl⟩ dX9_beat_2 (fun H locs hR hS => ?_)
  refine lv_iload_n hx hb dX9_beat_5 rfl (lv_at hl 1 rfl) ?_
  refine lv_if_lt (tgt := 16) hx hb dX9_beat_6 (by decide) (fun hc => ?_) (fun hc => ?_)
  · rw [if_pos hc] at hf
    exact (wbM_beat_16 C hRm) _ _ _ _ hf hR hS (lv_sub hl [0] rfl)
  · rw [if_neg hc] at hf
    refine lv_iload_n hx hb dX9_beat_9 rfl (lv_at hl 1 rfl) ?_
    refine lv_sipush (v := 1000) hx hb dX9_beat_10 (by decide) ?_
    refine lv_icmp_le (tgt := 18) hx hb dX9_beat_13 (by decide) (fun hc => ?_) (fun hc => ?_)
    · rw [if_pos hc] at hf
      refine lv_iconst (v := 0) hx hb dX9_beat_18 (by decide) ?_
      refine lv_istore_n (lv' := [(2, .int 0), (0, .ref g.1), (1, .int x1)]) hx hb dX9_beat_19 rfl hl (by decide) rfl (fun ls hl => ?_)
      exact (wlM_beat_20 C hRm (wbM_beat_130 C hRm) N) _ _ _ _ _ _ hf hR hS (lv_sub hl [1, 2, 0] rfl)
    · rw [if_neg hc] at hf
      exact (wbM_beat_16 C hRm) _ _ _ _ hf hR hS (lv_sub hl [0] rfl)
theorem MM_beat (l : Launch) (d : Dd) (g : Gm) (N : Nat) (x1 : Int32) (S : Ms) (o : Int32 × Ms) (hf : fM_beat N x1 S = some o) : MtI l d g yX9_beat cX9_beat 6 (some .int) 0 0 [.ref g.1, .int x1] S o :=
  mr_metI (by decide) rfl (Nat.le_of_ble_eq_true rfl) (fun p e s m args below meth c ls C hR hl => wfM_beat C ⟨Nat.le_refl _, Nat.le_refl _⟩ x1 S s.heap [] ls hf hR va_S.rf hl)
def bM_swapAll_135 (N : Nat) (r2 : Int32 → Int32 → Ms → Option (Ms)) (k141 : Int32 → Ms → Option (Ms)) (x1 : Int32) (x2 : Int32) (S : Ms) : Option (Ms) := r2 x1 (x2 + 1) S
set_option maxRecDepth 100000 in
set_option maxHeartbeats 4000000 in
theorem wbM_swapAll_135 {p : Program} {l : Launch} {e : Env} {R : Room} {s : State} {m : MethodId} {args : Array Value} {below : List Frame} {meth : Method} {c : Code} {d : Dd} {g : Gm} {o : Ms} {N : Nat} {r2 : Int32 → Int32 → Ms → Option (Ms)} {k141 : Int32 → Ms → Option (Ms)} (C : CM p s m args meth c d g cX9_swapAll 3 none) (hRm : 0 ≤ R.frames ∧ 0 ≤ R.locals) (hr2 : ∀ (x1 : Int32) (x2 : Int32) (S : Ms) (H : Heap) (locs : List Loc) (ls : Array Slot), r2 x1 x2 S = some o → RM d g S H → va_S (AM g) s.heap H locs → lv_has ls 3 [(0, .ref g.1), (1, .int x1), (2, .int x2)] → W p l e R s m args below meth c H locs 0 0 (MQ below (QV d g o) args s 0 0 (AM g)) (F0 m 2 ls [])) (hk141 : ∀ (x1 : Int32) (S : Ms) (H : Heap) (locs : List Loc) (ls : Array Slot), k141 x1 S = some o → RM d g S H → va_S (AM g) s.heap H locs → lv_has ls 3 [(0, .ref g.1), (1, .int x1)] → W p l e R s m args below meth c H locs 0 0 (MQ below (QV d g o) args s 0 0 (AM g)) (F0 m 141 ls [])) (x1 : Int32) (x2 : Int32) (S : Ms) (H : Heap) (locs : List Loc) (ls : Array Slot) (hf : bM_swapAll_135 N r2 k141 x1 x2 S = some o) (hR : RM d g S H) (hS : va_S (AM g) s.heap H locs) (hl : lv_has ls 3 [(0, .ref g.1), (1, .int x1), (2, .int x2)]) : W p l e R s m args below meth c H locs 0 0 (MQ below (QV d g o) args s 0 0 (AM g)) (F0 m 135 ls []) := by
  obtain ⟨hx, hb, hml, hown, hts, hK, hg, hr, hlk⟩ := id C
  unfold bM_swapAll_135 at hf
  refine lv_iinc (v := x2 + 1) (lv' := [(2, .int (x2 + 1)), (0, .ref g.1), (1, .int x1)]) hx hb dX9_swapAll_135 hl (k := 2) rfl rfl (by decide) rfl (fun ls hl => ?_)
  refine lv_goto (tgt := 2) hx hb dX9_swapAll_138 (by decide) ?_
  exact hr2 _ _ _ _ _ _ hf hR hS (lv_sub hl [1, 2, 0] rfl)
def lM_swapAll_2 (N : Nat) (k141 : Int32 → Ms → Option (Ms)) : Nat → Int32 → Int32 → Ms → Option (Ms)
  | 0, _, _, _ => none
  | n + 1, x1, x2, S => if 24 ≤ x2 then (k141 x1 S) else (if x1 = 0 then (ck x2 24 (ck x2 24 (ck x2 24 (ck x2 24 (ck x2 24 (ck x2 24 (ck x2 24 (ck x2 24 (ck x2 24 (ck x2 24 ((bM_swapAll_135 N (lM_swapAll_2 N k141 n) k141) x1 x2 (pA (pA (pA (pA (pA S 102 (x2 : Int32).toNatClampNeg (mA S 54 (x2 : Int32).toNatClampNeg)) 104 (x2 : Int32).toNatClampNeg (mA (pA S 102 (x2 : Int32).toNatClampNeg (mA S 54 (x2 : Int32).toNatClampNeg)) 57 (x2 : Int32).toNatClampNeg)) 105 (x2 : Int32).toNatClampNeg (mA (pA (pA S 102 (x2 : Int32).toNatClampNeg (mA S 54 (x2 : Int32).toNatClampNeg)) 104 (x2 : Int32).toNatClampNeg (mA (pA S 102 (x2 : Int32).toNatClampNeg (mA S 54 (x2 : Int32).toNatClampNeg)) 57 (x2 : Int32).toNatClampNeg)) 58 (x2 : Int32).toNatClampNeg)) 106 (x2 : Int32).toNatClampNeg (mA (pA (pA (pA S 102 (x2 : Int32).toNatClampNeg (mA S 54 (x2 : Int32).toNatClampNeg)) 104 (x2 : Int32).toNatClampNeg (mA (pA S 102 (x2 : Int32).toNatClampNeg (mA S 54 (x2 : Int32).toNatClampNeg)) 57 (x2 : Int32).toNatClampNeg)) 105 (x2 : Int32).toNatClampNeg (mA (pA (pA S 102 (x2 : Int32).toNatClampNeg (mA S 54 (x2 : Int32).toNatClampNeg)) 104 (x2 : Int32).toNatClampNeg (mA (pA S 102 (x2 : Int32).toNatClampNeg (mA S 54 (x2 : Int32).toNatClampNeg)) 57 (x2 : Int32).toNatClampNeg)) 58 (x2 : Int32).toNatClampNeg)) 60 (x2 : Int32).toNatClampNeg)) 107 (x2 : Int32).toNatClampNeg (mA (pA (pA (pA (pA S 102 (x2 : Int32).toNatClampNeg (mA S 54 (x2 : Int32).toNatClampNeg)) 104 (x2 : Int32).toNatClampNeg (mA (pA S 102 (x2 : Int32).toNatClampNeg (mA S 54 (x2 : Int32).toNatClampNeg)) 57 (x2 : Int32).toNatClampNeg)) 105 (x2 : Int32).toNatClampNeg (mA (pA (pA S 102 (x2 : Int32).toNatClampNeg (mA S 54 (x2 : Int32).toNatClampNeg)) 104 (x2 : Int32).toNatClampNeg (mA (pA S 102 (x2 : Int32).toNatClampNeg (mA S 54 (x2 : Int32).toNatClampNeg)) 57 (x2 : Int32).toNatClampNeg)) 58 (x2 : Int32).toNatClampNeg)) 106 (x2 : Int32).toNatClampNeg (mA (pA (pA (pA S 102 (x2 : Int32).toNatClampNeg (mA S 54 (x2 : Int32).toNatClampNeg)) 104 (x2 : Int32).toNatClampNeg (mA (pA S 102 (x2 : Int32).toNatClampNeg (mA S 54 (x2 : Int32).toNatClampNeg)) 57 (x2 : Int32).toNatClampNeg)) 105 (x2 : Int32).toNatClampNeg (mA (pA (pA S 102 (x2 : Int32).toNatClampNeg (mA S 54 (x2 : Int32).toNatClampNeg)) 104 (x2 : Int32).toNatClampNeg (mA (pA S 102 (x2 : Int32).toNatClampNeg (mA S 54 (x2 : Int32).toNatClampNeg)) 57 (x2 : Int32).toNatClampNeg)) 58 (x2 : Int32).toNatClampNeg)) 60 (x2 : Int32).toNatClampNeg)) 62 (x2 : Int32).toNatClampNeg))))))))))))) else (ck x2 24 (ck x2 24 (ck x2 24 (ck x2 24 (ck x2 24 (ck x2 24 (ck x2 24 (ck x2 24 (ck x2 24 (ck x2 24 ((bM_swapAll_135 N (lM_swapAll_2 N k141 n) k141) x1 x2 (pA (pA (pA (pA (pA S 54 (x2 : Int32).toNatClampNeg (mA S 102 (x2 : Int32).toNatClampNeg)) 57 (x2 : Int32).toNatClampNeg (mA (pA S 54 (x2 : Int32).toNatClampNeg (mA S 102 (x2 : Int32).toNatClampNeg)) 104 (x2 : Int32).toNatClampNeg)) 58 (x2 : Int32).toNatClampNeg (mA (pA (pA S 54 (x2 : Int32).toNatClampNeg (mA S 102 (x2 : Int32).toNatClampNeg)) 57 (x2 : Int32).toNatClampNeg (mA (pA S 54 (x2 : Int32).toNatClampNeg (mA S 102 (x2 : Int32).toNatClampNeg)) 104 (x2 : Int32).toNatClampNeg)) 105 (x2 : Int32).toNatClampNeg)) 60 (x2 : Int32).toNatClampNeg (mA (pA (pA (pA S 54 (x2 : Int32).toNatClampNeg (mA S 102 (x2 : Int32).toNatClampNeg)) 57 (x2 : Int32).toNatClampNeg (mA (pA S 54 (x2 : Int32).toNatClampNeg (mA S 102 (x2 : Int32).toNatClampNeg)) 104 (x2 : Int32).toNatClampNeg)) 58 (x2 : Int32).toNatClampNeg (mA (pA (pA S 54 (x2 : Int32).toNatClampNeg (mA S 102 (x2 : Int32).toNatClampNeg)) 57 (x2 : Int32).toNatClampNeg (mA (pA S 54 (x2 : Int32).toNatClampNeg (mA S 102 (x2 : Int32).toNatClampNeg)) 104 (x2 : Int32).toNatClampNeg)) 105 (x2 : Int32).toNatClampNeg)) 106 (x2 : Int32).toNatClampNeg)) 62 (x2 : Int32).toNatClampNeg (mA (pA (pA (pA (pA S 54 (x2 : Int32).toNatClampNeg (mA S 102 (x2 : Int32).toNatClampNeg)) 57 (x2 : Int32).toNatClampNeg (mA (pA S 54 (x2 : Int32).toNatClampNeg (mA S 102 (x2 : Int32).toNatClampNeg)) 104 (x2 : Int32).toNatClampNeg)) 58 (x2 : Int32).toNatClampNeg (mA (pA (pA S 54 (x2 : Int32).toNatClampNeg (mA S 102 (x2 : Int32).toNatClampNeg)) 57 (x2 : Int32).toNatClampNeg (mA (pA S 54 (x2 : Int32).toNatClampNeg (mA S 102 (x2 : Int32).toNatClampNeg)) 104 (x2 : Int32).toNatClampNeg)) 105 (x2 : Int32).toNatClampNeg)) 60 (x2 : Int32).toNatClampNeg (mA (pA (pA (pA S 54 (x2 : Int32).toNatClampNeg (mA S 102 (x2 : Int32).toNatClampNeg)) 57 (x2 : Int32).toNatClampNeg (mA (pA S 54 (x2 : Int32).toNatClampNeg (mA S 102 (x2 : Int32).toNatClampNeg)) 104 (x2 : Int32).toNatClampNeg)) 58 (x2 : Int32).toNatClampNeg (mA (pA (pA S 54 (x2 : Int32).toNatClampNeg (mA S 102 (x2 : Int32).toNatClampNeg)) 57 (x2 : Int32).toNatClampNeg (mA (pA S 54 (x2 : Int32).toNatClampNeg (mA S 102 (x2 : Int32).toNatClampNeg)) 104 (x2 : Int32).toNatClampNeg)) 105 (x2 : Int32).toNatClampNeg)) 106 (x2 : Int32).toNatClampNeg)) 107 (x2 : Int32).toNatClampNeg))))))))))))))
set_option maxRecDepth 100000 in
set_option maxHeartbeats 4000000 in
theorem wlM_swapAll_2 {p : Program} {l : Launch} {e : Env} {R : Room} {s : State} {m : MethodId} {args : Array Value} {below : List Frame} {meth : Method} {c : Code} {d : Dd} {g : Gm} {o : Ms} {N : Nat} {k141 : Int32 → Ms → Option (Ms)} (C : CM p s m args meth c d g cX9_swapAll 3 none) (hRm : 0 ≤ R.frames ∧ 0 ≤ R.locals) (hk141 : ∀ (x1 : Int32) (S : Ms) (H : Heap) (locs : List Loc) (ls : Array Slot), k141 x1 S = some o → RM d g S H → va_S (AM g) s.heap H locs → lv_has ls 3 [(0, .ref g.1), (1, .int x1)] → W p l e R s m args below meth c H locs 0 0 (MQ below (QV d g o) args s 0 0 (AM g)) (F0 m 141 ls [])) : ∀ (n : Nat) (x1 : Int32) (x2 : Int32) (S : Ms) (H : Heap) (locs : List Loc) (ls : Array Slot), lM_swapAll_2 N k141 n x1 x2 S = some o → RM d g S H → va_S (AM g) s.heap H locs → lv_has ls 3 [(0, .ref g.1), (1, .int x1), (2, .int x2)] → W p l e R s m args below meth c H locs 0 0 (MQ below (QV d g o) args s 0 0 (AM g)) (F0 m 2 ls []) := by
  obtain ⟨hx, hb, hml, hown, hts, hK, hg, hr, hlk⟩ := id C
  intro n
  induction n with
  | zero => intro x1 x2 S H locs ls hf; cases hf
  | succ n ih =>
    intro x1 x2 S H locs ls hf hR hS hl
    rw [lM_swapAll_2] at hf
    refine lv_iload_n hx hb dX9_swapAll_2 rfl (lv_at hl 2 rfl) ?_
    refine lv_bipush (v := 24) hx hb dX9_swapAll_3 (by decide) ?_
    refine lv_icmp_ge (tgt := 141) hx hb dX9_swapAll_5 (by decide) (fun hc => ?_) (fun hc => ?_)
    · rw [if_pos hc] at hf
      exact hk141 _ _ _ _ _ hf hR hS (lv_sub hl [0, 1] rfl)
    · rw [if_neg hc] at hf
      refine lv_iload_n hx hb dX9_swapAll_8 rfl (lv_at hl 1 rfl) ?_
      refine lv_if_eq (tgt := 75) hx hb dX9_swapAll_9 (by decide) (fun hc => ?_) (fun hc => ?_)
      · rw [if_pos hc] at hf
        refine lv_aload_n hx hb dX9_swapAll_75 rfl (lv_at hl 0 rfl) ?_
        refine mr_getR C hR fl_227 (by decide) dX9_swapAll_76 ?_
        refine lv_iload_n hx hb dX9_swapAll_79 rfl (lv_at hl 2 rfl) ?_
        refine lv_aload_n hx hb dX9_swapAll_80 rfl (lv_at hl 0 rfl) ?_
        refine mr_getR C hR fl_146 (by decide) dX9_swapAll_81 ?_
        refine lv_iload_n hx hb dX9_swapAll_84 rfl (lv_at hl 2 rfl) ?_
        obtain ⟨hi, hf⟩ := ck_some hf
        refine mr_iald C hR (k := 54) rfl hi dX9_swapAll_85 ?_
        obtain ⟨hi, hf⟩ := ck_some hf
        refine mr_iast C hR hS (k := 102) rfl hi dX9_swapAll_86 (fun H locs hR hS => ?_)
        refine lv_aload_n hx hb dX9_swapAll_87 rfl (lv_at hl 0 rfl) ?_
        refine mr_getR C hR fl_233 (by decide) dX9_swapAll_88 ?_
        refine lv_iload_n hx hb dX9_swapAll_91 rfl (lv_at hl 2 rfl) ?_
        refine lv_aload_n hx hb dX9_swapAll_92 rfl (lv_at hl 0 rfl) ?_
        refine mr_getR C hR fl_155 (by decide) dX9_swapAll_93 ?_
        refine lv_iload_n hx hb dX9_swapAll_96 rfl (lv_at hl 2 rfl) ?_
        obtain ⟨hi, hf⟩ := ck_some hf
        refine mr_iald C hR (k := 57) rfl hi dX9_swapAll_97 ?_
        obtain ⟨hi, hf⟩ := ck_some hf
        refine mr_iast C hR hS (k := 104) rfl hi dX9_swapAll_98 (fun H locs hR hS => ?_)
        refine lv_aload_n hx hb dX9_swapAll_99 rfl (lv_at hl 0 rfl) ?_
        refine mr_getR C hR fl_236 (by decide) dX9_swapAll_100 ?_
        refine lv_iload_n hx hb dX9_swapAll_103 rfl (lv_at hl 2 rfl) ?_
        refine lv_aload_n hx hb dX9_swapAll_104 rfl (lv_at hl 0 rfl) ?_
        refine mr_getR C hR fl_158 (by decide) dX9_swapAll_105 ?_
        refine lv_iload_n hx hb dX9_swapAll_108 rfl (lv_at hl 2 rfl) ?_
        obtain ⟨hi, hf⟩ := ck_some hf
        refine mr_iald C hR (k := 58) rfl hi dX9_swapAll_109 ?_
        obtain ⟨hi, hf⟩ := ck_some hf
        refine mr_iast C hR hS (k := 105) rfl hi dX9_swapAll_110 (fun H locs hR hS => ?_)
        refine lv_aload_n hx hb dX9_swapAll_111 rfl (lv_at hl 0 rfl) ?_
        refine mr_getR C hR fl_239 (by decide) dX9_swapAll_112 ?_
        refine lv_iload_n hx hb dX9_swapAll_115 rfl (lv_at hl 2 rfl) ?_
        refine lv_aload_n hx hb dX9_swapAll_116 rfl (lv_at hl 0 rfl) ?_
        refine mr_getR C hR fl_164 (by decide) dX9_swapAll_117 ?_
        refine lv_iload_n hx hb dX9_swapAll_120 rfl (lv_at hl 2 rfl) ?_
        obtain ⟨hi, hf⟩ := ck_some hf
        refine mr_iald C hR (k := 60) rfl hi dX9_swapAll_121 ?_
        obtain ⟨hi, hf⟩ := ck_some hf
        refine mr_iast C hR hS (k := 106) rfl hi dX9_swapAll_122 (fun H locs hR hS => ?_)
        refine lv_aload_n hx hb dX9_swapAll_123 rfl (lv_at hl 0 rfl) ?_
        refine mr_getR C hR fl_242 (by decide) dX9_swapAll_124 ?_
        refine lv_iload_n hx hb dX9_swapAll_127 rfl (lv_at hl 2 rfl) ?_
        refine lv_aload_n hx hb dX9_swapAll_128 rfl (lv_at hl 0 rfl) ?_
        refine mr_getR C hR fl_170 (by decide) dX9_swapAll_129 ?_
        refine lv_iload_n hx hb dX9_swapAll_132 rfl (lv_at hl 2 rfl) ?_
        obtain ⟨hi, hf⟩ := ck_some hf
        refine mr_iald C hR (k := 62) rfl hi dX9_swapAll_133 ?_
        obtain ⟨hi, hf⟩ := ck_some hf
        refine mr_iast C hR hS (k := 107) rfl hi dX9_swapAll_134 (fun H locs hR hS => ?_)
        exact (wbM_swapAll_135 C hRm ih hk141) _ _ _ _ _ _ hf hR hS (lv_sub hl [0, 1, 2] rfl)
      · rw [if_neg hc] at hf
        refine lv_aload_n hx hb dX9_swapAll_12 rfl (lv_at hl 0 rfl) ?_
        refine mr_getR C hR fl_146 (by decide) dX9_swapAll_13 ?_
        refine lv_iload_n hx hb dX9_swapAll_16 rfl (lv_at hl 2 rfl) ?_
        refine lv_aload_n hx hb dX9_swapAll_17 rfl (lv_at hl 0 rfl) ?_
        refine mr_getR C hR fl_227 (by decide) dX9_swapAll_18 ?_
        refine lv_iload_n hx hb dX9_swapAll_21 rfl (lv_at hl 2 rfl) ?_
        obtain ⟨hi, hf⟩ := ck_some hf
        refine mr_iald C hR (k := 102) rfl hi dX9_swapAll_22 ?_
        obtain ⟨hi, hf⟩ := ck_some hf
        refine mr_iast C hR hS (k := 54) rfl hi dX9_swapAll_23 (fun H locs hR hS => ?_)
        refine lv_aload_n hx hb dX9_swapAll_24 rfl (lv_at hl 0 rfl) ?_
        refine mr_getR C hR fl_155 (by decide) dX9_swapAll_25 ?_
        refine lv_iload_n hx hb dX9_swapAll_28 rfl (lv_at hl 2 rfl) ?_
        refine lv_aload_n hx hb dX9_swapAll_29 rfl (lv_at hl 0 rfl) ?_
        refine mr_getR C hR fl_233 (by decide) dX9_swapAll_30 ?_
        refine lv_iload_n hx hb dX9_swapAll_33 rfl (lv_at hl 2 rfl) ?_
        obtain ⟨hi, hf⟩ := ck_some hf
        refine mr_iald C hR (k := 104) rfl hi dX9_swapAll_34 ?_
        obtain ⟨hi, hf⟩ := ck_some hf
        refine mr_iast C hR hS (k := 57) rfl hi dX9_swapAll_35 (fun H locs hR hS => ?_)
        refine lv_aload_n hx hb dX9_swapAll_36 rfl (lv_at hl 0 rfl) ?_
        refine mr_getR C hR fl_158 (by decide) dX9_swapAll_37 ?_
        refine lv_iload_n hx hb dX9_swapAll_40 rfl (lv_at hl 2 rfl) ?_
        refine lv_aload_n hx hb dX9_swapAll_41 rfl (lv_at hl 0 rfl) ?_
        refine mr_getR C hR fl_236 (by decide) dX9_swapAll_42 ?_
        refine lv_iload_n hx hb dX9_swapAll_45 rfl (lv_at hl 2 rfl) ?_
        obtain ⟨hi, hf⟩ := ck_some hf
        refine mr_iald C hR (k := 105) rfl hi dX9_swapAll_46 ?_
        obtain ⟨hi, hf⟩ := ck_some hf
        refine mr_iast C hR hS (k := 58) rfl hi dX9_swapAll_47 (fun H locs hR hS => ?_)
        refine lv_aload_n hx hb dX9_swapAll_48 rfl (lv_at hl 0 rfl) ?_
        refine mr_getR C hR fl_164 (by decide) dX9_swapAll_49 ?_
        refine lv_iload_n hx hb dX9_swapAll_52 rfl (lv_at hl 2 rfl) ?_
        refine lv_aload_n hx hb dX9_swapAll_53 rfl (lv_at hl 0 rfl) ?_
        refine mr_getR C hR fl_239 (by decide) dX9_swapAll_54 ?_
        refine lv_iload_n hx hb dX9_swapAll_57 rfl (lv_at hl 2 rfl) ?_
        obtain ⟨hi, hf⟩ := ck_some hf
        refine mr_iald C hR (k := 106) rfl hi dX9_swapAll_58 ?_
        obtain ⟨hi, hf⟩ := ck_some hf
        refine mr_iast C hR hS (k := 60) rfl hi dX9_swapAll_59 (fun H locs hR hS => ?_)
        refine lv_aload_n hx hb dX9_swapAll_60 rfl (lv_at hl 0 rfl) ?_
        refine mr_getR C hR fl_170 (by decide) dX9_swapAll_61 ?_
        refine lv_iload_n hx hb dX9_swapAll_64 rfl (lv_at hl 2 rfl) ?_
        refine lv_aload_n hx hb dX9_swapAll_65 rfl (lv_at hl 0 rfl) ?_
        refine mr_getR C hR fl_242 (by decide) dX9_swapAll_66 ?_
        refine lv_iload_n hx hb dX9_swapAll_69 rfl (lv_at hl 2 rfl) ?_
        obtain ⟨hi, hf⟩ := ck_some hf
        refine mr_iald C hR (k := 107) rfl hi dX9_swapAll_70 ?_
        obtain ⟨hi, hf⟩ := ck_some hf
        refine mr_iast C hR hS (k := 62) rfl hi dX9_swapAll_71 (fun H locs hR hS => ?_)
        refine lv_goto (tgt := 135) hx hb dX9_swapAll_72 (by decide) ?_
        exact (wbM_swapAll_135 C hRm ih hk141) _ _ _ _ _ _ hf hR hS (lv_sub hl [0, 1, 2] rfl)
def bM_swapAll_181 (N : Nat) (r143 : Int32 → Int32 → Ms → Option (Ms)) (k187 : Ms → Option (Ms)) (x1 : Int32) (x2 : Int32) (S : Ms) : Option (Ms) := r143 x1 (x2 + 1) S
set_option maxRecDepth 100000 in
set_option maxHeartbeats 4000000 in
theorem wbM_swapAll_181 {p : Program} {l : Launch} {e : Env} {R : Room} {s : State} {m : MethodId} {args : Array Value} {below : List Frame} {meth : Method} {c : Code} {d : Dd} {g : Gm} {o : Ms} {N : Nat} {r143 : Int32 → Int32 → Ms → Option (Ms)} {k187 : Ms → Option (Ms)} (C : CM p s m args meth c d g cX9_swapAll 3 none) (hRm : 0 ≤ R.frames ∧ 0 ≤ R.locals) (hr143 : ∀ (x1 : Int32) (x2 : Int32) (S : Ms) (H : Heap) (locs : List Loc) (ls : Array Slot), r143 x1 x2 S = some o → RM d g S H → va_S (AM g) s.heap H locs → lv_has ls 3 [(0, .ref g.1), (1, .int x1), (2, .int x2)] → W p l e R s m args below meth c H locs 0 0 (MQ below (QV d g o) args s 0 0 (AM g)) (F0 m 143 ls [])) (hk187 : ∀  (S : Ms) (H : Heap) (locs : List Loc) (ls : Array Slot), k187 S = some o → RM d g S H → va_S (AM g) s.heap H locs → lv_has ls 3 [(0, .ref g.1)] → W p l e R s m args below meth c H locs 0 0 (MQ below (QV d g o) args s 0 0 (AM g)) (F0 m 187 ls [])) (x1 : Int32) (x2 : Int32) (S : Ms) (H : Heap) (locs : List Loc) (ls : Array Slot) (hf : bM_swapAll_181 N r143 k187 x1 x2 S = some o) (hR : RM d g S H) (hS : va_S (AM g) s.heap H locs) (hl : lv_has ls 3 [(0, .ref g.1), (1, .int x1), (2, .int x2)]) : W p l e R s m args below meth c H locs 0 0 (MQ below (QV d g o) args s 0 0 (AM g)) (F0 m 181 ls []) := by
  obtain ⟨hx, hb, hml, hown, hts, hK, hg, hr, hlk⟩ := id C
  unfold bM_swapAll_181 at hf
  refine lv_iinc (v := x2 + 1) (lv' := [(2, .int (x2 + 1)), (0, .ref g.1), (1, .int x1)]) hx hb dX9_swapAll_181 hl (k := 2) rfl rfl (by decide) rfl (fun ls hl => ?_)
  refine lv_goto (tgt := 143) hx hb dX9_swapAll_184 (by decide) ?_
  exact hr143 _ _ _ _ _ _ hf hR hS (lv_sub hl [1, 2, 0] rfl)
def lM_swapAll_143 (N : Nat) (k187 : Ms → Option (Ms)) : Nat → Int32 → Int32 → Ms → Option (Ms)
  | 0, _, _, _ => none
  | n + 1, x1, x2, S => if 192 ≤ x2 then (k187 S) else (if x1 = 0 then (ck x2 192 (ck x2 192 ((bM_swapAll_181 N (lM_swapAll_143 N k187 n) k187) x1 x2 (pA S 103 (x2 : Int32).toNatClampNeg (mA S 56 (x2 : Int32).toNatClampNeg))))) else (ck x2 192 (ck x2 192 ((bM_swapAll_181 N (lM_swapAll_143 N k187 n) k187) x1 x2 (pA S 56 (x2 : Int32).toNatClampNeg (mA S 103 (x2 : Int32).toNatClampNeg))))))
set_option maxRecDepth 100000 in
set_option maxHeartbeats 4000000 in
theorem wlM_swapAll_143 {p : Program} {l : Launch} {e : Env} {R : Room} {s : State} {m : MethodId} {args : Array Value} {below : List Frame} {meth : Method} {c : Code} {d : Dd} {g : Gm} {o : Ms} {N : Nat} {k187 : Ms → Option (Ms)} (C : CM p s m args meth c d g cX9_swapAll 3 none) (hRm : 0 ≤ R.frames ∧ 0 ≤ R.locals) (hk187 : ∀  (S : Ms) (H : Heap) (locs : List Loc) (ls : Array Slot), k187 S = some o → RM d g S H → va_S (AM g) s.heap H locs → lv_has ls 3 [(0, .ref g.1)] → W p l e R s m args below meth c H locs 0 0 (MQ below (QV d g o) args s 0 0 (AM g)) (F0 m 187 ls [])) : ∀ (n : Nat) (x1 : Int32) (x2 : Int32) (S : Ms) (H : Heap) (locs : List Loc) (ls : Array Slot), lM_swapAll_143 N k187 n x1 x2 S = some o → RM d g S H → va_S (AM g) s.heap H locs → lv_has ls 3 [(0, .ref g.1), (1, .int x1), (2, .int x2)] → W p l e R s m args below meth c H locs 0 0 (MQ below (QV d g o) args s 0 0 (AM g)) (F0 m 143 ls []) := by
  obtain ⟨hx, hb, hml, hown, hts, hK, hg, hr, hlk⟩ := id C
  intro n
  induction n with
  | zero => intro x1 x2 S H locs ls hf; cases hf
  | succ n ih =>
    intro x1 x2 S H locs ls hf hR hS hl
    rw [lM_swapAll_143] at hf
    refine lv_iload_n hx hb dX9_swapAll_143 rfl (lv_at hl 2 rfl) ?_
    refine lv_sipush (v := 192) hx hb dX9_swapAll_144 (by decide) ?_
    refine lv_icmp_ge (tgt := 187) hx hb dX9_swapAll_147 (by decide) (fun hc => ?_) (fun hc => ?_)
    · rw [if_pos hc] at hf
      exact hk187 _ _ _ _ hf hR hS (lv_sub hl [0] rfl)
    · rw [if_neg hc] at hf
      refine lv_iload_n hx hb dX9_swapAll_150 rfl (lv_at hl 1 rfl) ?_
      refine lv_if_eq (tgt := 169) hx hb dX9_swapAll_151 (by decide) (fun hc => ?_) (fun hc => ?_)
      · rw [if_pos hc] at hf
        refine lv_aload_n hx hb dX9_swapAll_169 rfl (lv_at hl 0 rfl) ?_
        refine mr_getR C hR fl_230 (by decide) dX9_swapAll_170 ?_
        refine lv_iload_n hx hb dX9_swapAll_173 rfl (lv_at hl 2 rfl) ?_
        refine lv_aload_n hx hb dX9_swapAll_174 rfl (lv_at hl 0 rfl) ?_
        refine mr_getR C hR fl_152 (by decide) dX9_swapAll_175 ?_
        refine lv_iload_n hx hb dX9_swapAll_178 rfl (lv_at hl 2 rfl) ?_
        obtain ⟨hi, hf⟩ := ck_some hf
        refine mr_iald C hR (k := 56) rfl hi dX9_swapAll_179 ?_
        obtain ⟨hi, hf⟩ := ck_some hf
        refine mr_iast C hR hS (k := 103) rfl hi dX9_swapAll_180 (fun H locs hR hS => ?_)
        exact (wbM_swapAll_181 C hRm ih hk187) _ _ _ _ _ _ hf hR hS (lv_sub hl [0, 1, 2] rfl)
      · rw [if_neg hc] at hf
        refine lv_aload_n hx hb dX9_swapAll_154 rfl (lv_at hl 0 rfl) ?_
        refine mr_getR C hR fl_152 (by decide) dX9_swapAll_155 ?_
        refine lv_iload_n hx hb dX9_swapAll_158 rfl (lv_at hl 2 rfl) ?_
        refine lv_aload_n hx hb dX9_swapAll_159 rfl (lv_at hl 0 rfl) ?_
        refine mr_getR C hR fl_230 (by decide) dX9_swapAll_160 ?_
        refine lv_iload_n hx hb dX9_swapAll_163 rfl (lv_at hl 2 rfl) ?_
        obtain ⟨hi, hf⟩ := ck_some hf
        refine mr_iald C hR (k := 103) rfl hi dX9_swapAll_164 ?_
        obtain ⟨hi, hf⟩ := ck_some hf
        refine mr_iast C hR hS (k := 56) rfl hi dX9_swapAll_165 (fun H locs hR hS => ?_)
        refine lv_goto (tgt := 181) hx hb dX9_swapAll_166 (by decide) ?_
        exact (wbM_swapAll_181 C hRm ih hk187) _ _ _ _ _ _ hf hR hS (lv_sub hl [0, 1, 2] rfl)
def bM_swapAll_187 (N : Nat)  (S : Ms) : Option (Ms) := some S
set_option maxRecDepth 100000 in
set_option maxHeartbeats 4000000 in
theorem wbM_swapAll_187 {p : Program} {l : Launch} {e : Env} {R : Room} {s : State} {m : MethodId} {args : Array Value} {below : List Frame} {meth : Method} {c : Code} {d : Dd} {g : Gm} {o : Ms} {N : Nat} (C : CM p s m args meth c d g cX9_swapAll 3 none) (hRm : 0 ≤ R.frames ∧ 0 ≤ R.locals)  (S : Ms) (H : Heap) (locs : List Loc) (ls : Array Slot) (hf : bM_swapAll_187 N  S = some o) (hR : RM d g S H) (hS : va_S (AM g) s.heap H locs) (hl : lv_has ls 3 [(0, .ref g.1)]) : W p l e R s m args below meth c H locs 0 0 (MQ below (QV d g o) args s 0 0 (AM g)) (F0 m 187 ls []) := by
  obtain ⟨hx, hb, hml, hown, hts, hK, hg, hr, hlk⟩ := id C
  unfold bM_swapAll_187 at hf
  exact mr_vret C hR hS hf dX9_swapAll_187
def bM_swapAll_141 (N : Nat) (x1 : Int32) (S : Ms) : Option (Ms) := (lM_swapAll_143 N (bM_swapAll_187 N) N) x1 0 S
set_option maxRecDepth 100000 in
set_option maxHeartbeats 4000000 in
theorem wbM_swapAll_141 {p : Program} {l : Launch} {e : Env} {R : Room} {s : State} {m : MethodId} {args : Array Value} {below : List Frame} {meth : Method} {c : Code} {d : Dd} {g : Gm} {o : Ms} {N : Nat} (C : CM p s m args meth c d g cX9_swapAll 3 none) (hRm : 0 ≤ R.frames ∧ 0 ≤ R.locals) (x1 : Int32) (S : Ms) (H : Heap) (locs : List Loc) (ls : Array Slot) (hf : bM_swapAll_141 N x1 S = some o) (hR : RM d g S H) (hS : va_S (AM g) s.heap H locs) (hl : lv_has ls 3 [(0, .ref g.1), (1, .int x1)]) : W p l e R s m args below meth c H locs 0 0 (MQ below (QV d g o) args s 0 0 (AM g)) (F0 m 141 ls []) := by
  obtain ⟨hx, hb, hml, hown, hts, hK, hg, hr, hlk⟩ := id C
  unfold bM_swapAll_141 at hf
  refine lv_iconst (v := 0) hx hb dX9_swapAll_141 (by decide) ?_
  refine lv_istore_n (lv' := [(2, .int 0), (0, .ref g.1), (1, .int x1)]) hx hb dX9_swapAll_142 rfl hl (by decide) rfl (fun ls hl => ?_)
  exact (wlM_swapAll_143 C hRm (wbM_swapAll_187 C hRm) N) _ _ _ _ _ _ hf hR hS (lv_sub hl [1, 2, 0] rfl)
def fM_swapAll (N : Nat) (x1 : Int32) (S : Ms) : Option (Ms) := (lM_swapAll_2 N (bM_swapAll_141 N) N) x1 0 S
set_option maxRecDepth 100000 in
set_option maxHeartbeats 4000000 in
theorem wfM_swapAll {p : Program} {l : Launch} {e : Env} {R : Room} {s : State} {m : MethodId} {args : Array Value} {below : List Frame} {meth : Method} {c : Code} {d : Dd} {g : Gm} {o : Ms} {N : Nat} (C : CM p s m args meth c d g cX9_swapAll 3 none) (hRm : 0 ≤ R.frames ∧ 0 ≤ R.locals) (x1 : Int32) (S : Ms) (H : Heap) (locs : List Loc) (ls : Array Slot) (hf : fM_swapAll N x1 S = some o) (hR : RM d g S H) (hS : va_S (AM g) s.heap H locs) (hl : lv_has ls 3 [(0, .ref g.1), (1, .int x1)]) : W p l e R s m args below meth c H locs 0 0 (MQ below (QV d g o) args s 0 0 (AM g)) (F0 m 0 ls []) := by
  obtain ⟨hx, hb, hml, hown, hts, hK, hg, hr, hlk⟩ := id C
  unfold fM_swapAll at hf
  refine lv_iconst (v := 0) hx hb dX9_swapAll_0 (by decide) ?_
  refine lv_istore_n (lv' := [(2, .int 0), (0, .ref g.1), (1, .int x1)]) hx hb dX9_swapAll_1 rfl hl (by decide) rfl (fun ls hl => ?_)
  exact (wlM_swapAll_2 C hRm (wbM_swapAll_141 C hRm) N) _ _ _ _ _ _ hf hR hS (lv_sub hl [1, 2, 0] rfl)
theorem MM_swapAll (l : Launch) (d : Dd) (g : Gm) (N : Nat) (x1 : Int32) (S : Ms) (o : Ms) (hf : fM_swapAll N x1 S = some o) : MtV l d g yX9_swapAll cX9_swapAll 3 0 0 [.ref g.1, .int x1] S o :=
  mr_metV (by decide) rfl (Nat.le_of_ble_eq_true rfl) (fun p e s m args below meth c ls C hR hl => wfM_swapAll C ⟨Nat.le_refl _, Nat.le_refl _⟩ x1 S s.heap [] ls hf hR va_S.rf hl)
def bM_foresee_21 (N : Nat)  (S : Ms) : Option (Int32 × Ms) := some ((-1), S)
set_option maxRecDepth 100000 in
set_option maxHeartbeats 4000000 in
theorem wbM_foresee_21 {p : Program} {l : Launch} {e : Env} {R : Room} {s : State} {m : MethodId} {args : Array Value} {below : List Frame} {meth : Method} {c : Code} {d : Dd} {g : Gm} {o : Int32 × Ms} {N : Nat} (C : CM p s m args meth c d g cX9_foresee 8 (some .int)) (hRm : 604 ≤ R.frames ∧ 36097 ≤ R.locals)  (S : Ms) (H : Heap) (locs : List Loc) (ls : Array Slot) (hf : bM_foresee_21 N  S = some o) (hR : RM d g S H) (hS : va_S (AM g) s.heap H locs) (hl : lv_has ls 8 [(0, .ref g.1)]) : W p l e R s m args below meth c H locs 0 0 (MQ below (QI d g o) args s 0 0 (AM g)) (F0 m 21 ls []) := by
  obtain ⟨hx, hb, hml, hown, hts, hK, hg, hr, hlk⟩ := id C
  unfold bM_foresee_21 at hf
  refine lv_iconst (v := (-1)) hx hb dX9_foresee_21 (by decide) ?_
  exact mr_iret C hR hS hf dX9_foresee_22
def lM_foresee_61 (N : Nat) (k102 : Int32 → Int32 → Int32 → Ms → Option (Int32 × Ms)) : Nat → Int32 → Int32 → Int32 → Int32 → Ms → Option (Int32 × Ms)
  | 0, _, _, _, _, _ => none
  | n + 1, x3, x4, x5, x7, S => if (mF S 75) ≤ x7 then (k102 x3 x4 x5 S) else (ck x7 800 (ck (mF S 101) 24 (lM_foresee_61 N k102 n x3 x4 x5 (x7 + 1) (pF (pA S 100 (mF S 101 : Int32).toNatClampNeg (mA S 72 (x7 : Int32).toNatClampNeg)) 101 ((mF (pA S 100 (mF S 101 : Int32).toNatClampNeg (mA S 72 (x7 : Int32).toNatClampNeg)) 101) + 1)))))
set_option maxRecDepth 100000 in
set_option maxHeartbeats 4000000 in
theorem wlM_foresee_61 {p : Program} {l : Launch} {e : Env} {R : Room} {s : State} {m : MethodId} {args : Array Value} {below : List Frame} {meth : Method} {c : Code} {d : Dd} {g : Gm} {o : Int32 × Ms} {N : Nat} {k102 : Int32 → Int32 → Int32 → Ms → Option (Int32 × Ms)} (C : CM p s m args meth c d g cX9_foresee 8 (some .int)) (hRm : 604 ≤ R.frames ∧ 36097 ≤ R.locals) (hk102 : ∀ (x3 : Int32) (x4 : Int32) (x5 : Int32) (S : Ms) (H : Heap) (locs : List Loc) (ls : Array Slot), k102 x3 x4 x5 S = some o → RM d g S H → va_S (AM g) s.heap H locs → lv_has ls 8 [(0, .ref g.1), (3, .int x3), (4, .int x4), (5, .int x5)] → W p l e R s m args below meth c H locs 0 0 (MQ below (QI d g o) args s 0 0 (AM g)) (F0 m 102 ls [])) : ∀ (n : Nat) (x3 : Int32) (x4 : Int32) (x5 : Int32) (x7 : Int32) (S : Ms) (H : Heap) (locs : List Loc) (ls : Array Slot), lM_foresee_61 N k102 n x3 x4 x5 x7 S = some o → RM d g S H → va_S (AM g) s.heap H locs → lv_has ls 8 [(0, .ref g.1), (3, .int x3), (4, .int x4), (5, .int x5), (7, .int x7)] → W p l e R s m args below meth c H locs 0 0 (MQ below (QI d g o) args s 0 0 (AM g)) (F0 m 61 ls []) := by
  obtain ⟨hx, hb, hml, hown, hts, hK, hg, hr, hlk⟩ := id C
  intro n
  induction n with
  | zero => intro x3 x4 x5 x7 S H locs ls hf; cases hf
  | succ n ih =>
    intro x3 x4 x5 x7 S H locs ls hf hR hS hl
    rw [lM_foresee_61] at hf
    refine lv_iload hx hb dX9_foresee_61 (lv_at hl 4 rfl) ?_
    refine lv_aload_n hx hb dX9_foresee_63 rfl (lv_at hl 0 rfl) ?_
    refine mr_getI C hR fl_470 rfl dX9_foresee_64 ?_
    refine lv_icmp_ge (tgt := 102) hx hb dX9_foresee_67 (by decide) (fun hc => ?_) (fun hc => ?_)
    · rw [if_pos hc] at hf
      exact hk102 _ _ _ _ _ _ _ hf hR hS (lv_sub hl [0, 1, 2, 3] rfl)
    · rw [if_neg hc] at hf
      refine lv_aload_n hx hb dX9_foresee_70 rfl (lv_at hl 0 rfl) ?_
      refine mr_getR C hR fl_224 (by decide) dX9_foresee_71 ?_
      refine lv_aload_n hx hb dX9_foresee_74 rfl (lv_at hl 0 rfl) ?_
      refine mr_getI C hR fl_488 rfl dX9_foresee_75 ?_
      refine lv_aload_n hx hb dX9_foresee_78 rfl (lv_at hl 0 rfl) ?_
      refine mr_getR C hR fl_179 (by decide) dX9_foresee_79 ?_
      refine lv_iload hx hb dX9_foresee_82 (lv_at hl 4 rfl) ?_
      obtain ⟨hi, hf⟩ := ck_some hf
      refine mr_iald C hR (k := 72) rfl hi dX9_foresee_84 ?_
      obtain ⟨hi, hf⟩ := ck_some hf
      refine mr_iast C hR hS (k := 100) rfl hi dX9_foresee_85 (fun H locs hR hS => ?_)
      refine lv_aload_n hx hb dX9_foresee_86 rfl (lv_at hl 0 rfl) ?_
      refine lv_dup hx hb dX9_foresee_87 rfl ?_
      refine mr_getI C hR fl_488 rfl dX9_foresee_88 ?_
      refine lv_iconst (v := 1) hx hb dX9_foresee_91 (by decide) ?_
      refine lv_iadd hx hb dX9_foresee_92 ?_
      refine mr_putI C hR hS fl_488 ⟨rfl, rfl, rfl⟩ dX9_foresee_93 (fun H locs hR hS => ?_)
      refine lv_iinc (v := x7 + 1) (lv' := [(7, .int (x7 + 1)), (0, .ref g.1), (3, .int x3), (4, .int x4), (5, .int x5)]) hx hb dX9_foresee_96 hl (k := 4) rfl rfl (by decide) rfl (fun ls hl => ?_)
      refine lv_goto (tgt := 61) hx hb dX9_foresee_99 (by decide) ?_
      exact ih _ _ _ _ _ _ _ _ hf hR hS (lv_sub hl [1, 2, 3, 4, 0] rfl)
def bM_foresee_102 (N : Nat) (x3 : Int32) (x4 : Int32) (x5 : Int32) (S : Ms) : Option (Int32 × Ms) := (fM_swapAll N 1 S).bind fun o104 => some (mF (pF (pF (pF o104 75 x3) 79 x4) 84 x5) 101, pF (pF (pF o104 75 x3) 79 x4) 84 x5)
set_option maxRecDepth 100000 in
set_option maxHeartbeats 4000000 in
theorem wbM_foresee_102 {p : Program} {l : Launch} {e : Env} {R : Room} {s : State} {m : MethodId} {args : Array Value} {below : List Frame} {meth : Method} {c : Code} {d : Dd} {g : Gm} {o : Int32 × Ms} {N : Nat} (C : CM p s m args meth c d g cX9_foresee 8 (some .int)) (hRm : 604 ≤ R.frames ∧ 36097 ≤ R.locals) (x3 : Int32) (x4 : Int32) (x5 : Int32) (S : Ms) (H : Heap) (locs : List Loc) (ls : Array Slot) (hf : bM_foresee_102 N x3 x4 x5 S = some o) (hR : RM d g S H) (hS : va_S (AM g) s.heap H locs) (hl : lv_has ls 8 [(0, .ref g.1), (3, .int x3), (4, .int x4), (5, .int x5)]) : W p l e R s m args below meth c H locs 0 0 (MQ below (QI d g o) args s 0 0 (AM g)) (F0 m 102 ls []) := by
  obtain ⟨hx, hb, hml, hown, hts, hK, hg, hr, hlk⟩ := id C
  unfold bM_foresee_102 at hf
  refine lv_aload_n hx hb dX9_foresee_102 rfl (lv_at hl 0 rfl) ?_
  refine lv_iconst (v := 1) hx hb dX9_foresee_103 (by decide) ?_
  obtain ⟨o104, ho104, hf⟩ := bnd_some hf
  refine mr_callVv C hR hS (As := [.int 1]) (rest := []) (MM_swapAll l d g N 1 S o104 ho104) wv_582 ⟨by omega, by omega⟩ rfl rfl (Nat.le_of_ble_eq_true rfl) hl.1 dX9_foresee_104 ⟨Nat.zero_le _, Nat.zero_le _⟩ (fun H locs hR hS => ?_)
  refine lv_aload_n hx hb dX9_foresee_107 rfl (lv_at hl 0 rfl) ?_
  refine lv_iload_n hx hb dX9_foresee_108 rfl (lv_at hl 1 rfl) ?_
  refine mr_putI C hR hS fl_470 ⟨rfl, rfl, rfl⟩ dX9_foresee_109 (fun H locs hR hS => ?_)
  refine lv_aload_n hx hb dX9_foresee_112 rfl (lv_at hl 0 rfl) ?_
  refine lv_iload hx hb dX9_foresee_113 (lv_at hl 2 rfl) ?_
  refine mr_putI C hR hS fl_473 ⟨rfl, rfl, rfl⟩ dX9_foresee_115 (fun H locs hR hS => ?_)
  refine lv_aload_n hx hb dX9_foresee_118 rfl (lv_at hl 0 rfl) ?_
  refine lv_iload hx hb dX9_foresee_119 (lv_at hl 3 rfl) ?_
  refine mr_putI C hR hS fl_476 ⟨rfl, rfl, rfl⟩ dX9_foresee_121 (fun H locs hR hS => ?_)
  refine lv_aload_n hx hb dX9_foresee_124 rfl (lv_at hl 0 rfl) ?_
  refine mr_getI C hR fl_488 rfl dX9_foresee_125 ?_
  exact mr_iret C hR hS hf dX9_foresee_128
def fM_foresee (N : Nat) (x1 : Int32) (x2 : Int32) (S : Ms) : Option (Int32 × Ms) := (fM_isDemand N x1 x2 (pF S 0 0)).bind fun o8 => if o8.1 = 0 then ((bM_foresee_21 N) o8.2) else (if (mF o8.2 64) = 0 then ((fM_swapAll N 0 o8.2).bind fun o42 => (fM_runs N x1 x2 o42).bind fun o48 => (lM_foresee_61 N (bM_foresee_102 N) N) (mF o8.2 75) (mF o8.2 79) (mF o8.2 84) (mF o8.2 75) (pF o48.2 101 0)) else ((bM_foresee_21 N) o8.2))
set_option maxRecDepth 100000 in
set_option maxHeartbeats 4000000 in
theorem wfM_foresee {p : Program} {l : Launch} {e : Env} {R : Room} {s : State} {m : MethodId} {args : Array Value} {below : List Frame} {meth : Method} {c : Code} {d : Dd} {g : Gm} {o : Int32 × Ms} {N : Nat} (C : CM p s m args meth c d g cX9_foresee 8 (some .int)) (hRm : 604 ≤ R.frames ∧ 36097 ≤ R.locals) (x1 : Int32) (x2 : Int32) (S : Ms) (H : Heap) (locs : List Loc) (ls : Array Slot) (hf : fM_foresee N x1 x2 S = some o) (hR : RM d g S H) (hS : va_S (AM g) s.heap H locs) (hl : lv_has ls 8 [(0, .ref g.1), (1, .int x1), (2, .int x2)]) : W p l e R s m args below meth c H locs 0 0 (MQ below (QI d g o) args s 0 0 (AM g)) (F0 m 0 ls []) := by
  obtain ⟨hx, hb, hml, hown, hts, hK, hg, hr, hlk⟩ := id C
  unfold fM_foresee at hf
  refine lv_aload_n hx hb dX9_foresee_0 rfl (lv_at hl 0 rfl) ?_
  refine lv_iconst (v := 0) hx hb dX9_foresee_1 (by decide) ?_
  refine mr_putI C hR hS fl_1 ⟨rfl, rfl, rfl⟩ dX9_foresee_2 (fun H locs hR hS => ?_)
  refine lv_aload_n hx hb dX9_foresee_5 rfl (lv_at hl 0 rfl) ?_
  refine lv_iload_n hx hb dX9_foresee_6 rfl (lv_at hl 1 rfl) ?_
  refine lv_iload_n hx hb dX9_foresee_7 rfl (lv_at hl 2 rfl) ?_
  obtain ⟨o8, ho8, hf⟩ := bnd_some hf
  refine mr_callIv C hR hS (As := [.int x1, .int x2]) (rest := []) (MM_isDemand l d g N x1 x2 (pF S 0 0) o8 ho8) wv_566 ⟨by omega, by omega⟩ rfl rfl (Nat.le_of_ble_eq_true rfl) hl.1 dX9_foresee_8 ⟨Nat.zero_le _, Nat.zero_le _⟩ (fun H locs hR hS => ?_)
  refine lv_if_eq (tgt := 21) hx hb dX9_foresee_11 (by decide) (fun hc => ?_) (fun hc => ?_)
  · rw [if_pos hc] at hf
    exact (wbM_foresee_21 C hRm) _ _ _ _ hf hR hS (lv_sub hl [0] rfl)
  · rw [if_neg hc] at hf
    refine lv_aload_n hx hb dX9_foresee_14 rfl (lv_at hl 0 rfl) ?_
    refine mr_getI C hR fl_460 rfl dX9_foresee_15 ?_
    refine lv_if_eq (tgt := 23) hx hb dX9_foresee_18 (by decide) (fun hc => ?_) (fun hc => ?_)
    · rw [if_pos hc] at hf
      refine lv_aload_n hx hb dX9_foresee_23 rfl (lv_at hl 0 rfl) ?_
      refine mr_getI C hR fl_470 rfl dX9_foresee_24 ?_
      refine lv_istore_n (lv' := [(3, .int (mF o8.2 75)), (0, .ref g.1), (1, .int x1), (2, .int x2)]) hx hb dX9_foresee_27 rfl hl (by decide) rfl (fun ls hl => ?_)
      refine lv_aload_n hx hb dX9_foresee_28 rfl (lv_at hl 1 rfl) ?_
      refine mr_getI C hR fl_473 rfl dX9_foresee_29 ?_
      refine lv_istore (lv' := [(4, .int (mF o8.2 79)), (3, .int (mF o8.2 75)), (0, .ref g.1), (1, .int x1), (2, .int x2)]) hx hb dX9_foresee_32 hl (by decide) rfl (fun ls hl => ?_)
      refine lv_aload_n hx hb dX9_foresee_34 rfl (lv_at hl 2 rfl) ?_
      refine mr_getI C hR fl_476 rfl dX9_foresee_35 ?_
      refine lv_istore (lv' := [(5, .int (mF o8.2 84)), (4, .int (mF o8.2 79)), (3, .int (mF o8.2 75)), (0, .ref g.1), (1, .int x1), (2, .int x2)]) hx hb dX9_foresee_38 hl (by decide) rfl (fun ls hl => ?_)
      refine lv_aload_n hx hb dX9_foresee_40 rfl (lv_at hl 3 rfl) ?_
      refine lv_iconst (v := 0) hx hb dX9_foresee_41 (by decide) ?_
      obtain ⟨o42, ho42, hf⟩ := bnd_some hf
      refine mr_callVv C hR hS (As := [.int 0]) (rest := []) (MM_swapAll l d g N 0 o8.2 o42 ho42) wv_582 ⟨by omega, by omega⟩ rfl rfl (Nat.le_of_ble_eq_true rfl) hl.1 dX9_foresee_42 ⟨Nat.zero_le _, Nat.zero_le _⟩ (fun H locs hR hS => ?_)
      refine lv_aload_n hx hb dX9_foresee_45 rfl (lv_at hl 3 rfl) ?_
      refine lv_iload_n hx hb dX9_foresee_46 rfl (lv_at hl 4 rfl) ?_
      refine lv_iload_n hx hb dX9_foresee_47 rfl (lv_at hl 5 rfl) ?_
      obtain ⟨o48, ho48, hf⟩ := bnd_some hf
      refine mr_callIv C hR hS (As := [.int x1, .int x2]) (rest := []) (MM_runs l d g N x1 x2 o42 o48 ho48) wv_570 ⟨by omega, by omega⟩ rfl rfl (Nat.le_of_ble_eq_true rfl) hl.1 dX9_foresee_48 ⟨Nat.zero_le _, Nat.zero_le _⟩ (fun H locs hR hS => ?_)
      refine lv_istore (lv' := [(6, .int o48.1), (5, .int (mF o8.2 84)), (4, .int (mF o8.2 79)), (3, .int (mF o8.2 75)), (0, .ref g.1), (1, .int x1), (2, .int x2)]) hx hb dX9_foresee_51 hl (by decide) rfl (fun ls hl => ?_)
      refine lv_aload_n hx hb dX9_foresee_53 rfl (lv_at hl 4 rfl) ?_
      refine lv_iconst (v := 0) hx hb dX9_foresee_54 (by decide) ?_
      refine mr_putI C hR hS fl_488 ⟨rfl, rfl, rfl⟩ dX9_foresee_55 (fun H locs hR hS => ?_)
      refine lv_iload_n hx hb dX9_foresee_58 rfl (lv_at hl 3 rfl) ?_
      refine lv_istore (lv' := [(7, .int (mF o8.2 75)), (6, .int o48.1), (5, .int (mF o8.2 84)), (4, .int (mF o8.2 79)), (3, .int (mF o8.2 75)), (0, .ref g.1), (1, .int x1), (2, .int x2)]) hx hb dX9_foresee_59 hl (by decide) rfl (fun ls hl => ?_)
      exact (wlM_foresee_61 C hRm (wbM_foresee_102 C hRm) N) _ _ _ _ _ _ _ _ hf hR hS (lv_sub hl [5, 4, 3, 2, 0] rfl)
    · rw [if_neg hc] at hf
      exact (wbM_foresee_21 C hRm) _ _ _ _ hf hR hS (lv_sub hl [0] rfl)
theorem MM_foresee (l : Launch) (d : Dd) (g : Gm) (N : Nat) (x1 : Int32) (x2 : Int32) (S : Ms) (o : Int32 × Ms) (hf : fM_foresee N x1 x2 S = some o) : MtI l d g yX9_foresee cX9_foresee 8 (some .int) 604 36097 [.ref g.1, .int x1, .int x2] S o :=
  mr_metI (by decide) rfl (Nat.le_of_ble_eq_true rfl) (fun p e s m args below meth c ls C hR hl => wfM_foresee C ⟨Nat.le_refl _, Nat.le_refl _⟩ x1 x2 S s.heap [] ls hf hR va_S.rf hl)
def bM_foreseen_27 (N : Nat) (s0 : Int32) (S : Ms) : Option (Int32 × Ms) := some (s0, S)
set_option maxRecDepth 100000 in
set_option maxHeartbeats 4000000 in
theorem wbM_foreseen_27 {p : Program} {l : Launch} {e : Env} {R : Room} {s : State} {m : MethodId} {args : Array Value} {below : List Frame} {meth : Method} {c : Code} {d : Dd} {g : Gm} {o : Int32 × Ms} {N : Nat} (C : CM p s m args meth c d g cX9_foreseen 2 (some .int)) (hRm : 0 ≤ R.frames ∧ 0 ≤ R.locals) (s0 : Int32) (S : Ms) (H : Heap) (locs : List Loc) (ls : Array Slot) (hf : bM_foreseen_27 N s0 S = some o) (hR : RM d g S H) (hS : va_S (AM g) s.heap H locs) (hl : lv_has ls 2 [(0, .ref g.1)]) : W p l e R s m args below meth c H locs 0 0 (MQ below (QI d g o) args s 0 0 (AM g)) (F0 m 27 ls [.int s0]) := by
  obtain ⟨hx, hb, hml, hown, hts, hK, hg, hr, hlk⟩ := id C
  unfold bM_foreseen_27 at hf
  exact mr_iret C hR hS hf dX9_foreseen_27
def bM_foreseen_17 (N : Nat)  (S : Ms) : Option (Int32 × Ms) := (bM_foreseen_27 N) (-1) S
set_option maxRecDepth 100000 in
set_option maxHeartbeats 4000000 in
theorem wbM_foreseen_17 {p : Program} {l : Launch} {e : Env} {R : Room} {s : State} {m : MethodId} {args : Array Value} {below : List Frame} {meth : Method} {c : Code} {d : Dd} {g : Gm} {o : Int32 × Ms} {N : Nat} (C : CM p s m args meth c d g cX9_foreseen 2 (some .int)) (hRm : 0 ≤ R.frames ∧ 0 ≤ R.locals)  (S : Ms) (H : Heap) (locs : List Loc) (ls : Array Slot) (hf : bM_foreseen_17 N  S = some o) (hR : RM d g S H) (hS : va_S (AM g) s.heap H locs) (hl : lv_has ls 2 [(0, .ref g.1)]) : W p l e R s m args below meth c H locs 0 0 (MQ below (QI d g o) args s 0 0 (AM g)) (F0 m 17 ls []) := by
  obtain ⟨hx, hb, hml, hown, hts, hK, hg, hr, hlk⟩ := id C
  unfold bM_foreseen_17 at hf
  refine lv_iconst (v := (-1)) hx hb dX9_foreseen_17 (by decide) ?_
  refine lv_goto (tgt := 27) hx hb dX9_foreseen_18 (by decide) ?_
  exact (wbM_foreseen_27 C hRm) _ _ _ _ _ hf hR hS (lv_sub hl [0] rfl)
def fM_foreseen (N : Nat) (x1 : Int32) (S : Ms) : Option (Int32 × Ms) := if x1 < 0 then ((bM_foreseen_17 N) (pF S 0 0)) else (if x1 < (mF (pF S 0 0) 101) then (ck x1 24 ((bM_foreseen_27 N) (mA (pF S 0 0) 100 (x1 : Int32).toNatClampNeg) (pF S 0 0))) else ((bM_foreseen_17 N) (pF S 0 0)))
set_option maxRecDepth 100000 in
set_option maxHeartbeats 4000000 in
theorem wfM_foreseen {p : Program} {l : Launch} {e : Env} {R : Room} {s : State} {m : MethodId} {args : Array Value} {below : List Frame} {meth : Method} {c : Code} {d : Dd} {g : Gm} {o : Int32 × Ms} {N : Nat} (C : CM p s m args meth c d g cX9_foreseen 2 (some .int)) (hRm : 0 ≤ R.frames ∧ 0 ≤ R.locals) (x1 : Int32) (S : Ms) (H : Heap) (locs : List Loc) (ls : Array Slot) (hf : fM_foreseen N x1 S = some o) (hR : RM d g S H) (hS : va_S (AM g) s.heap H locs) (hl : lv_has ls 2 [(0, .ref g.1), (1, .int x1)]) : W p l e R s m args below meth c H locs 0 0 (MQ below (QI d g o) args s 0 0 (AM g)) (F0 m 0 ls []) := by
  obtain ⟨hx, hb, hml, hown, hts, hK, hg, hr, hlk⟩ := id C
  unfold fM_foreseen at hf
  refine lv_aload_n hx hb dX9_foreseen_0 rfl (lv_at hl 0 rfl) ?_
  refine lv_iconst (v := 0) hx hb dX9_foreseen_1 (by decide) ?_
  refine mr_putI C hR hS fl_1 ⟨rfl, rfl, rfl⟩ dX9_foreseen_2 (fun H locs hR hS => ?_)
  refine lv_iload_n hx hb dX9_foreseen_5 rfl (lv_at hl 1 rfl) ?_
  refine lv_if_lt (tgt := 17) hx hb dX9_foreseen_6 (by decide) (fun hc => ?_) (fun hc => ?_)
  · rw [if_pos hc] at hf
    exact (wbM_foreseen_17 C hRm) _ _ _ _ hf hR hS (lv_sub hl [0] rfl)
  · rw [if_neg hc] at hf
    refine lv_iload_n hx hb dX9_foreseen_9 rfl (lv_at hl 1 rfl) ?_
    refine lv_aload_n hx hb dX9_foreseen_10 rfl (lv_at hl 0 rfl) ?_
    refine mr_getI C hR fl_488 rfl dX9_foreseen_11 ?_
    refine lv_icmp_lt (tgt := 21) hx hb dX9_foreseen_14 (by decide) (fun hc => ?_) (fun hc => ?_)
    · rw [if_pos hc] at hf
      refine lv_aload_n hx hb dX9_foreseen_21 rfl (lv_at hl 0 rfl) ?_
      refine mr_getR C hR fl_224 (by decide) dX9_foreseen_22 ?_
      refine lv_iload_n hx hb dX9_foreseen_25 rfl (lv_at hl 1 rfl) ?_
      obtain ⟨hi, hf⟩ := ck_some hf
      refine mr_iald C hR (k := 100) rfl hi dX9_foreseen_26 ?_
      exact (wbM_foreseen_27 C hRm) _ _ _ _ _ hf hR hS (lv_sub hl [0] rfl)
    · rw [if_neg hc] at hf
      exact (wbM_foreseen_17 C hRm) _ _ _ _ hf hR hS (lv_sub hl [0] rfl)
theorem MM_foreseen (l : Launch) (d : Dd) (g : Gm) (N : Nat) (x1 : Int32) (S : Ms) (o : Int32 × Ms) (hf : fM_foreseen N x1 S = some o) : MtI l d g yX9_foreseen cX9_foreseen 2 (some .int) 0 0 [.ref g.1, .int x1] S o :=
  mr_metI (by decide) rfl (Nat.le_of_ble_eq_true rfl) (fun p e s m args below meth c ls C hR hl => wfM_foreseen C ⟨Nat.le_refl _, Nat.le_refl _⟩ x1 S s.heap [] ls hf hR va_S.rf hl)
def bM_named_28 (N : Nat)  (S : Ms) : Option (Int32 × Ms) := some ((-1), S)
set_option maxRecDepth 100000 in
set_option maxHeartbeats 4000000 in
theorem wbM_named_28 {p : Program} {l : Launch} {e : Env} {R : Room} {s : State} {m : MethodId} {args : Array Value} {below : List Frame} {meth : Method} {c : Code} {d : Dd} {g : Gm} {o : Int32 × Ms} {N : Nat} (C : CM p s m args meth c d g cX9_named 2 (some .int)) (hRm : 3 ≤ R.frames ∧ 66 ≤ R.locals)  (S : Ms) (H : Heap) (locs : List Loc) (ls : Array Slot) (hf : bM_named_28 N  S = some o) (hR : RM d g S H) (hS : va_S (AM g) s.heap H locs) (hl : lv_has ls 2 [(0, .ref g.1)]) : W p l e R s m args below meth c H locs 0 0 (MQ below (QI d g o) args s 0 0 (AM g)) (F0 m 28 ls []) := by
  obtain ⟨hx, hb, hml, hown, hts, hK, hg, hr, hlk⟩ := id C
  unfold bM_named_28 at hf
  refine lv_iconst (v := (-1)) hx hb dX9_named_28 (by decide) ?_
  exact mr_iret C hR hS hf dX9_named_29
def bM_named_144 (N : Nat) (s0 : Int32) (S : Ms) : Option (Int32 × Ms) := some (s0, S)
set_option maxRecDepth 100000 in
set_option maxHeartbeats 4000000 in
theorem wbM_named_144 {p : Program} {l : Launch} {e : Env} {R : Room} {s : State} {m : MethodId} {args : Array Value} {below : List Frame} {meth : Method} {c : Code} {d : Dd} {g : Gm} {o : Int32 × Ms} {N : Nat} (C : CM p s m args meth c d g cX9_named 2 (some .int)) (hRm : 3 ≤ R.frames ∧ 66 ≤ R.locals) (s0 : Int32) (S : Ms) (H : Heap) (locs : List Loc) (ls : Array Slot) (hf : bM_named_144 N s0 S = some o) (hR : RM d g S H) (hS : va_S (AM g) s.heap H locs) (hl : lv_has ls 2 [(0, .ref g.1)]) : W p l e R s m args below meth c H locs 0 0 (MQ below (QI d g o) args s 0 0 (AM g)) (F0 m 144 ls [.int s0]) := by
  obtain ⟨hx, hb, hml, hown, hts, hK, hg, hr, hlk⟩ := id C
  unfold bM_named_144 at hf
  exact mr_iret C hR hS hf dX9_named_144
def fM_named (N : Nat) (x1 : Int32) (S : Ms) : Option (Int32 × Ms) := (fM_cutAll N (pF S 0 0)).bind fun o6 => ck 0 4002 (if (mA o6 4 (0 : Int32).toNatClampNeg) = 1 then (ck 1 4002 (if (mA o6 4 (1 : Int32).toNatClampNeg) = 0 then (if x1 = 0 then (ck (mF o6 11) 2 (ck 0 4002 ((fM_find N 14 (24 * (mF o6 11)) (mA o6 13 (mF o6 11 : Int32).toNatClampNeg) (mL o6 6 (0 : Int32).toNatClampNeg) o6).bind fun o61 => (bM_named_144 N) o61.1 o61.2))) else (if x1 = 1 then (ck (mF o6 11) 2 (ck 0 4002 ((fM_find N 19 (24 * (mF o6 11)) (mA o6 18 (mF o6 11 : Int32).toNatClampNeg) (mL o6 6 (0 : Int32).toNatClampNeg) o6).bind fun o99 => (bM_named_144 N) o99.1 o99.2))) else (if x1 = 2 then (ck (mF o6 11) 2 (ck 0 4002 ((fM_find N 36 (20 * (mF o6 11)) (mA o6 35 (mF o6 11 : Int32).toNatClampNeg) (mL o6 6 (0 : Int32).toNatClampNeg) o6).bind fun o137 => (bM_named_144 N) o137.1 o137.2))) else ((bM_named_144 N) (-1) o6)))) else ((bM_named_28 N) o6))) else ((bM_named_28 N) o6))
set_option maxRecDepth 100000 in
set_option maxHeartbeats 4000000 in
theorem wfM_named {p : Program} {l : Launch} {e : Env} {R : Room} {s : State} {m : MethodId} {args : Array Value} {below : List Frame} {meth : Method} {c : Code} {d : Dd} {g : Gm} {o : Int32 × Ms} {N : Nat} (C : CM p s m args meth c d g cX9_named 2 (some .int)) (hRm : 3 ≤ R.frames ∧ 66 ≤ R.locals) (x1 : Int32) (S : Ms) (H : Heap) (locs : List Loc) (ls : Array Slot) (hf : fM_named N x1 S = some o) (hR : RM d g S H) (hS : va_S (AM g) s.heap H locs) (hl : lv_has ls 2 [(0, .ref g.1), (1, .int x1)]) : W p l e R s m args below meth c H locs 0 0 (MQ below (QI d g o) args s 0 0 (AM g)) (F0 m 0 ls []) := by
  obtain ⟨hx, hb, hml, hown, hts, hK, hg, hr, hlk⟩ := id C
  unfold fM_named at hf
  refine lv_aload_n hx hb dX9_named_0 rfl (lv_at hl 0 rfl) ?_
  refine lv_iconst (v := 0) hx hb dX9_named_1 (by decide) ?_
  refine mr_putI C hR hS fl_1 ⟨rfl, rfl, rfl⟩ dX9_named_2 (fun H locs hR hS => ?_)
  refine lv_aload_n hx hb dX9_named_5 rfl (lv_at hl 0 rfl) ?_
  obtain ⟨o6, ho6, hf⟩ := bnd_some hf
  refine mr_callVv C hR hS (As := []) (rest := []) (MM_cutAll l d g N  (pF S 0 0) o6 ho6) wv_304 ⟨by omega, by omega⟩ rfl rfl (Nat.le_of_ble_eq_true rfl) hl.1 dX9_named_6 ⟨Nat.zero_le _, Nat.zero_le _⟩ (fun H locs hR hS => ?_)
  refine lv_aload_n hx hb dX9_named_9 rfl (lv_at hl 0 rfl) ?_
  refine mr_getR C hR fl_24 (by decide) dX9_named_10 ?_
  refine lv_iconst (v := 0) hx hb dX9_named_13 (by decide) ?_
  obtain ⟨hi, hf⟩ := ck_some hf
  refine mr_iald C hR (k := 4) rfl hi dX9_named_14 ?_
  refine lv_iconst (v := 1) hx hb dX9_named_15 (by decide) ?_
  refine lv_icmp_ne (tgt := 28) hx hb dX9_named_16 (by decide) (fun hc => ?_) (fun hc => ?_)
  · rw [if_neg hc] at hf
    exact (wbM_named_28 C hRm) _ _ _ _ hf hR hS (lv_sub hl [0] rfl)
  · rw [if_pos hc] at hf
    refine lv_aload_n hx hb dX9_named_19 rfl (lv_at hl 0 rfl) ?_
    refine mr_getR C hR fl_24 (by decide) dX9_named_20 ?_
    refine lv_iconst (v := 1) hx hb dX9_named_23 (by decide) ?_
    obtain ⟨hi, hf⟩ := ck_some hf
    refine mr_iald C hR (k := 4) rfl hi dX9_named_24 ?_
    refine lv_if_eq (tgt := 30) hx hb dX9_named_25 (by decide) (fun hc => ?_) (fun hc => ?_)
    · rw [if_pos hc] at hf
      refine lv_iload_n hx hb dX9_named_30 rfl (lv_at hl 1 rfl) ?_
      refine lv_if_ne (tgt := 67) hx hb dX9_named_31 (by decide) (fun hc => ?_) (fun hc => ?_)
      · rw [if_neg hc] at hf
        refine lv_iload_n hx hb dX9_named_67 rfl (lv_at hl 1 rfl) ?_
        refine lv_iconst (v := 1) hx hb dX9_named_68 (by decide) ?_
        refine lv_icmp_ne (tgt := 105) hx hb dX9_named_69 (by decide) (fun hc => ?_) (fun hc => ?_)
        · rw [if_neg hc] at hf
          refine lv_iload_n hx hb dX9_named_105 rfl (lv_at hl 1 rfl) ?_
          refine lv_iconst (v := 2) hx hb dX9_named_106 (by decide) ?_
          refine lv_icmp_ne (tgt := 143) hx hb dX9_named_107 (by decide) (fun hc => ?_) (fun hc => ?_)
          · rw [if_neg hc] at hf
            refine lv_iconst (v := (-1)) hx hb dX9_named_143 (by decide) ?_
            exact (wbM_named_144 C hRm) _ _ _ _ _ hf hR hS (lv_sub hl [0] rfl)
          · rw [if_pos hc] at hf
            refine lv_aload_n hx hb dX9_named_110 rfl (lv_at hl 0 rfl) ?_
            refine lv_aload_n hx hb dX9_named_111 rfl (lv_at hl 0 rfl) ?_
            refine mr_getR C hR fl_113 (by decide) dX9_named_112 ?_
            refine lv_bipush (v := 20) hx hb dX9_named_115 (by decide) ?_
            refine lv_aload_n hx hb dX9_named_117 rfl (lv_at hl 0 rfl) ?_
            refine mr_getI C hR fl_307 rfl dX9_named_118 ?_
            refine lv_imul hx hb dX9_named_121 ?_
            refine lv_aload_n hx hb dX9_named_122 rfl (lv_at hl 0 rfl) ?_
            refine mr_getR C hR fl_110 (by decide) dX9_named_123 ?_
            refine lv_aload_n hx hb dX9_named_126 rfl (lv_at hl 0 rfl) ?_
            refine mr_getI C hR fl_307 rfl dX9_named_127 ?_
            obtain ⟨hi, hf⟩ := ck_some hf
            refine mr_iald C hR (k := 35) rfl hi dX9_named_130 ?_
            refine lv_aload_n hx hb dX9_named_131 rfl (lv_at hl 0 rfl) ?_
            refine mr_getR C hR fl_30 (by decide) dX9_named_132 ?_
            refine lv_iconst (v := 0) hx hb dX9_named_135 (by decide) ?_
            obtain ⟨hi, hf⟩ := ck_some hf
            refine mr_lald C hR (k := 6) rfl hi dX9_named_136 ?_
            obtain ⟨o137, ho137, hf⟩ := bnd_some hf
            refine mr_callIv C hR hS (As := [.ref (g.2 36), .int (20 * (mF o6 11)), .int (mA o6 35 (mF o6 11 : Int32).toNatClampNeg), .long (mL o6 6 (0 : Int32).toNatClampNeg)]) (rest := []) (MM_find l d g N 36 (20 * (mF o6 11)) (mA o6 35 (mF o6 11 : Int32).toNatClampNeg) (mL o6 6 (0 : Int32).toNatClampNeg) o6 o137 ho137) wv_300 ⟨by omega, by omega⟩ rfl rfl (Nat.le_of_ble_eq_true rfl) hl.1 dX9_named_137 ⟨Nat.zero_le _, Nat.zero_le _⟩ (fun H locs hR hS => ?_)
            refine lv_goto (tgt := 144) hx hb dX9_named_140 (by decide) ?_
            exact (wbM_named_144 C hRm) _ _ _ _ _ hf hR hS (lv_sub hl [0] rfl)
        · rw [if_pos hc] at hf
          refine lv_aload_n hx hb dX9_named_72 rfl (lv_at hl 0 rfl) ?_
          refine lv_aload_n hx hb dX9_named_73 rfl (lv_at hl 0 rfl) ?_
          refine mr_getR C hR fl_61 (by decide) dX9_named_74 ?_
          refine lv_bipush (v := 24) hx hb dX9_named_77 (by decide) ?_
          refine lv_aload_n hx hb dX9_named_79 rfl (lv_at hl 0 rfl) ?_
          refine mr_getI C hR fl_307 rfl dX9_named_80 ?_
          refine lv_imul hx hb dX9_named_83 ?_
          refine lv_aload_n hx hb dX9_named_84 rfl (lv_at hl 0 rfl) ?_
          refine mr_getR C hR fl_58 (by decide) dX9_named_85 ?_
          refine lv_aload_n hx hb dX9_named_88 rfl (lv_at hl 0 rfl) ?_
          refine mr_getI C hR fl_307 rfl dX9_named_89 ?_
          obtain ⟨hi, hf⟩ := ck_some hf
          refine mr_iald C hR (k := 18) rfl hi dX9_named_92 ?_
          refine lv_aload_n hx hb dX9_named_93 rfl (lv_at hl 0 rfl) ?_
          refine mr_getR C hR fl_30 (by decide) dX9_named_94 ?_
          refine lv_iconst (v := 0) hx hb dX9_named_97 (by decide) ?_
          obtain ⟨hi, hf⟩ := ck_some hf
          refine mr_lald C hR (k := 6) rfl hi dX9_named_98 ?_
          obtain ⟨o99, ho99, hf⟩ := bnd_some hf
          refine mr_callIv C hR hS (As := [.ref (g.2 19), .int (24 * (mF o6 11)), .int (mA o6 18 (mF o6 11 : Int32).toNatClampNeg), .long (mL o6 6 (0 : Int32).toNatClampNeg)]) (rest := []) (MM_find l d g N 19 (24 * (mF o6 11)) (mA o6 18 (mF o6 11 : Int32).toNatClampNeg) (mL o6 6 (0 : Int32).toNatClampNeg) o6 o99 ho99) wv_300 ⟨by omega, by omega⟩ rfl rfl (Nat.le_of_ble_eq_true rfl) hl.1 dX9_named_99 ⟨Nat.zero_le _, Nat.zero_le _⟩ (fun H locs hR hS => ?_)
          refine lv_goto (tgt := 144) hx hb dX9_named_102 (by decide) ?_
          exact (wbM_named_144 C hRm) _ _ _ _ _ hf hR hS (lv_sub hl [0] rfl)
      · rw [if_pos hc] at hf
        refine lv_aload_n hx hb dX9_named_34 rfl (lv_at hl 0 rfl) ?_
        refine lv_aload_n hx hb dX9_named_35 rfl (lv_at hl 0 rfl) ?_
        refine mr_getR C hR fl_46 (by decide) dX9_named_36 ?_
        refine lv_bipush (v := 24) hx hb dX9_named_39 (by decide) ?_
        refine lv_aload_n hx hb dX9_named_41 rfl (lv_at hl 0 rfl) ?_
        refine mr_getI C hR fl_307 rfl dX9_named_42 ?_
        refine lv_imul hx hb dX9_named_45 ?_
        refine lv_aload_n hx hb dX9_named_46 rfl (lv_at hl 0 rfl) ?_
        refine mr_getR C hR fl_43 (by decide) dX9_named_47 ?_
        refine lv_aload_n hx hb dX9_named_50 rfl (lv_at hl 0 rfl) ?_
        refine mr_getI C hR fl_307 rfl dX9_named_51 ?_
        obtain ⟨hi, hf⟩ := ck_some hf
        refine mr_iald C hR (k := 13) rfl hi dX9_named_54 ?_
        refine lv_aload_n hx hb dX9_named_55 rfl (lv_at hl 0 rfl) ?_
        refine mr_getR C hR fl_30 (by decide) dX9_named_56 ?_
        refine lv_iconst (v := 0) hx hb dX9_named_59 (by decide) ?_
        obtain ⟨hi, hf⟩ := ck_some hf
        refine mr_lald C hR (k := 6) rfl hi dX9_named_60 ?_
        obtain ⟨o61, ho61, hf⟩ := bnd_some hf
        refine mr_callIv C hR hS (As := [.ref (g.2 14), .int (24 * (mF o6 11)), .int (mA o6 13 (mF o6 11 : Int32).toNatClampNeg), .long (mL o6 6 (0 : Int32).toNatClampNeg)]) (rest := []) (MM_find l d g N 14 (24 * (mF o6 11)) (mA o6 13 (mF o6 11 : Int32).toNatClampNeg) (mL o6 6 (0 : Int32).toNatClampNeg) o6 o61 ho61) wv_300 ⟨by omega, by omega⟩ rfl rfl (Nat.le_of_ble_eq_true rfl) hl.1 dX9_named_61 ⟨Nat.zero_le _, Nat.zero_le _⟩ (fun H locs hR hS => ?_)
        refine lv_goto (tgt := 144) hx hb dX9_named_64 (by decide) ?_
        exact (wbM_named_144 C hRm) _ _ _ _ _ hf hR hS (lv_sub hl [0] rfl)
    · rw [if_neg hc] at hf
      exact (wbM_named_28 C hRm) _ _ _ _ hf hR hS (lv_sub hl [0] rfl)
theorem MM_named (l : Launch) (d : Dd) (g : Gm) (N : Nat) (x1 : Int32) (S : Ms) (o : Int32 × Ms) (hf : fM_named N x1 S = some o) : MtI l d g yX9_named cX9_named 2 (some .int) 3 66 [.ref g.1, .int x1] S o :=
  mr_metI (by decide) rfl (Nat.le_of_ble_eq_true rfl) (fun p e s m args below meth c ls C hR hl => wfM_named C ⟨Nat.le_refl _, Nat.le_refl _⟩ x1 S s.heap [] ls hf hR va_S.rf hl)
