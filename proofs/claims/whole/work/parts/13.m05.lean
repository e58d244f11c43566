def HT (l : Launch) (d : Dd) (g : Gm) (GT : Nat → Int32 → Int32 → Int32 → Int32 → Int32 → Ms → Option (Int32 × Ms)) (fr lo : Nat) : Prop := (∀ (x1 : Int32) (S : Ms) (o : Int32 × Ms), GT 0 x1 0 0 0 0 S = some o → MtI l d g yX9_touch cX9_touch 2 (some .int) fr lo [.ref g.1, .int x1] S o) ∧ (∀ (x1 : Int32) (S : Ms) (o : Int32 × Ms), GT 1 x1 0 0 0 0 S = some o → MtI l d g yX9_comesUp cX9_comesUp 5 (some .int) fr lo [.ref g.1, .int x1] S o) ∧ (∀ (x1 : Int32) (x2 : Int32) (S : Ms) (o : Int32 × Ms), GT 2 x1 x2 0 0 0 S = some o → MtI l d g yX9_touchRole cX9_touchRole 6 (some .int) fr lo [.ref g.1, .int x1, .int x2] S o) ∧ (∀ (x1 : Int32) (x2 : Int32) (x3 : Int32) (S : Ms) (o : Int32 × Ms), GT 3 x1 x2 x3 0 0 S = some o → MtI l d g yX9_works cX9_works 10 (some .int) fr lo [.ref g.1, .int x1, .int x2, .int x3] S o) ∧ (∀ (x1 : Int32) (x2 : Int32) (x3 : Int32) (x4 : Int32) (x5 : Int32) (S : Ms) (o : Int32 × Ms), GT 4 x1 x2 x3 x4 x5 S = some o → MtI l d g yX9_work cX9_work 7 (some .int) fr lo [.ref g.1, .int x1, .int x2, .int x3, .int x4, .int x5] S o) ∧ (∀ (x1 : Int32) (x2 : Int32) (x3 : Int32) (S : Ms) (o : Int32 × Ms), GT 5 x1 x2 x3 0 0 S = some o → MtI l d g yX9_uses cX9_uses 4 (some .int) fr lo [.ref g.1, .int x1, .int x2, .int x3] S o)
def bM_touch_20 (N : Nat) (GT : Nat → Int32 → Int32 → Int32 → Int32 → Int32 → Ms → Option (Int32 × Ms))  (S : Ms) : Option (Int32 × Ms) := some (0, S)
set_option maxRecDepth 100000 in
set_option maxHeartbeats 4000000 in
theorem wbM_touch_20 {p : Program} {l : Launch} {e : Env} {R : Room} {s : State} {m : MethodId} {args : Array Value} {below : List Frame} {meth : Method} {c : Code} {d : Dd} {g : Gm} {o : Int32 × Ms} {fr lo : Nat} {N : Nat} {GT : Nat → Int32 → Int32 → Int32 → Int32 → Int32 → Ms → Option (Int32 × Ms)} (C : CM p s m args meth c d g cX9_touch 2 (some .int)) (hRm : (fr + 1) ≤ R.frames ∧ (lo + 60) ≤ R.locals) (hGT : HT l d g GT fr lo) (hB : 2 ≤ fr ∧ 46 ≤ lo)  (S : Ms) (H : Heap) (locs : List Loc) (ls : Array Slot) (hf : bM_touch_20 N GT  S = some o) (hR : RM d g S H) (hS : va_S (AM g) s.heap H locs) (hl : lv_has ls 2 [(0, .ref g.1)]) : W p l e R s m args below meth c H locs 0 0 (MQ below (QI d g o) args s 0 0 (AM g)) (F0 m 20 ls []) := by
  obtain ⟨hx, hb, hml, hown, hts, hK, hg, hr, hlk⟩ := id C
  unfold bM_touch_20 at hf
  refine lv_iconst (v := 0) hx hb dX9_touch_20 (by decide) ?_
  exact mr_iret C hR hS hf dX9_touch_21
def bM_touch_47 (N : Nat) (GT : Nat → Int32 → Int32 → Int32 → Int32 → Int32 → Ms → Option (Int32 × Ms)) (s0 : Int32) (S : Ms) : Option (Int32 × Ms) := some (s0, S)
set_option maxRecDepth 100000 in
set_option maxHeartbeats 4000000 in
theorem wbM_touch_47 {p : Program} {l : Launch} {e : Env} {R : Room} {s : State} {m : MethodId} {args : Array Value} {below : List Frame} {meth : Method} {c : Code} {d : Dd} {g : Gm} {o : Int32 × Ms} {fr lo : Nat} {N : Nat} {GT : Nat → Int32 → Int32 → Int32 → Int32 → Int32 → Ms → Option (Int32 × Ms)} (C : CM p s m args meth c d g cX9_touch 2 (some .int)) (hRm : (fr + 1) ≤ R.frames ∧ (lo + 60) ≤ R.locals) (hGT : HT l d g GT fr lo) (hB : 2 ≤ fr ∧ 46 ≤ lo) (s0 : Int32) (S : Ms) (H : Heap) (locs : List Loc) (ls : Array Slot) (hf : bM_touch_47 N GT s0 S = some o) (hR : RM d g S H) (hS : va_S (AM g) s.heap H locs) (hl : lv_has ls 2 [(0, .ref g.1)]) : W p l e R s m args below meth c H locs 0 0 (MQ below (QI d g o) args s 0 0 (AM g)) (F0 m 47 ls [.int s0]) := by
  obtain ⟨hx, hb, hml, hown, hts, hK, hg, hr, hlk⟩ := id C
  unfold bM_touch_47 at hf
  exact mr_iret C hR hS hf dX9_touch_47
def fM_touch (N : Nat) (GT : Nat → Int32 → Int32 → Int32 → Int32 → Int32 → Ms → Option (Int32 × Ms)) (x1 : Int32) (S : Ms) : Option (Int32 × Ms) := ck x1 24 (if (mA S 54 (x1 : Int32).toNatClampNeg) = 2 then ((bM_touch_20 N GT) S) else (ck x1 24 (if (mA S 54 (x1 : Int32).toNatClampNeg) = 1 then ((bM_touch_20 N GT) S) else (ck x1 24 (if (mA S 54 (x1 : Int32).toNatClampNeg) = 3 then ((fM_fails N 21 0 S).bind fun o36 => (bM_touch_47 N GT) o36.1 o36.2) else ((GT 1 x1 0 0 0 0 S).bind fun o44 => (bM_touch_47 N GT) o44.1 o44.2))))))
set_option maxRecDepth 100000 in
set_option maxHeartbeats 4000000 in
theorem wfM_touch {p : Program} {l : Launch} {e : Env} {R : Room} {s : State} {m : MethodId} {args : Array Value} {below : List Frame} {meth : Method} {c : Code} {d : Dd} {g : Gm} {o : Int32 × Ms} {fr lo : Nat} {N : Nat} {GT : Nat → Int32 → Int32 → Int32 → Int32 → Int32 → Ms → Option (Int32 × Ms)} (C : CM p s m args meth c d g cX9_touch 2 (some .int)) (hRm : (fr + 1) ≤ R.frames ∧ (lo + 60) ≤ R.locals) (hGT : HT l d g GT fr lo) (hB : 2 ≤ fr ∧ 46 ≤ lo) (x1 : Int32) (S : Ms) (H : Heap) (locs : List Loc) (ls : Array Slot) (hf : fM_touch N GT x1 S = some o) (hR : RM d g S H) (hS : va_S (AM g) s.heap H locs) (hl : lv_has ls 2 [(0, .ref g.1), (1, .int x1)]) : W p l e R s m args below meth c H locs 0 0 (MQ below (QI d g o) args s 0 0 (AM g)) (F0 m 0 ls []) := by
  obtain ⟨hx, hb, hml, hown, hts, hK, hg, hr, hlk⟩ := id C
  unfold fM_touch at hf
  refine lv_aload_n hx hb dX9_touch_0 rfl (lv_at hl 0 rfl) ?_
  refine mr_getR C hR fl_146 (by decide) dX9_touch_1 ?_
  refine lv_iload_n hx hb dX9_touch_4 rfl (lv_at hl 1 rfl) ?_
  obtain ⟨hi, hf⟩ := ck_some hf
  refine mr_iald C hR (k := 54) rfl hi dX9_touch_5 ?_
  refine lv_iconst (v := 2) hx hb dX9_touch_6 (by decide) ?_
  refine lv_icmp_eq (tgt := 20) hx hb dX9_touch_7 (by decide) (fun hc => ?_) (fun hc => ?_)
  · rw [if_pos hc] at hf
    exact (wbM_touch_20 C hRm hGT hB) _ _ _ _ hf hR hS (lv_sub hl [0] rfl)
  · rw [if_neg hc] at hf
    refine lv_aload_n hx hb dX9_touch_10 rfl (lv_at hl 0 rfl) ?_
    refine mr_getR C hR fl_146 (by decide) dX9_touch_11 ?_
    refine lv_iload_n hx hb dX9_touch_14 rfl (lv_at hl 1 rfl) ?_
    obtain ⟨hi, hf⟩ := ck_some hf
    refine mr_iald C hR (k := 54) rfl hi dX9_touch_15 ?_
    refine lv_iconst (v := 1) hx hb dX9_touch_16 (by decide) ?_
    refine lv_icmp_ne (tgt := 22) hx hb dX9_touch_17 (by decide) (fun hc => ?_) (fun hc => ?_)
    · rw [if_neg hc] at hf
      refine lv_aload_n hx hb dX9_touch_22 rfl (lv_at hl 0 rfl) ?_
      refine mr_getR C hR fl_146 (by decide) dX9_touch_23 ?_
      refine lv_iload_n hx hb dX9_touch_26 rfl (lv_at hl 1 rfl) ?_
      obtain ⟨hi, hf⟩ := ck_some hf
      refine mr_iald C hR (k := 54) rfl hi dX9_touch_27 ?_
      refine lv_iconst (v := 3) hx hb dX9_touch_28 (by decide) ?_
      refine lv_icmp_ne (tgt := 42) hx hb dX9_touch_29 (by decide) (fun hc => ?_) (fun hc => ?_)
      · rw [if_neg hc] at hf
        refine lv_aload_n hx hb dX9_touch_42 rfl (lv_at hl 0 rfl) ?_
        refine lv_iload_n hx hb dX9_touch_43 rfl (lv_at hl 1 rfl) ?_
        obtain ⟨o44, ho44, hf⟩ := bnd_some hf
        refine mr_callIv C hR hS (As := [.int x1]) (rest := []) (hGT.2.1 _ _ _ ho44) wv_500 ⟨by omega, by omega⟩ rfl rfl (Nat.le_of_ble_eq_true rfl) hl.1 dX9_touch_44 ⟨Nat.zero_le _, Nat.zero_le _⟩ (fun H locs hR hS => ?_)
        exact (wbM_touch_47 C hRm hGT hB) _ _ _ _ _ hf hR hS (lv_sub hl [0] rfl)
      · rw [if_pos hc] at hf
        refine lv_aload_n hx hb dX9_touch_32 rfl (lv_at hl 0 rfl) ?_
        refine lv_bipush (v := 21) hx hb dX9_touch_33 (by decide) ?_
        refine lv_iconst (v := 0) hx hb dX9_touch_35 (by decide) ?_
        obtain ⟨o36, ho36, hf⟩ := bnd_some hf
        refine mr_callIv C hR hS (As := [.int 21, .int 0]) (rest := []) (MM_fails l d g N 21 0 S o36 ho36) wv_497 ⟨by omega, by omega⟩ rfl rfl (Nat.le_of_ble_eq_true rfl) hl.1 dX9_touch_36 ⟨Nat.zero_le _, Nat.zero_le _⟩ (fun H locs hR hS => ?_)
        refine lv_goto (tgt := 47) hx hb dX9_touch_39 (by decide) ?_
        exact (wbM_touch_47 C hRm hGT hB) _ _ _ _ _ hf hR hS (lv_sub hl [0] rfl)
    · rw [if_pos hc] at hf
      exact (wbM_touch_20 C hRm hGT hB) _ _ _ _ hf hR hS (lv_sub hl [0] rfl)
def lM_comesUp_55 (N : Nat) (GT : Nat → Int32 → Int32 → Int32 → Int32 → Int32 → Ms → Option (Int32 × Ms)) (k81 : Int32 → Int32 → Int32 → Ms → Option (Int32 × Ms)) : Nat → Int32 → Int32 → Int32 → Int32 → Ms → Option (Int32 × Ms)
  | 0, _, _, _, _, _ => none
  | n + 1, x1, x2, x3, x4, S => if 24 ≤ x4 then (k81 x1 x2 x3 S) else (ck ((24 * x1) + x4) 576 (lM_comesUp_55 N GT k81 n x1 x2 x3 (x4 + 1) (pA S 93 ((24 * x1) + x4 : Int32).toNatClampNeg (vp_nar .boolean 0))))
set_option maxRecDepth 100000 in
set_option maxHeartbeats 4000000 in
theorem wlM_comesUp_55 {p : Program} {l : Launch} {e : Env} {R : Room} {s : State} {m : MethodId} {args : Array Value} {below : List Frame} {meth : Method} {c : Code} {d : Dd} {g : Gm} {o : Int32 × Ms} {fr lo : Nat} {N : Nat} {GT : Nat → Int32 → Int32 → Int32 → Int32 → Int32 → Ms → Option (Int32 × Ms)} {k81 : Int32 → Int32 → Int32 → Ms → Option (Int32 × Ms)} (C : CM p s m args meth c d g cX9_comesUp 5 (some .int)) (hRm : (fr + 1) ≤ R.frames ∧ (lo + 60) ≤ R.locals) (hGT : HT l d g GT fr lo) (hB : 2 ≤ fr ∧ 46 ≤ lo) (hk81 : ∀ (x1 : Int32) (x2 : Int32) (x3 : Int32) (S : Ms) (H : Heap) (locs : List Loc) (ls : Array Slot), k81 x1 x2 x3 S = some o → RM d g S H → va_S (AM g) s.heap H locs → lv_has ls 5 [(0, .ref g.1), (1, .int x1), (2, .int x2), (3, .int x3)] → W p l e R s m args below meth c H locs 0 0 (MQ below (QI d g o) args s 0 0 (AM g)) (F0 m 81 ls [])) : ∀ (n : Nat) (x1 : Int32) (x2 : Int32) (x3 : Int32) (x4 : Int32) (S : Ms) (H : Heap) (locs : List Loc) (ls : Array Slot), lM_comesUp_55 N GT k81 n x1 x2 x3 x4 S = some o → RM d g S H → va_S (AM g) s.heap H locs → lv_has ls 5 [(0, .ref g.1), (1, .int x1), (2, .int x2), (3, .int x3), (4, .int x4)] → W p l e R s m args below meth c H locs 0 0 (MQ below (QI d g o) args s 0 0 (AM g)) (F0 m 55 ls []) := by
  obtain ⟨hx, hb, hml, hown, hts, hK, hg, hr, hlk⟩ := id C
  intro n
  induction n with
  | zero => intro x1 x2 x3 x4 S H locs ls hf; cases hf
  | succ n ih =>
    intro x1 x2 x3 x4 S H locs ls hf hR hS hl
    rw [lM_comesUp_55] at hf
    refine lv_iload hx hb dX9_comesUp_55 (lv_at hl 4 rfl) ?_
    refine lv_bipush (v := 24) hx hb dX9_comesUp_57 (by decide) ?_
    refine lv_icmp_ge (tgt := 81) hx hb dX9_comesUp_59 (by decide) (fun hc => ?_) (fun hc => ?_)
    · rw [if_pos hc] at hf
      exact hk81 _ _ _ _ _ _ _ hf hR hS (lv_sub hl [0, 1, 2, 3] rfl)
    · rw [if_neg hc] at hf
      refine lv_aload_n hx hb dX9_comesUp_62 rfl (lv_at hl 0 rfl) ?_
      refine mr_getR C hR fl_215 (by decide) dX9_comesUp_63 ?_
      refine lv_bipush (v := 24) hx hb dX9_comesUp_66 (by decide) ?_
      refine lv_iload_n hx hb dX9_comesUp_68 rfl (lv_at hl 1 rfl) ?_
      refine lv_imul hx hb dX9_comesUp_69 ?_
      refine lv_iload hx hb dX9_comesUp_70 (lv_at hl 4 rfl) ?_
      refine lv_iadd hx hb dX9_comesUp_72 ?_
      refine lv_iconst (v := 0) hx hb dX9_comesUp_73 (by decide) ?_
      obtain ⟨hi, hf⟩ := ck_some hf
      refine mr_zast C hR hS (k := 93) rfl hi dX9_comesUp_74 (fun H locs hR hS => ?_)
      refine lv_iinc (v := x4 + 1) (lv' := [(4, .int (x4 + 1)), (0, .ref g.1), (1, .int x1), (2, .int x2), (3, .int x3)]) hx hb dX9_comesUp_75 hl (k := 4) rfl rfl (by decide) rfl (fun ls hl => ?_)
      refine lv_goto (tgt := 55) hx hb dX9_comesUp_78 (by decide) ?_
      exact ih _ _ _ _ _ _ _ _ hf hR hS (lv_sub hl [1, 2, 3, 4, 0] rfl)
def lM_comesUp_84 (N : Nat) (GT : Nat → Int32 → Int32 → Int32 → Int32 → Int32 → Ms → Option (Int32 × Ms)) (k123 : Int32 → Int32 → Int32 → Ms → Option (Int32 × Ms)) : Nat → Int32 → Int32 → Int32 → Int32 → Ms → Option (Int32 × Ms)
  | 0, _, _, _, _, _ => none
  | n + 1, x1, x2, x3, x4, S => ck x2 48 (if (mA S 23 (x2 : Int32).toNatClampNeg) ≤ x4 then (k123 x1 x2 x3 S) else (if x3 = 0 then (ck ((6 * x2) + x4) 288 ((GT 2 x1 (mA S 24 ((6 * x2) + x4 : Int32).toNatClampNeg) 0 0 0 S).bind fun o113 => lM_comesUp_84 N GT k123 n x1 x2 o113.1 (x4 + 1) o113.2)) else (k123 x1 x2 x3 S)))
set_option maxRecDepth 100000 in
set_option maxHeartbeats 4000000 in
theorem wlM_comesUp_84 {p : Program} {l : Launch} {e : Env} {R : Room} {s : State} {m : MethodId} {args : Array Value} {below : List Frame} {meth : Method} {c : Code} {d : Dd} {g : Gm} {o : Int32 × Ms} {fr lo : Nat} {N : Nat} {GT : Nat → Int32 → Int32 → Int32 → Int32 → Int32 → Ms → Option (Int32 × Ms)} {k123 : Int32 → Int32 → Int32 → Ms → Option (Int32 × Ms)} (C : CM p s m args meth c d g cX9_comesUp 5 (some .int)) (hRm : (fr + 1) ≤ R.frames ∧ (lo + 60) ≤ R.locals) (hGT : HT l d g GT fr lo) (hB : 2 ≤ fr ∧ 46 ≤ lo) (hk123 : ∀ (x1 : Int32) (x2 : Int32) (x3 : Int32) (S : Ms) (H : Heap) (locs : List Loc) (ls : Array Slot), k123 x1 x2 x3 S = some o → RM d g S H → va_S (AM g) s.heap H locs → lv_has ls 5 [(0, .ref g.1), (1, .int x1), (2, .int x2), (3, .int x3)] → W p l e R s m args below meth c H locs 0 0 (MQ below (QI d g o) args s 0 0 (AM g)) (F0 m 123 ls [])) : ∀ (n : Nat) (x1 : Int32) (x2 : Int32) (x3 : Int32) (x4 : Int32) (S : Ms) (H : Heap) (locs : List Loc) (ls : Array Slot), lM_comesUp_84 N GT k123 n x1 x2 x3 x4 S = some o → RM d g S H → va_S (AM g) s.heap H locs → lv_has ls 5 [(0, .ref g.1), (1, .int x1), (2, .int x2), (3, .int x3), (4, .int x4)] → W p l e R s m args below meth c H locs 0 0 (MQ below (QI d g o) args s 0 0 (AM g)) (F0 m 84 ls []) := by
  obtain ⟨hx, hb, hml, hown, hts, hK, hg, hr, hlk⟩ := id C
  intro n
  induction n with
  | zero => intro x1 x2 x3 x4 S H locs ls hf; cases hf
  | succ n ih =>
    intro x1 x2 x3 x4 S H locs ls hf hR hS hl
    rw [lM_comesUp_84] at hf
    refine lv_iload hx hb dX9_comesUp_84 (lv_at hl 4 rfl) ?_
    refine lv_aload_n hx hb dX9_comesUp_86 rfl (lv_at hl 0 rfl) ?_
    refine mr_getR C hR fl_74 (by decide) dX9_comesUp_87 ?_
    refine lv_iload_n hx hb dX9_comesUp_90 rfl (lv_at hl 2 rfl) ?_
    obtain ⟨hi, hf⟩ := ck_some hf
    refine mr_iald C hR (k := 23) rfl hi dX9_comesUp_91 ?_
    refine lv_icmp_ge (tgt := 123) hx hb dX9_comesUp_92 (by decide) (fun hc => ?_) (fun hc => ?_)
    · rw [if_pos hc] at hf
      exact hk123 _ _ _ _ _ _ _ hf hR hS (lv_sub hl [0, 1, 2, 3] rfl)
    · rw [if_neg hc] at hf
      refine lv_iload_n hx hb dX9_comesUp_95 rfl (lv_at hl 3 rfl) ?_
      refine lv_if_ne (tgt := 123) hx hb dX9_comesUp_96 (by decide) (fun hc => ?_) (fun hc => ?_)
      · rw [if_neg hc] at hf
        exact hk123 _ _ _ _ _ _ _ hf hR hS (lv_sub hl [0, 1, 2, 3] rfl)
      · rw [if_pos hc] at hf
        refine lv_aload_n hx hb dX9_comesUp_99 rfl (lv_at hl 0 rfl) ?_
        refine lv_iload_n hx hb dX9_comesUp_100 rfl (lv_at hl 1 rfl) ?_
        refine lv_aload_n hx hb dX9_comesUp_101 rfl (lv_at hl 0 rfl) ?_
        refine mr_getR C hR fl_77 (by decide) dX9_comesUp_102 ?_
        refine lv_bipush (v := 6) hx hb dX9_comesUp_105 (by decide) ?_
        refine lv_iload_n hx hb dX9_comesUp_107 rfl (lv_at hl 2 rfl) ?_
        refine lv_imul hx hb dX9_comesUp_108 ?_
        refine lv_iload hx hb dX9_comesUp_109 (lv_at hl 4 rfl) ?_
        refine lv_iadd hx hb dX9_comesUp_111 ?_
        obtain ⟨hi, hf⟩ := ck_some hf
        refine mr_iald C hR (k := 24) rfl hi dX9_comesUp_112 ?_
        obtain ⟨o113, ho113, hf⟩ := bnd_some hf
        refine mr_callIv C hR hS (As := [.int x1, .int (mA S 24 ((6 * x2) + x4 : Int32).toNatClampNeg)]) (rest := []) (hGT.2.2.1 _ _ _ _ ho113) wv_506 ⟨by omega, by omega⟩ rfl rfl (Nat.le_of_ble_eq_true rfl) hl.1 dX9_comesUp_113 ⟨Nat.zero_le _, Nat.zero_le _⟩ (fun H locs hR hS => ?_)
        refine lv_istore_n (lv' := [(3, .int o113.1), (0, .ref g.1), (1, .int x1), (2, .int x2), (4, .int x4)]) hx hb dX9_comesUp_116 rfl hl (by decide) rfl (fun ls hl => ?_)
        refine lv_iinc (v := x4 + 1) (lv' := [(4, .int (x4 + 1)), (3, .int o113.1), (0, .ref g.1), (1, .int x1), (2, .int x2)]) hx hb dX9_comesUp_117 hl (k := 4) rfl rfl (by decide) rfl (fun ls hl => ?_)
        refine lv_goto (tgt := 84) hx hb dX9_comesUp_120 (by decide) ?_
        exact ih _ _ _ _ _ _ _ _ hf hR hS (lv_sub hl [2, 3, 4, 1, 0] rfl)
def bM_comesUp_177 (N : Nat) (GT : Nat → Int32 → Int32 → Int32 → Int32 → Int32 → Ms → Option (Int32 × Ms)) (r126 : Int32 → Int32 → Int32 → Int32 → Ms → Option (Int32 × Ms)) (k184 : Int32 → Int32 → Int32 → Ms → Option (Int32 × Ms)) (x1 : Int32) (x2 : Int32) (x4 : Int32) (s0 : Int32) (S : Ms) : Option (Int32 × Ms) := r126 x1 x2 s0 (x4 + 1) S
set_option maxRecDepth 100000 in
set_option maxHeartbeats 4000000 in
theorem wbM_comesUp_177 {p : Program} {l : Launch} {e : Env} {R : Room} {s : State} {m : MethodId} {args : Array Value} {below : List Frame} {meth : Method} {c : Code} {d : Dd} {g : Gm} {o : Int32 × Ms} {fr lo : Nat} {N : Nat} {GT : Nat → Int32 → Int32 → Int32 → Int32 → Int32 → Ms → Option (Int32 × Ms)} {r126 : Int32 → Int32 → Int32 → Int32 → Ms → Option (Int32 × Ms)} {k184 : Int32 → Int32 → Int32 → Ms → Option (Int32 × Ms)} (C : CM p s m args meth c d g cX9_comesUp 5 (some .int)) (hRm : (fr + 1) ≤ R.frames ∧ (lo + 60) ≤ R.locals) (hGT : HT l d g GT fr lo) (hB : 2 ≤ fr ∧ 46 ≤ lo) (hr126 : ∀ (x1 : Int32) (x2 : Int32) (x3 : Int32) (x4 : Int32) (S : Ms) (H : Heap) (locs : List Loc) (ls : Array Slot), r126 x1 x2 x3 x4 S = some o → RM d g S H → va_S (AM g) s.heap H locs → lv_has ls 5 [(0, .ref g.1), (1, .int x1), (2, .int x2), (3, .int x3), (4, .int x4)] → W p l e R s m args below meth c H locs 0 0 (MQ below (QI d g o) args s 0 0 (AM g)) (F0 m 126 ls [])) (hk184 : ∀ (x1 : Int32) (x2 : Int32) (x3 : Int32) (S : Ms) (H : Heap) (locs : List Loc) (ls : Array Slot), k184 x1 x2 x3 S = some o → RM d g S H → va_S (AM g) s.heap H locs → lv_has ls 5 [(0, .ref g.1), (1, .int x1), (2, .int x2), (3, .int x3)] → W p l e R s m args below meth c H locs 0 0 (MQ below (QI d g o) args s 0 0 (AM g)) (F0 m 184 ls [])) (x1 : Int32) (x2 : Int32) (x4 : Int32) (s0 : Int32) (S : Ms) (H : Heap) (locs : List Loc) (ls : Array Slot) (hf : bM_comesUp_177 N GT r126 k184 x1 x2 x4 s0 S = some o) (hR : RM d g S H) (hS : va_S (AM g) s.heap H locs) (hl : lv_has ls 5 [(0, .ref g.1), (1, .int x1), (2, .int x2), (4, .int x4)]) : W p l e R s m args below meth c H locs 0 0 (MQ below (QI d g o) args s 0 0 (AM g)) (F0 m 177 ls [.int s0]) := by
  obtain ⟨hx, hb, hml, hown, hts, hK, hg, hr, hlk⟩ := id C
  unfold bM_comesUp_177 at hf
  refine lv_istore_n (lv' := [(3, .int s0), (0, .ref g.1), (1, .int x1), (2, .int x2), (4, .int x4)]) hx hb dX9_comesUp_177 rfl hl (by decide) rfl (fun ls hl => ?_)
  refine lv_iinc (v := x4 + 1) (lv' := [(4, .int (x4 + 1)), (3, .int s0), (0, .ref g.1), (1, .int x1), (2, .int x2)]) hx hb dX9_comesUp_178 hl (k := 4) rfl rfl (by decide) rfl (fun ls hl => ?_)
  refine lv_goto (tgt := 126) hx hb dX9_comesUp_181 (by decide) ?_
  exact hr126 _ _ _ _ _ _ _ _ hf hR hS (lv_sub hl [2, 3, 4, 1, 0] rfl)
def bM_comesUp_176 (N : Nat) (GT : Nat → Int32 → Int32 → Int32 → Int32 → Int32 → Ms → Option (Int32 × Ms)) (r126 : Int32 → Int32 → Int32 → Int32 → Ms → Option (Int32 × Ms)) (k184 : Int32 → Int32 → Int32 → Ms → Option (Int32 × Ms)) (x1 : Int32) (x2 : Int32) (x4 : Int32) (S : Ms) : Option (Int32 × Ms) := (bM_comesUp_177 N GT r126 k184) x1 x2 x4 0 S
set_option maxRecDepth 100000 in
set_option maxHeartbeats 4000000 in
theorem wbM_comesUp_176 {p : Program} {l : Launch} {e : Env} {R : Room} {s : State} {m : MethodId} {args : Array Value} {below : List Frame} {meth : Method} {c : Code} {d : Dd} {g : Gm} {o : Int32 × Ms} {fr lo : Nat} {N : Nat} {GT : Nat → Int32 → Int32 → Int32 → Int32 → Int32 → Ms → Option (Int32 × Ms)} {r126 : Int32 → Int32 → Int32 → Int32 → Ms → Option (Int32 × Ms)} {k184 : Int32 → Int32 → Int32 → Ms → Option (Int32 × Ms)} (C : CM p s m args meth c d g cX9_comesUp 5 (some .int)) (hRm : (fr + 1) ≤ R.frames ∧ (lo + 60) ≤ R.locals) (hGT : HT l d g GT fr lo) (hB : 2 ≤ fr ∧ 46 ≤ lo) (hr126 : ∀ (x1 : Int32) (x2 : Int32) (x3 : Int32) (x4 : Int32) (S : Ms) (H : Heap) (locs : List Loc) (ls : Array Slot), r126 x1 x2 x3 x4 S = some o → RM d g S H → va_S (AM g) s.heap H locs → lv_has ls 5 [(0, .ref g.1), (1, .int x1), (2, .int x2), (3, .int x3), (4, .int x4)] → W p l e R s m args below meth c H locs 0 0 (MQ below (QI d g o) args s 0 0 (AM g)) (F0 m 126 ls [])) (hk184 : ∀ (x1 : Int32) (x2 : Int32) (x3 : Int32) (S : Ms) (H : Heap) (locs : List Loc) (ls : Array Slot), k184 x1 x2 x3 S = some o → RM d g S H → va_S (AM g) s.heap H locs → lv_has ls 5 [(0, .ref g.1), (1, .int x1), (2, .int x2), (3, .int x3)] → W p l e R s m args below meth c H locs 0 0 (MQ below (QI d g o) args s 0 0 (AM g)) (F0 m 184 ls [])) (x1 : Int32) (x2 : Int32) (x4 : Int32) (S : Ms) (H : Heap) (locs : List Loc) (ls : Array Slot) (hf : bM_comesUp_176 N GT r126 k184 x1 x2 x4 S = some o) (hR : RM d g S H) (hS : va_S (AM g) s.heap H locs) (hl : lv_has ls 5 [(0, .ref g.1), (1, .int x1), (2, .int x2), (4, .int x4)]) : W p l e R s m args below meth c H locs 0 0 (MQ below (QI d g o) args s 0 0 (AM g)) (F0 m 176 ls []) := by
  obtain ⟨hx, hb, hml, hown, hts, hK, hg, hr, hlk⟩ := id C
  unfold bM_comesUp_176 at hf
  refine lv_iconst (v := 0) hx hb dX9_comesUp_176 (by decide) ?_
  exact (wbM_comesUp_177 C hRm hGT hB hr126 hk184) _ _ _ _ _ _ _ _ hf hR hS (lv_sub hl [0, 1, 2, 3] rfl)
def lM_comesUp_126 (N : Nat) (GT : Nat → Int32 → Int32 → Int32 → Int32 → Int32 → Ms → Option (Int32 × Ms)) (k184 : Int32 → Int32 → Int32 → Ms → Option (Int32 × Ms)) : Nat → Int32 → Int32 → Int32 → Int32 → Ms → Option (Int32 × Ms)
  | 0, _, _, _, _, _ => none
  | n + 1, x1, x2, x3, x4, S => if (mF S 71) ≤ x4 then (k184 x1 x2 x3 S) else (if x3 = 0 then (ck x4 40 (if (mA S 69 (x4 : Int32).toNatClampNeg) = x1 then (ck x4 40 (ck x1 24 (if (mA S 70 (x4 : Int32).toNatClampNeg) = (mA S 55 (x1 : Int32).toNatClampNeg) then ((fM_fails N 14 0 S).bind fun o170 => (bM_comesUp_177 N GT (lM_comesUp_126 N GT k184 n) k184) x1 x2 x4 o170.1 o170.2) else ((bM_comesUp_176 N GT (lM_comesUp_126 N GT k184 n) k184) x1 x2 x4 S)))) else ((bM_comesUp_176 N GT (lM_comesUp_126 N GT k184 n) k184) x1 x2 x4 S))) else (k184 x1 x2 x3 S))
set_option maxRecDepth 100000 in
set_option maxHeartbeats 4000000 in
theorem wlM_comesUp_126 {p : Program} {l : Launch} {e : Env} {R : Room} {s : State} {m : MethodId} {args : Array Value} {below : List Frame} {meth : Method} {c : Code} {d : Dd} {g : Gm} {o : Int32 × Ms} {fr lo : Nat} {N : Nat} {GT : Nat → Int32 → Int32 → Int32 → Int32 → Int32 → Ms → Option (Int32 × Ms)} {k184 : Int32 → Int32 → Int32 → Ms → Option (Int32 × Ms)} (C : CM p s m args meth c d g cX9_comesUp 5 (some .int)) (hRm : (fr + 1) ≤ R.frames ∧ (lo + 60) ≤ R.locals) (hGT : HT l d g GT fr lo) (hB : 2 ≤ fr ∧ 46 ≤ lo) (hk184 : ∀ (x1 : Int32) (x2 : Int32) (x3 : Int32) (S : Ms) (H : Heap) (locs : List Loc) (ls : Array Slot), k184 x1 x2 x3 S = some o → RM d g S H → va_S (AM g) s.heap H locs → lv_has ls 5 [(0, .ref g.1), (1, .int x1), (2, .int x2), (3, .int x3)] → W p l e R s m args below meth c H locs 0 0 (MQ below (QI d g o) args s 0 0 (AM g)) (F0 m 184 ls [])) : ∀ (n : Nat) (x1 : Int32) (x2 : Int32) (x3 : Int32) (x4 : Int32) (S : Ms) (H : Heap) (locs : List Loc) (ls : Array Slot), lM_comesUp_126 N GT k184 n x1 x2 x3 x4 S = some o → RM d g S H → va_S (AM g) s.heap H locs → lv_has ls 5 [(0, .ref g.1), (1, .int x1), (2, .int x2), (3, .int x3), (4, .int x4)] → W p l e R s m args below meth c H locs 0 0 (MQ below (QI d g o) args s 0 0 (AM g)) (F0 m 126 ls []) := by
  obtain ⟨hx, hb, hml, hown, hts, hK, hg, hr, hlk⟩ := id C
  intro n
  induction n with
  | zero => intro x1 x2 x3 x4 S H locs ls hf; cases hf
  | succ n ih =>
    intro x1 x2 x3 x4 S H locs ls hf hR hS hl
    rw [lM_comesUp_126] at hf
    refine lv_iload hx hb dX9_comesUp_126 (lv_at hl 4 rfl) ?_
    refine lv_aload_n hx hb dX9_comesUp_128 rfl (lv_at hl 0 rfl) ?_
    refine mr_getI C hR fl_467 rfl dX9_comesUp_129 ?_
    refine lv_icmp_ge (tgt := 184) hx hb dX9_comesUp_132 (by decide) (fun hc => ?_) (fun hc => ?_)
    · rw [if_pos hc] at hf
      exact hk184 _ _ _ _ _ _ _ hf hR hS (lv_sub hl [0, 1, 2, 3] rfl)
    · rw [if_neg hc] at hf
      refine lv_iload_n hx hb dX9_comesUp_135 rfl (lv_at hl 3 rfl) ?_
      refine lv_if_ne (tgt := 184) hx hb dX9_comesUp_136 (by decide) (fun hc => ?_) (fun hc => ?_)
      · rw [if_neg hc] at hf
        exact hk184 _ _ _ _ _ _ _ hf hR hS (lv_sub hl [0, 1, 2, 3] rfl)
      · rw [if_pos hc] at hf
        refine lv_aload_n hx hb dX9_comesUp_139 rfl (lv_at hl 0 rfl) ?_
        refine mr_getR C hR fl_173 (by decide) dX9_comesUp_140 ?_
        refine lv_iload hx hb dX9_comesUp_143 (lv_at hl 4 rfl) ?_
        obtain ⟨hi, hf⟩ := ck_some hf
        refine mr_iald C hR (k := 69) rfl hi dX9_comesUp_145 ?_
        refine lv_iload_n hx hb dX9_comesUp_146 rfl (lv_at hl 1 rfl) ?_
        refine lv_icmp_ne (tgt := 176) hx hb dX9_comesUp_147 (by decide) (fun hc => ?_) (fun hc => ?_)
        · rw [if_neg hc] at hf
          exact (wbM_comesUp_176 C hRm hGT hB ih hk184) _ _ _ _ _ _ _ hf hR hS (lv_sub hl [0, 1, 2, 4] rfl)
        · rw [if_pos hc] at hf
          refine lv_aload_n hx hb dX9_comesUp_150 rfl (lv_at hl 0 rfl) ?_
          refine mr_getR C hR fl_176 (by decide) dX9_comesUp_151 ?_
          refine lv_iload hx hb dX9_comesUp_154 (lv_at hl 4 rfl) ?_
          obtain ⟨hi, hf⟩ := ck_some hf
          refine mr_iald C hR (k := 70) rfl hi dX9_comesUp_156 ?_
          refine lv_aload_n hx hb dX9_comesUp_157 rfl (lv_at hl 0 rfl) ?_
          refine mr_getR C hR fl_149 (by decide) dX9_comesUp_158 ?_
          refine lv_iload_n hx hb dX9_comesUp_161 rfl (lv_at hl 1 rfl) ?_
          obtain ⟨hi, hf⟩ := ck_some hf
          refine mr_iald C hR (k := 55) rfl hi dX9_comesUp_162 ?_
          refine lv_icmp_ne (tgt := 176) hx hb dX9_comesUp_163 (by decide) (fun hc => ?_) (fun hc => ?_)
          · rw [if_neg hc] at hf
            exact (wbM_comesUp_176 C hRm hGT hB ih hk184) _ _ _ _ _ _ _ hf hR hS (lv_sub hl [0, 1, 2, 4] rfl)
          · rw [if_pos hc] at hf
            refine lv_aload_n hx hb dX9_comesUp_166 rfl (lv_at hl 0 rfl) ?_
            refine lv_bipush (v := 14) hx hb dX9_comesUp_167 (by decide) ?_
            refine lv_iconst (v := 0) hx hb dX9_comesUp_169 (by decide) ?_
            obtain ⟨o170, ho170, hf⟩ := bnd_some hf
            refine mr_callIv C hR hS (As := [.int 14, .int 0]) (rest := []) (MM_fails l d g N 14 0 S o170 ho170) wv_497 ⟨by omega, by omega⟩ rfl rfl (Nat.le_of_ble_eq_true rfl) hl.1 dX9_comesUp_170 ⟨Nat.zero_le _, Nat.zero_le _⟩ (fun H locs hR hS => ?_)
            refine lv_goto (tgt := 177) hx hb dX9_comesUp_173 (by decide) ?_
            exact (wbM_comesUp_177 C hRm hGT hB ih hk184) _ _ _ _ _ _ _ _ hf hR hS (lv_sub hl [0, 1, 2, 4] rfl)
def bM_comesUp_345 (N : Nat) (GT : Nat → Int32 → Int32 → Int32 → Int32 → Int32 → Ms → Option (Int32 × Ms)) (x3 : Int32) (S : Ms) : Option (Int32 × Ms) := some (x3, S)
set_option maxRecDepth 100000 in
set_option maxHeartbeats 4000000 in
theorem wbM_comesUp_345 {p : Program} {l : Launch} {e : Env} {R : Room} {s : State} {m : MethodId} {args : Array Value} {below : List Frame} {meth : Method} {c : Code} {d : Dd} {g : Gm} {o : Int32 × Ms} {fr lo : Nat} {N : Nat} {GT : Nat → Int32 → Int32 → Int32 → Int32 → Int32 → Ms → Option (Int32 × Ms)} (C : CM p s m args meth c d g cX9_comesUp 5 (some .int)) (hRm : (fr + 1) ≤ R.frames ∧ (lo + 60) ≤ R.locals) (hGT : HT l d g GT fr lo) (hB : 2 ≤ fr ∧ 46 ≤ lo) (x3 : Int32) (S : Ms) (H : Heap) (locs : List Loc) (ls : Array Slot) (hf : bM_comesUp_345 N GT x3 S = some o) (hR : RM d g S H) (hS : va_S (AM g) s.heap H locs) (hl : lv_has ls 5 [(0, .ref g.1), (3, .int x3)]) : W p l e R s m args below meth c H locs 0 0 (MQ below (QI d g o) args s 0 0 (AM g)) (F0 m 345 ls []) := by
  obtain ⟨hx, hb, hml, hown, hts, hK, hg, hr, hlk⟩ := id C
  unfold bM_comesUp_345 at hf
  refine lv_iload_n hx hb dX9_comesUp_345 rfl (lv_at hl 1 rfl) ?_
  exact mr_iret C hR hS hf dX9_comesUp_346
def bM_comesUp_325 (N : Nat) (GT : Nat → Int32 → Int32 → Int32 → Int32 → Int32 → Ms → Option (Int32 × Ms)) (x1 : Int32) (x3 : Int32) (S : Ms) : Option (Int32 × Ms) := ck x1 24 (ck x1 24 ((bM_comesUp_345 N GT) x3 (pA (pA S 57 (x1 : Int32).toNatClampNeg (mF S 90)) 58 (x1 : Int32).toNatClampNeg (mF (pA S 57 (x1 : Int32).toNatClampNeg (mF S 90)) 91))))
set_option maxRecDepth 100000 in
set_option maxHeartbeats 4000000 in
theorem wbM_comesUp_325 {p : Program} {l : Launch} {e : Env} {R : Room} {s : State} {m : MethodId} {args : Array Value} {below : List Frame} {meth : Method} {c : Code} {d : Dd} {g : Gm} {o : Int32 × Ms} {fr lo : Nat} {N : Nat} {GT : Nat → Int32 → Int32 → Int32 → Int32 → Int32 → Ms → Option (Int32 × Ms)} (C : CM p s m args meth c d g cX9_comesUp 5 (some .int)) (hRm : (fr + 1) ≤ R.frames ∧ (lo + 60) ≤ R.locals) (hGT : HT l d g GT fr lo) (hB : 2 ≤ fr ∧ 46 ≤ lo) (x1 : Int32) (x3 : Int32) (S : Ms) (H : Heap) (locs : List Loc) (ls : Array Slot) (hf : bM_comesUp_325 N GT x1 x3 S = some o) (hR : RM d g S H) (hS : va_S (AM g) s.heap H locs) (hl : lv_has ls 5 [(0, .ref g.1), (1, .int x1), (3, .int x3)]) : W p l e R s m args below meth c H locs 0 0 (MQ below (QI d g o) args s 0 0 (AM g)) (F0 m 325 ls []) := by
  obtain ⟨hx, hb, hml, hown, hts, hK, hg, hr, hlk⟩ := id C
  unfold bM_comesUp_325 at hf
  refine lv_aload_n hx hb dX9_comesUp_325 rfl (lv_at hl 0 rfl) ?_
  refine mr_getR C hR fl_155 (by decide) dX9_comesUp_326 ?_
  refine lv_iload_n hx hb dX9_comesUp_329 rfl (lv_at hl 1 rfl) ?_
  refine lv_aload_n hx hb dX9_comesUp_330 rfl (lv_at hl 0 rfl) ?_
  refine mr_getI C hR fl_491 rfl dX9_comesUp_331 ?_
  obtain ⟨hi, hf⟩ := ck_some hf
  refine mr_iast C hR hS (k := 57) rfl hi dX9_comesUp_334 (fun H locs hR hS => ?_)
  refine lv_aload_n hx hb dX9_comesUp_335 rfl (lv_at hl 0 rfl) ?_
  refine mr_getR C hR fl_158 (by decide) dX9_comesUp_336 ?_
  refine lv_iload_n hx hb dX9_comesUp_339 rfl (lv_at hl 1 rfl) ?_
  refine lv_aload_n hx hb dX9_comesUp_340 rfl (lv_at hl 0 rfl) ?_
  refine mr_getI C hR fl_494 rfl dX9_comesUp_341 ?_
  obtain ⟨hi, hf⟩ := ck_some hf
  refine mr_iast C hR hS (k := 58) rfl hi dX9_comesUp_344 (fun H locs hR hS => ?_)
  exact (wbM_comesUp_345 C hRm hGT hB) _ _ _ _ _ hf hR hS (lv_sub hl [0, 2] rfl)
def bM_comesUp_201 (N : Nat) (GT : Nat → Int32 → Int32 → Int32 → Int32 → Int32 → Ms → Option (Int32 × Ms)) (x1 : Int32) (x3 : Int32) (S : Ms) : Option (Int32 × Ms) := if x3 = 0 then (ck x1 24 (ck (mF (pA S 54 (x1 : Int32).toNatClampNeg 2) 75) 800 (ck x1 24 (ck (mF (pA (pA S 54 (x1 : Int32).toNatClampNeg 2) 72 (mF (pA S 54 (x1 : Int32).toNatClampNeg 2) 75 : Int32).toNatClampNeg x1) 75) 800 (ck (mF (pA (pA (pA S 54 (x1 : Int32).toNatClampNeg 2) 72 (mF (pA S 54 (x1 : Int32).toNatClampNeg 2) 75 : Int32).toNatClampNeg x1) 73 (mF (pA (pA S 54 (x1 : Int32).toNatClampNeg 2) 72 (mF (pA S 54 (x1 : Int32).toNatClampNeg 2) 75 : Int32).toNatClampNeg x1) 75 : Int32).toNatClampNeg (mA (pA (pA S 54 (x1 : Int32).toNatClampNeg 2) 72 (mF (pA S 54 (x1 : Int32).toNatClampNeg 2) 75 : Int32).toNatClampNeg x1) 55 (x1 : Int32).toNatClampNeg)) 75) 800 ((bM_comesUp_345 N GT) x3 (pF (pA (pA (pA (pA S 54 (x1 : Int32).toNatClampNeg 2) 72 (mF (pA S 54 (x1 : Int32).toNatClampNeg 2) 75 : Int32).toNatClampNeg x1) 73 (mF (pA (pA S 54 (x1 : Int32).toNatClampNeg 2) 72 (mF (pA S 54 (x1 : Int32).toNatClampNeg 2) 75 : Int32).toNatClampNeg x1) 75 : Int32).toNatClampNeg (mA (pA (pA S 54 (x1 : Int32).toNatClampNeg 2) 72 (mF (pA S 54 (x1 : Int32).toNatClampNeg 2) 75 : Int32).toNatClampNeg x1) 55 (x1 : Int32).toNatClampNeg)) 74 (mF (pA (pA (pA S 54 (x1 : Int32).toNatClampNeg 2) 72 (mF (pA S 54 (x1 : Int32).toNatClampNeg 2) 75 : Int32).toNatClampNeg x1) 73 (mF (pA (pA S 54 (x1 : Int32).toNatClampNeg 2) 72 (mF (pA S 54 (x1 : Int32).toNatClampNeg 2) 75 : Int32).toNatClampNeg x1) 75 : Int32).toNatClampNeg (mA (pA (pA S 54 (x1 : Int32).toNatClampNeg 2) 72 (mF (pA S 54 (x1 : Int32).toNatClampNeg 2) 75 : Int32).toNatClampNeg x1) 55 (x1 : Int32).toNatClampNeg)) 75 : Int32).toNatClampNeg (mF (pA (pA (pA S 54 (x1 : Int32).toNatClampNeg 2) 72 (mF (pA S 54 (x1 : Int32).toNatClampNeg 2) 75 : Int32).toNatClampNeg x1) 73 (mF (pA (pA S 54 (x1 : Int32).toNatClampNeg 2) 72 (mF (pA S 54 (x1 : Int32).toNatClampNeg 2) 75 : Int32).toNatClampNeg x1) 75 : Int32).toNatClampNeg (mA (pA (pA S 54 (x1 : Int32).toNatClampNeg 2) 72 (mF (pA S 54 (x1 : Int32).toNatClampNeg 2) 75 : Int32).toNatClampNeg x1) 55 (x1 : Int32).toNatClampNeg)) 92)) 75 ((mF (pA (pA (pA (pA S 54 (x1 : Int32).toNatClampNeg 2) 72 (mF (pA S 54 (x1 : Int32).toNatClampNeg 2) 75 : Int32).toNatClampNeg x1) 73 (mF (pA (pA S 54 (x1 : Int32).toNatClampNeg 2) 72 (mF (pA S 54 (x1 : Int32).toNatClampNeg 2) 75 : Int32).toNatClampNeg x1) 75 : Int32).toNatClampNeg (mA (pA (pA S 54 (x1 : Int32).toNatClampNeg 2) 72 (mF (pA S 54 (x1 : Int32).toNatClampNeg 2) 75 : Int32).toNatClampNeg x1) 55 (x1 : Int32).toNatClampNeg)) 74 (mF (pA (pA (pA S 54 (x1 : Int32).toNatClampNeg 2) 72 (mF (pA S 54 (x1 : Int32).toNatClampNeg 2) 75 : Int32).toNatClampNeg x1) 73 (mF (pA (pA S 54 (x1 : Int32).toNatClampNeg 2) 72 (mF (pA S 54 (x1 : Int32).toNatClampNeg 2) 75 : Int32).toNatClampNeg x1) 75 : Int32).toNatClampNeg (mA (pA (pA S 54 (x1 : Int32).toNatClampNeg 2) 72 (mF (pA S 54 (x1 : Int32).toNatClampNeg 2) 75 : Int32).toNatClampNeg x1) 55 (x1 : Int32).toNatClampNeg)) 75 : Int32).toNatClampNeg (mF (pA (pA (pA S 54 (x1 : Int32).toNatClampNeg 2) 72 (mF (pA S 54 (x1 : Int32).toNatClampNeg 2) 75 : Int32).toNatClampNeg x1) 73 (mF (pA (pA S 54 (x1 : Int32).toNatClampNeg 2) 72 (mF (pA S 54 (x1 : Int32).toNatClampNeg 2) 75 : Int32).toNatClampNeg x1) 75 : Int32).toNatClampNeg (mA (pA (pA S 54 (x1 : Int32).toNatClampNeg 2) 72 (mF (pA S 54 (x1 : Int32).toNatClampNeg 2) 75 : Int32).toNatClampNeg x1) 55 (x1 : Int32).toNatClampNeg)) 92)) 75) + 1)))))))) else (ck x1 24 (if x3 = 2 then (ck x1 24 (ck x1 24 ((bM_comesUp_345 N GT) x3 (pA (pA (pA S 54 (x1 : Int32).toNatClampNeg 3) 57 (x1 : Int32).toNatClampNeg 22) 58 (x1 : Int32).toNatClampNeg 0)))) else (if (mF (pA S 54 (x1 : Int32).toNatClampNeg 3) 90) = 20 then ((bM_comesUp_325 N GT) x1 x3 (pA S 54 (x1 : Int32).toNatClampNeg 3)) else (if (mF (pA S 54 (x1 : Int32).toNatClampNeg 3) 90) = 21 then ((bM_comesUp_325 N GT) x1 x3 (pA S 54 (x1 : Int32).toNatClampNeg 3)) else ((bM_comesUp_325 N GT) x1 x3 (pF (pF (pA S 54 (x1 : Int32).toNatClampNeg 3) 91 (mF (pA S 54 (x1 : Int32).toNatClampNeg 3) 90)) 90 20))))))
set_option maxRecDepth 100000 in
set_option maxHeartbeats 4000000 in
theorem wbM_comesUp_201 {p : Program} {l : Launch} {e : Env} {R : Room} {s : State} {m : MethodId} {args : Array Value} {below : List Frame} {meth : Method} {c : Code} {d : Dd} {g : Gm} {o : Int32 × Ms} {fr lo : Nat} {N : Nat} {GT : Nat → Int32 → Int32 → Int32 → Int32 → Int32 → Ms → Option (Int32 × Ms)} (C : CM p s m args meth c d g cX9_comesUp 5 (some .int)) (hRm : (fr + 1) ≤ R.frames ∧ (lo + 60) ≤ R.locals) (hGT : HT l d g GT fr lo) (hB : 2 ≤ fr ∧ 46 ≤ lo) (x1 : Int32) (x3 : Int32) (S : Ms) (H : Heap) (locs : List Loc) (ls : Array Slot) (hf : bM_comesUp_201 N GT x1 x3 S = some o) (hR : RM d g S H) (hS : va_S (AM g) s.heap H locs) (hl : lv_has ls 5 [(0, .ref g.1), (1, .int x1), (3, .int x3)]) : W p l e R s m args below meth c H locs 0 0 (MQ below (QI d g o) args s 0 0 (AM g)) (F0 m 201 ls []) := by
  obtain ⟨hx, hb, hml, hown, hts, hK, hg, hr, hlk⟩ := id C
  unfold bM_comesUp_201 at hf
  refine lv_iload_n hx hb dX9_comesUp_201 rfl (lv_at hl 2 rfl) ?_
  refine lv_if_ne (tgt := 263) hx hb dX9_comesUp_202 (by decide) (fun hc => ?_) (fun hc => ?_)
  · rw [if_neg hc] at hf
    refine lv_aload_n hx hb dX9_comesUp_263 rfl (lv_at hl 0 rfl) ?_
    refine mr_getR C hR fl_146 (by decide) dX9_comesUp_264 ?_
    refine lv_iload_n hx hb dX9_comesUp_267 rfl (lv_at hl 1 rfl) ?_
    refine lv_iconst (v := 3) hx hb dX9_comesUp_268 (by decide) ?_
    obtain ⟨hi, hf⟩ := ck_some hf
    refine mr_iast C hR hS (k := 54) rfl hi dX9_comesUp_269 (fun H locs hR hS => ?_)
    refine lv_iload_n hx hb dX9_comesUp_270 rfl (lv_at hl 2 rfl) ?_
    refine lv_iconst (v := 2) hx hb dX9_comesUp_271 (by decide) ?_
    refine lv_icmp_ne (tgt := 293) hx hb dX9_comesUp_272 (by decide) (fun hc => ?_) (fun hc => ?_)
    · rw [if_neg hc] at hf
      refine lv_aload_n hx hb dX9_comesUp_293 rfl (lv_at hl 0 rfl) ?_
      refine mr_getI C hR fl_491 rfl dX9_comesUp_294 ?_
      refine lv_bipush (v := 20) hx hb dX9_comesUp_297 (by decide) ?_
      refine lv_icmp_eq (tgt := 325) hx hb dX9_comesUp_299 (by decide) (fun hc => ?_) (fun hc => ?_)
      · rw [if_pos hc] at hf
        exact (wbM_comesUp_325 C hRm hGT hB) _ _ _ _ _ _ hf hR hS (lv_sub hl [0, 1, 2] rfl)
      · rw [if_neg hc] at hf
        refine lv_aload_n hx hb dX9_comesUp_302 rfl (lv_at hl 0 rfl) ?_
        refine mr_getI C hR fl_491 rfl dX9_comesUp_303 ?_
        refine lv_bipush (v := 21) hx hb dX9_comesUp_306 (by decide) ?_
        refine lv_icmp_eq (tgt := 325) hx hb dX9_comesUp_308 (by decide) (fun hc => ?_) (fun hc => ?_)
        · rw [if_pos hc] at hf
          exact (wbM_comesUp_325 C hRm hGT hB) _ _ _ _ _ _ hf hR hS (lv_sub hl [0, 1, 2] rfl)
        · rw [if_neg hc] at hf
          refine lv_aload_n hx hb dX9_comesUp_311 rfl (lv_at hl 0 rfl) ?_
          refine lv_aload_n hx hb dX9_comesUp_312 rfl (lv_at hl 0 rfl) ?_
          refine mr_getI C hR fl_491 rfl dX9_comesUp_313 ?_
          refine mr_putI C hR hS fl_494 ⟨rfl, rfl, rfl⟩ dX9_comesUp_316 (fun H locs hR hS => ?_)
          refine lv_aload_n hx hb dX9_comesUp_319 rfl (lv_at hl 0 rfl) ?_
          refine lv_bipush (v := 20) hx hb dX9_comesUp_320 (by decide) ?_
          refine mr_putI C hR hS fl_491 ⟨rfl, rfl, rfl⟩ dX9_comesUp_322 (fun H locs hR hS => ?_)
          exact (wbM_comesUp_325 C hRm hGT hB) _ _ _ _ _ _ hf hR hS (lv_sub hl [0, 1, 2] rfl)
    · rw [if_pos hc] at hf
      refine lv_aload_n hx hb dX9_comesUp_275 rfl (lv_at hl 0 rfl) ?_
      refine mr_getR C hR fl_155 (by decide) dX9_comesUp_276 ?_
      refine lv_iload_n hx hb dX9_comesUp_279 rfl (lv_at hl 1 rfl) ?_
      refine lv_bipush (v := 22) hx hb dX9_comesUp_280 (by decide) ?_
      obtain ⟨hi, hf⟩ := ck_some hf
      refine mr_iast C hR hS (k := 57) rfl hi dX9_comesUp_282 (fun H locs hR hS => ?_)
      refine lv_aload_n hx hb dX9_comesUp_283 rfl (lv_at hl 0 rfl) ?_
      refine mr_getR C hR fl_158 (by decide) dX9_comesUp_284 ?_
      refine lv_iload_n hx hb dX9_comesUp_287 rfl (lv_at hl 1 rfl) ?_
      refine lv_iconst (v := 0) hx hb dX9_comesUp_288 (by decide) ?_
      obtain ⟨hi, hf⟩ := ck_some hf
      refine mr_iast C hR hS (k := 58) rfl hi dX9_comesUp_289 (fun H locs hR hS => ?_)
      refine lv_goto (tgt := 345) hx hb dX9_comesUp_290 (by decide) ?_
      exact (wbM_comesUp_345 C hRm hGT hB) _ _ _ _ _ hf hR hS (lv_sub hl [0, 2] rfl)
  · rw [if_pos hc] at hf
    refine lv_aload_n hx hb dX9_comesUp_205 rfl (lv_at hl 0 rfl) ?_
    refine mr_getR C hR fl_146 (by decide) dX9_comesUp_206 ?_
    refine lv_iload_n hx hb dX9_comesUp_209 rfl (lv_at hl 1 rfl) ?_
    refine lv_iconst (v := 2) hx hb dX9_comesUp_210 (by decide) ?_
    obtain ⟨hi, hf⟩ := ck_some hf
    refine mr_iast C hR hS (k := 54) rfl hi dX9_comesUp_211 (fun H locs hR hS => ?_)
    refine lv_aload_n hx hb dX9_comesUp_212 rfl (lv_at hl 0 rfl) ?_
    refine mr_getR C hR fl_179 (by decide) dX9_comesUp_213 ?_
    refine lv_aload_n hx hb dX9_comesUp_216 rfl (lv_at hl 0 rfl) ?_
    refine mr_getI C hR fl_470 rfl dX9_comesUp_217 ?_
    refine lv_iload_n hx hb dX9_comesUp_220 rfl (lv_at hl 1 rfl) ?_
    obtain ⟨hi, hf⟩ := ck_some hf
    refine mr_iast C hR hS (k := 72) rfl hi dX9_comesUp_221 (fun H locs hR hS => ?_)
    refine lv_aload_n hx hb dX9_comesUp_222 rfl (lv_at hl 0 rfl) ?_
    refine mr_getR C hR fl_182 (by decide) dX9_comesUp_223 ?_
    refine lv_aload_n hx hb dX9_comesUp_226 rfl (lv_at hl 0 rfl) ?_
    refine mr_getI C hR fl_470 rfl dX9_comesUp_227 ?_
    refine lv_aload_n hx hb dX9_comesUp_230 rfl (lv_at hl 0 rfl) ?_
    refine mr_getR C hR fl_149 (by decide) dX9_comesUp_231 ?_
    refine lv_iload_n hx hb dX9_comesUp_234 rfl (lv_at hl 1 rfl) ?_
    obtain ⟨hi, hf⟩ := ck_some hf
    refine mr_iald C hR (k := 55) rfl hi dX9_comesUp_235 ?_
    obtain ⟨hi, hf⟩ := ck_some hf
    refine mr_iast C hR hS (k := 73) rfl hi dX9_comesUp_236 (fun H locs hR hS => ?_)
    refine lv_aload_n hx hb dX9_comesUp_237 rfl (lv_at hl 0 rfl) ?_
    refine mr_getR C hR fl_185 (by decide) dX9_comesUp_238 ?_
    refine lv_aload_n hx hb dX9_comesUp_241 rfl (lv_at hl 0 rfl) ?_
    refine mr_getI C hR fl_470 rfl dX9_comesUp_242 ?_
    refine lv_aload_n hx hb dX9_comesUp_245 rfl (lv_at hl 0 rfl) ?_
    refine mr_getI C hR fl_513 rfl dX9_comesUp_246 ?_
    obtain ⟨hi, hf⟩ := ck_some hf
    refine mr_iast C hR hS (k := 74) rfl hi dX9_comesUp_249 (fun H locs hR hS => ?_)
    refine lv_aload_n hx hb dX9_comesUp_250 rfl (lv_at hl 0 rfl) ?_
    refine lv_dup hx hb dX9_comesUp_251 rfl ?_
    refine mr_getI C hR fl_470 rfl dX9_comesUp_252 ?_
    refine lv_iconst (v := 1) hx hb dX9_comesUp_255 (by decide) ?_
    refine lv_iadd hx hb dX9_comesUp_256 ?_
    refine mr_putI C hR hS fl_470 ⟨rfl, rfl, rfl⟩ dX9_comesUp_257 (fun H locs hR hS => ?_)
    refine lv_goto (tgt := 345) hx hb dX9_comesUp_260 (by decide) ?_
    exact (wbM_comesUp_345 C hRm hGT hB) _ _ _ _ _ hf hR hS (lv_sub hl [0, 2] rfl)
def bM_comesUp_184 (N : Nat) (GT : Nat → Int32 → Int32 → Int32 → Int32 → Int32 → Ms → Option (Int32 × Ms)) (x1 : Int32) (x2 : Int32) (x3 : Int32) (S : Ms) : Option (Int32 × Ms) := if x3 = 0 then (ck x2 48 ((GT 3 (mA S 32 (x2 : Int32).toNatClampNeg) x1 0 0 0 S).bind fun o197 => (bM_comesUp_201 N GT) x1 o197.1 o197.2)) else ((bM_comesUp_201 N GT) x1 x3 S)
set_option maxRecDepth 100000 in
set_option maxHeartbeats 4000000 in
theorem wbM_comesUp_184 {p : Program} {l : Launch} {e : Env} {R : Room} {s : State} {m : MethodId} {args : Array Value} {below : List Frame} {meth : Method} {c : Code} {d : Dd} {g : Gm} {o : Int32 × Ms} {fr lo : Nat} {N : Nat} {GT : Nat → Int32 → Int32 → Int32 → Int32 → Int32 → Ms → Option (Int32 × Ms)} (C : CM p s m args meth c d g cX9_comesUp 5 (some .int)) (hRm : (fr + 1) ≤ R.frames ∧ (lo + 60) ≤ R.locals) (hGT : HT l d g GT fr lo) (hB : 2 ≤ fr ∧ 46 ≤ lo) (x1 : Int32) (x2 : Int32) (x3 : Int32) (S : Ms) (H : Heap) (locs : List Loc) (ls : Array Slot) (hf : bM_comesUp_184 N GT x1 x2 x3 S = some o) (hR : RM d g S H) (hS : va_S (AM g) s.heap H locs) (hl : lv_has ls 5 [(0, .ref g.1), (1, .int x1), (2, .int x2), (3, .int x3)]) : W p l e R s m args below meth c H locs 0 0 (MQ below (QI d g o) args s 0 0 (AM g)) (F0 m 184 ls []) := by
  obtain ⟨hx, hb, hml, hown, hts, hK, hg, hr, hlk⟩ := id C
  unfold bM_comesUp_184 at hf
  refine lv_iload_n hx hb dX9_comesUp_184 rfl (lv_at hl 3 rfl) ?_
  refine lv_if_ne (tgt := 201) hx hb dX9_comesUp_185 (by decide) (fun hc => ?_) (fun hc => ?_)
  · rw [if_neg hc] at hf
    exact (wbM_comesUp_201 C hRm hGT hB) _ _ _ _ _ _ hf hR hS (lv_sub hl [0, 1, 3] rfl)
  · rw [if_pos hc] at hf
    refine lv_aload_n hx hb dX9_comesUp_188 rfl (lv_at hl 0 rfl) ?_
    refine lv_aload_n hx hb dX9_comesUp_189 rfl (lv_at hl 0 rfl) ?_
    refine mr_getR C hR fl_101 (by decide) dX9_comesUp_190 ?_
    refine lv_iload_n hx hb dX9_comesUp_193 rfl (lv_at hl 2 rfl) ?_
    obtain ⟨hi, hf⟩ := ck_some hf
    refine mr_iald C hR (k := 32) rfl hi dX9_comesUp_194 ?_
    refine lv_iload_n hx hb dX9_comesUp_195 rfl (lv_at hl 1 rfl) ?_
    refine lv_iconst (v := 0) hx hb dX9_comesUp_196 (by decide) ?_
    obtain ⟨o197, ho197, hf⟩ := bnd_some hf
    refine mr_callIv C hR hS (As := [.int (mA S 32 (x2 : Int32).toNatClampNeg), .int x1, .int 0]) (rest := []) (hGT.2.2.2.1 _ _ _ _ _ ho197) wv_509 ⟨by omega, by omega⟩ rfl rfl (Nat.le_of_ble_eq_true rfl) hl.1 dX9_comesUp_197 ⟨Nat.zero_le _, Nat.zero_le _⟩ (fun H locs hR hS => ?_)
    refine lv_istore_n (lv' := [(3, .int o197.1), (0, .ref g.1), (1, .int x1), (2, .int x2)]) hx hb dX9_comesUp_200 rfl hl (by decide) rfl (fun ls hl => ?_)
    exact (wbM_comesUp_201 C hRm hGT hB) _ _ _ _ _ _ hf hR hS (lv_sub hl [1, 2, 0] rfl)
def bM_comesUp_123 (N : Nat) (GT : Nat → Int32 → Int32 → Int32 → Int32 → Int32 → Ms → Option (Int32 × Ms)) (x1 : Int32) (x2 : Int32) (x3 : Int32) (S : Ms) : Option (Int32 × Ms) := (lM_comesUp_126 N GT (bM_comesUp_184 N GT) N) x1 x2 x3 0 S
set_option maxRecDepth 100000 in
set_option maxHeartbeats 4000000 in
theorem wbM_comesUp_123 {p : Program} {l : Launch} {e : Env} {R : Room} {s : State} {m : MethodId} {args : Array Value} {below : List Frame} {meth : Method} {c : Code} {d : Dd} {g : Gm} {o : Int32 × Ms} {fr lo : Nat} {N : Nat} {GT : Nat → Int32 → Int32 → Int32 → Int32 → Int32 → Ms → Option (Int32 × Ms)} (C : CM p s m args meth c d g cX9_comesUp 5 (some .int)) (hRm : (fr + 1) ≤ R.frames ∧ (lo + 60) ≤ R.locals) (hGT : HT l d g GT fr lo) (hB : 2 ≤ fr ∧ 46 ≤ lo) (x1 : Int32) (x2 : Int32) (x3 : Int32) (S : Ms) (H : Heap) (locs : List Loc) (ls : Array Slot) (hf : bM_comesUp_123 N GT x1 x2 x3 S = some o) (hR : RM d g S H) (hS : va_S (AM g) s.heap H locs) (hl : lv_has ls 5 [(0, .ref g.1), (1, .int x1), (2, .int x2), (3, .int x3)]) : W p l e R s m args below meth c H locs 0 0 (MQ below (QI d g o) args s 0 0 (AM g)) (F0 m 123 ls []) := by
  obtain ⟨hx, hb, hml, hown, hts, hK, hg, hr, hlk⟩ := id C
  unfold bM_comesUp_123 at hf
  refine lv_iconst (v := 0) hx hb dX9_comesUp_123 (by decide) ?_
  refine lv_istore (lv' := [(4, .int 0), (0, .ref g.1), (1, .int x1), (2, .int x2), (3, .int x3)]) hx hb dX9_comesUp_124 hl (by decide) rfl (fun ls hl => ?_)
  exact (wlM_comesUp_126 C hRm hGT hB (wbM_comesUp_184 C hRm hGT hB) N) _ _ _ _ _ _ _ _ hf hR hS (lv_sub hl [1, 2, 3, 4, 0] rfl)
def bM_comesUp_81 (N : Nat) (GT : Nat → Int32 → Int32 → Int32 → Int32 → Int32 → Ms → Option (Int32 × Ms)) (x1 : Int32) (x2 : Int32) (x3 : Int32) (S : Ms) : Option (Int32 × Ms) := (lM_comesUp_84 N GT (bM_comesUp_123 N GT) N) x1 x2 x3 0 S
set_option maxRecDepth 100000 in
set_option maxHeartbeats 4000000 in
theorem wbM_comesUp_81 {p : Program} {l : Launch} {e : Env} {R : Room} {s : State} {m : MethodId} {args : Array Value} {below : List Frame} {meth : Method} {c : Code} {d : Dd} {g : Gm} {o : Int32 × Ms} {fr lo : Nat} {N : Nat} {GT : Nat → Int32 → Int32 → Int32 → Int32 → Int32 → Ms → Option (Int32 × Ms)} (C : CM p s m args meth c d g cX9_comesUp 5 (some .int)) (hRm : (fr + 1) ≤ R.frames ∧ (lo + 60) ≤ R.locals) (hGT : HT l d g GT fr lo) (hB : 2 ≤ fr ∧ 46 ≤ lo) (x1 : Int32) (x2 : Int32) (x3 : Int32) (S : Ms) (H : Heap) (locs : List Loc) (ls : Array Slot) (hf : bM_comesUp_81 N GT x1 x2 x3 S = some o) (hR : RM d g S H) (hS : va_S (AM g) s.heap H locs) (hl : lv_has ls 5 [(0, .ref g.1), (1, .int x1), (2, .int x2), (3, .int x3)]) : W p l e R s m args below meth c H locs 0 0 (MQ below (QI d g o) args s 0 0 (AM g)) (F0 m 81 ls []) := by
  obtain ⟨hx, hb, hml, hown, hts, hK, hg, hr, hlk⟩ := id C
  unfold bM_comesUp_81 at hf
  refine lv_iconst (v := 0) hx hb dX9_comesUp_81 (by decide) ?_
  refine lv_istore (lv' := [(4, .int 0), (0, .ref g.1), (1, .int x1), (2, .int x2), (3, .int x3)]) hx hb dX9_comesUp_82 hl (by decide) rfl (fun ls hl => ?_)
  exact (wlM_comesUp_84 C hRm hGT hB (wbM_comesUp_123 C hRm hGT hB) N) _ _ _ _ _ _ _ _ hf hR hS (lv_sub hl [1, 2, 3, 4, 0] rfl)
def bM_comesUp_51 (N : Nat) (GT : Nat → Int32 → Int32 → Int32 → Int32 → Int32 → Ms → Option (Int32 × Ms)) (x1 : Int32) (x2 : Int32) (s0 : Int32) (S : Ms) : Option (Int32 × Ms) := (lM_comesUp_55 N GT (bM_comesUp_81 N GT) N) x1 x2 s0 0 S
set_option maxRecDepth 100000 in
set_option maxHeartbeats 4000000 in
theorem wbM_comesUp_51 {p : Program} {l : Launch} {e : Env} {R : Room} {s : State} {m : MethodId} {args : Array Value} {below : List Frame} {meth : Method} {c : Code} {d : Dd} {g : Gm} {o : Int32 × Ms} {fr lo : Nat} {N : Nat} {GT : Nat → Int32 → Int32 → Int32 → Int32 → Int32 → Ms → Option (Int32 × Ms)} (C : CM p s m args meth c d g cX9_comesUp 5 (some .int)) (hRm : (fr + 1) ≤ R.frames ∧ (lo + 60) ≤ R.locals) (hGT : HT l d g GT fr lo) (hB : 2 ≤ fr ∧ 46 ≤ lo) (x1 : Int32) (x2 : Int32) (s0 : Int32) (S : Ms) (H : Heap) (locs : List Loc) (ls : Array Slot) (hf : bM_comesUp_51 N GT x1 x2 s0 S = some o) (hR : RM d g S H) (hS : va_S (AM g) s.heap H locs) (hl : lv_has ls 5 [(0, .ref g.1), (1, .int x1), (2, .int x2)]) : W p l e R s m args below meth c H locs 0 0 (MQ below (QI d g o) args s 0 0 (AM g)) (F0 m 51 ls [.int s0]) := by
  obtain ⟨hx, hb, hml, hown, hts, hK, hg, hr, hlk⟩ := id C
  unfold bM_comesUp_51 at hf
  refine lv_istore_n (lv' := [(3, .int s0), (0, .ref g.1), (1, .int x1), (2, .int x2)]) hx hb dX9_comesUp_51 rfl hl (by decide) rfl (fun ls hl => ?_)
  refine lv_iconst (v := 0) hx hb dX9_comesUp_52 (by decide) ?_
  refine lv_istore (lv' := [(4, .int 0), (3, .int s0), (0, .ref g.1), (1, .int x1), (2, .int x2)]) hx hb dX9_comesUp_53 hl (by decide) rfl (fun ls hl => ?_)
  exact (wlM_comesUp_55 C hRm hGT hB (wbM_comesUp_81 C hRm hGT hB) N) _ _ _ _ _ _ _ _ hf hR hS (lv_sub hl [2, 3, 4, 1, 0] rfl)
def fM_comesUp (N : Nat) (GT : Nat → Int32 → Int32 → Int32 → Int32 → Int32 → Ms → Option (Int32 × Ms)) (x1 : Int32) (S : Ms) : Option (Int32 × Ms) := ck x1 24 (ck ((24 * (mF S 11)) + x1) 48 (if (mA (pA S 54 (x1 : Int32).toNatClampNeg 1) 20 ((24 * (mF S 11)) + x1 : Int32).toNatClampNeg) = 0 then ((bM_comesUp_123 N GT) x1 ((24 * (mF S 11)) + x1) 0 (pA S 54 (x1 : Int32).toNatClampNeg 1)) else (ck ((24 * (mF S 11)) + x1) 48 (if 0 ≤ (mA (pA S 54 (x1 : Int32).toNatClampNeg 1) 22 ((24 * (mF S 11)) + x1 : Int32).toNatClampNeg) then (ck ((24 * (mF S 11)) + x1) 48 ((GT 0 (mA (pA S 54 (x1 : Int32).toNatClampNeg 1) 22 ((24 * (mF S 11)) + x1 : Int32).toNatClampNeg) 0 0 0 0 (pA S 54 (x1 : Int32).toNatClampNeg 1)).bind fun o48 => (bM_comesUp_51 N GT) x1 ((24 * (mF S 11)) + x1) o48.1 o48.2)) else ((bM_comesUp_51 N GT) x1 ((24 * (mF S 11)) + x1) 0 (pA S 54 (x1 : Int32).toNatClampNeg 1))))))
set_option maxRecDepth 100000 in
set_option maxHeartbeats 4000000 in
theorem wfM_comesUp {p : Program} {l : Launch} {e : Env} {R : Room} {s : State} {m : MethodId} {args : Array Value} {below : List Frame} {meth : Method} {c : Code} {d : Dd} {g : Gm} {o : Int32 × Ms} {fr lo : Nat} {N : Nat} {GT : Nat → Int32 → Int32 → Int32 → Int32 → Int32 → Ms → Option (Int32 × Ms)} (C : CM p s m args meth c d g cX9_comesUp 5 (some .int)) (hRm : (fr + 1) ≤ R.frames ∧ (lo + 60) ≤ R.locals) (hGT : HT l d g GT fr lo) (hB : 2 ≤ fr ∧ 46 ≤ lo) (x1 : Int32) (S : Ms) (H : Heap) (locs : List Loc) (ls : Array Slot) (hf : fM_comesUp N GT x1 S = some o) (hR : RM d g S H) (hS : va_S (AM g) s.heap H locs) (hl : lv_has ls 5 [(0, .ref g.1), (1, .int x1)]) : W p l e R s m args below meth c H locs 0 0 (MQ below (QI d g o) args s 0 0 (AM g)) (F0 m 0 ls []) := by
  obtain ⟨hx, hb, hml, hown, hts, hK, hg, hr, hlk⟩ := id C
  unfold fM_comesUp at hf
  refine lv_bipush (v := 24) hx hb dX9_comesUp_0 (by decide) ?_
  refine lv_aload_n hx hb dX9_comesUp_2 rfl (lv_at hl 0 rfl) ?_
  refine mr_getI C hR fl_307 rfl dX9_comesUp_3 ?_
  refine lv_imul hx hb dX9_comesUp_6 ?_
  refine lv_iload_n hx hb dX9_comesUp_7 rfl (lv_at hl 1 rfl) ?_
  refine lv_iadd hx hb dX9_comesUp_8 ?_
  refine lv_istore_n (lv' := [(2, .int ((24 * (mF S 11)) + x1)), (0, .ref g.1), (1, .int x1)]) hx hb dX9_comesUp_9 rfl hl (by decide) rfl (fun ls hl => ?_)
  refine lv_aload_n hx hb dX9_comesUp_10 rfl (lv_at hl 1 rfl) ?_
  refine mr_getR C hR fl_146 (by decide) dX9_comesUp_11 ?_
  refine lv_iload_n hx hb dX9_comesUp_14 rfl (lv_at hl 2 rfl) ?_
  refine lv_iconst (v := 1) hx hb dX9_comesUp_15 (by decide) ?_
  obtain ⟨hi, hf⟩ := ck_some hf
  refine mr_iast C hR hS (k := 54) rfl hi dX9_comesUp_16 (fun H locs hR hS => ?_)
  refine lv_iconst (v := 0) hx hb dX9_comesUp_17 (by decide) ?_
  refine lv_istore_n (lv' := [(3, .int 0), (2, .int ((24 * (mF S 11)) + x1)), (0, .ref g.1), (1, .int x1)]) hx hb dX9_comesUp_18 rfl hl (by decide) rfl (fun ls hl => ?_)
  refine lv_aload_n hx hb dX9_comesUp_19 rfl (lv_at hl 2 rfl) ?_
  refine mr_getR C hR fl_64 (by decide) dX9_comesUp_20 ?_
  refine lv_iload_n hx hb dX9_comesUp_23 rfl (lv_at hl 1 rfl) ?_
  obtain ⟨hi, hf⟩ := ck_some hf
  refine mr_zald C hR (k := 20) rfl hi dX9_comesUp_24 ?_
  refine lv_if_eq (tgt := 123) hx hb dX9_comesUp_25 (by decide) (fun hc => ?_) (fun hc => ?_)
  · rw [if_pos hc] at hf
    exact (wbM_comesUp_123 C hRm hGT hB) _ _ _ _ _ _ _ hf hR hS (lv_sub hl [2, 3, 1, 0] rfl)
  · rw [if_neg hc] at hf
    refine lv_aload_n hx hb dX9_comesUp_28 rfl (lv_at hl 2 rfl) ?_
    refine mr_getR C hR fl_71 (by decide) dX9_comesUp_29 ?_
    refine lv_iload_n hx hb dX9_comesUp_32 rfl (lv_at hl 1 rfl) ?_
    obtain ⟨hi, hf⟩ := ck_some hf
    refine mr_iald C hR (k := 22) rfl hi dX9_comesUp_33 ?_
    refine lv_if_ge (tgt := 41) hx hb dX9_comesUp_34 (by decide) (fun hc => ?_) (fun hc => ?_)
    · rw [if_pos hc] at hf
      refine lv_aload_n hx hb dX9_comesUp_41 rfl (lv_at hl 2 rfl) ?_
      refine lv_aload_n hx hb dX9_comesUp_42 rfl (lv_at hl 2 rfl) ?_
      refine mr_getR C hR fl_71 (by decide) dX9_comesUp_43 ?_
      refine lv_iload_n hx hb dX9_comesUp_46 rfl (lv_at hl 1 rfl) ?_
      obtain ⟨hi, hf⟩ := ck_some hf
      refine mr_iald C hR (k := 22) rfl hi dX9_comesUp_47 ?_
      obtain ⟨o48, ho48, hf⟩ := bnd_some hf
      refine mr_callIv C hR hS (As := [.int (mA (pA S 54 (x1 : Int32).toNatClampNeg 1) 22 ((24 * (mF S 11)) + x1 : Int32).toNatClampNeg)]) (rest := []) (hGT.1 _ _ _ ho48) wv_503 ⟨by omega, by omega⟩ rfl rfl (Nat.le_of_ble_eq_true rfl) hl.1 dX9_comesUp_48 ⟨Nat.zero_le _, Nat.zero_le _⟩ (fun H locs hR hS => ?_)
      exact (wbM_comesUp_51 C hRm hGT hB) _ _ _ _ _ _ _ hf hR hS (lv_sub hl [2, 3, 1] rfl)
    · rw [if_neg hc] at hf
      refine lv_iconst (v := 0) hx hb dX9_comesUp_37 (by decide) ?_
      refine lv_goto (tgt := 51) hx hb dX9_comesUp_38 (by decide) ?_
      exact (wbM_comesUp_51 C hRm hGT hB) _ _ _ _ _ _ _ hf hR hS (lv_sub hl [2, 3, 1] rfl)
def lM_touchRole_44 (N : Nat) (GT : Nat → Int32 → Int32 → Int32 → Int32 → Int32 → Ms → Option (Int32 × Ms)) (k85 : Int32 → Int32 → Int32 → Ms → Option (Int32 × Ms)) : Nat → Int32 → Int32 → Int32 → Int32 → Int32 → Ms → Option (Int32 × Ms)
  | 0, _, _, _, _, _, _ => none
  | n + 1, x1, x2, x3, x4, x5, S => ck x3 48 (if (mA S 23 (x3 : Int32).toNatClampNeg) ≤ x5 then (k85 x2 x3 x4 S) else (if x4 = 0 then (ck ((6 * x3) + x5) 288 ((GT 2 x1 (mA S 24 ((6 * x3) + x5 : Int32).toNatClampNeg) 0 0 0 S).bind fun o74 => lM_touchRole_44 N GT k85 n x1 x2 x3 o74.1 (x5 + 1) o74.2)) else (k85 x2 x3 x4 S)))
set_option maxRecDepth 100000 in
set_option maxHeartbeats 4000000 in
theorem wlM_touchRole_44 {p : Program} {l : Launch} {e : Env} {R : Room} {s : State} {m : MethodId} {args : Array Value} {below : List Frame} {meth : Method} {c : Code} {d : Dd} {g : Gm} {o : Int32 × Ms} {fr lo : Nat} {N : Nat} {GT : Nat → Int32 → Int32 → Int32 → Int32 → Int32 → Ms → Option (Int32 × Ms)} {k85 : Int32 → Int32 → Int32 → Ms → Option (Int32 × Ms)} (C : CM p s m args meth c d g cX9_touchRole 6 (some .int)) (hRm : (fr + 1) ≤ R.frames ∧ (lo + 60) ≤ R.locals) (hGT : HT l d g GT fr lo) (hB : 2 ≤ fr ∧ 46 ≤ lo) (hk85 : ∀ (x2 : Int32) (x3 : Int32) (x4 : Int32) (S : Ms) (H : Heap) (locs : List Loc) (ls : Array Slot), k85 x2 x3 x4 S = some o → RM d g S H → va_S (AM g) s.heap H locs → lv_has ls 6 [(0, .ref g.1), (2, .int x2), (3, .int x3), (4, .int x4)] → W p l e R s m args below meth c H locs 0 0 (MQ below (QI d g o) args s 0 0 (AM g)) (F0 m 85 ls [])) : ∀ (n : Nat) (x1 : Int32) (x2 : Int32) (x3 : Int32) (x4 : Int32) (x5 : Int32) (S : Ms) (H : Heap) (locs : List Loc) (ls : Array Slot), lM_touchRole_44 N GT k85 n x1 x2 x3 x4 x5 S = some o → RM d g S H → va_S (AM g) s.heap H locs → lv_has ls 6 [(0, .ref g.1), (1, .int x1), (2, .int x2), (3, .int x3), (4, .int x4), (5, .int x5)] → W p l e R s m args below meth c H locs 0 0 (MQ below (QI d g o) args s 0 0 (AM g)) (F0 m 44 ls []) := by
  obtain ⟨hx, hb, hml, hown, hts, hK, hg, hr, hlk⟩ := id C
  intro n
  induction n with
  | zero => intro x1 x2 x3 x4 x5 S H locs ls hf; cases hf
  | succ n ih =>
    intro x1 x2 x3 x4 x5 S H locs ls hf hR hS hl
    rw [lM_touchRole_44] at hf
    refine lv_iload hx hb dX9_touchRole_44 (lv_at hl 5 rfl) ?_
    refine lv_aload_n hx hb dX9_touchRole_46 rfl (lv_at hl 0 rfl) ?_
    refine mr_getR C hR fl_74 (by decide) dX9_touchRole_47 ?_
    refine lv_iload_n hx hb dX9_touchRole_50 rfl (lv_at hl 3 rfl) ?_
    obtain ⟨hi, hf⟩ := ck_some hf
    refine mr_iald C hR (k := 23) rfl hi dX9_touchRole_51 ?_
    refine lv_icmp_ge (tgt := 85) hx hb dX9_touchRole_52 (by decide) (fun hc => ?_) (fun hc => ?_)
    · rw [if_pos hc] at hf
      exact hk85 _ _ _ _ _ _ _ hf hR hS (lv_sub hl [0, 2, 3, 4] rfl)
    · rw [if_neg hc] at hf
      refine lv_iload hx hb dX9_touchRole_55 (lv_at hl 4 rfl) ?_
      refine lv_if_ne (tgt := 85) hx hb dX9_touchRole_57 (by decide) (fun hc => ?_) (fun hc => ?_)
      · rw [if_neg hc] at hf
        exact hk85 _ _ _ _ _ _ _ hf hR hS (lv_sub hl [0, 2, 3, 4] rfl)
      · rw [if_pos hc] at hf
        refine lv_aload_n hx hb dX9_touchRole_60 rfl (lv_at hl 0 rfl) ?_
        refine lv_iload_n hx hb dX9_touchRole_61 rfl (lv_at hl 1 rfl) ?_
        refine lv_aload_n hx hb dX9_touchRole_62 rfl (lv_at hl 0 rfl) ?_
        refine mr_getR C hR fl_77 (by decide) dX9_touchRole_63 ?_
        refine lv_bipush (v := 6) hx hb dX9_touchRole_66 (by decide) ?_
        refine lv_iload_n hx hb dX9_touchRole_68 rfl (lv_at hl 3 rfl) ?_
        refine lv_imul hx hb dX9_touchRole_69 ?_
        refine lv_iload hx hb dX9_touchRole_70 (lv_at hl 5 rfl) ?_
        refine lv_iadd hx hb dX9_touchRole_72 ?_
        obtain ⟨hi, hf⟩ := ck_some hf
        refine mr_iald C hR (k := 24) rfl hi dX9_touchRole_73 ?_
        obtain ⟨o74, ho74, hf⟩ := bnd_some hf
        refine mr_callIv C hR hS (As := [.int x1, .int (mA S 24 ((6 * x3) + x5 : Int32).toNatClampNeg)]) (rest := []) (hGT.2.2.1 _ _ _ _ ho74) wv_506 ⟨by omega, by omega⟩ rfl rfl (Nat.le_of_ble_eq_true rfl) hl.1 dX9_touchRole_74 ⟨Nat.zero_le _, Nat.zero_le _⟩ (fun H locs hR hS => ?_)
        refine lv_istore (lv' := [(4, .int o74.1), (0, .ref g.1), (1, .int x1), (2, .int x2), (3, .int x3), (5, .int x5)]) hx hb dX9_touchRole_77 hl (by decide) rfl (fun ls hl => ?_)
        refine lv_iinc (v := x5 + 1) (lv' := [(5, .int (x5 + 1)), (4, .int o74.1), (0, .ref g.1), (1, .int x1), (2, .int x2), (3, .int x3)]) hx hb dX9_touchRole_79 hl (k := 5) rfl rfl (by decide) rfl (fun ls hl => ?_)
        refine lv_goto (tgt := 44) hx hb dX9_touchRole_82 (by decide) ?_
        exact ih _ _ _ _ _ _ _ _ _ hf hR hS (lv_sub hl [2, 3, 4, 5, 1, 0] rfl)
def bM_touchRole_109 (N : Nat) (GT : Nat → Int32 → Int32 → Int32 → Int32 → Int32 → Ms → Option (Int32 × Ms)) (s0 : Int32) (S : Ms) : Option (Int32 × Ms) := some (s0, S)
set_option maxRecDepth 100000 in
set_option maxHeartbeats 4000000 in
theorem wbM_touchRole_109 {p : Program} {l : Launch} {e : Env} {R : Room} {s : State} {m : MethodId} {args : Array Value} {below : List Frame} {meth : Method} {c : Code} {d : Dd} {g : Gm} {o : Int32 × Ms} {fr lo : Nat} {N : Nat} {GT : Nat → Int32 → Int32 → Int32 → Int32 → Int32 → Ms → Option (Int32 × Ms)} (C : CM p s m args meth c d g cX9_touchRole 6 (some .int)) (hRm : (fr + 1) ≤ R.frames ∧ (lo + 60) ≤ R.locals) (hGT : HT l d g GT fr lo) (hB : 2 ≤ fr ∧ 46 ≤ lo) (s0 : Int32) (S : Ms) (H : Heap) (locs : List Loc) (ls : Array Slot) (hf : bM_touchRole_109 N GT s0 S = some o) (hR : RM d g S H) (hS : va_S (AM g) s.heap H locs) (hl : lv_has ls 6 [(0, .ref g.1)]) : W p l e R s m args below meth c H locs 0 0 (MQ below (QI d g o) args s 0 0 (AM g)) (F0 m 109 ls [.int s0]) := by
  obtain ⟨hx, hb, hml, hown, hts, hK, hg, hr, hlk⟩ := id C
  unfold bM_touchRole_109 at hf
  exact mr_iret C hR hS hf dX9_touchRole_109
def bM_touchRole_107 (N : Nat) (GT : Nat → Int32 → Int32 → Int32 → Int32 → Int32 → Ms → Option (Int32 × Ms)) (x4 : Int32) (S : Ms) : Option (Int32 × Ms) := (bM_touchRole_109 N GT) x4 S
set_option maxRecDepth 100000 in
set_option maxHeartbeats 4000000 in
theorem wbM_touchRole_107 {p : Program} {l : Launch} {e : Env} {R : Room} {s : State} {m : MethodId} {args : Array Value} {below : List Frame} {meth : Method} {c : Code} {d : Dd} {g : Gm} {o : Int32 × Ms} {fr lo : Nat} {N : Nat} {GT : Nat → Int32 → Int32 → Int32 → Int32 → Int32 → Ms → Option (Int32 × Ms)} (C : CM p s m args meth c d g cX9_touchRole 6 (some .int)) (hRm : (fr + 1) ≤ R.frames ∧ (lo + 60) ≤ R.locals) (hGT : HT l d g GT fr lo) (hB : 2 ≤ fr ∧ 46 ≤ lo) (x4 : Int32) (S : Ms) (H : Heap) (locs : List Loc) (ls : Array Slot) (hf : bM_touchRole_107 N GT x4 S = some o) (hR : RM d g S H) (hS : va_S (AM g) s.heap H locs) (hl : lv_has ls 6 [(0, .ref g.1), (4, .int x4)]) : W p l e R s m args below meth c H locs 0 0 (MQ below (QI d g o) args s 0 0 (AM g)) (F0 m 107 ls []) := by
  obtain ⟨hx, hb, hml, hown, hts, hK, hg, hr, hlk⟩ := id C
  unfold bM_touchRole_107 at hf
  refine lv_iload hx hb dX9_touchRole_107 (lv_at hl 1 rfl) ?_
  exact (wbM_touchRole_109 C hRm hGT hB) _ _ _ _ _ hf hR hS (lv_sub hl [0] rfl)
def bM_touchRole_85 (N : Nat) (GT : Nat → Int32 → Int32 → Int32 → Int32 → Int32 → Ms → Option (Int32 × Ms)) (x2 : Int32) (x3 : Int32) (x4 : Int32) (S : Ms) : Option (Int32 × Ms) := if x4 = 0 then (ck x3 48 (if (mA S 21 (x3 : Int32).toNatClampNeg) = 0 then ((bM_touchRole_107 N GT) x4 S) else ((GT 0 x2 0 0 0 0 S).bind fun o101 => (bM_touchRole_109 N GT) o101.1 o101.2))) else ((bM_touchRole_107 N GT) x4 S)
set_option maxRecDepth 100000 in
set_option maxHeartbeats 4000000 in
theorem wbM_touchRole_85 {p : Program} {l : Launch} {e : Env} {R : Room} {s : State} {m : MethodId} {args : Array Value} {below : List Frame} {meth : Method} {c : Code} {d : Dd} {g : Gm} {o : Int32 × Ms} {fr lo : Nat} {N : Nat} {GT : Nat → Int32 → Int32 → Int32 → Int32 → Int32 → Ms → Option (Int32 × Ms)} (C : CM p s m args meth c d g cX9_touchRole 6 (some .int)) (hRm : (fr + 1) ≤ R.frames ∧ (lo + 60) ≤ R.locals) (hGT : HT l d g GT fr lo) (hB : 2 ≤ fr ∧ 46 ≤ lo) (x2 : Int32) (x3 : Int32) (x4 : Int32) (S : Ms) (H : Heap) (locs : List Loc) (ls : Array Slot) (hf : bM_touchRole_85 N GT x2 x3 x4 S = some o) (hR : RM d g S H) (hS : va_S (AM g) s.heap H locs) (hl : lv_has ls 6 [(0, .ref g.1), (2, .int x2), (3, .int x3), (4, .int x4)]) : W p l e R s m args below meth c H locs 0 0 (MQ below (QI d g o) args s 0 0 (AM g)) (F0 m 85 ls []) := by
  obtain ⟨hx, hb, hml, hown, hts, hK, hg, hr, hlk⟩ := id C
  unfold bM_touchRole_85 at hf
  refine lv_iload hx hb dX9_touchRole_85 (lv_at hl 3 rfl) ?_
  refine lv_if_ne (tgt := 107) hx hb dX9_touchRole_87 (by decide) (fun hc => ?_) (fun hc => ?_)
  · rw [if_neg hc] at hf
    exact (wbM_touchRole_107 C hRm hGT hB) _ _ _ _ _ hf hR hS (lv_sub hl [0, 3] rfl)
  · rw [if_pos hc] at hf
    refine lv_aload_n hx hb dX9_touchRole_90 rfl (lv_at hl 0 rfl) ?_
    refine mr_getR C hR fl_68 (by decide) dX9_touchRole_91 ?_
    refine lv_iload_n hx hb dX9_touchRole_94 rfl (lv_at hl 2 rfl) ?_
    obtain ⟨hi, hf⟩ := ck_some hf
    refine mr_zald C hR (k := 21) rfl hi dX9_touchRole_95 ?_
    refine lv_if_eq (tgt := 107) hx hb dX9_touchRole_96 (by decide) (fun hc => ?_) (fun hc => ?_)
    · rw [if_pos hc] at hf
      exact (wbM_touchRole_107 C hRm hGT hB) _ _ _ _ _ hf hR hS (lv_sub hl [0, 3] rfl)
    · rw [if_neg hc] at hf
      refine lv_aload_n hx hb dX9_touchRole_99 rfl (lv_at hl 0 rfl) ?_
      refine lv_iload_n hx hb dX9_touchRole_100 rfl (lv_at hl 1 rfl) ?_
      obtain ⟨o101, ho101, hf⟩ := bnd_some hf
      refine mr_callIv C hR hS (As := [.int x2]) (rest := []) (hGT.1 _ _ _ ho101) wv_503 ⟨by omega, by omega⟩ rfl rfl (Nat.le_of_ble_eq_true rfl) hl.1 dX9_touchRole_101 ⟨Nat.zero_le _, Nat.zero_le _⟩ (fun H locs hR hS => ?_)
      refine lv_goto (tgt := 109) hx hb dX9_touchRole_104 (by decide) ?_
      exact (wbM_touchRole_109 C hRm hGT hB) _ _ _ _ _ hf hR hS (lv_sub hl [0] rfl)
def fM_touchRole (N : Nat) (GT : Nat → Int32 → Int32 → Int32 → Int32 → Int32 → Ms → Option (Int32 × Ms)) (x1 : Int32) (x2 : Int32) (S : Ms) : Option (Int32 × Ms) := ck ((24 * x1) + x2) 576 (if (mA S 93 ((24 * x1) + x2 : Int32).toNatClampNeg) = 0 then (ck ((24 * x1) + x2) 576 ((lM_touchRole_44 N GT (bM_touchRole_85 N GT) N) x1 x2 ((24 * (mF S 11)) + x2) 0 0 (pA S 93 ((24 * x1) + x2 : Int32).toNatClampNeg (vp_nar .boolean 1)))) else (some (0, S)))
set_option maxRecDepth 100000 in
set_option maxHeartbeats 4000000 in
theorem wfM_touchRole {p : Program} {l : Launch} {e : Env} {R : Room} {s : State} {m : MethodId} {args : Array Value} {below : List Frame} {meth : Method} {c : Code} {d : Dd} {g : Gm} {o : Int32 × Ms} {fr lo : Nat} {N : Nat} {GT : Nat → Int32 → Int32 → Int32 → Int32 → Int32 → Ms → Option (Int32 × Ms)} (C : CM p s m args meth c d g cX9_touchRole 6 (some .int)) (hRm : (fr + 1) ≤ R.frames ∧ (lo + 60) ≤ R.locals) (hGT : HT l d g GT fr lo) (hB : 2 ≤ fr ∧ 46 ≤ lo) (x1 : Int32) (x2 : Int32) (S : Ms) (H : Heap) (locs : List Loc) (ls : Array Slot) (hf : fM_touchRole N GT x1 x2 S = some o) (hR : RM d g S H) (hS : va_S (AM g) s.heap H locs) (hl : lv_has ls 6 [(0, .ref g.1), (1, .int x1), (2, .int x2)]) : W p l e R s m args below meth c H locs 0 0 (MQ below (QI d g o) args s 0 0 (AM g)) (F0 m 0 ls []) := by
  obtain ⟨hx, hb, hml, hown, hts, hK, hg, hr, hlk⟩ := id C
  unfold fM_touchRole at hf
  refine lv_bipush (v := 24) hx hb dX9_touchRole_0 (by decide) ?_
  refine lv_aload_n hx hb dX9_touchRole_2 rfl (lv_at hl 0 rfl) ?_
  refine mr_getI C hR fl_307 rfl dX9_touchRole_3 ?_
  refine lv_imul hx hb dX9_touchRole_6 ?_
  refine lv_iload_n hx hb dX9_touchRole_7 rfl (lv_at hl 2 rfl) ?_
  refine lv_iadd hx hb dX9_touchRole_8 ?_
  refine lv_istore_n (lv' := [(3, .int ((24 * (mF S 11)) + x2)), (0, .ref g.1), (1, .int x1), (2, .int x2)]) hx hb dX9_touchRole_9 rfl hl (by decide) rfl (fun ls hl => ?_)
  refine lv_iconst (v := 0) hx hb dX9_touchRole_10 (by decide) ?_
  refine lv_istore (lv' := [(4, .int 0), (3, .int ((24 * (mF S 11)) + x2)), (0, .ref g.1), (1, .int x1), (2, .int x2)]) hx hb dX9_touchRole_11 hl (by decide) rfl (fun ls hl => ?_)
  refine lv_aload_n hx hb dX9_touchRole_13 rfl (lv_at hl 2 rfl) ?_
  refine mr_getR C hR fl_215 (by decide) dX9_touchRole_14 ?_
  refine lv_bipush (v := 24) hx hb dX9_touchRole_17 (by decide) ?_
  refine lv_iload_n hx hb dX9_touchRole_19 rfl (lv_at hl 3 rfl) ?_
  refine lv_imul hx hb dX9_touchRole_20 ?_
  refine lv_iload_n hx hb dX9_touchRole_21 rfl (lv_at hl 4 rfl) ?_
  refine lv_iadd hx hb dX9_touchRole_22 ?_
  obtain ⟨hi, hf⟩ := ck_some hf
  refine mr_zald C hR (k := 93) rfl hi dX9_touchRole_23 ?_
  refine lv_if_eq (tgt := 29) hx hb dX9_touchRole_24 (by decide) (fun hc => ?_) (fun hc => ?_)
  · rw [if_pos hc] at hf
    refine lv_aload_n hx hb dX9_touchRole_29 rfl (lv_at hl 2 rfl) ?_
    refine mr_getR C hR fl_215 (by decide) dX9_touchRole_30 ?_
    refine lv_bipush (v := 24) hx hb dX9_touchRole_33 (by decide) ?_
    refine lv_iload_n hx hb dX9_touchRole_35 rfl (lv_at hl 3 rfl) ?_
    refine lv_imul hx hb dX9_touchRole_36 ?_
    refine lv_iload_n hx hb dX9_touchRole_37 rfl (lv_at hl 4 rfl) ?_
    refine lv_iadd hx hb dX9_touchRole_38 ?_
    refine lv_iconst (v := 1) hx hb dX9_touchRole_39 (by decide) ?_
    obtain ⟨hi, hf⟩ := ck_some hf
    refine mr_zast C hR hS (k := 93) rfl hi dX9_touchRole_40 (fun H locs hR hS => ?_)
    refine lv_iconst (v := 0) hx hb dX9_touchRole_41 (by decide) ?_
    refine lv_istore (lv' := [(5, .int 0), (4, .int 0), (3, .int ((24 * (mF S 11)) + x2)), (0, .ref g.1), (1, .int x1), (2, .int x2)]) hx hb dX9_touchRole_42 hl (by decide) rfl (fun ls hl => ?_)
    exact (wlM_touchRole_44 C hRm hGT hB (wbM_touchRole_85 C hRm hGT hB) N) _ _ _ _ _ _ _ _ _ hf hR hS (lv_sub hl [3, 4, 5, 2, 1, 0] rfl)
  · rw [if_neg hc] at hf
    refine lv_iconst (v := 0) hx hb dX9_touchRole_27 (by decide) ?_
    exact mr_iret C hR hS hf dX9_touchRole_28
def bM_works_154 (N : Nat) (GT : Nat → Int32 → Int32 → Int32 → Int32 → Int32 → Ms → Option (Int32 × Ms)) (r37 : Int32 → Int32 → Int32 → Int32 → Int32 → Int32 → Int32 → Ms → Option (Int32 × Ms)) (k157 : Int32 → Int32 → Int32 → Int32 → Int32 → Ms → Option (Int32 × Ms)) (x2 : Int32) (x3 : Int32) (x4 : Int32) (x5 : Int32) (x6 : Int32) (x7 : Int32) (x8 : Int32) (S : Ms) : Option (Int32 × Ms) := r37 x2 x3 x4 x5 x6 x7 x8 S
set_option maxRecDepth 100000 in
set_option maxHeartbeats 4000000 in
theorem wbM_works_154 {p : Program} {l : Launch} {e : Env} {R : Room} {s : State} {m : MethodId} {args : Array Value} {below : List Frame} {meth : Method} {c : Code} {d : Dd} {g : Gm} {o : Int32 × Ms} {fr lo : Nat} {N : Nat} {GT : Nat → Int32 → Int32 → Int32 → Int32 → Int32 → Ms → Option (Int32 × Ms)} {r37 : Int32 → Int32 → Int32 → Int32 → Int32 → Int32 → Int32 → Ms → Option (Int32 × Ms)} {k157 : Int32 → Int32 → Int32 → Int32 → Int32 → Ms → Option (Int32 × Ms)} (C : CM p s m args meth c d g cX9_works 10 (some .int)) (hRm : (fr + 1) ≤ R.frames ∧ (lo + 60) ≤ R.locals) (hGT : HT l d g GT fr lo) (hB : 2 ≤ fr ∧ 46 ≤ lo) (hr37 : ∀ (x2 : Int32) (x3 : Int32) (x4 : Int32) (x5 : Int32) (x6 : Int32) (x7 : Int32) (x8 : Int32) (S : Ms) (H : Heap) (locs : List Loc) (ls : Array Slot), r37 x2 x3 x4 x5 x6 x7 x8 S = some o → RM d g S H → va_S (AM g) s.heap H locs → lv_has ls 10 [(0, .ref g.1), (2, .int x2), (3, .int x3), (4, .int x4), (5, .int x5), (6, .int x6), (7, .int x7), (8, .int x8)] → W p l e R s m args below meth c H locs 0 0 (MQ below (QI d g o) args s 0 0 (AM g)) (F0 m 37 ls [])) (hk157 : ∀ (x4 : Int32) (x5 : Int32) (x6 : Int32) (x7 : Int32) (x8 : Int32) (S : Ms) (H : Heap) (locs : List Loc) (ls : Array Slot), k157 x4 x5 x6 x7 x8 S = some o → RM d g S H → va_S (AM g) s.heap H locs → lv_has ls 10 [(0, .ref g.1), (4, .int x4), (5, .int x5), (6, .int x6), (7, .int x7), (8, .int x8)] → W p l e R s m args below meth c H locs 0 0 (MQ below (QI d g o) args s 0 0 (AM g)) (F0 m 157 ls [])) (x2 : Int32) (x3 : Int32) (x4 : Int32) (x5 : Int32) (x6 : Int32) (x7 : Int32) (x8 : Int32) (S : Ms) (H : Heap) (locs : List Loc) (ls : Array Slot) (hf : bM_works_154 N GT r37 k157 x2 x3 x4 x5 x6 x7 x8 S = some o) (hR : RM d g S H) (hS : va_S (AM g) s.heap H locs) (hl : lv_has ls 10 [(0, .ref g.1), (2, .int x2), (3, .int x3), (4, .int x4), (5, .int x5), (6, .int x6), (7, .int x7), (8, .int x8)]) : W p l e R s m args below meth c H locs 0 0 (MQ below (QI d g o) args s 0 0 (AM g)) (F0 m 154 ls []) := by
  obtain ⟨hx, hb, hml, hown, hts, hK, hg, hr, hlk⟩ := id C
  unfold bM_works_154 at hf
  refine lv_goto (tgt := 37) hx hb dX9_works_154 (by decide) ?_
  exact hr37 _ _ _ _ _ _ _ _ _ _ _ hf hR hS (lv_sub hl [0, 1, 2, 3, 4, 5, 6, 7] rfl)
def lM_works_37 (N : Nat) (GT : Nat → Int32 → Int32 → Int32 → Int32 → Int32 → Ms → Option (Int32 × Ms)) (k157 : Int32 → Int32 → Int32 → Int32 → Int32 → Ms → Option (Int32 × Ms)) : Nat → Int32 → Int32 → Int32 → Int32 → Int32 → Int32 → Int32 → Ms → Option (Int32 × Ms)
  | 0, _, _, _, _, _, _, _, _ => none
  | n + 1, x2, x3, x4, x5, x6, x7, x8, S => if x8 = 0 then (ck (mF S 99) 20000 (if (mA S 39 (mF S 99 : Int32).toNatClampNeg) = 0 then (k157 x4 x5 x6 x7 x8 S) else (ck (mF S 99) 20000 (ck (mF S 99) 20000 (ck (mF S 99) 20000 ((GT 4 (mA (pF S 99 ((mF S 99) + 1)) 39 (mF S 99 : Int32).toNatClampNeg) (mA (pF S 99 ((mF S 99) + 1)) 40 (mF S 99 : Int32).toNatClampNeg) (mA (pF S 99 ((mF S 99) + 1)) 41 (mF S 99 : Int32).toNatClampNeg) x2 x3 (pF S 99 ((mF S 99) + 1))).bind fun o94 => if o94.1 = 1 then (if (mF o94.2 97) ≤ x7 then ((bM_works_154 N GT (lM_works_37 N GT k157 n) k157) x2 x3 x4 x5 x6 x7 o94.1 o94.2) else (ck (mF (pF o94.2 97 ((mF o94.2 97) - 1)) 97) 600 ((bM_works_154 N GT (lM_works_37 N GT k157 n) k157) x2 x3 x4 x5 x6 x7 0 (pF (pF (pF (pF o94.2 97 ((mF o94.2 97) - 1)) 99 (mA (pF o94.2 97 ((mF o94.2 97) - 1)) 96 (mF (pF o94.2 97 ((mF o94.2 97) - 1)) 97 : Int32).toNatClampNeg)) 95 x6) 98 (mF (pF (pF (pF o94.2 97 ((mF o94.2 97) - 1)) 99 (mA (pF o94.2 97 ((mF o94.2 97) - 1)) 96 (mF (pF o94.2 97 ((mF o94.2 97) - 1)) 97 : Int32).toNatClampNeg)) 95 x6) 90))))) else ((bM_works_154 N GT (lM_works_37 N GT k157 n) k157) x2 x3 x4 x5 x6 x7 o94.1 o94.2))))))) else (k157 x4 x5 x6 x7 x8 S)
set_option maxRecDepth 100000 in
set_option maxHeartbeats 4000000 in
theorem wlM_works_37 {p : Program} {l : Launch} {e : Env} {R : Room} {s : State} {m : MethodId} {args : Array Value} {below : List Frame} {meth : Method} {c : Code} {d : Dd} {g : Gm} {o : Int32 × Ms} {fr lo : Nat} {N : Nat} {GT : Nat → Int32 → Int32 → Int32 → Int32 → Int32 → Ms → Option (Int32 × Ms)} {k157 : Int32 → Int32 → Int32 → Int32 → Int32 → Ms → Option (Int32 × Ms)} (C : CM p s m args meth c d g cX9_works 10 (some .int)) (hRm : (fr + 1) ≤ R.frames ∧ (lo + 60) ≤ R.locals) (hGT : HT l d g GT fr lo) (hB : 2 ≤ fr ∧ 46 ≤ lo) (hk157 : ∀ (x4 : Int32) (x5 : Int32) (x6 : Int32) (x7 : Int32) (x8 : Int32) (S : Ms) (H : Heap) (locs : List Loc) (ls : Array Slot), k157 x4 x5 x6 x7 x8 S = some o → RM d g S H → va_S (AM g) s.heap H locs → lv_has ls 10 [(0, .ref g.1), (4, .int x4), (5, .int x5), (6, .int x6), (7, .int x7), (8, .int x8)] → W p l e R s m args below meth c H locs 0 0 (MQ below (QI d g o) args s 0 0 (AM g)) (F0 m 157 ls [])) : ∀ (n : Nat) (x2 : Int32) (x3 : Int32) (x4 : Int32) (x5 : Int32) (x6 : Int32) (x7 : Int32) (x8 : Int32) (S : Ms) (H : Heap) (locs : List Loc) (ls : Array Slot), lM_works_37 N GT k157 n x2 x3 x4 x5 x6 x7 x8 S = some o → RM d g S H → va_S (AM g) s.heap H locs → lv_has ls 10 [(0, .ref g.1), (2, .int x2), (3, .int x3), (4, .int x4), (5, .int x5), (6, .int x6), (7, .int x7), (8, .int x8)] → W p l e R s m args below meth c H locs 0 0 (MQ below (QI d g o) args s 0 0 (AM g)) (F0 m 37 ls []) := by
  obtain ⟨hx, hb, hml, hown, hts, hK, hg, hr, hlk⟩ := id C
  intro n
  induction n with
  | zero => intro x2 x3 x4 x5 x6 x7 x8 S H locs ls hf; cases hf
  | succ n ih =>
    intro x2 x3 x4 x5 x6 x7 x8 S H locs ls hf hR hS hl
    rw [lM_works_37] at hf
    refine lv_iload hx hb dX9_works_37 (lv_at hl 7 rfl) ?_
    refine lv_if_ne (tgt := 157) hx hb dX9_works_39 (by decide) (fun hc => ?_) (fun hc => ?_)
    · rw [if_neg hc] at hf
      exact hk157 _ _ _ _ _ _ _ _ _ hf hR hS (lv_sub hl [0, 3, 4, 5, 6, 7] rfl)
    · rw [if_pos hc] at hf
      refine lv_aload_n hx hb dX9_works_42 rfl (lv_at hl 0 rfl) ?_
      refine mr_getR C hR fl_119 (by decide) dX9_works_43 ?_
      refine lv_aload_n hx hb dX9_works_46 rfl (lv_at hl 0 rfl) ?_
      refine mr_getI C hR fl_526 rfl dX9_works_47 ?_
      obtain ⟨hi, hf⟩ := ck_some hf
      refine mr_iald C hR (k := 39) rfl hi dX9_works_50 ?_
      refine lv_if_eq (tgt := 157) hx hb dX9_works_51 (by decide) (fun hc => ?_) (fun hc => ?_)
      · rw [if_pos hc] at hf
        exact hk157 _ _ _ _ _ _ _ _ _ hf hR hS (lv_sub hl [0, 3, 4, 5, 6, 7] rfl)
      · rw [if_neg hc] at hf
        refine lv_aload_n hx hb dX9_works_54 rfl (lv_at hl 0 rfl) ?_
        refine mr_getI C hR fl_526 rfl dX9_works_55 ?_
        refine lv_istore (lv' := [(9, .int (mF S 99)), (0, .ref g.1), (2, .int x2), (3, .int x3), (4, .int x4), (5, .int x5), (6, .int x6), (7, .int x7), (8, .int x8)]) hx hb dX9_works_58 hl (by decide) rfl (fun ls hl => ?_)
        refine lv_aload_n hx hb dX9_works_60 rfl (lv_at hl 1 rfl) ?_
        refine lv_dup hx hb dX9_works_61 rfl ?_
        refine mr_getI C hR fl_526 rfl dX9_works_62 ?_
        refine lv_iconst (v := 1) hx hb dX9_works_65 (by decide) ?_
        refine lv_iadd hx hb dX9_works_66 ?_
        refine mr_putI C hR hS fl_526 ⟨rfl, rfl, rfl⟩ dX9_works_67 (fun H locs hR hS => ?_)
        refine lv_aload_n hx hb dX9_works_70 rfl (lv_at hl 1 rfl) ?_
        refine lv_aload_n hx hb dX9_works_71 rfl (lv_at hl 1 rfl) ?_
        refine mr_getR C hR fl_119 (by decide) dX9_works_72 ?_
        refine lv_iload hx hb dX9_works_75 (lv_at hl 0 rfl) ?_
        obtain ⟨hi, hf⟩ := ck_some hf
        refine mr_iald C hR (k := 39) rfl hi dX9_works_77 ?_
        refine lv_aload_n hx hb dX9_works_78 rfl (lv_at hl 1 rfl) ?_
        refine mr_getR C hR fl_122 (by decide) dX9_works_79 ?_
        refine lv_iload hx hb dX9_works_82 (lv_at hl 0 rfl) ?_
        obtain ⟨hi, hf⟩ := ck_some hf
        refine mr_iald C hR (k := 40) rfl hi dX9_works_84 ?_
        refine lv_aload_n hx hb dX9_works_85 rfl (lv_at hl 1 rfl) ?_
        refine mr_getR C hR fl_125 (by decide) dX9_works_86 ?_
        refine lv_iload hx hb dX9_works_89 (lv_at hl 0 rfl) ?_
        obtain ⟨hi, hf⟩ := ck_some hf
        refine mr_iald C hR (k := 41) rfl hi dX9_works_91 ?_
        refine lv_iload_n hx hb dX9_works_92 rfl (lv_at hl 2 rfl) ?_
        refine lv_iload_n hx hb dX9_works_93 rfl (lv_at hl 3 rfl) ?_
        obtain ⟨o94, ho94, hf⟩ := bnd_some hf
        refine mr_callIv C hR hS (As := [.int (mA (pF S 99 ((mF S 99) + 1)) 39 (mF S 99 : Int32).toNatClampNeg), .int (mA (pF S 99 ((mF S 99) + 1)) 40 (mF S 99 : Int32).toNatClampNeg), .int (mA (pF S 99 ((mF S 99) + 1)) 41 (mF S 99 : Int32).toNatClampNeg), .int x2, .int x3]) (rest := []) (hGT.2.2.2.2.1 _ _ _ _ _ _ _ ho94) wv_538 ⟨by omega, by omega⟩ rfl rfl (Nat.le_of_ble_eq_true rfl) hl.1 dX9_works_94 ⟨Nat.zero_le _, Nat.zero_le _⟩ (fun H locs hR hS => ?_)
        refine lv_istore (lv' := [(8, .int o94.1), (9, .int (mF S 99)), (0, .ref g.1), (2, .int x2), (3, .int x3), (4, .int x4), (5, .int x5), (6, .int x6), (7, .int x7)]) hx hb dX9_works_97 hl (by decide) rfl (fun ls hl => ?_)
        refine lv_iload hx hb dX9_works_99 (lv_at hl 0 rfl) ?_
        refine lv_iconst (v := 1) hx hb dX9_works_101 (by decide) ?_
        refine lv_icmp_ne (tgt := 154) hx hb dX9_works_102 (by decide) (fun hc => ?_) (fun hc => ?_)
        · rw [if_neg hc] at hf
          exact (wbM_works_154 C hRm hGT hB ih hk157) _ _ _ _ _ _ _ _ _ _ _ hf hR hS (lv_sub hl [2, 3, 4, 5, 6, 7, 8, 0] rfl)
        · rw [if_pos hc] at hf
          refine lv_aload_n hx hb dX9_works_105 rfl (lv_at hl 2 rfl) ?_
          refine mr_getI C hR fl_535 rfl dX9_works_106 ?_
          refine lv_iload hx hb dX9_works_109 (lv_at hl 8 rfl) ?_
          refine lv_icmp_le (tgt := 154) hx hb dX9_works_111 (by decide) (fun hc => ?_) (fun hc => ?_)
          · rw [if_pos hc] at hf
            exact (wbM_works_154 C hRm hGT hB ih hk157) _ _ _ _ _ _ _ _ _ _ _ hf hR hS (lv_sub hl [2, 3, 4, 5, 6, 7, 8, 0] rfl)
          · rw [if_neg hc] at hf
            refine lv_aload_n hx hb dX9_works_114 rfl (lv_at hl 2 rfl) ?_
            refine lv_dup hx hb dX9_works_115 rfl ?_
            refine mr_getI C hR fl_535 rfl dX9_works_116 ?_
            refine lv_iconst (v := 1) hx hb dX9_works_119 (by decide) ?_
            refine lv_isub hx hb dX9_works_120 ?_
            refine mr_putI C hR hS fl_535 ⟨rfl, rfl, rfl⟩ dX9_works_121 (fun H locs hR hS => ?_)
            refine lv_aload_n hx hb dX9_works_124 rfl (lv_at hl 2 rfl) ?_
            refine lv_aload_n hx hb dX9_works_125 rfl (lv_at hl 2 rfl) ?_
            refine mr_getR C hR fl_221 (by decide) dX9_works_126 ?_
            refine lv_aload_n hx hb dX9_works_129 rfl (lv_at hl 2 rfl) ?_
            refine mr_getI C hR fl_535 rfl dX9_works_130 ?_
            obtain ⟨hi, hf⟩ := ck_some hf
            refine mr_iald C hR (k := 96) rfl hi dX9_works_133 ?_
            refine mr_putI C hR hS fl_526 ⟨rfl, rfl, rfl⟩ dX9_works_134 (fun H locs hR hS => ?_)
            refine lv_aload_n hx hb dX9_works_137 rfl (lv_at hl 2 rfl) ?_
            refine lv_iload hx hb dX9_works_138 (lv_at hl 7 rfl) ?_
            refine mr_putI C hR hS fl_532 ⟨rfl, rfl, rfl⟩ dX9_works_140 (fun H locs hR hS => ?_)
            refine lv_aload_n hx hb dX9_works_143 rfl (lv_at hl 2 rfl) ?_
            refine lv_aload_n hx hb dX9_works_144 rfl (lv_at hl 2 rfl) ?_
            refine mr_getI C hR fl_491 rfl dX9_works_145 ?_
            refine mr_putI C hR hS fl_529 ⟨rfl, rfl, rfl⟩ dX9_works_148 (fun H locs hR hS => ?_)
            refine lv_iconst (v := 0) hx hb dX9_works_151 (by decide) ?_
            refine lv_istore (lv' := [(8, .int 0), (9, .int (mF S 99)), (0, .ref g.1), (2, .int x2), (3, .int x3), (4, .int x4), (5, .int x5), (6, .int x6), (7, .int x7)]) hx hb dX9_works_152 hl (by decide) rfl (fun ls hl => ?_)
            exact (wbM_works_154 C hRm hGT hB ih hk157) _ _ _ _ _ _ _ _ _ _ _ hf hR hS (lv_sub hl [2, 3, 4, 5, 6, 7, 8, 0] rfl)
def bM_works_157 (N : Nat) (GT : Nat → Int32 → Int32 → Int32 → Int32 → Int32 → Ms → Option (Int32 × Ms)) (x4 : Int32) (x5 : Int32) (x6 : Int32) (x7 : Int32) (x8 : Int32) (S : Ms) : Option (Int32 × Ms) := some (x8, pF (pF (pF (pF S 99 x4) 98 x5) 95 x6) 97 x7)
set_option maxRecDepth 100000 in
set_option maxHeartbeats 4000000 in
theorem wbM_works_157 {p : Program} {l : Launch} {e : Env} {R : Room} {s : State} {m : MethodId} {args : Array Value} {below : List Frame} {meth : Method} {c : Code} {d : Dd} {g : Gm} {o : Int32 × Ms} {fr lo : Nat} {N : Nat} {GT : Nat → Int32 → Int32 → Int32 → Int32 → Int32 → Ms → Option (Int32 × Ms)} (C : CM p s m args meth c d g cX9_works 10 (some .int)) (hRm : (fr + 1) ≤ R.frames ∧ (lo + 60) ≤ R.locals) (hGT : HT l d g GT fr lo) (hB : 2 ≤ fr ∧ 46 ≤ lo) (x4 : Int32) (x5 : Int32) (x6 : Int32) (x7 : Int32) (x8 : Int32) (S : Ms) (H : Heap) (locs : List Loc) (ls : Array Slot) (hf : bM_works_157 N GT x4 x5 x6 x7 x8 S = some o) (hR : RM d g S H) (hS : va_S (AM g) s.heap H locs) (hl : lv_has ls 10 [(0, .ref g.1), (4, .int x4), (5, .int x5), (6, .int x6), (7, .int x7), (8, .int x8)]) : W p l e R s m args below meth c H locs 0 0 (MQ below (QI d g o) args s 0 0 (AM g)) (F0 m 157 ls []) := by
  obtain ⟨hx, hb, hml, hown, hts, hK, hg, hr, hlk⟩ := id C
  unfold bM_works_157 at hf
  refine lv_aload_n hx hb dX9_works_157 rfl (lv_at hl 0 rfl) ?_
  refine lv_iload hx hb dX9_works_158 (lv_at hl 1 rfl) ?_
  refine mr_putI C hR hS fl_526 ⟨rfl, rfl, rfl⟩ dX9_works_160 (fun H locs hR hS => ?_)
  refine lv_aload_n hx hb dX9_works_163 rfl (lv_at hl 0 rfl) ?_
  refine lv_iload hx hb dX9_works_164 (lv_at hl 2 rfl) ?_
  refine mr_putI C hR hS fl_529 ⟨rfl, rfl, rfl⟩ dX9_works_166 (fun H locs hR hS => ?_)
  refine lv_aload_n hx hb dX9_works_169 rfl (lv_at hl 0 rfl) ?_
  refine lv_iload hx hb dX9_works_170 (lv_at hl 3 rfl) ?_
  refine mr_putI C hR hS fl_532 ⟨rfl, rfl, rfl⟩ dX9_works_172 (fun H locs hR hS => ?_)
  refine lv_aload_n hx hb dX9_works_175 rfl (lv_at hl 0 rfl) ?_
  refine lv_iload hx hb dX9_works_176 (lv_at hl 4 rfl) ?_
  refine mr_putI C hR hS fl_535 ⟨rfl, rfl, rfl⟩ dX9_works_178 (fun H locs hR hS => ?_)
  refine lv_iload hx hb dX9_works_181 (lv_at hl 5 rfl) ?_
  exact mr_iret C hR hS hf dX9_works_183
def fM_works (N : Nat) (GT : Nat → Int32 → Int32 → Int32 → Int32 → Int32 → Ms → Option (Int32 × Ms)) (x1 : Int32) (x2 : Int32) (x3 : Int32) (S : Ms) : Option (Int32 × Ms) := (lM_works_37 N GT (bM_works_157 N GT) N) x2 x3 (mF S 99) (mF S 98) (mF S 95) (mF S 97) 0 (pF (pF S 99 x1) 98 0)
set_option maxRecDepth 100000 in
set_option maxHeartbeats 4000000 in
theorem wfM_works {p : Program} {l : Launch} {e : Env} {R : Room} {s : State} {m : MethodId} {args : Array Value} {below : List Frame} {meth : Method} {c : Code} {d : Dd} {g : Gm} {o : Int32 × Ms} {fr lo : Nat} {N : Nat} {GT : Nat → Int32 → Int32 → Int32 → Int32 → Int32 → Ms → Option (Int32 × Ms)} (C : CM p s m args meth c d g cX9_works 10 (some .int)) (hRm : (fr + 1) ≤ R.frames ∧ (lo + 60) ≤ R.locals) (hGT : HT l d g GT fr lo) (hB : 2 ≤ fr ∧ 46 ≤ lo) (x1 : Int32) (x2 : Int32) (x3 : Int32) (S : Ms) (H : Heap) (locs : List Loc) (ls : Array Slot) (hf : fM_works N GT x1 x2 x3 S = some o) (hR : RM d g S H) (hS : va_S (AM g) s.heap H locs) (hl : lv_has ls 10 [(0, .ref g.1), (1, .int x1), (2, .int x2), (3, .int x3)]) : W p l e R s m args below meth c H locs 0 0 (MQ below (QI d g o) args s 0 0 (AM g)) (F0 m 0 ls []) := by
  obtain ⟨hx, hb, hml, hown, hts, hK, hg, hr, hlk⟩ := id C
  unfold fM_works at hf
  refine lv_aload_n hx hb dX9_works_0 rfl (lv_at hl 0 rfl) ?_
  refine mr_getI C hR fl_526 rfl dX9_works_1 ?_
  refine lv_istore (lv' := [(4, .int (mF S 99)), (0, .ref g.1), (1, .int x1), (2, .int x2), (3, .int x3)]) hx hb dX9_works_4 hl (by decide) rfl (fun ls hl => ?_)
  refine lv_aload_n hx hb dX9_works_6 rfl (lv_at hl 1 rfl) ?_
  refine mr_getI C hR fl_529 rfl dX9_works_7 ?_
  refine lv_istore (lv' := [(5, .int (mF S 98)), (4, .int (mF S 99)), (0, .ref g.1), (1, .int x1), (2, .int x2), (3, .int x3)]) hx hb dX9_works_10 hl (by decide) rfl (fun ls hl => ?_)
  refine lv_aload_n hx hb dX9_works_12 rfl (lv_at hl 2 rfl) ?_
  refine mr_getI C hR fl_532 rfl dX9_works_13 ?_
  refine lv_istore (lv' := [(6, .int (mF S 95)), (5, .int (mF S 98)), (4, .int (mF S 99)), (0, .ref g.1), (1, .int x1), (2, .int x2), (3, .int x3)]) hx hb dX9_works_16 hl (by decide) rfl (fun ls hl => ?_)
  refine lv_aload_n hx hb dX9_works_18 rfl (lv_at hl 3 rfl) ?_
  refine mr_getI C hR fl_535 rfl dX9_works_19 ?_
  refine lv_istore (lv' := [(7, .int (mF S 97)), (6, .int (mF S 95)), (5, .int (mF S 98)), (4, .int (mF S 99)), (0, .ref g.1), (1, .int x1), (2, .int x2), (3, .int x3)]) hx hb dX9_works_22 hl (by decide) rfl (fun ls hl => ?_)
  refine lv_aload_n hx hb dX9_works_24 rfl (lv_at hl 4 rfl) ?_
  refine lv_iload_n hx hb dX9_works_25 rfl (lv_at hl 5 rfl) ?_
  refine mr_putI C hR hS fl_526 ⟨rfl, rfl, rfl⟩ dX9_works_26 (fun H locs hR hS => ?_)
  refine lv_aload_n hx hb dX9_works_29 rfl (lv_at hl 4 rfl) ?_
  refine lv_iconst (v := 0) hx hb dX9_works_30 (by decide) ?_
  refine mr_putI C hR hS fl_529 ⟨rfl, rfl, rfl⟩ dX9_works_31 (fun H locs hR hS => ?_)
  refine lv_iconst (v := 0) hx hb dX9_works_34 (by decide) ?_
  refine lv_istore (lv' := [(8, .int 0), (7, .int (mF S 97)), (6, .int (mF S 95)), (5, .int (mF S 98)), (4, .int (mF S 99)), (0, .ref g.1), (1, .int x1), (2, .int x2), (3, .int x3)]) hx hb dX9_works_35 hl (by decide) rfl (fun ls hl => ?_)
  exact (wlM_works_37 C hRm hGT hB (wbM_works_157 C hRm hGT hB) N) _ _ _ _ _ _ _ _ _ _ _ hf hR hS (lv_sub hl [5, 7, 8, 4, 3, 2, 1, 0] rfl)
def bM_work_84 (N : Nat) (GT : Nat → Int32 → Int32 → Int32 → Int32 → Int32 → Ms → Option (Int32 × Ms)) (s0 : Int32) (S : Ms) : Option (Int32 × Ms) := some (s0, S)
set_option maxRecDepth 100000 in
set_option maxHeartbeats 4000000 in
theorem wbM_work_84 {p : Program} {l : Launch} {e : Env} {R : Room} {s : State} {m : MethodId} {args : Array Value} {below : List Frame} {meth : Method} {c : Code} {d : Dd} {g : Gm} {o : Int32 × Ms} {fr lo : Nat} {N : Nat} {GT : Nat → Int32 → Int32 → Int32 → Int32 → Int32 → Ms → Option (Int32 × Ms)} (C : CM p s m args meth c d g cX9_work 7 (some .int)) (hRm : (fr + 1) ≤ R.frames ∧ (lo + 60) ≤ R.locals) (hGT : HT l d g GT fr lo) (hB : 2 ≤ fr ∧ 46 ≤ lo) (s0 : Int32) (S : Ms) (H : Heap) (locs : List Loc) (ls : Array Slot) (hf : bM_work_84 N GT s0 S = some o) (hR : RM d g S H) (hS : va_S (AM g) s.heap H locs) (hl : lv_has ls 7 [(0, .ref g.1)]) : W p l e R s m args below meth c H locs 0 0 (MQ below (QI d g o) args s 0 0 (AM g)) (F0 m 84 ls [.int s0]) := by
  obtain ⟨hx, hb, hml, hown, hts, hK, hg, hr, hlk⟩ := id C
  unfold bM_work_84 at hf
  exact mr_iret C hR hS hf dX9_work_84
def bM_work_167 (N : Nat) (GT : Nat → Int32 → Int32 → Int32 → Int32 → Int32 → Ms → Option (Int32 × Ms)) (x6 : Int32) (S : Ms) : Option (Int32 × Ms) := some (x6, S)
set_option maxRecDepth 100000 in
set_option maxHeartbeats 4000000 in
theorem wbM_work_167 {p : Program} {l : Launch} {e : Env} {R : Room} {s : State} {m : MethodId} {args : Array Value} {below : List Frame} {meth : Method} {c : Code} {d : Dd} {g : Gm} {o : Int32 × Ms} {fr lo : Nat} {N : Nat} {GT : Nat → Int32 → Int32 → Int32 → Int32 → Int32 → Ms → Option (Int32 × Ms)} (C : CM p s m args meth c d g cX9_work 7 (some .int)) (hRm : (fr + 1) ≤ R.frames ∧ (lo + 60) ≤ R.locals) (hGT : HT l d g GT fr lo) (hB : 2 ≤ fr ∧ 46 ≤ lo) (x6 : Int32) (S : Ms) (H : Heap) (locs : List Loc) (ls : Array Slot) (hf : bM_work_167 N GT x6 S = some o) (hR : RM d g S H) (hS : va_S (AM g) s.heap H locs) (hl : lv_has ls 7 [(0, .ref g.1), (6, .int x6)]) : W p l e R s m args below meth c H locs 0 0 (MQ below (QI d g o) args s 0 0 (AM g)) (F0 m 167 ls []) := by
  obtain ⟨hx, hb, hml, hown, hts, hK, hg, hr, hlk⟩ := id C
  unfold bM_work_167 at hf
  refine lv_iload hx hb dX9_work_167 (lv_at hl 1 rfl) ?_
  exact mr_iret C hR hS hf dX9_work_169
def bM_work_201 (N : Nat) (GT : Nat → Int32 → Int32 → Int32 → Int32 → Int32 → Ms → Option (Int32 × Ms)) (x6 : Int32) (S : Ms) : Option (Int32 × Ms) := some (x6, S)
set_option maxRecDepth 100000 in
set_option maxHeartbeats 4000000 in
theorem wbM_work_201 {p : Program} {l : Launch} {e : Env} {R : Room} {s : State} {m : MethodId} {args : Array Value} {below : List Frame} {meth : Method} {c : Code} {d : Dd} {g : Gm} {o : Int32 × Ms} {fr lo : Nat} {N : Nat} {GT : Nat → Int32 → Int32 → Int32 → Int32 → Int32 → Ms → Option (Int32 × Ms)} (C : CM p s m args meth c d g cX9_work 7 (some .int)) (hRm : (fr + 1) ≤ R.frames ∧ (lo + 60) ≤ R.locals) (hGT : HT l d g GT fr lo) (hB : 2 ≤ fr ∧ 46 ≤ lo) (x6 : Int32) (S : Ms) (H : Heap) (locs : List Loc) (ls : Array Slot) (hf : bM_work_201 N GT x6 S = some o) (hR : RM d g S H) (hS : va_S (AM g) s.heap H locs) (hl : lv_has ls 7 [(0, .ref g.1), (6, .int x6)]) : W p l e R s m args below meth c H locs 0 0 (MQ below (QI d g o) args s 0 0 (AM g)) (F0 m 201 ls []) := by
  obtain ⟨hx, hb, hml, hown, hts, hK, hg, hr, hlk⟩ := id C
  unfold bM_work_201 at hf
  refine lv_iload hx hb dX9_work_201 (lv_at hl 1 rfl) ?_
  exact mr_iret C hR hS hf dX9_work_203
def bM_work_244 (N : Nat) (GT : Nat → Int32 → Int32 → Int32 → Int32 → Int32 → Ms → Option (Int32 × Ms)) (s0 : Int32) (S : Ms) : Option (Int32 × Ms) := some (s0, S)
set_option maxRecDepth 100000 in
set_option maxHeartbeats 4000000 in
theorem wbM_work_244 {p : Program} {l : Launch} {e : Env} {R : Room} {s : State} {m : MethodId} {args : Array Value} {below : List Frame} {meth : Method} {c : Code} {d : Dd} {g : Gm} {o : Int32 × Ms} {fr lo : Nat} {N : Nat} {GT : Nat → Int32 → Int32 → Int32 → Int32 → Int32 → Ms → Option (Int32 × Ms)} (C : CM p s m args meth c d g cX9_work 7 (some .int)) (hRm : (fr + 1) ≤ R.frames ∧ (lo + 60) ≤ R.locals) (hGT : HT l d g GT fr lo) (hB : 2 ≤ fr ∧ 46 ≤ lo) (s0 : Int32) (S : Ms) (H : Heap) (locs : List Loc) (ls : Array Slot) (hf : bM_work_244 N GT s0 S = some o) (hR : RM d g S H) (hS : va_S (AM g) s.heap H locs) (hl : lv_has ls 7 [(0, .ref g.1)]) : W p l e R s m args below meth c H locs 0 0 (MQ below (QI d g o) args s 0 0 (AM g)) (F0 m 244 ls [.int s0]) := by
  obtain ⟨hx, hb, hml, hown, hts, hK, hg, hr, hlk⟩ := id C
  unfold bM_work_244 at hf
  exact mr_iret C hR hS hf dX9_work_244
def bM_work_275 (N : Nat) (GT : Nat → Int32 → Int32 → Int32 → Int32 → Int32 → Ms → Option (Int32 × Ms)) (s1 : Int32) (S : Ms) : Option (Int32 × Ms) := some (0, pF S 99 s1)
set_option maxRecDepth 100000 in
set_option maxHeartbeats 4000000 in
theorem wbM_work_275 {p : Program} {l : Launch} {e : Env} {R : Room} {s : State} {m : MethodId} {args : Array Value} {below : List Frame} {meth : Method} {c : Code} {d : Dd} {g : Gm} {o : Int32 × Ms} {fr lo : Nat} {N : Nat} {GT : Nat → Int32 → Int32 → Int32 → Int32 → Int32 → Ms → Option (Int32 × Ms)} (C : CM p s m args meth c d g cX9_work 7 (some .int)) (hRm : (fr + 1) ≤ R.frames ∧ (lo + 60) ≤ R.locals) (hGT : HT l d g GT fr lo) (hB : 2 ≤ fr ∧ 46 ≤ lo) (s1 : Int32) (S : Ms) (H : Heap) (locs : List Loc) (ls : Array Slot) (hf : bM_work_275 N GT s1 S = some o) (hR : RM d g S H) (hS : va_S (AM g) s.heap H locs) (hl : lv_has ls 7 [(0, .ref g.1)]) : W p l e R s m args below meth c H locs 0 0 (MQ below (QI d g o) args s 0 0 (AM g)) (F0 m 275 ls [.int s1, .ref g.1]) := by
  obtain ⟨hx, hb, hml, hown, hts, hK, hg, hr, hlk⟩ := id C
  unfold bM_work_275 at hf
  refine mr_putI C hR hS fl_526 ⟨rfl, rfl, rfl⟩ dX9_work_275 (fun H locs hR hS => ?_)
  refine lv_iconst (v := 0) hx hb dX9_work_278 (by decide) ?_
  exact mr_iret C hR hS hf dX9_work_279
def fM_work (N : Nat) (GT : Nat → Int32 → Int32 → Int32 → Int32 → Int32 → Ms → Option (Int32 × Ms)) (x1 : Int32) (x2 : Int32) (x3 : Int32) (x4 : Int32) (x5 : Int32) (S : Ms) : Option (Int32 × Ms) := if x1 = 1 then ((fM_step N S).bind fun o73 => if o73.1 = 0 then ((bM_work_84 N GT) 2 o73.2) else ((bM_work_84 N GT) 0 o73.2)) else if x1 = 2 then ((fM_push N x2 S).bind fun o87 => some (0, o87)) else if x1 = 3 then ((fM_noteNeed N x2 x4 x5 S).bind fun o98 => ck ((8 * ((24 * (mF o98 11)) + x2)) + x3) 384 ((fM_push N (mA o98 28 ((8 * ((24 * (mF o98 11)) + x2)) + x3 : Int32).toNatClampNeg) o98).bind fun o121 => some (0, o121))) else if x1 = 4 then ((GT 5 x2 x4 x5 0 0 S).bind fun o132 => if o132.1 = 0 then ((fM_noteHalf N x2 x3 x4 x5 o132.2).bind fun o149 => ck ((8 * x2) + x3) 192 ((fM_push N (mA o149 56 ((8 * x2) + x3 : Int32).toNatClampNeg) o149).bind fun o164 => (bM_work_167 N GT) o132.1 o164)) else ((bM_work_167 N GT) o132.1 o132.2)) else if x1 = 5 then ((GT 5 x2 x4 x5 0 0 S).bind fun o176 => if o176.1 = 0 then ((fM_pop N o176.2).bind fun o197 => ck ((8 * x2) + x3) 192 ((bM_work_201 N GT) o176.1 (pA o197.2 56 ((8 * x2) + x3 : Int32).toNatClampNeg o197.1))) else ((bM_work_201 N GT) o176.1 o176.2)) else if x1 = 6 then ((GT 5 x2 x4 x5 0 0 S).bind fun o210 => some (o210.1, o210.2)) else if x1 = 7 then ((fM_pop N S).bind fun o217 => (fM_orders N x2 o217.1 x4 o217.2).bind fun o222 => some (o222.1, o222.2)) else if x1 = 8 then ((fM_pop N S).bind fun o227 => if o227.1 = 0 then ((fM_fails N 11 0 o227.2).bind fun o237 => (bM_work_244 N GT) o237.1 o237.2) else ((bM_work_244 N GT) 0 o227.2)) else if x1 = 9 then ((fM_fails N x2 0 S).bind fun o248 => some (o248.1, o248.2)) else if x1 = 10 then (some (0, pF S 99 x2)) else if x1 = 11 then ((fM_pop N S).bind fun o261 => if o261.1 = 0 then ((bM_work_275 N GT) x2 o261.2) else ((bM_work_275 N GT) (mF o261.2 99) o261.2)) else if x1 = 12 then (ck (mF S 97) 600 (some (0, pF (pA S 96 (mF S 97 : Int32).toNatClampNeg x2) 97 ((mF (pA S 96 (mF S 97 : Int32).toNatClampNeg x2) 97) + 1)))) else if x1 = 13 then (some (0, pF (pF S 97 ((mF S 97) - 1)) 99 x2)) else ((fM_reckons N x1 x2 S).bind fun o322 => some (o322.1, o322.2))
set_option maxRecDepth 100000 in
set_option maxHeartbeats 4000000 in
theorem wfM_work {p : Program} {l : Launch} {e : Env} {R : Room} {s : State} {m : MethodId} {args : Array Value} {below : List Frame} {meth : Method} {c : Code} {d : Dd} {g : Gm} {o : Int32 × Ms} {fr lo : Nat} {N : Nat} {GT : Nat → Int32 → Int32 → Int32 → Int32 → Int32 → Ms → Option (Int32 × Ms)} (C : CM p s m args meth c d g cX9_work 7 (some .int)) (hRm : (fr + 1) ≤ R.frames ∧ (lo + 60) ≤ R.locals) (hGT : HT l d g GT fr lo) (hB : 2 ≤ fr ∧ 46 ≤ lo) (x1 : Int32) (x2 : Int32) (x3 : Int32) (x4 : Int32) (x5 : Int32) (S : Ms) (H : Heap) (locs : List Loc) (ls : Array Slot) (hf : fM_work N GT x1 x2 x3 x4 x5 S = some o) (hR : RM d g S H) (hS : va_S (AM g) s.heap H locs) (hl : lv_has ls 7 [(0, .ref g.1), (1, .int x1), (2, .int x2), (3, .int x3), (4, .int x4), (5, .int x5)]) : W p l e R s m args below meth c H locs 0 0 (MQ below (QI d g o) args s 0 0 (AM g)) (F0 m 0 ls []) := by
  obtain ⟨hx, hb, hml, hown, hts, hK, hg, hr, hlk⟩ := id C
  unfold fM_work at hf
  refine lv_iconst (v := 0) hx hb dX9_work_0 (by decide) ?_
  refine lv_istore (lv' := [(6, .int 0), (0, .ref g.1), (1, .int x1), (2, .int x2), (3, .int x3), (4, .int x4), (5, .int x5)]) hx hb dX9_work_1 hl (by decide) rfl (fun ls hl => ?_)
  refine lv_iload_n hx hb dX9_work_3 rfl (lv_at hl 2 rfl) ?_
  by_cases hc0 : x1 = 1
  · rw [if_pos hc0] at hf
    refine lv_tableIn (off := 68) (tgt := 72) hx hb dX9_work_4 (by rw [hc0]; decide) (by rw [hc0]; decide) (by rw [hc0]; decide) (by decide) ?_
    refine lv_aload_n hx hb dX9_work_72 rfl (lv_at hl 1 rfl) ?_
    obtain ⟨o73, ho73, hf⟩ := bnd_some hf
    refine mr_callIv C hR hS (As := []) (rest := []) (MM_step l d g N  S o73 ho73) wv_546 ⟨by omega, by omega⟩ rfl rfl (Nat.le_of_ble_eq_true rfl) hl.1 dX9_work_73 ⟨Nat.zero_le _, Nat.zero_le _⟩ (fun H locs hR hS => ?_)
    refine lv_if_eq (tgt := 83) hx hb dX9_work_76 (by decide) (fun hc => ?_) (fun hc => ?_)
    · rw [if_pos hc] at hf
      refine lv_iconst (v := 2) hx hb dX9_work_83 (by decide) ?_
      exact (wbM_work_84 C hRm hGT hB) _ _ _ _ _ hf hR hS (lv_sub hl [1] rfl)
    · rw [if_neg hc] at hf
      refine lv_iconst (v := 0) hx hb dX9_work_79 (by decide) ?_
      refine lv_goto (tgt := 84) hx hb dX9_work_80 (by decide) ?_
      exact (wbM_work_84 C hRm hGT hB) _ _ _ _ _ hf hR hS (lv_sub hl [1] rfl)
  · rw [if_neg hc0] at hf
    by_cases hc1 : x1 = 2
    · rw [if_pos hc1] at hf
      refine lv_tableIn (off := 81) (tgt := 85) hx hb dX9_work_4 (by rw [hc1]; decide) (by rw [hc1]; decide) (by rw [hc1]; decide) (by decide) ?_
      refine lv_aload_n hx hb dX9_work_85 rfl (lv_at hl 1 rfl) ?_
      refine lv_iload_n hx hb dX9_work_86 rfl (lv_at hl 3 rfl) ?_
      obtain ⟨o87, ho87, hf⟩ := bnd_some hf
      refine mr_callVv C hR hS (As := [.int x2]) (rest := []) (MM_push l d g N x2 S o87 ho87) wv_549 ⟨by omega, by omega⟩ rfl rfl (Nat.le_of_ble_eq_true rfl) hl.1 dX9_work_87 ⟨Nat.zero_le _, Nat.zero_le _⟩ (fun H locs hR hS => ?_)
      refine lv_iconst (v := 0) hx hb dX9_work_90 (by decide) ?_
      exact mr_iret C hR hS hf dX9_work_91
    · rw [if_neg hc1] at hf
      by_cases hc2 : x1 = 3
      · rw [if_pos hc2] at hf
        refine lv_tableIn (off := 88) (tgt := 92) hx hb dX9_work_4 (by rw [hc2]; decide) (by rw [hc2]; decide) (by rw [hc2]; decide) (by decide) ?_
        refine lv_aload_n hx hb dX9_work_92 rfl (lv_at hl 1 rfl) ?_
        refine lv_iload_n hx hb dX9_work_93 rfl (lv_at hl 3 rfl) ?_
        refine lv_iload hx hb dX9_work_94 (lv_at hl 5 rfl) ?_
        refine lv_iload hx hb dX9_work_96 (lv_at hl 6 rfl) ?_
        obtain ⟨o98, ho98, hf⟩ := bnd_some hf
        refine mr_callVv C hR hS (As := [.int x2, .int x4, .int x5]) (rest := []) (MM_noteNeed l d g N x2 x4 x5 S o98 ho98) wv_542 ⟨by omega, by omega⟩ rfl rfl (Nat.le_of_ble_eq_true rfl) hl.1 dX9_work_98 ⟨Nat.zero_le _, Nat.zero_le _⟩ (fun H locs hR hS => ?_)
        refine lv_aload_n hx hb dX9_work_101 rfl (lv_at hl 1 rfl) ?_
        refine lv_aload_n hx hb dX9_work_102 rfl (lv_at hl 1 rfl) ?_
        refine mr_getR C hR fl_89 (by decide) dX9_work_103 ?_
        refine lv_bipush (v := 8) hx hb dX9_work_106 (by decide) ?_
        refine lv_bipush (v := 24) hx hb dX9_work_108 (by decide) ?_
        refine lv_aload_n hx hb dX9_work_110 rfl (lv_at hl 1 rfl) ?_
        refine mr_getI C hR fl_307 rfl dX9_work_111 ?_
        refine lv_imul hx hb dX9_work_114 ?_
        refine lv_iload_n hx hb dX9_work_115 rfl (lv_at hl 3 rfl) ?_
        refine lv_iadd hx hb dX9_work_116 ?_
        refine lv_imul hx hb dX9_work_117 ?_
        refine lv_iload_n hx hb dX9_work_118 rfl (lv_at hl 4 rfl) ?_
        refine lv_iadd hx hb dX9_work_119 ?_
        obtain ⟨hi, hf⟩ := ck_some hf
        refine mr_iald C hR (k := 28) rfl hi dX9_work_120 ?_
        obtain ⟨o121, ho121, hf⟩ := bnd_some hf
        refine mr_callVv C hR hS (As := [.int (mA o98 28 ((8 * ((24 * (mF o98 11)) + x2)) + x3 : Int32).toNatClampNeg)]) (rest := []) (MM_push l d g N (mA o98 28 ((8 * ((24 * (mF o98 11)) + x2)) + x3 : Int32).toNatClampNeg) o98 o121 ho121) wv_549 ⟨by omega, by omega⟩ rfl rfl (Nat.le_of_ble_eq_true rfl) hl.1 dX9_work_121 ⟨Nat.zero_le _, Nat.zero_le _⟩ (fun H locs hR hS => ?_)
        refine lv_iconst (v := 0) hx hb dX9_work_124 (by decide) ?_
        exact mr_iret C hR hS hf dX9_work_125
      · rw [if_neg hc2] at hf
        by_cases hc3 : x1 = 4
        · rw [if_pos hc3] at hf
          refine lv_tableIn (off := 122) (tgt := 126) hx hb dX9_work_4 (by rw [hc3]; decide) (by rw [hc3]; decide) (by rw [hc3]; decide) (by decide) ?_
          refine lv_aload_n hx hb dX9_work_126 rfl (lv_at hl 1 rfl) ?_
          refine lv_iload_n hx hb dX9_work_127 rfl (lv_at hl 3 rfl) ?_
          refine lv_iload hx hb dX9_work_128 (lv_at hl 5 rfl) ?_
          refine lv_iload hx hb dX9_work_130 (lv_at hl 6 rfl) ?_
          obtain ⟨o132, ho132, hf⟩ := bnd_some hf
          refine mr_callIv C hR hS (As := [.int x2, .int x4, .int x5]) (rest := []) (hGT.2.2.2.2.2 _ _ _ _ _ ho132) wv_552 ⟨by omega, by omega⟩ rfl rfl (Nat.le_of_ble_eq_true rfl) hl.1 dX9_work_132 ⟨Nat.zero_le _, Nat.zero_le _⟩ (fun H locs hR hS => ?_)
          refine lv_istore (lv' := [(6, .int o132.1), (0, .ref g.1), (1, .int x1), (2, .int x2), (3, .int x3), (4, .int x4), (5, .int x5)]) hx hb dX9_work_135 hl (by decide) rfl (fun ls hl => ?_)
          refine lv_iload hx hb dX9_work_137 (lv_at hl 0 rfl) ?_
          refine lv_if_ne (tgt := 167) hx hb dX9_work_139 (by decide) (fun hc => ?_) (fun hc => ?_)
          · rw [if_neg hc] at hf
            exact (wbM_work_167 C hRm hGT hB) _ _ _ _ _ hf hR hS (lv_sub hl [1, 0] rfl)
          · rw [if_pos hc] at hf
            refine lv_aload_n hx hb dX9_work_142 rfl (lv_at hl 1 rfl) ?_
            refine lv_iload_n hx hb dX9_work_143 rfl (lv_at hl 3 rfl) ?_
            refine lv_iload_n hx hb dX9_work_144 rfl (lv_at hl 4 rfl) ?_
            refine lv_iload hx hb dX9_work_145 (lv_at hl 5 rfl) ?_
            refine lv_iload hx hb dX9_work_147 (lv_at hl 6 rfl) ?_
            obtain ⟨o149, ho149, hf⟩ := bnd_some hf
            refine mr_callVv C hR hS (As := [.int x2, .int x3, .int x4, .int x5]) (rest := []) (MM_noteHalf l d g N x2 x3 x4 x5 o132.2 o149 ho149) wv_555 ⟨by omega, by omega⟩ rfl rfl (Nat.le_of_ble_eq_true rfl) hl.1 dX9_work_149 ⟨Nat.zero_le _, Nat.zero_le _⟩ (fun H locs hR hS => ?_)
            refine lv_aload_n hx hb dX9_work_152 rfl (lv_at hl 1 rfl) ?_
            refine lv_aload_n hx hb dX9_work_153 rfl (lv_at hl 1 rfl) ?_
            refine mr_getR C hR fl_152 (by decide) dX9_work_154 ?_
            refine lv_bipush (v := 8) hx hb dX9_work_157 (by decide) ?_
            refine lv_iload_n hx hb dX9_work_159 rfl (lv_at hl 3 rfl) ?_
            refine lv_imul hx hb dX9_work_160 ?_
            refine lv_iload_n hx hb dX9_work_161 rfl (lv_at hl 4 rfl) ?_
            refine lv_iadd hx hb dX9_work_162 ?_
            obtain ⟨hi, hf⟩ := ck_some hf
            refine mr_iald C hR (k := 56) rfl hi dX9_work_163 ?_
            obtain ⟨o164, ho164, hf⟩ := bnd_some hf
            refine mr_callVv C hR hS (As := [.int (mA o149 56 ((8 * x2) + x3 : Int32).toNatClampNeg)]) (rest := []) (MM_push l d g N (mA o149 56 ((8 * x2) + x3 : Int32).toNatClampNeg) o149 o164 ho164) wv_549 ⟨by omega, by omega⟩ rfl rfl (Nat.le_of_ble_eq_true rfl) hl.1 dX9_work_164 ⟨Nat.zero_le _, Nat.zero_le _⟩ (fun H locs hR hS => ?_)
            exact (wbM_work_167 C hRm hGT hB) _ _ _ _ _ hf hR hS (lv_sub hl [1, 0] rfl)
        · rw [if_neg hc3] at hf
          by_cases hc4 : x1 = 5
          · rw [if_pos hc4] at hf
            refine lv_tableIn (off := 166) (tgt := 170) hx hb dX9_work_4 (by rw [hc4]; decide) (by rw [hc4]; decide) (by rw [hc4]; decide) (by decide) ?_
            refine lv_aload_n hx hb dX9_work_170 rfl (lv_at hl 1 rfl) ?_
            refine lv_iload_n hx hb dX9_work_171 rfl (lv_at hl 3 rfl) ?_
            refine lv_iload hx hb dX9_work_172 (lv_at hl 5 rfl) ?_
            refine lv_iload hx hb dX9_work_174 (lv_at hl 6 rfl) ?_
            obtain ⟨o176, ho176, hf⟩ := bnd_some hf
            refine mr_callIv C hR hS (As := [.int x2, .int x4, .int x5]) (rest := []) (hGT.2.2.2.2.2 _ _ _ _ _ ho176) wv_552 ⟨by omega, by omega⟩ rfl rfl (Nat.le_of_ble_eq_true rfl) hl.1 dX9_work_176 ⟨Nat.zero_le _, Nat.zero_le _⟩ (fun H locs hR hS => ?_)
            refine lv_istore (lv' := [(6, .int o176.1), (0, .ref g.1), (1, .int x1), (2, .int x2), (3, .int x3), (4, .int x4), (5, .int x5)]) hx hb dX9_work_179 hl (by decide) rfl (fun ls hl => ?_)
            refine lv_iload hx hb dX9_work_181 (lv_at hl 0 rfl) ?_
            refine lv_if_ne (tgt := 201) hx hb dX9_work_183 (by decide) (fun hc => ?_) (fun hc => ?_)
            · rw [if_neg hc] at hf
              exact (wbM_work_201 C hRm hGT hB) _ _ _ _ _ hf hR hS (lv_sub hl [1, 0] rfl)
            · rw [if_pos hc] at hf
              refine lv_aload_n hx hb dX9_work_186 rfl (lv_at hl 1 rfl) ?_
              refine mr_getR C hR fl_152 (by decide) dX9_work_187 ?_
              refine lv_bipush (v := 8) hx hb dX9_work_190 (by decide) ?_
              refine lv_iload_n hx hb dX9_work_192 rfl (lv_at hl 3 rfl) ?_
              refine lv_imul hx hb dX9_work_193 ?_
              refine lv_iload_n hx hb dX9_work_194 rfl (lv_at hl 4 rfl) ?_
              refine lv_iadd hx hb dX9_work_195 ?_
              refine lv_aload_n hx hb dX9_work_196 rfl (lv_at hl 1 rfl) ?_
              obtain ⟨o197, ho197, hf⟩ := bnd_some hf
              refine mr_callIv C hR hS (As := []) (rest := [.int ((8 * x2) + x3), .ref (g.2 56)]) (MM_pop l d g N  o176.2 o197 ho197) wv_558 ⟨by omega, by omega⟩ rfl rfl (Nat.le_of_ble_eq_true rfl) hl.1 dX9_work_197 ⟨Nat.zero_le _, Nat.zero_le _⟩ (fun H locs hR hS => ?_)
              obtain ⟨hi, hf⟩ := ck_some hf
              refine mr_iast C hR hS (k := 56) rfl hi dX9_work_200 (fun H locs hR hS => ?_)
              exact (wbM_work_201 C hRm hGT hB) _ _ _ _ _ hf hR hS (lv_sub hl [1, 0] rfl)
          · rw [if_neg hc4] at hf
            by_cases hc5 : x1 = 6
            · rw [if_pos hc5] at hf
              refine lv_tableIn (off := 200) (tgt := 204) hx hb dX9_work_4 (by rw [hc5]; decide) (by rw [hc5]; decide) (by rw [hc5]; decide) (by decide) ?_
              refine lv_aload_n hx hb dX9_work_204 rfl (lv_at hl 1 rfl) ?_
              refine lv_iload_n hx hb dX9_work_205 rfl (lv_at hl 3 rfl) ?_
              refine lv_iload hx hb dX9_work_206 (lv_at hl 5 rfl) ?_
              refine lv_iload hx hb dX9_work_208 (lv_at hl 6 rfl) ?_
              obtain ⟨o210, ho210, hf⟩ := bnd_some hf
              refine mr_callIv C hR hS (As := [.int x2, .int x4, .int x5]) (rest := []) (hGT.2.2.2.2.2 _ _ _ _ _ ho210) wv_552 ⟨by omega, by omega⟩ rfl rfl (Nat.le_of_ble_eq_true rfl) hl.1 dX9_work_210 ⟨Nat.zero_le _, Nat.zero_le _⟩ (fun H locs hR hS => ?_)
              exact mr_iret C hR hS hf dX9_work_213
            · rw [if_neg hc5] at hf
              by_cases hc6 : x1 = 7
              · rw [if_pos hc6] at hf
                refine lv_tableIn (off := 210) (tgt := 214) hx hb dX9_work_4 (by rw [hc6]; decide) (by rw [hc6]; decide) (by rw [hc6]; decide) (by decide) ?_
                refine lv_aload_n hx hb dX9_work_214 rfl (lv_at hl 1 rfl) ?_
                refine lv_iload_n hx hb dX9_work_215 rfl (lv_at hl 3 rfl) ?_
                refine lv_aload_n hx hb dX9_work_216 rfl (lv_at hl 1 rfl) ?_
                obtain ⟨o217, ho217, hf⟩ := bnd_some hf
                refine mr_callIv C hR hS (As := []) (rest := [.int x2, .ref g.1]) (MM_pop l d g N  S o217 ho217) wv_558 ⟨by omega, by omega⟩ rfl rfl (Nat.le_of_ble_eq_true rfl) hl.1 dX9_work_217 ⟨Nat.zero_le _, Nat.zero_le _⟩ (fun H locs hR hS => ?_)
                refine lv_iload hx hb dX9_work_220 (lv_at hl 5 rfl) ?_
                obtain ⟨o222, ho222, hf⟩ := bnd_some hf
                refine mr_callIv C hR hS (As := [.int x2, .int o217.1, .int x4]) (rest := []) (MM_orders l d g N x2 o217.1 x4 o217.2 o222 ho222) wv_561 ⟨by omega, by omega⟩ rfl rfl (Nat.le_of_ble_eq_true rfl) hl.1 dX9_work_222 ⟨Nat.zero_le _, Nat.zero_le _⟩ (fun H locs hR hS => ?_)
                exact mr_iret C hR hS hf dX9_work_225
              · rw [if_neg hc6] at hf
                by_cases hc7 : x1 = 8
                · rw [if_pos hc7] at hf
                  refine lv_tableIn (off := 222) (tgt := 226) hx hb dX9_work_4 (by rw [hc7]; decide) (by rw [hc7]; decide) (by rw [hc7]; decide) (by decide) ?_
                  refine lv_aload_n hx hb dX9_work_226 rfl (lv_at hl 1 rfl) ?_
                  obtain ⟨o227, ho227, hf⟩ := bnd_some hf
                  refine mr_callIv C hR hS (As := []) (rest := []) (MM_pop l d g N  S o227 ho227) wv_558 ⟨by omega, by omega⟩ rfl rfl (Nat.le_of_ble_eq_true rfl) hl.1 dX9_work_227 ⟨Nat.zero_le _, Nat.zero_le _⟩ (fun H locs hR hS => ?_)
                  refine lv_if_ne (tgt := 243) hx hb dX9_work_230 (by decide) (fun hc => ?_) (fun hc => ?_)
                  · rw [if_neg hc] at hf
                    refine lv_iconst (v := 0) hx hb dX9_work_243 (by decide) ?_
                    exact (wbM_work_244 C hRm hGT hB) _ _ _ _ _ hf hR hS (lv_sub hl [1] rfl)
                  · rw [if_pos hc] at hf
                    refine lv_aload_n hx hb dX9_work_233 rfl (lv_at hl 1 rfl) ?_
                    refine lv_bipush (v := 11) hx hb dX9_work_234 (by decide) ?_
                    refine lv_iconst (v := 0) hx hb dX9_work_236 (by decide) ?_
                    obtain ⟨o237, ho237, hf⟩ := bnd_some hf
                    refine mr_callIv C hR hS (As := [.int 11, .int 0]) (rest := []) (MM_fails l d g N 11 0 o227.2 o237 ho237) wv_497 ⟨by omega, by omega⟩ rfl rfl (Nat.le_of_ble_eq_true rfl) hl.1 dX9_work_237 ⟨Nat.zero_le _, Nat.zero_le _⟩ (fun H locs hR hS => ?_)
                    refine lv_goto (tgt := 244) hx hb dX9_work_240 (by decide) ?_
                    exact (wbM_work_244 C hRm hGT hB) _ _ _ _ _ hf hR hS (lv_sub hl [1] rfl)
                · rw [if_neg hc7] at hf
                  by_cases hc8 : x1 = 9
                  · rw [if_pos hc8] at hf
                    refine lv_tableIn (off := 241) (tgt := 245) hx hb dX9_work_4 (by rw [hc8]; decide) (by rw [hc8]; decide) (by rw [hc8]; decide) (by decide) ?_
                    refine lv_aload_n hx hb dX9_work_245 rfl (lv_at hl 1 rfl) ?_
                    refine lv_iload_n hx hb dX9_work_246 rfl (lv_at hl 3 rfl) ?_
                    refine lv_iconst (v := 0) hx hb dX9_work_247 (by decide) ?_
                    obtain ⟨o248, ho248, hf⟩ := bnd_some hf
                    refine mr_callIv C hR hS (As := [.int x2, .int 0]) (rest := []) (MM_fails l d g N x2 0 S o248 ho248) wv_497 ⟨by omega, by omega⟩ rfl rfl (Nat.le_of_ble_eq_true rfl) hl.1 dX9_work_248 ⟨Nat.zero_le _, Nat.zero_le _⟩ (fun H locs hR hS => ?_)
                    exact mr_iret C hR hS hf dX9_work_251
                  · rw [if_neg hc8] at hf
                    by_cases hc9 : x1 = 10
                    · rw [if_pos hc9] at hf
                      refine lv_tableIn (off := 248) (tgt := 252) hx hb dX9_work_4 (by rw [hc9]; decide) (by rw [hc9]; decide) (by rw [hc9]; decide) (by decide) ?_
                      refine lv_aload_n hx hb dX9_work_252 rfl (lv_at hl 1 rfl) ?_
                      refine lv_iload_n hx hb dX9_work_253 rfl (lv_at hl 3 rfl) ?_
                      refine mr_putI C hR hS fl_526 ⟨rfl, rfl, rfl⟩ dX9_work_254 (fun H locs hR hS => ?_)
                      refine lv_iconst (v := 0) hx hb dX9_work_257 (by decide) ?_
                      exact mr_iret C hR hS hf dX9_work_258
                    · rw [if_neg hc9] at hf
                      by_cases hc10 : x1 = 11
                      · rw [if_pos hc10] at hf
                        refine lv_tableIn (off := 255) (tgt := 259) hx hb dX9_work_4 (by rw [hc10]; decide) (by rw [hc10]; decide) (by rw [hc10]; decide) (by decide) ?_
                        refine lv_aload_n hx hb dX9_work_259 rfl (lv_at hl 1 rfl) ?_
                        refine lv_aload_n hx hb dX9_work_260 rfl (lv_at hl 1 rfl) ?_
                        obtain ⟨o261, ho261, hf⟩ := bnd_some hf
                        refine mr_callIv C hR hS (As := []) (rest := [.ref g.1]) (MM_pop l d g N  S o261 ho261) wv_558 ⟨by omega, by omega⟩ rfl rfl (Nat.le_of_ble_eq_true rfl) hl.1 dX9_work_261 ⟨Nat.zero_le _, Nat.zero_le _⟩ (fun H locs hR hS => ?_)
                        refine lv_if_ne (tgt := 271) hx hb dX9_work_264 (by decide) (fun hc => ?_) (fun hc => ?_)
                        · rw [if_neg hc] at hf
                          refine lv_aload_n hx hb dX9_work_271 rfl (lv_at hl 1 rfl) ?_
                          refine mr_getI C hR fl_526 rfl dX9_work_272 ?_
                          exact (wbM_work_275 C hRm hGT hB) _ _ _ _ _ hf hR hS (lv_sub hl [1] rfl)
                        · rw [if_pos hc] at hf
                          refine lv_iload_n hx hb dX9_work_267 rfl (lv_at hl 3 rfl) ?_
                          refine lv_goto (tgt := 275) hx hb dX9_work_268 (by decide) ?_
                          exact (wbM_work_275 C hRm hGT hB) _ _ _ _ _ hf hR hS (lv_sub hl [1] rfl)
                      · rw [if_neg hc10] at hf
                        by_cases hc11 : x1 = 12
                        · rw [if_pos hc11] at hf
                          refine lv_tableIn (off := 276) (tgt := 280) hx hb dX9_work_4 (by rw [hc11]; decide) (by rw [hc11]; decide) (by rw [hc11]; decide) (by decide) ?_
                          refine lv_aload_n hx hb dX9_work_280 rfl (lv_at hl 1 rfl) ?_
                          refine mr_getR C hR fl_221 (by decide) dX9_work_281 ?_
                          refine lv_aload_n hx hb dX9_work_284 rfl (lv_at hl 1 rfl) ?_
                          refine mr_getI C hR fl_535 rfl dX9_work_285 ?_
                          refine lv_iload_n hx hb dX9_work_288 rfl (lv_at hl 3 rfl) ?_
                          obtain ⟨hi, hf⟩ := ck_some hf
                          refine mr_iast C hR hS (k := 96) rfl hi dX9_work_289 (fun H locs hR hS => ?_)
                          refine lv_aload_n hx hb dX9_work_290 rfl (lv_at hl 1 rfl) ?_
                          refine lv_dup hx hb dX9_work_291 rfl ?_
                          refine mr_getI C hR fl_535 rfl dX9_work_292 ?_
                          refine lv_iconst (v := 1) hx hb dX9_work_295 (by decide) ?_
                          refine lv_iadd hx hb dX9_work_296 ?_
                          refine mr_putI C hR hS fl_535 ⟨rfl, rfl, rfl⟩ dX9_work_297 (fun H locs hR hS => ?_)
                          refine lv_iconst (v := 0) hx hb dX9_work_300 (by decide) ?_
                          exact mr_iret C hR hS hf dX9_work_301
                        · rw [if_neg hc11] at hf
                          by_cases hc12 : x1 = 13
                          · rw [if_pos hc12] at hf
                            refine lv_tableIn (off := 298) (tgt := 302) hx hb dX9_work_4 (by rw [hc12]; decide) (by rw [hc12]; decide) (by rw [hc12]; decide) (by decide) ?_
                            refine lv_aload_n hx hb dX9_work_302 rfl (lv_at hl 1 rfl) ?_
                            refine lv_dup hx hb dX9_work_303 rfl ?_
                            refine mr_getI C hR fl_535 rfl dX9_work_304 ?_
                            refine lv_iconst (v := 1) hx hb dX9_work_307 (by decide) ?_
                            refine lv_isub hx hb dX9_work_308 ?_
                            refine mr_putI C hR hS fl_535 ⟨rfl, rfl, rfl⟩ dX9_work_309 (fun H locs hR hS => ?_)
                            refine lv_aload_n hx hb dX9_work_312 rfl (lv_at hl 1 rfl) ?_
                            refine lv_iload_n hx hb dX9_work_313 rfl (lv_at hl 3 rfl) ?_
                            refine mr_putI C hR hS fl_526 ⟨rfl, rfl, rfl⟩ dX9_work_314 (fun H locs hR hS => ?_)
                            refine lv_iconst (v := 0) hx hb dX9_work_317 (by decide) ?_
                            exact mr_iret C hR hS hf dX9_work_318
                          · rw [if_neg hc12] at hf
                            have hn0 := tsw_ne (k := 1) rfl hc0
                            have hn1 := tsw_ne (k := 2) rfl hc1
                            have hn2 := tsw_ne (k := 3) rfl hc2
                            have hn3 := tsw_ne (k := 4) rfl hc3
                            have hn4 := tsw_ne (k := 5) rfl hc4
                            have hn5 := tsw_ne (k := 6) rfl hc5
                            have hn6 := tsw_ne (k := 7) rfl hc6
                            have hn7 := tsw_ne (k := 8) rfl hc7
                            have hn8 := tsw_ne (k := 9) rfl hc8
                            have hn9 := tsw_ne (k := 10) rfl hc9
                            have hn10 := tsw_ne (k := 11) rfl hc10
                            have hn11 := tsw_ne (k := 12) rfl hc11
                            have hn12 := tsw_ne (k := 13) rfl hc12
                            refine lv_tableOut (tgt := 319) hx hb dX9_work_4 (by omega) (by decide) ?_
                            refine lv_aload_n hx hb dX9_work_319 rfl (lv_at hl 1 rfl) ?_
                            refine lv_iload_n hx hb dX9_work_320 rfl (lv_at hl 2 rfl) ?_
                            refine lv_iload_n hx hb dX9_work_321 rfl (lv_at hl 3 rfl) ?_
                            obtain ⟨o322, ho322, hf⟩ := bnd_some hf
                            refine mr_callIv C hR hS (As := [.int x1, .int x2]) (rest := []) (MM_reckons l d g N x1 x2 S o322 ho322) wv_563 ⟨by omega, by omega⟩ rfl rfl (Nat.le_of_ble_eq_true rfl) hl.1 dX9_work_322 ⟨Nat.zero_le _, Nat.zero_le _⟩ (fun H locs hR hS => ?_)
                            exact mr_iret C hR hS hf dX9_work_325
def bM_uses_20 (N : Nat) (GT : Nat → Int32 → Int32 → Int32 → Int32 → Int32 → Ms → Option (Int32 × Ms)) (s0 : Int32) (S : Ms) : Option (Int32 × Ms) := some (s0, S)
set_option maxRecDepth 100000 in
set_option maxHeartbeats 4000000 in
theorem wbM_uses_20 {p : Program} {l : Launch} {e : Env} {R : Room} {s : State} {m : MethodId} {args : Array Value} {below : List Frame} {meth : Method} {c : Code} {d : Dd} {g : Gm} {o : Int32 × Ms} {fr lo : Nat} {N : Nat} {GT : Nat → Int32 → Int32 → Int32 → Int32 → Int32 → Ms → Option (Int32 × Ms)} (C : CM p s m args meth c d g cX9_uses 4 (some .int)) (hRm : (fr + 1) ≤ R.frames ∧ (lo + 60) ≤ R.locals) (hGT : HT l d g GT fr lo) (hB : 2 ≤ fr ∧ 46 ≤ lo) (s0 : Int32) (S : Ms) (H : Heap) (locs : List Loc) (ls : Array Slot) (hf : bM_uses_20 N GT s0 S = some o) (hR : RM d g S H) (hS : va_S (AM g) s.heap H locs) (hl : lv_has ls 4 [(0, .ref g.1)]) : W p l e R s m args below meth c H locs 0 0 (MQ below (QI d g o) args s 0 0 (AM g)) (F0 m 20 ls [.int s0]) := by
  obtain ⟨hx, hb, hml, hown, hts, hK, hg, hr, hlk⟩ := id C
  unfold bM_uses_20 at hf
  exact mr_iret C hR hS hf dX9_uses_20
def fM_uses (N : Nat) (GT : Nat → Int32 → Int32 → Int32 → Int32 → Int32 → Ms → Option (Int32 × Ms)) (x1 : Int32) (x2 : Int32) (x3 : Int32) (S : Ms) : Option (Int32 × Ms) := (fM_noteNeed N x1 x2 x3 S).bind fun o4 => if x3 = 0 then ((GT 0 x1 0 0 0 0 o4).bind fun o17 => (bM_uses_20 N GT) o17.1 o17.2) else ((bM_uses_20 N GT) 0 o4)
set_option maxRecDepth 100000 in
set_option maxHeartbeats 4000000 in
theorem wfM_uses {p : Program} {l : Launch} {e : Env} {R : Room} {s : State} {m : MethodId} {args : Array Value} {below : List Frame} {meth : Method} {c : Code} {d : Dd} {g : Gm} {o : Int32 × Ms} {fr lo : Nat} {N : Nat} {GT : Nat → Int32 → Int32 → Int32 → Int32 → Int32 → Ms → Option (Int32 × Ms)} (C : CM p s m args meth c d g cX9_uses 4 (some .int)) (hRm : (fr + 1) ≤ R.frames ∧ (lo + 60) ≤ R.locals) (hGT : HT l d g GT fr lo) (hB : 2 ≤ fr ∧ 46 ≤ lo) (x1 : Int32) (x2 : Int32) (x3 : Int32) (S : Ms) (H : Heap) (locs : List Loc) (ls : Array Slot) (hf : fM_uses N GT x1 x2 x3 S = some o) (hR : RM d g S H) (hS : va_S (AM g) s.heap H locs) (hl : lv_has ls 4 [(0, .ref g.1), (1, .int x1), (2, .int x2), (3, .int x3)]) : W p l e R s m args below meth c H locs 0 0 (MQ below (QI d g o) args s 0 0 (AM g)) (F0 m 0 ls []) := by
  obtain ⟨hx, hb, hml, hown, hts, hK, hg, hr, hlk⟩ := id C
  unfold fM_uses at hf
  refine lv_aload_n hx hb dX9_uses_0 rfl (lv_at hl 0 rfl) ?_
  refine lv_iload_n hx hb dX9_uses_1 rfl (lv_at hl 1 rfl) ?_
  refine lv_iload_n hx hb dX9_uses_2 rfl (lv_at hl 2 rfl) ?_
  refine lv_iload_n hx hb dX9_uses_3 rfl (lv_at hl 3 rfl) ?_
  obtain ⟨o4, ho4, hf⟩ := bnd_some hf
  refine mr_callVv C hR hS (As := [.int x1, .int x2, .int x3]) (rest := []) (MM_noteNeed l d g N x1 x2 x3 S o4 ho4) wv_542 ⟨by omega, by omega⟩ rfl rfl (Nat.le_of_ble_eq_true rfl) hl.1 dX9_uses_4 ⟨Nat.zero_le _, Nat.zero_le _⟩ (fun H locs hR hS => ?_)
  refine lv_iload_n hx hb dX9_uses_7 rfl (lv_at hl 3 rfl) ?_
  refine lv_if_eq (tgt := 15) hx hb dX9_uses_8 (by decide) (fun hc => ?_) (fun hc => ?_)
  · rw [if_pos hc] at hf
    refine lv_aload_n hx hb dX9_uses_15 rfl (lv_at hl 0 rfl) ?_
    refine lv_iload_n hx hb dX9_uses_16 rfl (lv_at hl 1 rfl) ?_
    obtain ⟨o17, ho17, hf⟩ := bnd_some hf
    refine mr_callIv C hR hS (As := [.int x1]) (rest := []) (hGT.1 _ _ _ ho17) wv_503 ⟨by omega, by omega⟩ rfl rfl (Nat.le_of_ble_eq_true rfl) hl.1 dX9_uses_17 ⟨Nat.zero_le _, Nat.zero_le _⟩ (fun H locs hR hS => ?_)
    exact (wbM_uses_20 C hRm hGT hB) _ _ _ _ _ hf hR hS (lv_sub hl [0] rfl)
  · rw [if_neg hc] at hf
    refine lv_iconst (v := 0) hx hb dX9_uses_11 (by decide) ?_
    refine lv_goto (tgt := 20) hx hb dX9_uses_12 (by decide) ?_
    exact (wbM_uses_20 C hRm hGT hB) _ _ _ _ _ hf hR hS (lv_sub hl [0] rfl)
def gT (N : Nat) : Nat → Nat → Int32 → Int32 → Int32 → Int32 → Int32 → Ms → Option (Int32 × Ms)
  | 0, _, _, _, _, _, _, _ => none
  | k + 1, t, a1, a2, a3, a4, a5, S => if t = 0 then fM_touch N (gT N k) a1 S else if t = 1 then fM_comesUp N (gT N k) a1 S else if t = 2 then fM_touchRole N (gT N k) a1 a2 S else if t = 3 then fM_works N (gT N k) a1 a2 a3 S else if t = 4 then fM_work N (gT N k) a1 a2 a3 a4 a5 S else if t = 5 then fM_uses N (gT N k) a1 a2 a3 S else none
theorem uT_5 (N k : Nat) (x1 : Int32) (x2 : Int32) (x3 : Int32) (S : Ms) : gT N (k + 1) 5 x1 x2 x3 0 0 S = fM_uses N (gT N k) x1 x2 x3 S := by rw [gT, if_neg (by decide), if_neg (by decide), if_neg (by decide), if_neg (by decide), if_neg (by decide), if_pos rfl]
theorem uT_4 (N k : Nat) (x1 : Int32) (x2 : Int32) (x3 : Int32) (x4 : Int32) (x5 : Int32) (S : Ms) : gT N (k + 1) 4 x1 x2 x3 x4 x5 S = fM_work N (gT N k) x1 x2 x3 x4 x5 S := by rw [gT, if_neg (by decide), if_neg (by decide), if_neg (by decide), if_neg (by decide), if_pos rfl]
theorem uT_3 (N k : Nat) (x1 : Int32) (x2 : Int32) (x3 : Int32) (S : Ms) : gT N (k + 1) 3 x1 x2 x3 0 0 S = fM_works N (gT N k) x1 x2 x3 S := by rw [gT, if_neg (by decide), if_neg (by decide), if_neg (by decide), if_pos rfl]
theorem uT_2 (N k : Nat) (x1 : Int32) (x2 : Int32) (S : Ms) : gT N (k + 1) 2 x1 x2 0 0 0 S = fM_touchRole N (gT N k) x1 x2 S := by rw [gT, if_neg (by decide), if_neg (by decide), if_pos rfl]
theorem uT_1 (N k : Nat) (x1 : Int32) (S : Ms) : gT N (k + 1) 1 x1 0 0 0 0 S = fM_comesUp N (gT N k) x1 S := by rw [gT, if_neg (by decide), if_pos rfl]
theorem uT_0 (N k : Nat) (x1 : Int32) (S : Ms) : gT N (k + 1) 0 x1 0 0 0 0 S = fM_touch N (gT N k) x1 S := by rw [gT, if_pos rfl]
theorem hgT (l : Launch) (d : Dd) (g : Gm) (N : Nat) : ∀ k : Nat, HT l d g (gT N k) (2 + k) (46 + 60 * k) := by
  intro k
  induction k with
  | zero => exact ⟨(fun x1 S o h => nomatch (show none = some o from h)), (fun x1 S o h => nomatch (show none = some o from h)), (fun x1 x2 S o h => nomatch (show none = some o from h)), (fun x1 x2 x3 S o h => nomatch (show none = some o from h)), (fun x1 x2 x3 x4 x5 S o h => nomatch (show none = some o from h)), (fun x1 x2 x3 S o h => nomatch (show none = some o from h))⟩
  | succ k ih => exact ⟨fun x1 S o h => mr_metI (by decide) rfl (Nat.le_of_ble_eq_true rfl) (fun p e s m args below meth c ls C hR hl => wfM_touch C ⟨Nat.le_refl _, Nat.le_refl _⟩ ih ⟨Nat.le_add_right _ _, Nat.le_add_right _ _⟩ x1 S s.heap [] ls (uT_0 N k x1 S ▸ h) hR va_S.rf hl), fun x1 S o h => mr_metI (by decide) rfl (Nat.le_of_ble_eq_true rfl) (fun p e s m args below meth c ls C hR hl => wfM_comesUp C ⟨Nat.le_refl _, Nat.le_refl _⟩ ih ⟨Nat.le_add_right _ _, Nat.le_add_right _ _⟩ x1 S s.heap [] ls (uT_1 N k x1 S ▸ h) hR va_S.rf hl), fun x1 x2 S o h => mr_metI (by decide) rfl (Nat.le_of_ble_eq_true rfl) (fun p e s m args below meth c ls C hR hl => wfM_touchRole C ⟨Nat.le_refl _, Nat.le_refl _⟩ ih ⟨Nat.le_add_right _ _, Nat.le_add_right _ _⟩ x1 x2 S s.heap [] ls (uT_2 N k x1 x2 S ▸ h) hR va_S.rf hl), fun x1 x2 x3 S o h => mr_metI (by decide) rfl (Nat.le_of_ble_eq_true rfl) (fun p e s m args below meth c ls C hR hl => wfM_works C ⟨Nat.le_refl _, Nat.le_refl _⟩ ih ⟨Nat.le_add_right _ _, Nat.le_add_right _ _⟩ x1 x2 x3 S s.heap [] ls (uT_3 N k x1 x2 x3 S ▸ h) hR va_S.rf hl), fun x1 x2 x3 x4 x5 S o h => mr_metI (by decide) rfl (Nat.le_of_ble_eq_true rfl) (fun p e s m args below meth c ls C hR hl => wfM_work C ⟨Nat.le_refl _, Nat.le_refl _⟩ ih ⟨Nat.le_add_right _ _, Nat.le_add_right _ _⟩ x1 x2 x3 x4 x5 S s.heap [] ls (uT_4 N k x1 x2 x3 x4 x5 S ▸ h) hR va_S.rf hl), fun x1 x2 x3 S o h => mr_metI (by decide) rfl (Nat.le_of_ble_eq_true rfl) (fun p e s m args below meth c ls C hR hl => wfM_uses C ⟨Nat.le_refl _, Nat.le_refl _⟩ ih ⟨Nat.le_add_right _ _, Nat.le_add_right _ _⟩ x1 x2 x3 S s.heap [] ls (uT_5 N k x1 x2 x3 S ▸ h) hR va_S.rf hl)⟩
def fG_touch (N : Nat) (x1 : Int32) (S : Ms) : Option (Int32 × Ms) := gT N 600 0 x1 0 0 0 0 S
theorem MG_touch (l : Launch) (d : Dd) (g : Gm) (N : Nat) (x1 : Int32) (S : Ms) (o : Int32 × Ms) (hf : fG_touch N x1 S = some o) : MtI l d g yX9_touch cX9_touch 2 (some .int) 602 36046 [.ref g.1, .int x1] S o := (hgT l d g N 600).1 x1 S o hf
def fG_comesUp (N : Nat) (x1 : Int32) (S : Ms) : Option (Int32 × Ms) := gT N 600 1 x1 0 0 0 0 S
theorem MG_comesUp (l : Launch) (d : Dd) (g : Gm) (N : Nat) (x1 : Int32) (S : Ms) (o : Int32 × Ms) (hf : fG_comesUp N x1 S = some o) : MtI l d g yX9_comesUp cX9_comesUp 5 (some .int) 602 36046 [.ref g.1, .int x1] S o := (hgT l d g N 600).2.1 x1 S o hf
def fG_touchRole (N : Nat) (x1 : Int32) (x2 : Int32) (S : Ms) : Option (Int32 × Ms) := gT N 600 2 x1 x2 0 0 0 S
theorem MG_touchRole (l : Launch) (d : Dd) (g : Gm) (N : Nat) (x1 : Int32) (x2 : Int32) (S : Ms) (o : Int32 × Ms) (hf : fG_touchRole N x1 x2 S = some o) : MtI l d g yX9_touchRole cX9_touchRole 6 (some .int) 602 36046 [.ref g.1, .int x1, .int x2] S o := (hgT l d g N 600).2.2.1 x1 x2 S o hf
def fG_works (N : Nat) (x1 : Int32) (x2 : Int32) (x3 : Int32) (S : Ms) : Option (Int32 × Ms) := gT N 600 3 x1 x2 x3 0 0 S
theorem MG_works (l : Launch) (d : Dd) (g : Gm) (N : Nat) (x1 : Int32) (x2 : Int32) (x3 : Int32) (S : Ms) (o : Int32 × Ms) (hf : fG_works N x1 x2 x3 S = some o) : MtI l d g yX9_works cX9_works 10 (some .int) 602 36046 [.ref g.1, .int x1, .int x2, .int x3] S o := (hgT l d g N 600).2.2.2.1 x1 x2 x3 S o hf
def fG_work (N : Nat) (x1 : Int32) (x2 : Int32) (x3 : Int32) (x4 : Int32) (x5 : Int32) (S : Ms) : Option (Int32 × Ms) := gT N 600 4 x1 x2 x3 x4 x5 S
theorem MG_work (l : Launch) (d : Dd) (g : Gm) (N : Nat) (x1 : Int32) (x2 : Int32) (x3 : Int32) (x4 : Int32) (x5 : Int32) (S : Ms) (o : Int32 × Ms) (hf : fG_work N x1 x2 x3 x4 x5 S = some o) : MtI l d g yX9_work cX9_work 7 (some .int) 602 36046 [.ref g.1, .int x1, .int x2, .int x3, .int x4, .int x5] S o := (hgT l d g N 600).2.2.2.2.1 x1 x2 x3 x4 x5 S o hf
def fG_uses (N : Nat) (x1 : Int32) (x2 : Int32) (x3 : Int32) (S : Ms) : Option (Int32 × Ms) := gT N 600 5 x1 x2 x3 0 0 S
theorem MG_uses (l : Launch) (d : Dd) (g : Gm) (N : Nat) (x1 : Int32) (x2 : Int32) (x3 : Int32) (S : Ms) (o : Int32 × Ms) (hf : fG_uses N x1 x2 x3 S = some o) : MtI l d g yX9_uses cX9_uses 4 (some .int) 602 36046 [.ref g.1, .int x1, .int x2, .int x3] S o := (hgT l d g N 600).2.2.2.2.2 x1 x2 x3 S o hf
def bM_isUnit_22 (N : Nat) (s0 : Int32) (S : Ms) : Option (Int32 × Ms) := gd (is01 s0) (some (s0, S))
set_option maxRecDepth 100000 in
set_option maxHeartbeats 4000000 in
theorem wbM_isUnit_22 {p : Program} {l : Launch} {e : Env} {R : Room} {s : State} {m : MethodId} {args : Array Value} {below : List Frame} {meth : Method} {c : Code} {d : Dd} {g : Gm} {o : Int32 × Ms} {N : Nat} (C : CM p s m args meth c d g cX9_isUnit 2 (some .boolean)) (hRm : 0 ≤ R.frames ∧ 0 ≤ R.locals) (s0 : Int32) (S : Ms) (H : Heap) (locs : List Loc) (ls : Array Slot) (hf : bM_isUnit_22 N s0 S = some o) (hR : RM d g S H) (hS : va_S (AM g) s.heap H locs) (hl : lv_has ls 2 [(0, .ref g.1)]) : W p l e R s m args below meth c H locs 0 0 (MQ below (QI d g o) args s 0 0 (AM g)) (F0 m 22 ls [.int s0]) := by
  obtain ⟨hx, hb, hml, hown, hts, hK, hg, hr, hlk⟩ := id C
  unfold bM_isUnit_22 at hf
  obtain ⟨hz, hf⟩ := gd_some hf
  exact mr_zret C hR hS hz hf dX9_isUnit_22
def bM_isUnit_21 (N : Nat)  (S : Ms) : Option (Int32 × Ms) := (bM_isUnit_22 N) 0 S
set_option maxRecDepth 100000 in
set_option maxHeartbeats 4000000 in
theorem wbM_isUnit_21 {p : Program} {l : Launch} {e : Env} {R : Room} {s : State} {m : MethodId} {args : Array Value} {below : List Frame} {meth : Method} {c : Code} {d : Dd} {g : Gm} {o : Int32 × Ms} {N : Nat} (C : CM p s m args meth c d g cX9_isUnit 2 (some .boolean)) (hRm : 0 ≤ R.frames ∧ 0 ≤ R.locals)  (S : Ms) (H : Heap) (locs : List Loc) (ls : Array Slot) (hf : bM_isUnit_21 N  S = some o) (hR : RM d g S H) (hS : va_S (AM g) s.heap H locs) (hl : lv_has ls 2 [(0, .ref g.1)]) : W p l e R s m args below meth c H locs 0 0 (MQ below (QI d g o) args s 0 0 (AM g)) (F0 m 21 ls []) := by
  obtain ⟨hx, hb, hml, hown, hts, hK, hg, hr, hlk⟩ := id C
  unfold bM_isUnit_21 at hf
  refine lv_iconst (v := 0) hx hb dX9_isUnit_21 (by decide) ?_
  exact (wbM_isUnit_22 C hRm) _ _ _ _ _ hf hR hS (lv_sub hl [0] rfl)
def fM_isUnit (N : Nat) (x1 : Int32) (S : Ms) : Option (Int32 × Ms) := if x1 < 0 then ((bM_isUnit_21 N) S) else (ck (mF S 11) 2 (if (mA S 18 (mF S 11 : Int32).toNatClampNeg) ≤ x1 then ((bM_isUnit_21 N) S) else ((bM_isUnit_22 N) 1 S)))
set_option maxRecDepth 100000 in
set_option maxHeartbeats 4000000 in
theorem wfM_isUnit {p : Program} {l : Launch} {e : Env} {R : Room} {s : State} {m : MethodId} {args : Array Value} {below : List Frame} {meth : Method} {c : Code} {d : Dd} {g : Gm} {o : Int32 × Ms} {N : Nat} (C : CM p s m args meth c d g cX9_isUnit 2 (some .boolean)) (hRm : 0 ≤ R.frames ∧ 0 ≤ R.locals) (x1 : Int32) (S : Ms) (H : Heap) (locs : List Loc) (ls : Array Slot) (hf : fM_isUnit N x1 S = some o) (hR : RM d g S H) (hS : va_S (AM g) s.heap H locs) (hl : lv_has ls 2 [(0, .ref g.1), (1, .int x1)]) : W p l e R s m args below meth c H locs 0 0 (MQ below (QI d g o) args s 0 0 (AM g)) (F0 m 0 ls []) := by
  obtain ⟨hx, hb, hml, hown, hts, hK, hg, hr, hlk⟩ := id C
  unfold fM_isUnit at hf
  refine lv_iload_n hx hb dX9_isUnit_0 rfl (lv_at hl 1 rfl) ?_
  refine lv_if_lt (tgt := 21) hx hb dX9_isUnit_1 (by decide) (fun hc => ?_) (fun hc => ?_)
  · rw [if_pos hc] at hf
    exact (wbM_isUnit_21 C hRm) _ _ _ _ hf hR hS (lv_sub hl [0] rfl)
  · rw [if_neg hc] at hf
    refine lv_iload_n hx hb dX9_isUnit_4 rfl (lv_at hl 1 rfl) ?_
    refine lv_aload_n hx hb dX9_isUnit_5 rfl (lv_at hl 0 rfl) ?_
    refine mr_getR C hR fl_58 (by decide) dX9_isUnit_6 ?_
    refine lv_aload_n hx hb dX9_isUnit_9 rfl (lv_at hl 0 rfl) ?_
    refine mr_getI C hR fl_307 rfl dX9_isUnit_10 ?_
    obtain ⟨hi, hf⟩ := ck_some hf
    refine mr_iald C hR (k := 18) rfl hi dX9_isUnit_13 ?_
    refine lv_icmp_ge (tgt := 21) hx hb dX9_isUnit_14 (by decide) (fun hc => ?_) (fun hc => ?_)
    · rw [if_pos hc] at hf
      exact (wbM_isUnit_21 C hRm) _ _ _ _ hf hR hS (lv_sub hl [0] rfl)
    · rw [if_neg hc] at hf
      refine lv_iconst (v := 1) hx hb dX9_isUnit_17 (by decide) ?_
      refine lv_goto (tgt := 22) hx hb dX9_isUnit_18 (by decide) ?_
      exact (wbM_isUnit_22 C hRm) _ _ _ _ _ hf hR hS (lv_sub hl [0] rfl)
theorem MM_isUnit (l : Launch) (d : Dd) (g : Gm) (N : Nat) (x1 : Int32) (S : Ms) (o : Int32 × Ms) (hf : fM_isUnit N x1 S = some o) : MtI l d g yX9_isUnit cX9_isUnit 2 (some .boolean) 0 0 [.ref g.1, .int x1] S o :=
  mr_metI (by decide) rfl (Nat.le_of_ble_eq_true rfl) (fun p e s m args below meth c ls C hR hl => wfM_isUnit C ⟨Nat.le_refl _, Nat.le_refl _⟩ x1 S s.heap [] ls hf hR va_S.rf hl)
def bM_isDemand_34 (N : Nat) (s0 : Int32) (S : Ms) : Option (Int32 × Ms) := gd (is01 s0) (some (s0, S))
set_option maxRecDepth 100000 in
set_option maxHeartbeats 4000000 in
theorem wbM_isDemand_34 {p : Program} {l : Launch} {e : Env} {R : Room} {s : State} {m : MethodId} {args : Array Value} {below : List Frame} {meth : Method} {c : Code} {d : Dd} {g : Gm} {o : Int32 × Ms} {N : Nat} (C : CM p s m args meth c d g cX9_isDemand 3 (some .boolean)) (hRm : 0 ≤ R.frames ∧ 0 ≤ R.locals) (s0 : Int32) (S : Ms) (H : Heap) (locs : List Loc) (ls : Array Slot) (hf : bM_isDemand_34 N s0 S = some o) (hR : RM d g S H) (hS : va_S (AM g) s.heap H locs) (hl : lv_has ls 3 [(0, .ref g.1)]) : W p l e R s m args below meth c H locs 0 0 (MQ below (QI d g o) args s 0 0 (AM g)) (F0 m 34 ls [.int s0]) := by
  obtain ⟨hx, hb, hml, hown, hts, hK, hg, hr, hlk⟩ := id C
  unfold bM_isDemand_34 at hf
  obtain ⟨hz, hf⟩ := gd_some hf
  exact mr_zret C hR hS hz hf dX9_isDemand_34
def bM_isDemand_33 (N : Nat)  (S : Ms) : Option (Int32 × Ms) := (bM_isDemand_34 N) 0 S
set_option maxRecDepth 100000 in
set_option maxHeartbeats 4000000 in
theorem wbM_isDemand_33 {p : Program} {l : Launch} {e : Env} {R : Room} {s : State} {m : MethodId} {args : Array Value} {below : List Frame} {meth : Method} {c : Code} {d : Dd} {g : Gm} {o : Int32 × Ms} {N : Nat} (C : CM p s m args meth c d g cX9_isDemand 3 (some .boolean)) (hRm : 0 ≤ R.frames ∧ 0 ≤ R.locals)  (S : Ms) (H : Heap) (locs : List Loc) (ls : Array Slot) (hf : bM_isDemand_33 N  S = some o) (hR : RM d g S H) (hS : va_S (AM g) s.heap H locs) (hl : lv_has ls 3 [(0, .ref g.1)]) : W p l e R s m args below meth c H locs 0 0 (MQ below (QI d g o) args s 0 0 (AM g)) (F0 m 33 ls []) := by
  obtain ⟨hx, hb, hml, hown, hts, hK, hg, hr, hlk⟩ := id C
  unfold bM_isDemand_33 at hf
  refine lv_iconst (v := 0) hx hb dX9_isDemand_33 (by decide) ?_
  exact (wbM_isDemand_34 C hRm) _ _ _ _ _ hf hR hS (lv_sub hl [0] rfl)
def fM_isDemand (N : Nat) (x1 : Int32) (x2 : Int32) (S : Ms) : Option (Int32 × Ms) := if x1 < 0 then ((bM_isDemand_33 N) S) else (ck (mF S 11) 2 (if (mA S 35 (mF S 11 : Int32).toNatClampNeg) ≤ x1 then ((bM_isDemand_33 N) S) else (if x2 < 1 then ((bM_isDemand_33 N) S) else (if 5000 < x2 then ((bM_isDemand_33 N) S) else ((bM_isDemand_34 N) 1 S)))))
set_option maxRecDepth 100000 in
set_option maxHeartbeats 4000000 in
theorem wfM_isDemand {p : Program} {l : Launch} {e : Env} {R : Room} {s : State} {m : MethodId} {args : Array Value} {below : List Frame} {meth : Method} {c : Code} {d : Dd} {g : Gm} {o : Int32 × Ms} {N : Nat} (C : CM p s m args meth c d g cX9_isDemand 3 (some .boolean)) (hRm : 0 ≤ R.frames ∧ 0 ≤ R.locals) (x1 : Int32) (x2 : Int32) (S : Ms) (H : Heap) (locs : List Loc) (ls : Array Slot) (hf : fM_isDemand N x1 x2 S = some o) (hR : RM d g S H) (hS : va_S (AM g) s.heap H locs) (hl : lv_has ls 3 [(0, .ref g.1), (1, .int x1), (2, .int x2)]) : W p l e R s m args below meth c H locs 0 0 (MQ below (QI d g o) args s 0 0 (AM g)) (F0 m 0 ls []) := by
  obtain ⟨hx, hb, hml, hown, hts, hK, hg, hr, hlk⟩ := id C
  unfold fM_isDemand at hf
  refine lv_iload_n hx hb dX9_isDemand_0 rfl (lv_at hl 1 rfl) ?_
  refine lv_if_lt (tgt := 33) hx hb dX9_isDemand_1 (by decide) (fun hc => ?_) (fun hc => ?_)
  · rw [if_pos hc] at hf
    exact (wbM_isDemand_33 C hRm) _ _ _ _ hf hR hS (lv_sub hl [0] rfl)
  · rw [if_neg hc] at hf
    refine lv_iload_n hx hb dX9_isDemand_4 rfl (lv_at hl 1 rfl) ?_
    refine lv_aload_n hx hb dX9_isDemand_5 rfl (lv_at hl 0 rfl) ?_
    refine mr_getR C hR fl_110 (by decide) dX9_isDemand_6 ?_
    refine lv_aload_n hx hb dX9_isDemand_9 rfl (lv_at hl 0 rfl) ?_
    refine mr_getI C hR fl_307 rfl dX9_isDemand_10 ?_
    obtain ⟨hi, hf⟩ := ck_some hf
    refine mr_iald C hR (k := 35) rfl hi dX9_isDemand_13 ?_
    refine lv_icmp_ge (tgt := 33) hx hb dX9_isDemand_14 (by decide) (fun hc => ?_) (fun hc => ?_)
    · rw [if_pos hc] at hf
      exact (wbM_isDemand_33 C hRm) _ _ _ _ hf hR hS (lv_sub hl [0] rfl)
    · rw [if_neg hc] at hf
      refine lv_iload_n hx hb dX9_isDemand_17 rfl (lv_at hl 2 rfl) ?_
      refine lv_iconst (v := 1) hx hb dX9_isDemand_18 (by decide) ?_
      refine lv_icmp_lt (tgt := 33) hx hb dX9_isDemand_19 (by decide) (fun hc => ?_) (fun hc => ?_)
      · rw [if_pos hc] at hf
        exact (wbM_isDemand_33 C hRm) _ _ _ _ hf hR hS (lv_sub hl [0] rfl)
      · rw [if_neg hc] at hf
        refine lv_iload_n hx hb dX9_isDemand_22 rfl (lv_at hl 2 rfl) ?_
        refine lv_sipush (v := 5000) hx hb dX9_isDemand_23 (by decide) ?_
        refine lv_icmp_gt (tgt := 33) hx hb dX9_isDemand_26 (by decide) (fun hc => ?_) (fun hc => ?_)
        · rw [if_pos hc] at hf
          exact (wbM_isDemand_33 C hRm) _ _ _ _ hf hR hS (lv_sub hl [0] rfl)
        · rw [if_neg hc] at hf
          refine lv_iconst (v := 1) hx hb dX9_isDemand_29 (by decide) ?_
          refine lv_goto (tgt := 34) hx hb dX9_isDemand_30 (by decide) ?_
          exact (wbM_isDemand_34 C hRm) _ _ _ _ _ hf hR hS (lv_sub hl [0] rfl)
theorem MM_isDemand (l : Launch) (d : Dd) (g : Gm) (N : Nat) (x1 : Int32) (x2 : Int32) (S : Ms) (o : Int32 × Ms) (hf : fM_isDemand N x1 x2 S = some o) : MtI l d g yX9_isDemand cX9_isDemand 3 (some .boolean) 0 0 [.ref g.1, .int x1, .int x2] S o :=
  mr_metI (by decide) rfl (Nat.le_of_ble_eq_true rfl) (fun p e s m args below meth c ls C hR hl => wfM_isDemand C ⟨Nat.le_refl _, Nat.le_refl _⟩ x1 x2 S s.heap [] ls hf hR va_S.rf hl)
def fM_runs (N : Nat) (x1 : Int32) (x2 : Int32) (S : Ms) : Option (Int32 × Ms) := ck ((20 * (mF (pF (pF (pF (pF (pF S 68 x2) 67 0) 95 0) 97 0) 92 x1) 11)) + x1) 40 ((fG_works N (mA (pF (pF (pF (pF (pF S 68 x2) 67 0) 95 0) 97 0) 92 x1) 37 ((20 * (mF (pF (pF (pF (pF (pF S 68 x2) 67 0) 95 0) 97 0) 92 x1) 11)) + x1 : Int32).toNatClampNeg) (-1) 0 (pF (pF (pF (pF (pF S 68 x2) 67 0) 95 0) 97 0) 92 x1)).bind fun o42 => some (o42.1, o42.2))
set_option maxRecDepth 100000 in
set_option maxHeartbeats 4000000 in
theorem wfM_runs {p : Program} {l : Launch} {e : Env} {R : Room} {s : State} {m : MethodId} {args : Array Value} {below : List Frame} {meth : Method} {c : Code} {d : Dd} {g : Gm} {o : Int32 × Ms} {N : Nat} (C : CM p s m args meth c d g cX9_runs 3 (some .int)) (hRm : 603 ≤ R.frames ∧ 36075 ≤ R.locals) (x1 : Int32) (x2 : Int32) (S : Ms) (H : Heap) (locs : List Loc) (ls : Array Slot) (hf : fM_runs N x1 x2 S = some o) (hR : RM d g S H) (hS : va_S (AM g) s.heap H locs) (hl : lv_has ls 3 [(0, .ref g.1), (1, .int x1), (2, .int x2)]) : W p l e R s m args below meth c H locs 0 0 (MQ below (QI d g o) args s 0 0 (AM g)) (F0 m 0 ls []) := by
  obtain ⟨hx, hb, hml, hown, hts, hK, hg, hr, hlk⟩ := id C
  unfold fM_runs at hf
  refine lv_aload_n hx hb dX9_runs_0 rfl (lv_at hl 0 rfl) ?_
  refine lv_iload_n hx hb dX9_runs_1 rfl (lv_at hl 2 rfl) ?_
  refine mr_putI C hR hS fl_519 ⟨rfl, rfl, rfl⟩ dX9_runs_2 (fun H locs hR hS => ?_)
  refine lv_aload_n hx hb dX9_runs_5 rfl (lv_at hl 0 rfl) ?_
  refine lv_iconst (v := 0) hx hb dX9_runs_6 (by decide) ?_
  refine mr_putI C hR hS fl_516 ⟨rfl, rfl, rfl⟩ dX9_runs_7 (fun H locs hR hS => ?_)
  refine lv_aload_n hx hb dX9_runs_10 rfl (lv_at hl 0 rfl) ?_
  refine lv_iconst (v := 0) hx hb dX9_runs_11 (by decide) ?_
  refine mr_putI C hR hS fl_532 ⟨rfl, rfl, rfl⟩ dX9_runs_12 (fun H locs hR hS => ?_)
  refine lv_aload_n hx hb dX9_runs_15 rfl (lv_at hl 0 rfl) ?_
  refine lv_iconst (v := 0) hx hb dX9_runs_16 (by decide) ?_
  refine mr_putI C hR hS fl_535 ⟨rfl, rfl, rfl⟩ dX9_runs_17 (fun H locs hR hS => ?_)
  refine lv_aload_n hx hb dX9_runs_20 rfl (lv_at hl 0 rfl) ?_
  refine lv_iload_n hx hb dX9_runs_21 rfl (lv_at hl 1 rfl) ?_
  refine mr_putI C hR hS fl_513 ⟨rfl, rfl, rfl⟩ dX9_runs_22 (fun H locs hR hS => ?_)
  refine lv_aload_n hx hb dX9_runs_25 rfl (lv_at hl 0 rfl) ?_
  refine lv_aload_n hx hb dX9_runs_26 rfl (lv_at hl 0 rfl) ?_
  refine mr_getR C hR fl_116 (by decide) dX9_runs_27 ?_
  refine lv_bipush (v := 20) hx hb dX9_runs_30 (by decide) ?_
  refine lv_aload_n hx hb dX9_runs_32 rfl (lv_at hl 0 rfl) ?_
  refine mr_getI C hR fl_307 rfl dX9_runs_33 ?_
  refine lv_imul hx hb dX9_runs_36 ?_
  refine lv_iload_n hx hb dX9_runs_37 rfl (lv_at hl 1 rfl) ?_
  refine lv_iadd hx hb dX9_runs_38 ?_
  obtain ⟨hi, hf⟩ := ck_some hf
  refine mr_iald C hR (k := 37) rfl hi dX9_runs_39 ?_
  refine lv_iconst (v := (-1)) hx hb dX9_runs_40 (by decide) ?_
  refine lv_iconst (v := 0) hx hb dX9_runs_41 (by decide) ?_
  obtain ⟨o42, ho42, hf⟩ := bnd_some hf
  refine mr_callIv C hR hS (As := [.int (mA (pF (pF (pF (pF (pF S 68 x2) 67 0) 95 0) 97 0) 92 x1) 37 ((20 * (mF (pF (pF (pF (pF (pF S 68 x2) 67 0) 95 0) 97 0) 92 x1) 11)) + x1 : Int32).toNatClampNeg), .int (-1), .int 0]) (rest := []) (MG_works l d g N (mA (pF (pF (pF (pF (pF S 68 x2) 67 0) 95 0) 97 0) 92 x1) 37 ((20 * (mF (pF (pF (pF (pF (pF S 68 x2) 67 0) 95 0) 97 0) 92 x1) 11)) + x1 : Int32).toNatClampNeg) (-1) 0 (pF (pF (pF (pF (pF S 68 x2) 67 0) 95 0) 97 0) 92 x1) o42 ho42) wv_509 ⟨by omega, by omega⟩ rfl rfl (Nat.le_of_ble_eq_true rfl) hl.1 dX9_runs_42 ⟨Nat.zero_le _, Nat.zero_le _⟩ (fun H locs hR hS => ?_)
  exact mr_iret C hR hS hf dX9_runs_45
theorem MM_runs (l : Launch) (d : Dd) (g : Gm) (N : Nat) (x1 : Int32) (x2 : Int32) (S : Ms) (o : Int32 × Ms) (hf : fM_runs N x1 x2 S = some o) : MtI l d g yX9_runs cX9_runs 3 (some .int) 603 36075 [.ref g.1, .int x1, .int x2] S o :=
  mr_metI (by decide) rfl (Nat.le_of_ble_eq_true rfl) (fun p e s m args below meth c ls C hR hl => wfM_runs C ⟨Nat.le_refl _, Nat.le_refl _⟩ x1 x2 S s.heap [] ls hf hR va_S.rf hl)
def bM_demand_119 (N : Nat) (s0 : Int32) (S : Ms) : Option (Int32 × Ms) := some (s0, S)
set_option maxRecDepth 100000 in
set_option maxHeartbeats 4000000 in
theorem wbM_demand_119 {p : Program} {l : Launch} {e : Env} {R : Room} {s : State} {m : MethodId} {args : Array Value} {below : List Frame} {meth : Method} {c : Code} {d : Dd} {g : Gm} {o : Int32 × Ms} {N : Nat} (C : CM p s m args meth c d g cX9_demand 4 (some .int)) (hRm : 604 ≤ R.frames ∧ 36097 ≤ R.locals) (s0 : Int32) (S : Ms) (H : Heap) (locs : List Loc) (ls : Array Slot) (hf : bM_demand_119 N s0 S = some o) (hR : RM d g S H) (hS : va_S (AM g) s.heap H locs) (hl : lv_has ls 4 [(0, .ref g.1)]) : W p l e R s m args below meth c H locs 0 0 (MQ below (QI d g o) args s 0 0 (AM g)) (F0 m 119 ls [.int s0]) := by
  obtain ⟨hx, hb, hml, hown, hts, hK, hg, hr, hlk⟩ := id C
  unfold bM_demand_119 at hf
  exact mr_iret C hR hS hf dX9_demand_119
def bM_demand_71 (N : Nat) (x3 : Int32) (s1 : Int32) (S : Ms) : Option (Int32 × Ms) := if x3 = 0 then ((bM_demand_119 N) 0 (pF S 89 s1)) else (if x3 = 2 then ((bM_demand_119 N) 6 (pF S 89 s1)) else (if (mF (pF S 89 s1) 90) = 20 then ((bM_demand_119 N) 1 (pF S 89 s1)) else (if (mF (pF S 89 s1) 90) = 21 then ((bM_demand_119 N) 2 (pF S 89 s1)) else ((bM_demand_119 N) 3 (pF S 89 s1)))))
set_option maxRecDepth 100000 in
set_option maxHeartbeats 4000000 in
theorem wbM_demand_71 {p : Program} {l : Launch} {e : Env} {R : Room} {s : State} {m : MethodId} {args : Array Value} {below : List Frame} {meth : Method} {c : Code} {d : Dd} {g : Gm} {o : Int32 × Ms} {N : Nat} (C : CM p s m args meth c d g cX9_demand 4 (some .int)) (hRm : 604 ≤ R.frames ∧ 36097 ≤ R.locals) (x3 : Int32) (s1 : Int32) (S : Ms) (H : Heap) (locs : List Loc) (ls : Array Slot) (hf : bM_demand_71 N x3 s1 S = some o) (hR : RM d g S H) (hS : va_S (AM g) s.heap H locs) (hl : lv_has ls 4 [(0, .ref g.1), (3, .int x3)]) : W p l e R s m args below meth c H locs 0 0 (MQ below (QI d g o) args s 0 0 (AM g)) (F0 m 71 ls [.int s1, .ref g.1]) := by
  obtain ⟨hx, hb, hml, hown, hts, hK, hg, hr, hlk⟩ := id C
  unfold bM_demand_71 at hf
  refine mr_putI C hR hS fl_485 ⟨rfl, rfl, rfl⟩ dX9_demand_71 (fun H locs hR hS => ?_)
  refine lv_iload_n hx hb dX9_demand_74 rfl (lv_at hl 1 rfl) ?_
  refine lv_if_ne (tgt := 82) hx hb dX9_demand_75 (by decide) (fun hc => ?_) (fun hc => ?_)
  · rw [if_neg hc] at hf
    refine lv_iload_n hx hb dX9_demand_82 rfl (lv_at hl 1 rfl) ?_
    refine lv_iconst (v := 2) hx hb dX9_demand_83 (by decide) ?_
    refine lv_icmp_ne (tgt := 92) hx hb dX9_demand_84 (by decide) (fun hc => ?_) (fun hc => ?_)
    · rw [if_neg hc] at hf
      refine lv_aload_n hx hb dX9_demand_92 rfl (lv_at hl 0 rfl) ?_
      refine mr_getI C hR fl_491 rfl dX9_demand_93 ?_
      refine lv_bipush (v := 20) hx hb dX9_demand_96 (by decide) ?_
      refine lv_icmp_ne (tgt := 105) hx hb dX9_demand_98 (by decide) (fun hc => ?_) (fun hc => ?_)
      · rw [if_neg hc] at hf
        refine lv_aload_n hx hb dX9_demand_105 rfl (lv_at hl 0 rfl) ?_
        refine mr_getI C hR fl_491 rfl dX9_demand_106 ?_
        refine lv_bipush (v := 21) hx hb dX9_demand_109 (by decide) ?_
        refine lv_icmp_ne (tgt := 118) hx hb dX9_demand_111 (by decide) (fun hc => ?_) (fun hc => ?_)
        · rw [if_neg hc] at hf
          refine lv_iconst (v := 3) hx hb dX9_demand_118 (by decide) ?_
          exact (wbM_demand_119 C hRm) _ _ _ _ _ hf hR hS (lv_sub hl [0] rfl)
        · rw [if_pos hc] at hf
          refine lv_iconst (v := 2) hx hb dX9_demand_114 (by decide) ?_
          refine lv_goto (tgt := 119) hx hb dX9_demand_115 (by decide) ?_
          exact (wbM_demand_119 C hRm) _ _ _ _ _ hf hR hS (lv_sub hl [0] rfl)
      · rw [if_pos hc] at hf
        refine lv_iconst (v := 1) hx hb dX9_demand_101 (by decide) ?_
        refine lv_goto (tgt := 119) hx hb dX9_demand_102 (by decide) ?_
        exact (wbM_demand_119 C hRm) _ _ _ _ _ hf hR hS (lv_sub hl [0] rfl)
    · rw [if_pos hc] at hf
      refine lv_bipush (v := 6) hx hb dX9_demand_87 (by decide) ?_
      refine lv_goto (tgt := 119) hx hb dX9_demand_89 (by decide) ?_
      exact (wbM_demand_119 C hRm) _ _ _ _ _ hf hR hS (lv_sub hl [0] rfl)
  · rw [if_pos hc] at hf
    refine lv_iconst (v := 0) hx hb dX9_demand_78 (by decide) ?_
    refine lv_goto (tgt := 119) hx hb dX9_demand_79 (by decide) ?_
    exact (wbM_demand_119 C hRm) _ _ _ _ _ hf hR hS (lv_sub hl [0] rfl)
def bM_demand_54 (N : Nat) (x3 : Int32) (s1 : Int32) (S : Ms) : Option (Int32 × Ms) := if x3 = 1 then ((bM_demand_71 N) x3 (mF (pF S 88 s1) 91) (pF S 88 s1)) else ((bM_demand_71 N) x3 0 (pF S 88 s1))
set_option maxRecDepth 100000 in
set_option maxHeartbeats 4000000 in
theorem wbM_demand_54 {p : Program} {l : Launch} {e : Env} {R : Room} {s : State} {m : MethodId} {args : Array Value} {below : List Frame} {meth : Method} {c : Code} {d : Dd} {g : Gm} {o : Int32 × Ms} {N : Nat} (C : CM p s m args meth c d g cX9_demand 4 (some .int)) (hRm : 604 ≤ R.frames ∧ 36097 ≤ R.locals) (x3 : Int32) (s1 : Int32) (S : Ms) (H : Heap) (locs : List Loc) (ls : Array Slot) (hf : bM_demand_54 N x3 s1 S = some o) (hR : RM d g S H) (hS : va_S (AM g) s.heap H locs) (hl : lv_has ls 4 [(0, .ref g.1), (3, .int x3)]) : W p l e R s m args below meth c H locs 0 0 (MQ below (QI d g o) args s 0 0 (AM g)) (F0 m 54 ls [.int s1, .ref g.1]) := by
  obtain ⟨hx, hb, hml, hown, hts, hK, hg, hr, hlk⟩ := id C
  unfold bM_demand_54 at hf
  refine mr_putI C hR hS fl_482 ⟨rfl, rfl, rfl⟩ dX9_demand_54 (fun H locs hR hS => ?_)
  refine lv_aload_n hx hb dX9_demand_57 rfl (lv_at hl 0 rfl) ?_
  refine lv_iload_n hx hb dX9_demand_58 rfl (lv_at hl 1 rfl) ?_
  refine lv_iconst (v := 1) hx hb dX9_demand_59 (by decide) ?_
  refine lv_icmp_ne (tgt := 70) hx hb dX9_demand_60 (by decide) (fun hc => ?_) (fun hc => ?_)
  · rw [if_neg hc] at hf
    refine lv_iconst (v := 0) hx hb dX9_demand_70 (by decide) ?_
    exact (wbM_demand_71 C hRm) _ _ _ _ _ _ hf hR hS (lv_sub hl [0, 1] rfl)
  · rw [if_pos hc] at hf
    refine lv_aload_n hx hb dX9_demand_63 rfl (lv_at hl 0 rfl) ?_
    refine mr_getI C hR fl_494 rfl dX9_demand_64 ?_
    refine lv_goto (tgt := 71) hx hb dX9_demand_67 (by decide) ?_
    exact (wbM_demand_71 C hRm) _ _ _ _ _ _ hf hR hS (lv_sub hl [0, 1] rfl)
def fM_demand (N : Nat) (x1 : Int32) (x2 : Int32) (S : Ms) : Option (Int32 × Ms) := (fM_isDemand N x1 x2 (pF S 0 0)).bind fun o8 => if o8.1 = 0 then (some (4, o8.2)) else (if (mF o8.2 64) = 0 then ((fM_runs N x1 x2 o8.2).bind fun o28 => if o28.1 = 1 then ((bM_demand_54 N) o28.1 (mF (pF o28.2 66 (mF o28.2 67)) 90) (pF o28.2 66 (mF o28.2 67))) else ((bM_demand_54 N) o28.1 0 (pF o28.2 66 (mF o28.2 67)))) else (some (5, o8.2)))
set_option maxRecDepth 100000 in
set_option maxHeartbeats 4000000 in
theorem wfM_demand {p : Program} {l : Launch} {e : Env} {R : Room} {s : State} {m : MethodId} {args : Array Value} {below : List Frame} {meth : Method} {c : Code} {d : Dd} {g : Gm} {o : Int32 × Ms} {N : Nat} (C : CM p s m args meth c d g cX9_demand 4 (some .int)) (hRm : 604 ≤ R.frames ∧ 36097 ≤ R.locals) (x1 : Int32) (x2 : Int32) (S : Ms) (H : Heap) (locs : List Loc) (ls : Array Slot) (hf : fM_demand N x1 x2 S = some o) (hR : RM d g S H) (hS : va_S (AM g) s.heap H locs) (hl : lv_has ls 4 [(0, .ref g.1), (1, .int x1), (2, .int x2)]) : W p l e R s m args below meth c H locs 0 0 (MQ below (QI d g o) args s 0 0 (AM g)) (F0 m 0 ls []) := by
  obtain ⟨hx, hb, hml, hown, hts, hK, hg, hr, hlk⟩ := id C
  unfold fM_demand at hf
  refine lv_aload_n hx hb dX9_demand_0 rfl (lv_at hl 0 rfl) ?_
  refine lv_iconst (v := 0) hx hb dX9_demand_1 (by decide) ?_
  refine mr_putI C hR hS fl_1 ⟨rfl, rfl, rfl⟩ dX9_demand_2 (fun H locs hR hS => ?_)
  refine lv_aload_n hx hb dX9_demand_5 rfl (lv_at hl 0 rfl) ?_
  refine lv_iload_n hx hb dX9_demand_6 rfl (lv_at hl 1 rfl) ?_
  refine lv_iload_n hx hb dX9_demand_7 rfl (lv_at hl 2 rfl) ?_
  obtain ⟨o8, ho8, hf⟩ := bnd_some hf
  refine mr_callIv C hR hS (As := [.int x1, .int x2]) (rest := []) (MM_isDemand l d g N x1 x2 (pF S 0 0) o8 ho8) wv_566 ⟨by omega, by omega⟩ rfl rfl (Nat.le_of_ble_eq_true rfl) hl.1 dX9_demand_8 ⟨Nat.zero_le _, Nat.zero_le _⟩ (fun H locs hR hS => ?_)
  refine lv_if_ne (tgt := 16) hx hb dX9_demand_11 (by decide) (fun hc => ?_) (fun hc => ?_)
  · rw [if_neg hc] at hf
    refine lv_aload_n hx hb dX9_demand_16 rfl (lv_at hl 0 rfl) ?_
    refine mr_getI C hR fl_460 rfl dX9_demand_17 ?_
    refine lv_if_eq (tgt := 25) hx hb dX9_demand_20 (by decide) (fun hc => ?_) (fun hc => ?_)
    · rw [if_pos hc] at hf
      refine lv_aload_n hx hb dX9_demand_25 rfl (lv_at hl 0 rfl) ?_
      refine lv_iload_n hx hb dX9_demand_26 rfl (lv_at hl 1 rfl) ?_
      refine lv_iload_n hx hb dX9_demand_27 rfl (lv_at hl 2 rfl) ?_
      obtain ⟨o28, ho28, hf⟩ := bnd_some hf
      refine mr_callIv C hR hS (As := [.int x1, .int x2]) (rest := []) (MM_runs l d g N x1 x2 o8.2 o28 ho28) wv_570 ⟨by omega, by omega⟩ rfl rfl (Nat.le_of_ble_eq_true rfl) hl.1 dX9_demand_28 ⟨Nat.zero_le _, Nat.zero_le _⟩ (fun H locs hR hS => ?_)
      refine lv_istore_n (lv' := [(3, .int o28.1), (0, .ref g.1), (1, .int x1), (2, .int x2)]) hx hb dX9_demand_31 rfl hl (by decide) rfl (fun ls hl => ?_)
      refine lv_aload_n hx hb dX9_demand_32 rfl (lv_at hl 1 rfl) ?_
      refine lv_aload_n hx hb dX9_demand_33 rfl (lv_at hl 1 rfl) ?_
      refine mr_getI C hR fl_516 rfl dX9_demand_34 ?_
      refine mr_putI C hR hS fl_464 ⟨rfl, rfl, rfl⟩ dX9_demand_37 (fun H locs hR hS => ?_)
      refine lv_aload_n hx hb dX9_demand_40 rfl (lv_at hl 1 rfl) ?_
      refine lv_iload_n hx hb dX9_demand_41 rfl (lv_at hl 0 rfl) ?_
      refine lv_iconst (v := 1) hx hb dX9_demand_42 (by decide) ?_
      refine lv_icmp_ne (tgt := 53) hx hb dX9_demand_43 (by decide) (fun hc => ?_) (fun hc => ?_)
      · rw [if_neg hc] at hf
        refine lv_iconst (v := 0) hx hb dX9_demand_53 (by decide) ?_
        exact (wbM_demand_54 C hRm) _ _ _ _ _ _ hf hR hS (lv_sub hl [1, 0] rfl)
      · rw [if_pos hc] at hf
        refine lv_aload_n hx hb dX9_demand_46 rfl (lv_at hl 1 rfl) ?_
        refine mr_getI C hR fl_491 rfl dX9_demand_47 ?_
        refine lv_goto (tgt := 54) hx hb dX9_demand_50 (by decide) ?_
        exact (wbM_demand_54 C hRm) _ _ _ _ _ _ hf hR hS (lv_sub hl [1, 0] rfl)
    · rw [if_neg hc] at hf
      refine lv_iconst (v := 5) hx hb dX9_demand_23 (by decide) ?_
      exact mr_iret C hR hS hf dX9_demand_24
  · rw [if_pos hc] at hf
    refine lv_iconst (v := 4) hx hb dX9_demand_14 (by decide) ?_
    exact mr_iret C hR hS hf dX9_demand_15
theorem MM_demand (l : Launch) (d : Dd) (g : Gm) (N : Nat) (x1 : Int32) (x2 : Int32) (S : Ms) (o : Int32 × Ms) (hf : fM_demand N x1 x2 S = some o) : MtI l d g yX9_demand cX9_demand 4 (some .int) 604 36097 [.ref g.1, .int x1, .int x2] S o :=
  mr_metI (by decide) rfl (Nat.le_of_ble_eq_true rfl) (fun p e s m args below meth c ls C hR hl => wfM_demand C ⟨Nat.le_refl _, Nat.le_refl _⟩ x1 x2 S s.heap [] ls hf hR va_S.rf hl)
def bM_ended_29 (N : Nat) (s0 : Int32) (S : Ms) : Option (Int32 × Ms) := some (s0, S)
set_option maxRecDepth 100000 in
set_option maxHeartbeats 4000000 in
theorem wbM_ended_29 {p : Program} {l : Launch} {e : Env} {R : Room} {s : State} {m : MethodId} {args : Array Value} {below : List Frame} {meth : Method} {c : Code} {d : Dd} {g : Gm} {o : Int32 × Ms} {N : Nat} (C : CM p s m args meth c d g cX9_ended 2 (some .int)) (hRm : 0 ≤ R.frames ∧ 0 ≤ R.locals) (s0 : Int32) (S : Ms) (H : Heap) (locs : List Loc) (ls : Array Slot) (hf : bM_ended_29 N s0 S = some o) (hR : RM d g S H) (hS : va_S (AM g) s.heap H locs) (hl : lv_has ls 2 [(0, .ref g.1)]) : W p l e R s m args below meth c H locs 0 0 (MQ below (QI d g o) args s 0 0 (AM g)) (F0 m 29 ls [.int s0]) := by
  obtain ⟨hx, hb, hml, hown, hts, hK, hg, hr, hlk⟩ := id C
  unfold bM_ended_29 at hf
  exact mr_iret C hR hS hf dX9_ended_29
def fM_ended (N : Nat) (x1 : Int32) (S : Ms) : Option (Int32 × Ms) := if x1 = 0 then ((bM_ended_29 N) (mF (pF S 0 0) 88) (pF S 0 0)) else (if x1 = 1 then ((bM_ended_29 N) (mF (pF S 0 0) 89) (pF S 0 0)) else ((bM_ended_29 N) 0 (pF S 0 0)))
set_option maxRecDepth 100000 in
set_option maxHeartbeats 4000000 in
theorem wfM_ended {p : Program} {l : Launch} {e : Env} {R : Room} {s : State} {m : MethodId} {args : Array Value} {below : List Frame} {meth : Method} {c : Code} {d : Dd} {g : Gm} {o : Int32 × Ms} {N : Nat} (C : CM p s m args meth c d g cX9_ended 2 (some .int)) (hRm : 0 ≤ R.frames ∧ 0 ≤ R.locals) (x1 : Int32) (S : Ms) (H : Heap) (locs : List Loc) (ls : Array Slot) (hf : fM_ended N x1 S = some o) (hR : RM d g S H) (hS : va_S (AM g) s.heap H locs) (hl : lv_has ls 2 [(0, .ref g.1), (1, .int x1)]) : W p l e R s m args below meth c H locs 0 0 (MQ below (QI d g o) args s 0 0 (AM g)) (F0 m 0 ls []) := by
  obtain ⟨hx, hb, hml, hown, hts, hK, hg, hr, hlk⟩ := id C
  unfold fM_ended at hf
  refine lv_aload_n hx hb dX9_ended_0 rfl (lv_at hl 0 rfl) ?_
  refine lv_iconst (v := 0) hx hb dX9_ended_1 (by decide) ?_
  refine mr_putI C hR hS fl_1 ⟨rfl, rfl, rfl⟩ dX9_ended_2 (fun H locs hR hS => ?_)
  refine lv_iload_n hx hb dX9_ended_5 rfl (lv_at hl 1 rfl) ?_
  refine lv_if_ne (tgt := 16) hx hb dX9_ended_6 (by decide) (fun hc => ?_) (fun hc => ?_)
  · rw [if_neg hc] at hf
    refine lv_iload_n hx hb dX9_ended_16 rfl (lv_at hl 1 rfl) ?_
    refine lv_iconst (v := 1) hx hb dX9_ended_17 (by decide) ?_
    refine lv_icmp_ne (tgt := 28) hx hb dX9_ended_18 (by decide) (fun hc => ?_) (fun hc => ?_)
    · rw [if_neg hc] at hf
      refine lv_iconst (v := 0) hx hb dX9_ended_28 (by decide) ?_
      exact (wbM_ended_29 C hRm) _ _ _ _ _ hf hR hS (lv_sub hl [0] rfl)
    · rw [if_pos hc] at hf
      refine lv_aload_n hx hb dX9_ended_21 rfl (lv_at hl 0 rfl) ?_
      refine mr_getI C hR fl_485 rfl dX9_ended_22 ?_
      refine lv_goto (tgt := 29) hx hb dX9_ended_25 (by decide) ?_
      exact (wbM_ended_29 C hRm) _ _ _ _ _ hf hR hS (lv_sub hl [0] rfl)
  · rw [if_pos hc] at hf
    refine lv_aload_n hx hb dX9_ended_9 rfl (lv_at hl 0 rfl) ?_
    refine mr_getI C hR fl_482 rfl dX9_ended_10 ?_
    refine lv_goto (tgt := 29) hx hb dX9_ended_13 (by decide) ?_
    exact (wbM_ended_29 C hRm) _ _ _ _ _ hf hR hS (lv_sub hl [0] rfl)
theorem MM_ended (l : Launch) (d : Dd) (g : Gm) (N : Nat) (x1 : Int32) (S : Ms) (o : Int32 × Ms) (hf : fM_ended N x1 S = some o) : MtI l d g yX9_ended cX9_ended 2 (some .int) 0 0 [.ref g.1, .int x1] S o :=
  mr_metI (by decide) rfl (Nat.le_of_ble_eq_true rfl) (fun p e s m args below meth c ls C hR hl => wfM_ended C ⟨Nat.le_refl _, Nat.le_refl _⟩ x1 S s.heap [] ls hf hR va_S.rf hl)
