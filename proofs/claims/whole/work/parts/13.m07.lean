def bM_unit_116 (N : Nat) (s0 : Int32) (S : Ms) : Option (Int32 × Ms) := some (s0, S)
set_option maxRecDepth 100000 in
set_option maxHeartbeats 4000000 in
theorem wbM_unit_116 {p : Program} {l : Launch} {e : Env} {R : Room} {s : State} {m : MethodId} {args : Array Value} {below : List Frame} {meth : Method} {c : Code} {d : Dd} {g : Gm} {o : Int32 × Ms} {N : Nat} (C : CM p s m args meth c d g cX9_unit 4 (some .int)) (hRm : 1 ≤ R.frames ∧ 21 ≤ R.locals) (s0 : Int32) (S : Ms) (H : Heap) (locs : List Loc) (ls : Array Slot) (hf : bM_unit_116 N s0 S = some o) (hR : RM d g S H) (hS : va_S (AM g) s.heap H locs) (hl : lv_has ls 4 [(0, .ref g.1)]) : W p l e R s m args below meth c H locs 0 0 (MQ below (QI d g o) args s 0 0 (AM g)) (F0 m 116 ls [.int s0]) := by
  obtain ⟨hx, hb, hml, hown, hts, hK, hg, hr, hlk⟩ := id C
  unfold bM_unit_116 at hf
  exact mr_iret C hR hS hf dX9_unit_116
def bM_unit_131 (N : Nat) (s0 : Int32) (S : Ms) : Option (Int32 × Ms) := some (s0, S)
set_option maxRecDepth 100000 in
set_option maxHeartbeats 4000000 in
theorem wbM_unit_131 {p : Program} {l : Launch} {e : Env} {R : Room} {s : State} {m : MethodId} {args : Array Value} {below : List Frame} {meth : Method} {c : Code} {d : Dd} {g : Gm} {o : Int32 × Ms} {N : Nat} (C : CM p s m args meth c d g cX9_unit 4 (some .int)) (hRm : 1 ≤ R.frames ∧ 21 ≤ R.locals) (s0 : Int32) (S : Ms) (H : Heap) (locs : List Loc) (ls : Array Slot) (hf : bM_unit_131 N s0 S = some o) (hR : RM d g S H) (hS : va_S (AM g) s.heap H locs) (hl : lv_has ls 4 [(0, .ref g.1)]) : W p l e R s m args below meth c H locs 0 0 (MQ below (QI d g o) args s 0 0 (AM g)) (F0 m 131 ls [.int s0]) := by
  obtain ⟨hx, hb, hml, hown, hts, hK, hg, hr, hlk⟩ := id C
  unfold bM_unit_131 at hf
  exact mr_iret C hR hS hf dX9_unit_131
def bM_unit_24 (N : Nat) (x1 : Int32) (x2 : Int32) (s1 : Int32) (S : Ms) : Option (Int32 × Ms) := if (mF (pF S 0 s1) 0) ≤ 0 then (if x2 = 0 then (ck x1 24 (some (mA (pF S 0 s1) 54 (x1 : Int32).toNatClampNeg, pF S 0 s1))) else if x2 = 1 then (ck x1 24 (some (mA (pF S 0 s1) 55 (x1 : Int32).toNatClampNeg, pF S 0 s1))) else if x2 = 2 then (ck ((24 * (mF (pF S 0 s1) 11)) + x1) 48 (if (mA (pF S 0 s1) 20 ((24 * (mF (pF S 0 s1) 11)) + x1 : Int32).toNatClampNeg) = 0 then ((bM_unit_116 N) 0 (pF S 0 s1)) else ((bM_unit_116 N) 1 (pF S 0 s1)))) else if x2 = 3 then (ck ((24 * (mF (pF S 0 s1) 11)) + x1) 48 (if (mA (pF S 0 s1) 21 ((24 * (mF (pF S 0 s1) 11)) + x1 : Int32).toNatClampNeg) = 0 then ((bM_unit_131 N) 0 (pF S 0 s1)) else ((bM_unit_131 N) 1 (pF S 0 s1)))) else if x2 = 4 then (ck ((24 * (mF (pF S 0 s1) 11)) + x1) 48 (some (mA (pF S 0 s1) 22 ((24 * (mF (pF S 0 s1) 11)) + x1 : Int32).toNatClampNeg, pF S 0 s1))) else if x2 = 5 then (ck ((24 * (mF (pF S 0 s1) 11)) + x1) 48 (some (mA (pF S 0 s1) 23 ((24 * (mF (pF S 0 s1) 11)) + x1 : Int32).toNatClampNeg, pF S 0 s1))) else if x2 = 6 then (ck ((24 * (mF (pF S 0 s1) 11)) + x1) 48 (some (mA (pF S 0 s1) 31 ((24 * (mF (pF S 0 s1) 11)) + x1 : Int32).toNatClampNeg, pF S 0 s1))) else (ck ((24 * (mF (pF S 0 s1) 11)) + x1) 48 (some (mA (pF S 0 s1) 30 ((24 * (mF (pF S 0 s1) 11)) + x1 : Int32).toNatClampNeg, pF S 0 s1)))) else (some (0, pF S 0 s1))
set_option maxRecDepth 100000 in
set_option maxHeartbeats 4000000 in
theorem wbM_unit_24 {p : Program} {l : Launch} {e : Env} {R : Room} {s : State} {m : MethodId} {args : Array Value} {below : List Frame} {meth : Method} {c : Code} {d : Dd} {g : Gm} {o : Int32 × Ms} {N : Nat} (C : CM p s m args meth c d g cX9_unit 4 (some .int)) (hRm : 1 ≤ R.frames ∧ 21 ≤ R.locals) (x1 : Int32) (x2 : Int32) (s1 : Int32) (S : Ms) (H : Heap) (locs : List Loc) (ls : Array Slot) (hf : bM_unit_24 N x1 x2 s1 S = some o) (hR : RM d g S H) (hS : va_S (AM g) s.heap H locs) (hl : lv_has ls 4 [(0, .ref g.1), (1, .int x1), (2, .int x2)]) : W p l e R s m args below meth c H locs 0 0 (MQ below (QI d g o) args s 0 0 (AM g)) (F0 m 24 ls [.int s1, .ref g.1]) := by
  obtain ⟨hx, hb, hml, hown, hts, hK, hg, hr, hlk⟩ := id C
  unfold bM_unit_24 at hf
  refine mr_putI C hR hS fl_1 ⟨rfl, rfl, rfl⟩ dX9_unit_24 (fun H locs hR hS => ?_)
  refine lv_aload_n hx hb dX9_unit_27 rfl (lv_at hl 0 rfl) ?_
  refine mr_getI C hR fl_1 rfl dX9_unit_28 ?_
  refine lv_if_le (tgt := 36) hx hb dX9_unit_31 (by decide) (fun hc => ?_) (fun hc => ?_)
  · rw [if_pos hc] at hf
    refine lv_bipush (v := 24) hx hb dX9_unit_36 (by decide) ?_
    refine lv_aload_n hx hb dX9_unit_38 rfl (lv_at hl 0 rfl) ?_
    refine mr_getI C hR fl_307 rfl dX9_unit_39 ?_
    refine lv_imul hx hb dX9_unit_42 ?_
    refine lv_iload_n hx hb dX9_unit_43 rfl (lv_at hl 1 rfl) ?_
    refine lv_iadd hx hb dX9_unit_44 ?_
    refine lv_istore_n (lv' := [(3, .int ((24 * (mF (pF S 0 s1) 11)) + x1)), (0, .ref g.1), (1, .int x1), (2, .int x2)]) hx hb dX9_unit_45 rfl hl (by decide) rfl (fun ls hl => ?_)
    refine lv_iload_n hx hb dX9_unit_46 rfl (lv_at hl 3 rfl) ?_
    by_cases hc0 : x2 = 0
    · rw [if_pos hc0] at hf
      refine lv_tableIn (off := 41) (tgt := 88) hx hb dX9_unit_47 (by rw [hc0]; decide) (by rw [hc0]; decide) (by rw [hc0]; decide) (by decide) ?_
      refine lv_aload_n hx hb dX9_unit_88 rfl (lv_at hl 1 rfl) ?_
      refine mr_getR C hR fl_146 (by decide) dX9_unit_89 ?_
      refine lv_iload_n hx hb dX9_unit_92 rfl (lv_at hl 2 rfl) ?_
      obtain ⟨hi, hf⟩ := ck_some hf
      refine mr_iald C hR (k := 54) rfl hi dX9_unit_93 ?_
      exact mr_iret C hR hS hf dX9_unit_94
    · rw [if_neg hc0] at hf
      by_cases hc1 : x2 = 1
      · rw [if_pos hc1] at hf
        refine lv_tableIn (off := 48) (tgt := 95) hx hb dX9_unit_47 (by rw [hc1]; decide) (by rw [hc1]; decide) (by rw [hc1]; decide) (by decide) ?_
        refine lv_aload_n hx hb dX9_unit_95 rfl (lv_at hl 1 rfl) ?_
        refine mr_getR C hR fl_149 (by decide) dX9_unit_96 ?_
        refine lv_iload_n hx hb dX9_unit_99 rfl (lv_at hl 2 rfl) ?_
        obtain ⟨hi, hf⟩ := ck_some hf
        refine mr_iald C hR (k := 55) rfl hi dX9_unit_100 ?_
        exact mr_iret C hR hS hf dX9_unit_101
      · rw [if_neg hc1] at hf
        by_cases hc2 : x2 = 2
        · rw [if_pos hc2] at hf
          refine lv_tableIn (off := 55) (tgt := 102) hx hb dX9_unit_47 (by rw [hc2]; decide) (by rw [hc2]; decide) (by rw [hc2]; decide) (by decide) ?_
          refine lv_aload_n hx hb dX9_unit_102 rfl (lv_at hl 1 rfl) ?_
          refine mr_getR C hR fl_64 (by decide) dX9_unit_103 ?_
          refine lv_iload_n hx hb dX9_unit_106 rfl (lv_at hl 0 rfl) ?_
          obtain ⟨hi, hf⟩ := ck_some hf
          refine mr_zald C hR (k := 20) rfl hi dX9_unit_107 ?_
          refine lv_if_eq (tgt := 115) hx hb dX9_unit_108 (by decide) (fun hc => ?_) (fun hc => ?_)
          · rw [if_pos hc] at hf
            refine lv_iconst (v := 0) hx hb dX9_unit_115 (by decide) ?_
            exact (wbM_unit_116 C hRm) _ _ _ _ _ hf hR hS (lv_sub hl [1] rfl)
          · rw [if_neg hc] at hf
            refine lv_iconst (v := 1) hx hb dX9_unit_111 (by decide) ?_
            refine lv_goto (tgt := 116) hx hb dX9_unit_112 (by decide) ?_
            exact (wbM_unit_116 C hRm) _ _ _ _ _ hf hR hS (lv_sub hl [1] rfl)
        · rw [if_neg hc2] at hf
          by_cases hc3 : x2 = 3
          · rw [if_pos hc3] at hf
            refine lv_tableIn (off := 70) (tgt := 117) hx hb dX9_unit_47 (by rw [hc3]; decide) (by rw [hc3]; decide) (by rw [hc3]; decide) (by decide) ?_
            refine lv_aload_n hx hb dX9_unit_117 rfl (lv_at hl 1 rfl) ?_
            refine mr_getR C hR fl_68 (by decide) dX9_unit_118 ?_
            refine lv_iload_n hx hb dX9_unit_121 rfl (lv_at hl 0 rfl) ?_
            obtain ⟨hi, hf⟩ := ck_some hf
            refine mr_zald C hR (k := 21) rfl hi dX9_unit_122 ?_
            refine lv_if_eq (tgt := 130) hx hb dX9_unit_123 (by decide) (fun hc => ?_) (fun hc => ?_)
            · rw [if_pos hc] at hf
              refine lv_iconst (v := 0) hx hb dX9_unit_130 (by decide) ?_
              exact (wbM_unit_131 C hRm) _ _ _ _ _ hf hR hS (lv_sub hl [1] rfl)
            · rw [if_neg hc] at hf
              refine lv_iconst (v := 1) hx hb dX9_unit_126 (by decide) ?_
              refine lv_goto (tgt := 131) hx hb dX9_unit_127 (by decide) ?_
              exact (wbM_unit_131 C hRm) _ _ _ _ _ hf hR hS (lv_sub hl [1] rfl)
          · rw [if_neg hc3] at hf
            by_cases hc4 : x2 = 4
            · rw [if_pos hc4] at hf
              refine lv_tableIn (off := 85) (tgt := 132) hx hb dX9_unit_47 (by rw [hc4]; decide) (by rw [hc4]; decide) (by rw [hc4]; decide) (by decide) ?_
              refine lv_aload_n hx hb dX9_unit_132 rfl (lv_at hl 1 rfl) ?_
              refine mr_getR C hR fl_71 (by decide) dX9_unit_133 ?_
              refine lv_iload_n hx hb dX9_unit_136 rfl (lv_at hl 0 rfl) ?_
              obtain ⟨hi, hf⟩ := ck_some hf
              refine mr_iald C hR (k := 22) rfl hi dX9_unit_137 ?_
              exact mr_iret C hR hS hf dX9_unit_138
            · rw [if_neg hc4] at hf
              by_cases hc5 : x2 = 5
              · rw [if_pos hc5] at hf
                refine lv_tableIn (off := 92) (tgt := 139) hx hb dX9_unit_47 (by rw [hc5]; decide) (by rw [hc5]; decide) (by rw [hc5]; decide) (by decide) ?_
                refine lv_aload_n hx hb dX9_unit_139 rfl (lv_at hl 1 rfl) ?_
                refine mr_getR C hR fl_74 (by decide) dX9_unit_140 ?_
                refine lv_iload_n hx hb dX9_unit_143 rfl (lv_at hl 0 rfl) ?_
                obtain ⟨hi, hf⟩ := ck_some hf
                refine mr_iald C hR (k := 23) rfl hi dX9_unit_144 ?_
                exact mr_iret C hR hS hf dX9_unit_145
              · rw [if_neg hc5] at hf
                by_cases hc6 : x2 = 6
                · rw [if_pos hc6] at hf
                  refine lv_tableIn (off := 99) (tgt := 146) hx hb dX9_unit_47 (by rw [hc6]; decide) (by rw [hc6]; decide) (by rw [hc6]; decide) (by decide) ?_
                  refine lv_aload_n hx hb dX9_unit_146 rfl (lv_at hl 1 rfl) ?_
                  refine mr_getR C hR fl_98 (by decide) dX9_unit_147 ?_
                  refine lv_iload_n hx hb dX9_unit_150 rfl (lv_at hl 0 rfl) ?_
                  obtain ⟨hi, hf⟩ := ck_some hf
                  refine mr_iald C hR (k := 31) rfl hi dX9_unit_151 ?_
                  exact mr_iret C hR hS hf dX9_unit_152
                · rw [if_neg hc6] at hf
                  have hn0 := tsw_ne (k := 0) rfl hc0
                  have hn1 := tsw_ne (k := 1) rfl hc1
                  have hn2 := tsw_ne (k := 2) rfl hc2
                  have hn3 := tsw_ne (k := 3) rfl hc3
                  have hn4 := tsw_ne (k := 4) rfl hc4
                  have hn5 := tsw_ne (k := 5) rfl hc5
                  have hn6 := tsw_ne (k := 6) rfl hc6
                  refine lv_tableOut (tgt := 153) hx hb dX9_unit_47 (by omega) (by decide) ?_
                  refine lv_aload_n hx hb dX9_unit_153 rfl (lv_at hl 1 rfl) ?_
                  refine mr_getR C hR fl_95 (by decide) dX9_unit_154 ?_
                  refine lv_iload_n hx hb dX9_unit_157 rfl (lv_at hl 0 rfl) ?_
                  obtain ⟨hi, hf⟩ := ck_some hf
                  refine mr_iald C hR (k := 30) rfl hi dX9_unit_158 ?_
                  exact mr_iret C hR hS hf dX9_unit_159
  · rw [if_neg hc] at hf
    refine lv_iconst (v := 0) hx hb dX9_unit_34 (by decide) ?_
    exact mr_iret C hR hS hf dX9_unit_35
def bM_unit_23 (N : Nat) (x1 : Int32) (x2 : Int32) (S : Ms) : Option (Int32 × Ms) := (bM_unit_24 N) x1 x2 1 S
set_option maxRecDepth 100000 in
set_option maxHeartbeats 4000000 in
theorem wbM_unit_23 {p : Program} {l : Launch} {e : Env} {R : Room} {s : State} {m : MethodId} {args : Array Value} {below : List Frame} {meth : Method} {c : Code} {d : Dd} {g : Gm} {o : Int32 × Ms} {N : Nat} (C : CM p s m args meth c d g cX9_unit 4 (some .int)) (hRm : 1 ≤ R.frames ∧ 21 ≤ R.locals) (x1 : Int32) (x2 : Int32) (S : Ms) (H : Heap) (locs : List Loc) (ls : Array Slot) (hf : bM_unit_23 N x1 x2 S = some o) (hR : RM d g S H) (hS : va_S (AM g) s.heap H locs) (hl : lv_has ls 4 [(0, .ref g.1), (1, .int x1), (2, .int x2)]) : W p l e R s m args below meth c H locs 0 0 (MQ below (QI d g o) args s 0 0 (AM g)) (F0 m 23 ls [.ref g.1]) := by
  obtain ⟨hx, hb, hml, hown, hts, hK, hg, hr, hlk⟩ := id C
  unfold bM_unit_23 at hf
  refine lv_iconst (v := 1) hx hb dX9_unit_23 (by decide) ?_
  exact (wbM_unit_24 C hRm) _ _ _ _ _ _ _ hf hR hS (lv_sub hl [0, 1, 2] rfl)
def fM_unit (N : Nat) (x1 : Int32) (x2 : Int32) (S : Ms) : Option (Int32 × Ms) := (fM_isUnit N x1 S).bind fun o3 => if o3.1 = 0 then ((bM_unit_23 N) x1 x2 o3.2) else (if x2 < 0 then ((bM_unit_23 N) x1 x2 o3.2) else (if 7 < x2 then ((bM_unit_23 N) x1 x2 o3.2) else ((bM_unit_24 N) x1 x2 0 o3.2)))
set_option maxRecDepth 100000 in
set_option maxHeartbeats 4000000 in
theorem wfM_unit {p : Program} {l : Launch} {e : Env} {R : Room} {s : State} {m : MethodId} {args : Array Value} {below : List Frame} {meth : Method} {c : Code} {d : Dd} {g : Gm} {o : Int32 × Ms} {N : Nat} (C : CM p s m args meth c d g cX9_unit 4 (some .int)) (hRm : 1 ≤ R.frames ∧ 21 ≤ R.locals) (x1 : Int32) (x2 : Int32) (S : Ms) (H : Heap) (locs : List Loc) (ls : Array Slot) (hf : fM_unit N x1 x2 S = some o) (hR : RM d g S H) (hS : va_S (AM g) s.heap H locs) (hl : lv_has ls 4 [(0, .ref g.1), (1, .int x1), (2, .int x2)]) : W p l e R s m args below meth c H locs 0 0 (MQ below (QI d g o) args s 0 0 (AM g)) (F0 m 0 ls []) := by
  obtain ⟨hx, hb, hml, hown, hts, hK, hg, hr, hlk⟩ := id C
  unfold fM_unit at hf
  refine lv_aload_n hx hb dX9_unit_0 rfl (lv_at hl 0 rfl) ?_
  refine lv_aload_n hx hb dX9_unit_1 rfl (lv_at hl 0 rfl) ?_
  refine lv_iload_n hx hb dX9_unit_2 rfl (lv_at hl 1 rfl) ?_
  obtain ⟨o3, ho3, hf⟩ := bnd_some hf
  refine mr_callIv C hR hS (As := [.int x1]) (rest := [.ref g.1]) (MM_isUnit l d g N x1 S o3 ho3) wv_573 ⟨by omega, by omega⟩ rfl rfl (Nat.le_of_ble_eq_true rfl) hl.1 dX9_unit_3 ⟨Nat.zero_le _, Nat.zero_le _⟩ (fun H locs hR hS => ?_)
  refine lv_if_eq (tgt := 23) hx hb dX9_unit_6 (by decide) (fun hc => ?_) (fun hc => ?_)
  · rw [if_pos hc] at hf
    exact (wbM_unit_23 C hRm) _ _ _ _ _ _ hf hR hS (lv_sub hl [0, 1, 2] rfl)
  · rw [if_neg hc] at hf
    refine lv_iload_n hx hb dX9_unit_9 rfl (lv_at hl 2 rfl) ?_
    refine lv_if_lt (tgt := 23) hx hb dX9_unit_10 (by decide) (fun hc => ?_) (fun hc => ?_)
    · rw [if_pos hc] at hf
      exact (wbM_unit_23 C hRm) _ _ _ _ _ _ hf hR hS (lv_sub hl [0, 1, 2] rfl)
    · rw [if_neg hc] at hf
      refine lv_iload_n hx hb dX9_unit_13 rfl (lv_at hl 2 rfl) ?_
      refine lv_bipush (v := 7) hx hb dX9_unit_14 (by decide) ?_
      refine lv_icmp_gt (tgt := 23) hx hb dX9_unit_16 (by decide) (fun hc => ?_) (fun hc => ?_)
      · rw [if_pos hc] at hf
        exact (wbM_unit_23 C hRm) _ _ _ _ _ _ hf hR hS (lv_sub hl [0, 1, 2] rfl)
      · rw [if_neg hc] at hf
        refine lv_iconst (v := 0) hx hb dX9_unit_19 (by decide) ?_
        refine lv_goto (tgt := 24) hx hb dX9_unit_20 (by decide) ?_
        exact (wbM_unit_24 C hRm) _ _ _ _ _ _ _ hf hR hS (lv_sub hl [0, 1, 2] rfl)
theorem MM_unit (l : Launch) (d : Dd) (g : Gm) (N : Nat) (x1 : Int32) (x2 : Int32) (S : Ms) (o : Int32 × Ms) (hf : fM_unit N x1 x2 S = some o) : MtI l d g yX9_unit cX9_unit 4 (some .int) 1 21 [.ref g.1, .int x1, .int x2] S o :=
  mr_metI (by decide) rfl (Nat.le_of_ble_eq_true rfl) (fun p e s m args below meth c ls C hR hl => wfM_unit C ⟨Nat.le_refl _, Nat.le_refl _⟩ x1 x2 S s.heap [] ls hf hR va_S.rf hl)
def bM_read_92 (N : Nat) (r61 : Int32 → Int32 → Int32 → Int32 → Ms → Option (Int32 × Ms)) (k98 : Int32 → Int32 → Ms → Option (Int32 × Ms)) (x1 : Int32) (x2 : Int32) (x3 : Int32) (x4 : Int32) (S : Ms) : Option (Int32 × Ms) := r61 x1 x2 x3 (x4 + 1) S
set_option maxRecDepth 100000 in
set_option maxHeartbeats 4000000 in
theorem wbM_read_92 {p : Program} {l : Launch} {e : Env} {R : Room} {s : State} {m : MethodId} {args : Array Value} {below : List Frame} {meth : Method} {c : Code} {d : Dd} {g : Gm} {o : Int32 × Ms} {N : Nat} {r61 : Int32 → Int32 → Int32 → Int32 → Ms → Option (Int32 × Ms)} {k98 : Int32 → Int32 → Ms → Option (Int32 × Ms)} (C : CM p s m args meth c d g cX9_read 5 (some .int)) (hRm : 1 ≤ R.frames ∧ 21 ≤ R.locals) (hr61 : ∀ (x1 : Int32) (x2 : Int32) (x3 : Int32) (x4 : Int32) (S : Ms) (H : Heap) (locs : List Loc) (ls : Array Slot), r61 x1 x2 x3 x4 S = some o → RM d g S H → va_S (AM g) s.heap H locs → lv_has ls 5 [(0, .ref g.1), (1, .int x1), (2, .int x2), (3, .int x3), (4, .int x4)] → W p l e R s m args below meth c H locs 0 0 (MQ below (QI d g o) args s 0 0 (AM g)) (F0 m 61 ls [])) (hk98 : ∀ (x1 : Int32) (x4 : Int32) (S : Ms) (H : Heap) (locs : List Loc) (ls : Array Slot), k98 x1 x4 S = some o → RM d g S H → va_S (AM g) s.heap H locs → lv_has ls 5 [(0, .ref g.1), (1, .int x1), (4, .int x4)] → W p l e R s m args below meth c H locs 0 0 (MQ below (QI d g o) args s 0 0 (AM g)) (F0 m 98 ls [])) (x1 : Int32) (x2 : Int32) (x3 : Int32) (x4 : Int32) (S : Ms) (H : Heap) (locs : List Loc) (ls : Array Slot) (hf : bM_read_92 N r61 k98 x1 x2 x3 x4 S = some o) (hR : RM d g S H) (hS : va_S (AM g) s.heap H locs) (hl : lv_has ls 5 [(0, .ref g.1), (1, .int x1), (2, .int x2), (3, .int x3), (4, .int x4)]) : W p l e R s m args below meth c H locs 0 0 (MQ below (QI d g o) args s 0 0 (AM g)) (F0 m 92 ls []) := by
  obtain ⟨hx, hb, hml, hown, hts, hK, hg, hr, hlk⟩ := id C
  unfold bM_read_92 at hf
  refine lv_iinc (v := x4 + 1) (lv' := [(4, .int (x4 + 1)), (0, .ref g.1), (1, .int x1), (2, .int x2), (3, .int x3)]) hx hb dX9_read_92 hl (k := 4) rfl rfl (by decide) rfl (fun ls hl => ?_)
  refine lv_goto (tgt := 61) hx hb dX9_read_95 (by decide) ?_
  exact hr61 _ _ _ _ _ _ _ _ hf hR hS (lv_sub hl [1, 2, 3, 4, 0] rfl)
def lM_read_61 (N : Nat) (k98 : Int32 → Int32 → Ms → Option (Int32 × Ms)) : Nat → Int32 → Int32 → Int32 → Int32 → Ms → Option (Int32 × Ms)
  | 0, _, _, _, _, _ => none
  | n + 1, x1, x2, x3, x4, S => ck ((8 * x3) + x4) 384 (if (mA S 27 ((8 * x3) + x4 : Int32).toNatClampNeg) = 0 then (ck ((8 * x3) + x4) 384 (if (mA S 29 ((8 * x3) + x4 : Int32).toNatClampNeg) = x2 then (k98 x1 x4 S) else ((bM_read_92 N (lM_read_61 N k98 n) k98) x1 x2 x3 x4 S))) else ((bM_read_92 N (lM_read_61 N k98 n) k98) x1 x2 x3 x4 S))
set_option maxRecDepth 100000 in
set_option maxHeartbeats 4000000 in
theorem wlM_read_61 {p : Program} {l : Launch} {e : Env} {R : Room} {s : State} {m : MethodId} {args : Array Value} {below : List Frame} {meth : Method} {c : Code} {d : Dd} {g : Gm} {o : Int32 × Ms} {N : Nat} {k98 : Int32 → Int32 → Ms → Option (Int32 × Ms)} (C : CM p s m args meth c d g cX9_read 5 (some .int)) (hRm : 1 ≤ R.frames ∧ 21 ≤ R.locals) (hk98 : ∀ (x1 : Int32) (x4 : Int32) (S : Ms) (H : Heap) (locs : List Loc) (ls : Array Slot), k98 x1 x4 S = some o → RM d g S H → va_S (AM g) s.heap H locs → lv_has ls 5 [(0, .ref g.1), (1, .int x1), (4, .int x4)] → W p l e R s m args below meth c H locs 0 0 (MQ below (QI d g o) args s 0 0 (AM g)) (F0 m 98 ls [])) : ∀ (n : Nat) (x1 : Int32) (x2 : Int32) (x3 : Int32) (x4 : Int32) (S : Ms) (H : Heap) (locs : List Loc) (ls : Array Slot), lM_read_61 N k98 n x1 x2 x3 x4 S = some o → RM d g S H → va_S (AM g) s.heap H locs → lv_has ls 5 [(0, .ref g.1), (1, .int x1), (2, .int x2), (3, .int x3), (4, .int x4)] → W p l e R s m args below meth c H locs 0 0 (MQ below (QI d g o) args s 0 0 (AM g)) (F0 m 61 ls []) := by
  obtain ⟨hx, hb, hml, hown, hts, hK, hg, hr, hlk⟩ := id C
  intro n
  induction n with
  | zero => intro x1 x2 x3 x4 S H locs ls hf; cases hf
  | succ n ih =>
    intro x1 x2 x3 x4 S H locs ls hf hR hS hl
    rw [lM_read_61] at hf
    refine lv_aload_n hx hb dX9_read_61 rfl (lv_at hl 0 rfl) ?_
    refine mr_getR C hR fl_86 (by decide) dX9_read_62 ?_
    refine lv_bipush (v := 8) hx hb dX9_read_65 (by decide) ?_
    refine lv_iload_n hx hb dX9_read_67 rfl (lv_at hl 3 rfl) ?_
    refine lv_imul hx hb dX9_read_68 ?_
    refine lv_iload hx hb dX9_read_69 (lv_at hl 4 rfl) ?_
    refine lv_iadd hx hb dX9_read_71 ?_
    obtain ⟨hi, hf⟩ := ck_some hf
    refine mr_zald C hR (k := 27) rfl hi dX9_read_72 ?_
    refine lv_if_ne (tgt := 92) hx hb dX9_read_73 (by decide) (fun hc => ?_) (fun hc => ?_)
    · rw [if_neg hc] at hf
      exact (wbM_read_92 C hRm ih hk98) _ _ _ _ _ _ _ _ hf hR hS (lv_sub hl [0, 1, 2, 3, 4] rfl)
    · rw [if_pos hc] at hf
      refine lv_aload_n hx hb dX9_read_76 rfl (lv_at hl 0 rfl) ?_
      refine mr_getR C hR fl_92 (by decide) dX9_read_77 ?_
      refine lv_bipush (v := 8) hx hb dX9_read_80 (by decide) ?_
      refine lv_iload_n hx hb dX9_read_82 rfl (lv_at hl 3 rfl) ?_
      refine lv_imul hx hb dX9_read_83 ?_
      refine lv_iload hx hb dX9_read_84 (lv_at hl 4 rfl) ?_
      refine lv_iadd hx hb dX9_read_86 ?_
      obtain ⟨hi, hf⟩ := ck_some hf
      refine mr_iald C hR (k := 29) rfl hi dX9_read_87 ?_
      refine lv_iload_n hx hb dX9_read_88 rfl (lv_at hl 2 rfl) ?_
      refine lv_icmp_eq (tgt := 98) hx hb dX9_read_89 (by decide) (fun hc => ?_) (fun hc => ?_)
      · rw [if_pos hc] at hf
        exact hk98 _ _ _ _ _ _ hf hR hS (lv_sub hl [0, 1, 4] rfl)
      · rw [if_neg hc] at hf
        exact (wbM_read_92 C hRm ih hk98) _ _ _ _ _ _ _ _ hf hR hS (lv_sub hl [0, 1, 2, 3, 4] rfl)
def bM_read_123 (N : Nat) (s0 : Int32) (S : Ms) : Option (Int32 × Ms) := some (s0, S)
set_option maxRecDepth 100000 in
set_option maxHeartbeats 4000000 in
theorem wbM_read_123 {p : Program} {l : Launch} {e : Env} {R : Room} {s : State} {m : MethodId} {args : Array Value} {below : List Frame} {meth : Method} {c : Code} {d : Dd} {g : Gm} {o : Int32 × Ms} {N : Nat} (C : CM p s m args meth c d g cX9_read 5 (some .int)) (hRm : 1 ≤ R.frames ∧ 21 ≤ R.locals) (s0 : Int32) (S : Ms) (H : Heap) (locs : List Loc) (ls : Array Slot) (hf : bM_read_123 N s0 S = some o) (hR : RM d g S H) (hS : va_S (AM g) s.heap H locs) (hl : lv_has ls 5 [(0, .ref g.1)]) : W p l e R s m args below meth c H locs 0 0 (MQ below (QI d g o) args s 0 0 (AM g)) (F0 m 123 ls [.int s0]) := by
  obtain ⟨hx, hb, hml, hown, hts, hK, hg, hr, hlk⟩ := id C
  unfold bM_read_123 at hf
  exact mr_iret C hR hS hf dX9_read_123
def bM_read_98 (N : Nat) (x1 : Int32) (x4 : Int32) (S : Ms) : Option (Int32 × Ms) := ck x1 24 (if (mA S 54 (x1 : Int32).toNatClampNeg) = 0 then ((bM_read_123 N) 0 S) else (ck ((8 * x1) + x4) 192 ((bM_read_123 N) (mA S 56 ((8 * x1) + x4 : Int32).toNatClampNeg) S)))
set_option maxRecDepth 100000 in
set_option maxHeartbeats 4000000 in
theorem wbM_read_98 {p : Program} {l : Launch} {e : Env} {R : Room} {s : State} {m : MethodId} {args : Array Value} {below : List Frame} {meth : Method} {c : Code} {d : Dd} {g : Gm} {o : Int32 × Ms} {N : Nat} (C : CM p s m args meth c d g cX9_read 5 (some .int)) (hRm : 1 ≤ R.frames ∧ 21 ≤ R.locals) (x1 : Int32) (x4 : Int32) (S : Ms) (H : Heap) (locs : List Loc) (ls : Array Slot) (hf : bM_read_98 N x1 x4 S = some o) (hR : RM d g S H) (hS : va_S (AM g) s.heap H locs) (hl : lv_has ls 5 [(0, .ref g.1), (1, .int x1), (4, .int x4)]) : W p l e R s m args below meth c H locs 0 0 (MQ below (QI d g o) args s 0 0 (AM g)) (F0 m 98 ls []) := by
  obtain ⟨hx, hb, hml, hown, hts, hK, hg, hr, hlk⟩ := id C
  unfold bM_read_98 at hf
  refine lv_aload_n hx hb dX9_read_98 rfl (lv_at hl 0 rfl) ?_
  refine mr_getR C hR fl_146 (by decide) dX9_read_99 ?_
  refine lv_iload_n hx hb dX9_read_102 rfl (lv_at hl 1 rfl) ?_
  obtain ⟨hi, hf⟩ := ck_some hf
  refine mr_iald C hR (k := 54) rfl hi dX9_read_103 ?_
  refine lv_if_ne (tgt := 111) hx hb dX9_read_104 (by decide) (fun hc => ?_) (fun hc => ?_)
  · rw [if_neg hc] at hf
    refine lv_aload_n hx hb dX9_read_111 rfl (lv_at hl 0 rfl) ?_
    refine mr_getR C hR fl_152 (by decide) dX9_read_112 ?_
    refine lv_bipush (v := 8) hx hb dX9_read_115 (by decide) ?_
    refine lv_iload_n hx hb dX9_read_117 rfl (lv_at hl 1 rfl) ?_
    refine lv_imul hx hb dX9_read_118 ?_
    refine lv_iload hx hb dX9_read_119 (lv_at hl 2 rfl) ?_
    refine lv_iadd hx hb dX9_read_121 ?_
    obtain ⟨hi, hf⟩ := ck_some hf
    refine mr_iald C hR (k := 56) rfl hi dX9_read_122 ?_
    exact (wbM_read_123 C hRm) _ _ _ _ _ hf hR hS (lv_sub hl [0] rfl)
  · rw [if_pos hc] at hf
    refine lv_iconst (v := 0) hx hb dX9_read_107 (by decide) ?_
    refine lv_goto (tgt := 123) hx hb dX9_read_108 (by decide) ?_
    exact (wbM_read_123 C hRm) _ _ _ _ _ hf hR hS (lv_sub hl [0] rfl)
def bM_read_36 (N : Nat) (x1 : Int32) (x2 : Int32) (s1 : Int32) (S : Ms) : Option (Int32 × Ms) := if (mF (pF S 0 s1) 0) ≤ 0 then ((lM_read_61 N (bM_read_98 N) N) x1 x2 ((24 * (mF (pF S 0 s1) 11)) + x1) 0 (pF S 0 s1)) else (some (0, pF S 0 s1))
set_option maxRecDepth 100000 in
set_option maxHeartbeats 4000000 in
theorem wbM_read_36 {p : Program} {l : Launch} {e : Env} {R : Room} {s : State} {m : MethodId} {args : Array Value} {below : List Frame} {meth : Method} {c : Code} {d : Dd} {g : Gm} {o : Int32 × Ms} {N : Nat} (C : CM p s m args meth c d g cX9_read 5 (some .int)) (hRm : 1 ≤ R.frames ∧ 21 ≤ R.locals) (x1 : Int32) (x2 : Int32) (s1 : Int32) (S : Ms) (H : Heap) (locs : List Loc) (ls : Array Slot) (hf : bM_read_36 N x1 x2 s1 S = some o) (hR : RM d g S H) (hS : va_S (AM g) s.heap H locs) (hl : lv_has ls 5 [(0, .ref g.1), (1, .int x1), (2, .int x2)]) : W p l e R s m args below meth c H locs 0 0 (MQ below (QI d g o) args s 0 0 (AM g)) (F0 m 36 ls [.int s1, .ref g.1]) := by
  obtain ⟨hx, hb, hml, hown, hts, hK, hg, hr, hlk⟩ := id C
  unfold bM_read_36 at hf
  refine mr_putI C hR hS fl_1 ⟨rfl, rfl, rfl⟩ dX9_read_36 (fun H locs hR hS => ?_)
  refine lv_aload_n hx hb dX9_read_39 rfl (lv_at hl 0 rfl) ?_
  refine mr_getI C hR fl_1 rfl dX9_read_40 ?_
  refine lv_if_le (tgt := 48) hx hb dX9_read_43 (by decide) (fun hc => ?_) (fun hc => ?_)
  · rw [if_pos hc] at hf
    refine lv_bipush (v := 24) hx hb dX9_read_48 (by decide) ?_
    refine lv_aload_n hx hb dX9_read_50 rfl (lv_at hl 0 rfl) ?_
    refine mr_getI C hR fl_307 rfl dX9_read_51 ?_
    refine lv_imul hx hb dX9_read_54 ?_
    refine lv_iload_n hx hb dX9_read_55 rfl (lv_at hl 1 rfl) ?_
    refine lv_iadd hx hb dX9_read_56 ?_
    refine lv_istore_n (lv' := [(3, .int ((24 * (mF (pF S 0 s1) 11)) + x1)), (0, .ref g.1), (1, .int x1), (2, .int x2)]) hx hb dX9_read_57 rfl hl (by decide) rfl (fun ls hl => ?_)
    refine lv_iconst (v := 0) hx hb dX9_read_58 (by decide) ?_
    refine lv_istore (lv' := [(4, .int 0), (3, .int ((24 * (mF (pF S 0 s1) 11)) + x1)), (0, .ref g.1), (1, .int x1), (2, .int x2)]) hx hb dX9_read_59 hl (by decide) rfl (fun ls hl => ?_)
    exact (wlM_read_61 C hRm (wbM_read_98 C hRm) N) _ _ _ _ _ _ _ _ hf hR hS (lv_sub hl [2, 3, 4, 1, 0] rfl)
  · rw [if_neg hc] at hf
    refine lv_iconst (v := 0) hx hb dX9_read_46 (by decide) ?_
    exact mr_iret C hR hS hf dX9_read_47
def bM_read_35 (N : Nat) (x1 : Int32) (x2 : Int32) (S : Ms) : Option (Int32 × Ms) := (bM_read_36 N) x1 x2 1 S
set_option maxRecDepth 100000 in
set_option maxHeartbeats 4000000 in
theorem wbM_read_35 {p : Program} {l : Launch} {e : Env} {R : Room} {s : State} {m : MethodId} {args : Array Value} {below : List Frame} {meth : Method} {c : Code} {d : Dd} {g : Gm} {o : Int32 × Ms} {N : Nat} (C : CM p s m args meth c d g cX9_read 5 (some .int)) (hRm : 1 ≤ R.frames ∧ 21 ≤ R.locals) (x1 : Int32) (x2 : Int32) (S : Ms) (H : Heap) (locs : List Loc) (ls : Array Slot) (hf : bM_read_35 N x1 x2 S = some o) (hR : RM d g S H) (hS : va_S (AM g) s.heap H locs) (hl : lv_has ls 5 [(0, .ref g.1), (1, .int x1), (2, .int x2)]) : W p l e R s m args below meth c H locs 0 0 (MQ below (QI d g o) args s 0 0 (AM g)) (F0 m 35 ls [.ref g.1]) := by
  obtain ⟨hx, hb, hml, hown, hts, hK, hg, hr, hlk⟩ := id C
  unfold bM_read_35 at hf
  refine lv_iconst (v := 1) hx hb dX9_read_35 (by decide) ?_
  exact (wbM_read_36 C hRm) _ _ _ _ _ _ _ hf hR hS (lv_sub hl [0, 1, 2] rfl)
def fM_read (N : Nat) (x1 : Int32) (x2 : Int32) (S : Ms) : Option (Int32 × Ms) := (fM_isUnit N x1 S).bind fun o3 => if o3.1 = 0 then ((bM_read_35 N) x1 x2 o3.2) else (if x2 < 0 then ((bM_read_35 N) x1 x2 o3.2) else (ck ((24 * (mF o3.2 11)) + x1) 48 (if (mA o3.2 31 ((24 * (mF o3.2 11)) + x1 : Int32).toNatClampNeg) ≤ x2 then ((bM_read_35 N) x1 x2 o3.2) else ((bM_read_36 N) x1 x2 0 o3.2))))
set_option maxRecDepth 100000 in
set_option maxHeartbeats 4000000 in
theorem wfM_read {p : Program} {l : Launch} {e : Env} {R : Room} {s : State} {m : MethodId} {args : Array Value} {below : List Frame} {meth : Method} {c : Code} {d : Dd} {g : Gm} {o : Int32 × Ms} {N : Nat} (C : CM p s m args meth c d g cX9_read 5 (some .int)) (hRm : 1 ≤ R.frames ∧ 21 ≤ R.locals) (x1 : Int32) (x2 : Int32) (S : Ms) (H : Heap) (locs : List Loc) (ls : Array Slot) (hf : fM_read N x1 x2 S = some o) (hR : RM d g S H) (hS : va_S (AM g) s.heap H locs) (hl : lv_has ls 5 [(0, .ref g.1), (1, .int x1), (2, .int x2)]) : W p l e R s m args below meth c H locs 0 0 (MQ below (QI d g o) args s 0 0 (AM g)) (F0 m 0 ls []) := by
  obtain ⟨hx, hb, hml, hown, hts, hK, hg, hr, hlk⟩ := id C
  unfold fM_read at hf
  refine lv_aload_n hx hb dX9_read_0 rfl (lv_at hl 0 rfl) ?_
  refine lv_aload_n hx hb dX9_read_1 rfl (lv_at hl 0 rfl) ?_
  refine lv_iload_n hx hb dX9_read_2 rfl (lv_at hl 1 rfl) ?_
  obtain ⟨o3, ho3, hf⟩ := bnd_some hf
  refine mr_callIv C hR hS (As := [.int x1]) (rest := [.ref g.1]) (MM_isUnit l d g N x1 S o3 ho3) wv_573 ⟨by omega, by omega⟩ rfl rfl (Nat.le_of_ble_eq_true rfl) hl.1 dX9_read_3 ⟨Nat.zero_le _, Nat.zero_le _⟩ (fun H locs hR hS => ?_)
  refine lv_if_eq (tgt := 35) hx hb dX9_read_6 (by decide) (fun hc => ?_) (fun hc => ?_)
  · rw [if_pos hc] at hf
    exact (wbM_read_35 C hRm) _ _ _ _ _ _ hf hR hS (lv_sub hl [0, 1, 2] rfl)
  · rw [if_neg hc] at hf
    refine lv_iload_n hx hb dX9_read_9 rfl (lv_at hl 2 rfl) ?_
    refine lv_if_lt (tgt := 35) hx hb dX9_read_10 (by decide) (fun hc => ?_) (fun hc => ?_)
    · rw [if_pos hc] at hf
      exact (wbM_read_35 C hRm) _ _ _ _ _ _ hf hR hS (lv_sub hl [0, 1, 2] rfl)
    · rw [if_neg hc] at hf
      refine lv_iload_n hx hb dX9_read_13 rfl (lv_at hl 2 rfl) ?_
      refine lv_aload_n hx hb dX9_read_14 rfl (lv_at hl 0 rfl) ?_
      refine mr_getR C hR fl_98 (by decide) dX9_read_15 ?_
      refine lv_bipush (v := 24) hx hb dX9_read_18 (by decide) ?_
      refine lv_aload_n hx hb dX9_read_20 rfl (lv_at hl 0 rfl) ?_
      refine mr_getI C hR fl_307 rfl dX9_read_21 ?_
      refine lv_imul hx hb dX9_read_24 ?_
      refine lv_iload_n hx hb dX9_read_25 rfl (lv_at hl 1 rfl) ?_
      refine lv_iadd hx hb dX9_read_26 ?_
      obtain ⟨hi, hf⟩ := ck_some hf
      refine mr_iald C hR (k := 31) rfl hi dX9_read_27 ?_
      refine lv_icmp_ge (tgt := 35) hx hb dX9_read_28 (by decide) (fun hc => ?_) (fun hc => ?_)
      · rw [if_pos hc] at hf
        exact (wbM_read_35 C hRm) _ _ _ _ _ _ hf hR hS (lv_sub hl [0, 1, 2] rfl)
      · rw [if_neg hc] at hf
        refine lv_iconst (v := 0) hx hb dX9_read_31 (by decide) ?_
        refine lv_goto (tgt := 36) hx hb dX9_read_32 (by decide) ?_
        exact (wbM_read_36 C hRm) _ _ _ _ _ _ _ hf hR hS (lv_sub hl [0, 1, 2] rfl)
theorem MM_read (l : Launch) (d : Dd) (g : Gm) (N : Nat) (x1 : Int32) (x2 : Int32) (S : Ms) (o : Int32 × Ms) (hf : fM_read N x1 x2 S = some o) : MtI l d g yX9_read cX9_read 5 (some .int) 1 21 [.ref g.1, .int x1, .int x2] S o :=
  mr_metI (by decide) rfl (Nat.le_of_ble_eq_true rfl) (fun p e s m args below meth c ls C hR hl => wfM_read C ⟨Nat.le_refl _, Nat.le_refl _⟩ x1 x2 S s.heap [] ls hf hR va_S.rf hl)
def bM_cause_55 (N : Nat) (s0 : Int32) (S : Ms) : Option (Int32 × Ms) := some (s0, S)
set_option maxRecDepth 100000 in
set_option maxHeartbeats 4000000 in
theorem wbM_cause_55 {p : Program} {l : Launch} {e : Env} {R : Room} {s : State} {m : MethodId} {args : Array Value} {below : List Frame} {meth : Method} {c : Code} {d : Dd} {g : Gm} {o : Int32 × Ms} {N : Nat} (C : CM p s m args meth c d g cX9_cause 3 (some .int)) (hRm : 1 ≤ R.frames ∧ 21 ≤ R.locals) (s0 : Int32) (S : Ms) (H : Heap) (locs : List Loc) (ls : Array Slot) (hf : bM_cause_55 N s0 S = some o) (hR : RM d g S H) (hS : va_S (AM g) s.heap H locs) (hl : lv_has ls 3 [(0, .ref g.1)]) : W p l e R s m args below meth c H locs 0 0 (MQ below (QI d g o) args s 0 0 (AM g)) (F0 m 55 ls [.int s0]) := by
  obtain ⟨hx, hb, hml, hown, hts, hK, hg, hr, hlk⟩ := id C
  unfold bM_cause_55 at hf
  exact mr_iret C hR hS hf dX9_cause_55
def bM_cause_23 (N : Nat)  (S : Ms) : Option (Int32 × Ms) := (bM_cause_55 N) 0 S
set_option maxRecDepth 100000 in
set_option maxHeartbeats 4000000 in
theorem wbM_cause_23 {p : Program} {l : Launch} {e : Env} {R : Room} {s : State} {m : MethodId} {args : Array Value} {below : List Frame} {meth : Method} {c : Code} {d : Dd} {g : Gm} {o : Int32 × Ms} {N : Nat} (C : CM p s m args meth c d g cX9_cause 3 (some .int)) (hRm : 1 ≤ R.frames ∧ 21 ≤ R.locals)  (S : Ms) (H : Heap) (locs : List Loc) (ls : Array Slot) (hf : bM_cause_23 N  S = some o) (hR : RM d g S H) (hS : va_S (AM g) s.heap H locs) (hl : lv_has ls 3 [(0, .ref g.1)]) : W p l e R s m args below meth c H locs 0 0 (MQ below (QI d g o) args s 0 0 (AM g)) (F0 m 23 ls []) := by
  obtain ⟨hx, hb, hml, hown, hts, hK, hg, hr, hlk⟩ := id C
  unfold bM_cause_23 at hf
  refine lv_iconst (v := 0) hx hb dX9_cause_23 (by decide) ?_
  refine lv_goto (tgt := 55) hx hb dX9_cause_24 (by decide) ?_
  exact (wbM_cause_55 C hRm) _ _ _ _ _ hf hR hS (lv_sub hl [0] rfl)
def fM_cause (N : Nat) (x1 : Int32) (x2 : Int32) (S : Ms) : Option (Int32 × Ms) := (fM_isUnit N x1 (pF S 0 0)).bind fun o7 => if o7.1 = 0 then ((bM_cause_23 N) o7.2) else (ck x1 24 (if (mA o7.2 54 (x1 : Int32).toNatClampNeg) = 3 then (if x2 = 0 then (ck x1 24 ((bM_cause_55 N) (mA o7.2 57 (x1 : Int32).toNatClampNeg) o7.2)) else (if x2 = 1 then (ck x1 24 ((bM_cause_55 N) (mA o7.2 58 (x1 : Int32).toNatClampNeg) o7.2)) else ((bM_cause_55 N) 0 o7.2))) else ((bM_cause_23 N) o7.2)))
set_option maxRecDepth 100000 in
set_option maxHeartbeats 4000000 in
theorem wfM_cause {p : Program} {l : Launch} {e : Env} {R : Room} {s : State} {m : MethodId} {args : Array Value} {below : List Frame} {meth : Method} {c : Code} {d : Dd} {g : Gm} {o : Int32 × Ms} {N : Nat} (C : CM p s m args meth c d g cX9_cause 3 (some .int)) (hRm : 1 ≤ R.frames ∧ 21 ≤ R.locals) (x1 : Int32) (x2 : Int32) (S : Ms) (H : Heap) (locs : List Loc) (ls : Array Slot) (hf : fM_cause N x1 x2 S = some o) (hR : RM d g S H) (hS : va_S (AM g) s.heap H locs) (hl : lv_has ls 3 [(0, .ref g.1), (1, .int x1), (2, .int x2)]) : W p l e R s m args below meth c H locs 0 0 (MQ below (QI d g o) args s 0 0 (AM g)) (F0 m 0 ls []) := by
  obtain ⟨hx, hb, hml, hown, hts, hK, hg, hr, hlk⟩ := id C
  unfold fM_cause at hf
  refine lv_aload_n hx hb dX9_cause_0 rfl (lv_at hl 0 rfl) ?_
  refine lv_iconst (v := 0) hx hb dX9_cause_1 (by decide) ?_
  refine mr_putI C hR hS fl_1 ⟨rfl, rfl, rfl⟩ dX9_cause_2 (fun H locs hR hS => ?_)
  refine lv_aload_n hx hb dX9_cause_5 rfl (lv_at hl 0 rfl) ?_
  refine lv_iload_n hx hb dX9_cause_6 rfl (lv_at hl 1 rfl) ?_
  obtain ⟨o7, ho7, hf⟩ := bnd_some hf
  refine mr_callIv C hR hS (As := [.int x1]) (rest := []) (MM_isUnit l d g N x1 (pF S 0 0) o7 ho7) wv_573 ⟨by omega, by omega⟩ rfl rfl (Nat.le_of_ble_eq_true rfl) hl.1 dX9_cause_7 ⟨Nat.zero_le _, Nat.zero_le _⟩ (fun H locs hR hS => ?_)
  refine lv_if_eq (tgt := 23) hx hb dX9_cause_10 (by decide) (fun hc => ?_) (fun hc => ?_)
  · rw [if_pos hc] at hf
    exact (wbM_cause_23 C hRm) _ _ _ _ hf hR hS (lv_sub hl [0] rfl)
  · rw [if_neg hc] at hf
    refine lv_aload_n hx hb dX9_cause_13 rfl (lv_at hl 0 rfl) ?_
    refine mr_getR C hR fl_146 (by decide) dX9_cause_14 ?_
    refine lv_iload_n hx hb dX9_cause_17 rfl (lv_at hl 1 rfl) ?_
    obtain ⟨hi, hf⟩ := ck_some hf
    refine mr_iald C hR (k := 54) rfl hi dX9_cause_18 ?_
    refine lv_iconst (v := 3) hx hb dX9_cause_19 (by decide) ?_
    refine lv_icmp_eq (tgt := 27) hx hb dX9_cause_20 (by decide) (fun hc => ?_) (fun hc => ?_)
    · rw [if_pos hc] at hf
      refine lv_iload_n hx hb dX9_cause_27 rfl (lv_at hl 2 rfl) ?_
      refine lv_if_ne (tgt := 40) hx hb dX9_cause_28 (by decide) (fun hc => ?_) (fun hc => ?_)
      · rw [if_neg hc] at hf
        refine lv_iload_n hx hb dX9_cause_40 rfl (lv_at hl 2 rfl) ?_
        refine lv_iconst (v := 1) hx hb dX9_cause_41 (by decide) ?_
        refine lv_icmp_ne (tgt := 54) hx hb dX9_cause_42 (by decide) (fun hc => ?_) (fun hc => ?_)
        · rw [if_neg hc] at hf
          refine lv_iconst (v := 0) hx hb dX9_cause_54 (by decide) ?_
          exact (wbM_cause_55 C hRm) _ _ _ _ _ hf hR hS (lv_sub hl [0] rfl)
        · rw [if_pos hc] at hf
          refine lv_aload_n hx hb dX9_cause_45 rfl (lv_at hl 0 rfl) ?_
          refine mr_getR C hR fl_158 (by decide) dX9_cause_46 ?_
          refine lv_iload_n hx hb dX9_cause_49 rfl (lv_at hl 1 rfl) ?_
          obtain ⟨hi, hf⟩ := ck_some hf
          refine mr_iald C hR (k := 58) rfl hi dX9_cause_50 ?_
          refine lv_goto (tgt := 55) hx hb dX9_cause_51 (by decide) ?_
          exact (wbM_cause_55 C hRm) _ _ _ _ _ hf hR hS (lv_sub hl [0] rfl)
      · rw [if_pos hc] at hf
        refine lv_aload_n hx hb dX9_cause_31 rfl (lv_at hl 0 rfl) ?_
        refine mr_getR C hR fl_155 (by decide) dX9_cause_32 ?_
        refine lv_iload_n hx hb dX9_cause_35 rfl (lv_at hl 1 rfl) ?_
        obtain ⟨hi, hf⟩ := ck_some hf
        refine mr_iald C hR (k := 57) rfl hi dX9_cause_36 ?_
        refine lv_goto (tgt := 55) hx hb dX9_cause_37 (by decide) ?_
        exact (wbM_cause_55 C hRm) _ _ _ _ _ hf hR hS (lv_sub hl [0] rfl)
    · rw [if_neg hc] at hf
      exact (wbM_cause_23 C hRm) _ _ _ _ hf hR hS (lv_sub hl [0] rfl)
theorem MM_cause (l : Launch) (d : Dd) (g : Gm) (N : Nat) (x1 : Int32) (x2 : Int32) (S : Ms) (o : Int32 × Ms) (hf : fM_cause N x1 x2 S = some o) : MtI l d g yX9_cause cX9_cause 3 (some .int) 1 21 [.ref g.1, .int x1, .int x2] S o :=
  mr_metI (by decide) rfl (Nat.le_of_ble_eq_true rfl) (fun p e s m args below meth c ls C hR hl => wfM_cause C ⟨Nat.le_refl _, Nat.le_refl _⟩ x1 x2 S s.heap [] ls hf hR va_S.rf hl)
def bM_need_42 (N : Nat) (s0 : Int32) (S : Ms) : Option (Int32 × Ms) := some (s0, S)
set_option maxRecDepth 100000 in
set_option maxHeartbeats 4000000 in
theorem wbM_need_42 {p : Program} {l : Launch} {e : Env} {R : Room} {s : State} {m : MethodId} {args : Array Value} {below : List Frame} {meth : Method} {c : Code} {d : Dd} {g : Gm} {o : Int32 × Ms} {N : Nat} (C : CM p s m args meth c d g cX9_need 3 (some .int)) (hRm : 1 ≤ R.frames ∧ 21 ≤ R.locals) (s0 : Int32) (S : Ms) (H : Heap) (locs : List Loc) (ls : Array Slot) (hf : bM_need_42 N s0 S = some o) (hR : RM d g S H) (hS : va_S (AM g) s.heap H locs) (hl : lv_has ls 3 [(0, .ref g.1)]) : W p l e R s m args below meth c H locs 0 0 (MQ below (QI d g o) args s 0 0 (AM g)) (F0 m 42 ls [.int s0]) := by
  obtain ⟨hx, hb, hml, hown, hts, hK, hg, hr, hlk⟩ := id C
  unfold bM_need_42 at hf
  exact mr_iret C hR hS hf dX9_need_42
def bM_need_27 (N : Nat)  (S : Ms) : Option (Int32 × Ms) := (bM_need_42 N) (-1) S
set_option maxRecDepth 100000 in
set_option maxHeartbeats 4000000 in
theorem wbM_need_27 {p : Program} {l : Launch} {e : Env} {R : Room} {s : State} {m : MethodId} {args : Array Value} {below : List Frame} {meth : Method} {c : Code} {d : Dd} {g : Gm} {o : Int32 × Ms} {N : Nat} (C : CM p s m args meth c d g cX9_need 3 (some .int)) (hRm : 1 ≤ R.frames ∧ 21 ≤ R.locals)  (S : Ms) (H : Heap) (locs : List Loc) (ls : Array Slot) (hf : bM_need_27 N  S = some o) (hR : RM d g S H) (hS : va_S (AM g) s.heap H locs) (hl : lv_has ls 3 [(0, .ref g.1)]) : W p l e R s m args below meth c H locs 0 0 (MQ below (QI d g o) args s 0 0 (AM g)) (F0 m 27 ls []) := by
  obtain ⟨hx, hb, hml, hown, hts, hK, hg, hr, hlk⟩ := id C
  unfold bM_need_27 at hf
  refine lv_iconst (v := (-1)) hx hb dX9_need_27 (by decide) ?_
  refine lv_goto (tgt := 42) hx hb dX9_need_28 (by decide) ?_
  exact (wbM_need_42 C hRm) _ _ _ _ _ hf hR hS (lv_sub hl [0] rfl)
def fM_need (N : Nat) (x1 : Int32) (x2 : Int32) (S : Ms) : Option (Int32 × Ms) := (fM_isUnit N x1 (pF S 0 0)).bind fun o7 => if o7.1 = 0 then ((bM_need_27 N) o7.2) else (if x2 < 0 then ((bM_need_27 N) o7.2) else (ck x1 24 (if x2 < (mA o7.2 60 (x1 : Int32).toNatClampNeg) then (ck ((24 * x1) + x2) 576 ((bM_need_42 N) (mA o7.2 59 ((24 * x1) + x2 : Int32).toNatClampNeg) o7.2)) else ((bM_need_27 N) o7.2))))
set_option maxRecDepth 100000 in
set_option maxHeartbeats 4000000 in
theorem wfM_need {p : Program} {l : Launch} {e : Env} {R : Room} {s : State} {m : MethodId} {args : Array Value} {below : List Frame} {meth : Method} {c : Code} {d : Dd} {g : Gm} {o : Int32 × Ms} {N : Nat} (C : CM p s m args meth c d g cX9_need 3 (some .int)) (hRm : 1 ≤ R.frames ∧ 21 ≤ R.locals) (x1 : Int32) (x2 : Int32) (S : Ms) (H : Heap) (locs : List Loc) (ls : Array Slot) (hf : fM_need N x1 x2 S = some o) (hR : RM d g S H) (hS : va_S (AM g) s.heap H locs) (hl : lv_has ls 3 [(0, .ref g.1), (1, .int x1), (2, .int x2)]) : W p l e R s m args below meth c H locs 0 0 (MQ below (QI d g o) args s 0 0 (AM g)) (F0 m 0 ls []) := by
  obtain ⟨hx, hb, hml, hown, hts, hK, hg, hr, hlk⟩ := id C
  unfold fM_need at hf
  refine lv_aload_n hx hb dX9_need_0 rfl (lv_at hl 0 rfl) ?_
  refine lv_iconst (v := 0) hx hb dX9_need_1 (by decide) ?_
  refine mr_putI C hR hS fl_1 ⟨rfl, rfl, rfl⟩ dX9_need_2 (fun H locs hR hS => ?_)
  refine lv_aload_n hx hb dX9_need_5 rfl (lv_at hl 0 rfl) ?_
  refine lv_iload_n hx hb dX9_need_6 rfl (lv_at hl 1 rfl) ?_
  obtain ⟨o7, ho7, hf⟩ := bnd_some hf
  refine mr_callIv C hR hS (As := [.int x1]) (rest := []) (MM_isUnit l d g N x1 (pF S 0 0) o7 ho7) wv_573 ⟨by omega, by omega⟩ rfl rfl (Nat.le_of_ble_eq_true rfl) hl.1 dX9_need_7 ⟨Nat.zero_le _, Nat.zero_le _⟩ (fun H locs hR hS => ?_)
  refine lv_if_eq (tgt := 27) hx hb dX9_need_10 (by decide) (fun hc => ?_) (fun hc => ?_)
  · rw [if_pos hc] at hf
    exact (wbM_need_27 C hRm) _ _ _ _ hf hR hS (lv_sub hl [0] rfl)
  · rw [if_neg hc] at hf
    refine lv_iload_n hx hb dX9_need_13 rfl (lv_at hl 2 rfl) ?_
    refine lv_if_lt (tgt := 27) hx hb dX9_need_14 (by decide) (fun hc => ?_) (fun hc => ?_)
    · rw [if_pos hc] at hf
      exact (wbM_need_27 C hRm) _ _ _ _ hf hR hS (lv_sub hl [0] rfl)
    · rw [if_neg hc] at hf
      refine lv_iload_n hx hb dX9_need_17 rfl (lv_at hl 2 rfl) ?_
      refine lv_aload_n hx hb dX9_need_18 rfl (lv_at hl 0 rfl) ?_
      refine mr_getR C hR fl_164 (by decide) dX9_need_19 ?_
      refine lv_iload_n hx hb dX9_need_22 rfl (lv_at hl 1 rfl) ?_
      obtain ⟨hi, hf⟩ := ck_some hf
      refine mr_iald C hR (k := 60) rfl hi dX9_need_23 ?_
      refine lv_icmp_lt (tgt := 31) hx hb dX9_need_24 (by decide) (fun hc => ?_) (fun hc => ?_)
      · rw [if_pos hc] at hf
        refine lv_aload_n hx hb dX9_need_31 rfl (lv_at hl 0 rfl) ?_
        refine mr_getR C hR fl_161 (by decide) dX9_need_32 ?_
        refine lv_bipush (v := 24) hx hb dX9_need_35 (by decide) ?_
        refine lv_iload_n hx hb dX9_need_37 rfl (lv_at hl 1 rfl) ?_
        refine lv_imul hx hb dX9_need_38 ?_
        refine lv_iload_n hx hb dX9_need_39 rfl (lv_at hl 2 rfl) ?_
        refine lv_iadd hx hb dX9_need_40 ?_
        obtain ⟨hi, hf⟩ := ck_some hf
        refine mr_iald C hR (k := 59) rfl hi dX9_need_41 ?_
        exact (wbM_need_42 C hRm) _ _ _ _ _ hf hR hS (lv_sub hl [0] rfl)
      · rw [if_neg hc] at hf
        exact (wbM_need_27 C hRm) _ _ _ _ hf hR hS (lv_sub hl [0] rfl)
theorem MM_need (l : Launch) (d : Dd) (g : Gm) (N : Nat) (x1 : Int32) (x2 : Int32) (S : Ms) (o : Int32 × Ms) (hf : fM_need N x1 x2 S = some o) : MtI l d g yX9_need cX9_need 3 (some .int) 1 21 [.ref g.1, .int x1, .int x2] S o :=
  mr_metI (by decide) rfl (Nat.le_of_ble_eq_true rfl) (fun p e s m args below meth c ls C hR hl => wfM_need C ⟨Nat.le_refl _, Nat.le_refl _⟩ x1 x2 S s.heap [] ls hf hR va_S.rf hl)
def bM_leans_39 (N : Nat) (s0 : Int32) (S : Ms) : Option (Int32 × Ms) := some (s0, S)
set_option maxRecDepth 100000 in
set_option maxHeartbeats 4000000 in
theorem wbM_leans_39 {p : Program} {l : Launch} {e : Env} {R : Room} {s : State} {m : MethodId} {args : Array Value} {below : List Frame} {meth : Method} {c : Code} {d : Dd} {g : Gm} {o : Int32 × Ms} {N : Nat} (C : CM p s m args meth c d g cX9_leans 3 (some .int)) (hRm : 1 ≤ R.frames ∧ 22 ≤ R.locals) (s0 : Int32) (S : Ms) (H : Heap) (locs : List Loc) (ls : Array Slot) (hf : bM_leans_39 N s0 S = some o) (hR : RM d g S H) (hS : va_S (AM g) s.heap H locs) (hl : lv_has ls 3 [(0, .ref g.1)]) : W p l e R s m args below meth c H locs 0 0 (MQ below (QI d g o) args s 0 0 (AM g)) (F0 m 39 ls [.int s0]) := by
  obtain ⟨hx, hb, hml, hown, hts, hK, hg, hr, hlk⟩ := id C
  unfold bM_leans_39 at hf
  exact mr_iret C hR hS hf dX9_leans_39
def bM_leans_21 (N : Nat)  (S : Ms) : Option (Int32 × Ms) := (bM_leans_39 N) (-1) S
set_option maxRecDepth 100000 in
set_option maxHeartbeats 4000000 in
theorem wbM_leans_21 {p : Program} {l : Launch} {e : Env} {R : Room} {s : State} {m : MethodId} {args : Array Value} {below : List Frame} {meth : Method} {c : Code} {d : Dd} {g : Gm} {o : Int32 × Ms} {N : Nat} (C : CM p s m args meth c d g cX9_leans 3 (some .int)) (hRm : 1 ≤ R.frames ∧ 22 ≤ R.locals)  (S : Ms) (H : Heap) (locs : List Loc) (ls : Array Slot) (hf : bM_leans_21 N  S = some o) (hR : RM d g S H) (hS : va_S (AM g) s.heap H locs) (hl : lv_has ls 3 [(0, .ref g.1)]) : W p l e R s m args below meth c H locs 0 0 (MQ below (QI d g o) args s 0 0 (AM g)) (F0 m 21 ls []) := by
  obtain ⟨hx, hb, hml, hown, hts, hK, hg, hr, hlk⟩ := id C
  unfold bM_leans_21 at hf
  refine lv_iconst (v := (-1)) hx hb dX9_leans_21 (by decide) ?_
  refine lv_goto (tgt := 39) hx hb dX9_leans_22 (by decide) ?_
  exact (wbM_leans_39 C hRm) _ _ _ _ _ hf hR hS (lv_sub hl [0] rfl)
def fM_leans (N : Nat) (x1 : Int32) (x2 : Int32) (S : Ms) : Option (Int32 × Ms) := (fM_isUnit N x1 (pF S 0 0)).bind fun o7 => if o7.1 = 0 then ((bM_leans_21 N) o7.2) else ((fM_isUnit N x2 o7.2).bind fun o15 => if o15.1 = 0 then ((bM_leans_21 N) o15.2) else ((fM_lean N x1 x2 o15.2).bind fun o28 => if o28.1 = 0 then ((bM_leans_39 N) 0 o28.2) else ((bM_leans_39 N) 1 o28.2)))
set_option maxRecDepth 100000 in
set_option maxHeartbeats 4000000 in
theorem wfM_leans {p : Program} {l : Launch} {e : Env} {R : Room} {s : State} {m : MethodId} {args : Array Value} {below : List Frame} {meth : Method} {c : Code} {d : Dd} {g : Gm} {o : Int32 × Ms} {N : Nat} (C : CM p s m args meth c d g cX9_leans 3 (some .int)) (hRm : 1 ≤ R.frames ∧ 22 ≤ R.locals) (x1 : Int32) (x2 : Int32) (S : Ms) (H : Heap) (locs : List Loc) (ls : Array Slot) (hf : fM_leans N x1 x2 S = some o) (hR : RM d g S H) (hS : va_S (AM g) s.heap H locs) (hl : lv_has ls 3 [(0, .ref g.1), (1, .int x1), (2, .int x2)]) : W p l e R s m args below meth c H locs 0 0 (MQ below (QI d g o) args s 0 0 (AM g)) (F0 m 0 ls []) := by
  obtain ⟨hx, hb, hml, hown, hts, hK, hg, hr, hlk⟩ := id C
  unfold fM_leans at hf
  refine lv_aload_n hx hb dX9_leans_0 rfl (lv_at hl 0 rfl) ?_
  refine lv_iconst (v := 0) hx hb dX9_leans_1 (by decide) ?_
  refine mr_putI C hR hS fl_1 ⟨rfl, rfl, rfl⟩ dX9_leans_2 (fun H locs hR hS => ?_)
  refine lv_aload_n hx hb dX9_leans_5 rfl (lv_at hl 0 rfl) ?_
  refine lv_iload_n hx hb dX9_leans_6 rfl (lv_at hl 1 rfl) ?_
  obtain ⟨o7, ho7, hf⟩ := bnd_some hf
  refine mr_callIv C hR hS (As := [.int x1]) (rest := []) (MM_isUnit l d g N x1 (pF S 0 0) o7 ho7) wv_573 ⟨by omega, by omega⟩ rfl rfl (Nat.le_of_ble_eq_true rfl) hl.1 dX9_leans_7 ⟨Nat.zero_le _, Nat.zero_le _⟩ (fun H locs hR hS => ?_)
  refine lv_if_eq (tgt := 21) hx hb dX9_leans_10 (by decide) (fun hc => ?_) (fun hc => ?_)
  · rw [if_pos hc] at hf
    exact (wbM_leans_21 C hRm) _ _ _ _ hf hR hS (lv_sub hl [0] rfl)
  · rw [if_neg hc] at hf
    refine lv_aload_n hx hb dX9_leans_13 rfl (lv_at hl 0 rfl) ?_
    refine lv_iload_n hx hb dX9_leans_14 rfl (lv_at hl 2 rfl) ?_
    obtain ⟨o15, ho15, hf⟩ := bnd_some hf
    refine mr_callIv C hR hS (As := [.int x2]) (rest := []) (MM_isUnit l d g N x2 o7.2 o15 ho15) wv_573 ⟨by omega, by omega⟩ rfl rfl (Nat.le_of_ble_eq_true rfl) hl.1 dX9_leans_15 ⟨Nat.zero_le _, Nat.zero_le _⟩ (fun H locs hR hS => ?_)
    refine lv_if_ne (tgt := 25) hx hb dX9_leans_18 (by decide) (fun hc => ?_) (fun hc => ?_)
    · rw [if_neg hc] at hf
      refine lv_aload_n hx hb dX9_leans_25 rfl (lv_at hl 0 rfl) ?_
      refine lv_iload_n hx hb dX9_leans_26 rfl (lv_at hl 1 rfl) ?_
      refine lv_iload_n hx hb dX9_leans_27 rfl (lv_at hl 2 rfl) ?_
      obtain ⟨o28, ho28, hf⟩ := bnd_some hf
      refine mr_callIv C hR hS (As := [.int x1, .int x2]) (rest := []) (MM_lean l d g N x1 x2 o15.2 o28 ho28) wv_576 ⟨by omega, by omega⟩ rfl rfl (Nat.le_of_ble_eq_true rfl) hl.1 dX9_leans_28 ⟨Nat.zero_le _, Nat.zero_le _⟩ (fun H locs hR hS => ?_)
      refine lv_if_eq (tgt := 38) hx hb dX9_leans_31 (by decide) (fun hc => ?_) (fun hc => ?_)
      · rw [if_pos hc] at hf
        refine lv_iconst (v := 0) hx hb dX9_leans_38 (by decide) ?_
        exact (wbM_leans_39 C hRm) _ _ _ _ _ hf hR hS (lv_sub hl [0] rfl)
      · rw [if_neg hc] at hf
        refine lv_iconst (v := 1) hx hb dX9_leans_34 (by decide) ?_
        refine lv_goto (tgt := 39) hx hb dX9_leans_35 (by decide) ?_
        exact (wbM_leans_39 C hRm) _ _ _ _ _ hf hR hS (lv_sub hl [0] rfl)
    · rw [if_pos hc] at hf
      exact (wbM_leans_21 C hRm) _ _ _ _ hf hR hS (lv_sub hl [0] rfl)
theorem MM_leans (l : Launch) (d : Dd) (g : Gm) (N : Nat) (x1 : Int32) (x2 : Int32) (S : Ms) (o : Int32 × Ms) (hf : fM_leans N x1 x2 S = some o) : MtI l d g yX9_leans cX9_leans 3 (some .int) 1 22 [.ref g.1, .int x1, .int x2] S o :=
  mr_metI (by decide) rfl (Nat.le_of_ble_eq_true rfl) (fun p e s m args below meth c ls C hR hl => wfM_leans C ⟨Nat.le_refl _, Nat.le_refl _⟩ x1 x2 S s.heap [] ls hf hR va_S.rf hl)
def bM_up_17 (N : Nat)  (S : Ms) : Option (Int32 × Ms) := some ((-1), S)
set_option maxRecDepth 100000 in
set_option maxHeartbeats 4000000 in
theorem wbM_up_17 {p : Program} {l : Launch} {e : Env} {R : Room} {s : State} {m : MethodId} {args : Array Value} {below : List Frame} {meth : Method} {c : Code} {d : Dd} {g : Gm} {o : Int32 × Ms} {N : Nat} (C : CM p s m args meth c d g cX9_up 3 (some .int)) (hRm : 0 ≤ R.frames ∧ 0 ≤ R.locals)  (S : Ms) (H : Heap) (locs : List Loc) (ls : Array Slot) (hf : bM_up_17 N  S = some o) (hR : RM d g S H) (hS : va_S (AM g) s.heap H locs) (hl : lv_has ls 3 [(0, .ref g.1)]) : W p l e R s m args below meth c H locs 0 0 (MQ below (QI d g o) args s 0 0 (AM g)) (F0 m 17 ls []) := by
  obtain ⟨hx, hb, hml, hown, hts, hK, hg, hr, hlk⟩ := id C
  unfold bM_up_17 at hf
  refine lv_iconst (v := (-1)) hx hb dX9_up_17 (by decide) ?_
  exact mr_iret C hR hS hf dX9_up_18
def bM_up_61 (N : Nat) (s0 : Int32) (S : Ms) : Option (Int32 × Ms) := some (s0, S)
set_option maxRecDepth 100000 in
set_option maxHeartbeats 4000000 in
theorem wbM_up_61 {p : Program} {l : Launch} {e : Env} {R : Room} {s : State} {m : MethodId} {args : Array Value} {below : List Frame} {meth : Method} {c : Code} {d : Dd} {g : Gm} {o : Int32 × Ms} {N : Nat} (C : CM p s m args meth c d g cX9_up 3 (some .int)) (hRm : 0 ≤ R.frames ∧ 0 ≤ R.locals) (s0 : Int32) (S : Ms) (H : Heap) (locs : List Loc) (ls : Array Slot) (hf : bM_up_61 N s0 S = some o) (hR : RM d g S H) (hS : va_S (AM g) s.heap H locs) (hl : lv_has ls 3 [(0, .ref g.1)]) : W p l e R s m args below meth c H locs 0 0 (MQ below (QI d g o) args s 0 0 (AM g)) (F0 m 61 ls [.int s0]) := by
  obtain ⟨hx, hb, hml, hown, hts, hK, hg, hr, hlk⟩ := id C
  unfold bM_up_61 at hf
  exact mr_iret C hR hS hf dX9_up_61
def fM_up (N : Nat) (x1 : Int32) (x2 : Int32) (S : Ms) : Option (Int32 × Ms) := if x1 < 0 then ((bM_up_17 N) (pF S 0 0)) else (if x1 < (mF (pF S 0 0) 75) then (if x2 = 0 then (ck x1 800 ((bM_up_61 N) (mA (pF S 0 0) 72 (x1 : Int32).toNatClampNeg) (pF S 0 0))) else (if x2 = 1 then (ck x1 800 ((bM_up_61 N) (mA (pF S 0 0) 73 (x1 : Int32).toNatClampNeg) (pF S 0 0))) else (if x2 = 2 then (ck x1 800 ((bM_up_61 N) (mA (pF S 0 0) 74 (x1 : Int32).toNatClampNeg) (pF S 0 0))) else ((bM_up_61 N) (-1) (pF S 0 0))))) else ((bM_up_17 N) (pF S 0 0)))
set_option maxRecDepth 100000 in
set_option maxHeartbeats 4000000 in
theorem wfM_up {p : Program} {l : Launch} {e : Env} {R : Room} {s : State} {m : MethodId} {args : Array Value} {below : List Frame} {meth : Method} {c : Code} {d : Dd} {g : Gm} {o : Int32 × Ms} {N : Nat} (C : CM p s m args meth c d g cX9_up 3 (some .int)) (hRm : 0 ≤ R.frames ∧ 0 ≤ R.locals) (x1 : Int32) (x2 : Int32) (S : Ms) (H : Heap) (locs : List Loc) (ls : Array Slot) (hf : fM_up N x1 x2 S = some o) (hR : RM d g S H) (hS : va_S (AM g) s.heap H locs) (hl : lv_has ls 3 [(0, .ref g.1), (1, .int x1), (2, .int x2)]) : W p l e R s m args below meth c H locs 0 0 (MQ below (QI d g o) args s 0 0 (AM g)) (F0 m 0 ls []) := by
  obtain ⟨hx, hb, hml, hown, hts, hK, hg, hr, hlk⟩ := id C
  unfold fM_up at hf
  refine lv_aload_n hx hb dX9_up_0 rfl (lv_at hl 0 rfl) ?_
  refine lv_iconst (v := 0) hx hb dX9_up_1 (by decide) ?_
  refine mr_putI C hR hS fl_1 ⟨rfl, rfl, rfl⟩ dX9_up_2 (fun H locs hR hS => ?_)
  refine lv_iload_n hx hb dX9_up_5 rfl (lv_at hl 1 rfl) ?_
  refine lv_if_lt (tgt := 17) hx hb dX9_up_6 (by decide) (fun hc => ?_) (fun hc => ?_)
  · rw [if_pos hc] at hf
    exact (wbM_up_17 C hRm) _ _ _ _ hf hR hS (lv_sub hl [0] rfl)
  · rw [if_neg hc] at hf
    refine lv_iload_n hx hb dX9_up_9 rfl (lv_at hl 1 rfl) ?_
    refine lv_aload_n hx hb dX9_up_10 rfl (lv_at hl 0 rfl) ?_
    refine mr_getI C hR fl_470 rfl dX9_up_11 ?_
    refine lv_icmp_lt (tgt := 19) hx hb dX9_up_14 (by decide) (fun hc => ?_) (fun hc => ?_)
    · rw [if_pos hc] at hf
      refine lv_iload_n hx hb dX9_up_19 rfl (lv_at hl 2 rfl) ?_
      refine lv_if_ne (tgt := 32) hx hb dX9_up_20 (by decide) (fun hc => ?_) (fun hc => ?_)
      · rw [if_neg hc] at hf
        refine lv_iload_n hx hb dX9_up_32 rfl (lv_at hl 2 rfl) ?_
        refine lv_iconst (v := 1) hx hb dX9_up_33 (by decide) ?_
        refine lv_icmp_ne (tgt := 46) hx hb dX9_up_34 (by decide) (fun hc => ?_) (fun hc => ?_)
        · rw [if_neg hc] at hf
          refine lv_iload_n hx hb dX9_up_46 rfl (lv_at hl 2 rfl) ?_
          refine lv_iconst (v := 2) hx hb dX9_up_47 (by decide) ?_
          refine lv_icmp_ne (tgt := 60) hx hb dX9_up_48 (by decide) (fun hc => ?_) (fun hc => ?_)
          · rw [if_neg hc] at hf
            refine lv_iconst (v := (-1)) hx hb dX9_up_60 (by decide) ?_
            exact (wbM_up_61 C hRm) _ _ _ _ _ hf hR hS (lv_sub hl [0] rfl)
          · rw [if_pos hc] at hf
            refine lv_aload_n hx hb dX9_up_51 rfl (lv_at hl 0 rfl) ?_
            refine mr_getR C hR fl_185 (by decide) dX9_up_52 ?_
            refine lv_iload_n hx hb dX9_up_55 rfl (lv_at hl 1 rfl) ?_
            obtain ⟨hi, hf⟩ := ck_some hf
            refine mr_iald C hR (k := 74) rfl hi dX9_up_56 ?_
            refine lv_goto (tgt := 61) hx hb dX9_up_57 (by decide) ?_
            exact (wbM_up_61 C hRm) _ _ _ _ _ hf hR hS (lv_sub hl [0] rfl)
        · rw [if_pos hc] at hf
          refine lv_aload_n hx hb dX9_up_37 rfl (lv_at hl 0 rfl) ?_
          refine mr_getR C hR fl_182 (by decide) dX9_up_38 ?_
          refine lv_iload_n hx hb dX9_up_41 rfl (lv_at hl 1 rfl) ?_
          obtain ⟨hi, hf⟩ := ck_some hf
          refine mr_iald C hR (k := 73) rfl hi dX9_up_42 ?_
          refine lv_goto (tgt := 61) hx hb dX9_up_43 (by decide) ?_
          exact (wbM_up_61 C hRm) _ _ _ _ _ hf hR hS (lv_sub hl [0] rfl)
      · rw [if_pos hc] at hf
        refine lv_aload_n hx hb dX9_up_23 rfl (lv_at hl 0 rfl) ?_
        refine mr_getR C hR fl_179 (by decide) dX9_up_24 ?_
        refine lv_iload_n hx hb dX9_up_27 rfl (lv_at hl 1 rfl) ?_
        obtain ⟨hi, hf⟩ := ck_some hf
        refine mr_iald C hR (k := 72) rfl hi dX9_up_28 ?_
        refine lv_goto (tgt := 61) hx hb dX9_up_29 (by decide) ?_
        exact (wbM_up_61 C hRm) _ _ _ _ _ hf hR hS (lv_sub hl [0] rfl)
    · rw [if_neg hc] at hf
      exact (wbM_up_17 C hRm) _ _ _ _ hf hR hS (lv_sub hl [0] rfl)
theorem MM_up (l : Launch) (d : Dd) (g : Gm) (N : Nat) (x1 : Int32) (x2 : Int32) (S : Ms) (o : Int32 × Ms) (hf : fM_up N x1 x2 S = some o) : MtI l d g yX9_up cX9_up 3 (some .int) 0 0 [.ref g.1, .int x1, .int x2] S o :=
  mr_metI (by decide) rfl (Nat.le_of_ble_eq_true rfl) (fun p e s m args below meth c ls C hR hl => wfM_up C ⟨Nat.le_refl _, Nat.le_refl _⟩ x1 x2 S s.heap [] ls hf hR va_S.rf hl)
def bM_half_24 (N : Nat)  (S : Ms) : Option (Int32 × Ms) := some ((-1), S)
set_option maxRecDepth 100000 in
set_option maxHeartbeats 4000000 in
theorem wbM_half_24 {p : Program} {l : Launch} {e : Env} {R : Room} {s : State} {m : MethodId} {args : Array Value} {below : List Frame} {meth : Method} {c : Code} {d : Dd} {g : Gm} {o : Int32 × Ms} {N : Nat} (C : CM p s m args meth c d g cX9_half 3 (some .int)) (hRm : 0 ≤ R.frames ∧ 0 ≤ R.locals)  (S : Ms) (H : Heap) (locs : List Loc) (ls : Array Slot) (hf : bM_half_24 N  S = some o) (hR : RM d g S H) (hS : va_S (AM g) s.heap H locs) (hl : lv_has ls 3 [(0, .ref g.1)]) : W p l e R s m args below meth c H locs 0 0 (MQ below (QI d g o) args s 0 0 (AM g)) (F0 m 24 ls []) := by
  obtain ⟨hx, hb, hml, hown, hts, hK, hg, hr, hlk⟩ := id C
  unfold bM_half_24 at hf
  refine lv_iconst (v := (-1)) hx hb dX9_half_24 (by decide) ?_
  exact mr_iret C hR hS hf dX9_half_25
def bM_half_68 (N : Nat) (s0 : Int32) (S : Ms) : Option (Int32 × Ms) := some (s0, S)
set_option maxRecDepth 100000 in
set_option maxHeartbeats 4000000 in
theorem wbM_half_68 {p : Program} {l : Launch} {e : Env} {R : Room} {s : State} {m : MethodId} {args : Array Value} {below : List Frame} {meth : Method} {c : Code} {d : Dd} {g : Gm} {o : Int32 × Ms} {N : Nat} (C : CM p s m args meth c d g cX9_half 3 (some .int)) (hRm : 0 ≤ R.frames ∧ 0 ≤ R.locals) (s0 : Int32) (S : Ms) (H : Heap) (locs : List Loc) (ls : Array Slot) (hf : bM_half_68 N s0 S = some o) (hR : RM d g S H) (hS : va_S (AM g) s.heap H locs) (hl : lv_has ls 3 [(0, .ref g.1)]) : W p l e R s m args below meth c H locs 0 0 (MQ below (QI d g o) args s 0 0 (AM g)) (F0 m 68 ls [.int s0]) := by
  obtain ⟨hx, hb, hml, hown, hts, hK, hg, hr, hlk⟩ := id C
  unfold bM_half_68 at hf
  exact mr_iret C hR hS hf dX9_half_68
def fM_half (N : Nat) (x1 : Int32) (x2 : Int32) (S : Ms) : Option (Int32 × Ms) := if x1 < 0 then ((bM_half_24 N) (pF S 0 0)) else (if (mF (pF S 0 0) 79) ≤ x1 then ((bM_half_24 N) (pF S 0 0)) else (if x1 < 200 then (if x2 = 0 then (ck x1 200 ((bM_half_68 N) (mA (pF S 0 0) 76 (x1 : Int32).toNatClampNeg) (pF S 0 0))) else (if x2 = 1 then (ck x1 200 ((bM_half_68 N) (mA (pF S 0 0) 77 (x1 : Int32).toNatClampNeg) (pF S 0 0))) else (if x2 = 2 then (ck x1 200 ((bM_half_68 N) (mA (pF S 0 0) 78 (x1 : Int32).toNatClampNeg) (pF S 0 0))) else ((bM_half_68 N) (-1) (pF S 0 0))))) else ((bM_half_24 N) (pF S 0 0))))
set_option maxRecDepth 100000 in
set_option maxHeartbeats 4000000 in
theorem wfM_half {p : Program} {l : Launch} {e : Env} {R : Room} {s : State} {m : MethodId} {args : Array Value} {below : List Frame} {meth : Method} {c : Code} {d : Dd} {g : Gm} {o : Int32 × Ms} {N : Nat} (C : CM p s m args meth c d g cX9_half 3 (some .int)) (hRm : 0 ≤ R.frames ∧ 0 ≤ R.locals) (x1 : Int32) (x2 : Int32) (S : Ms) (H : Heap) (locs : List Loc) (ls : Array Slot) (hf : fM_half N x1 x2 S = some o) (hR : RM d g S H) (hS : va_S (AM g) s.heap H locs) (hl : lv_has ls 3 [(0, .ref g.1), (1, .int x1), (2, .int x2)]) : W p l e R s m args below meth c H locs 0 0 (MQ below (QI d g o) args s 0 0 (AM g)) (F0 m 0 ls []) := by
  obtain ⟨hx, hb, hml, hown, hts, hK, hg, hr, hlk⟩ := id C
  unfold fM_half at hf
  refine lv_aload_n hx hb dX9_half_0 rfl (lv_at hl 0 rfl) ?_
  refine lv_iconst (v := 0) hx hb dX9_half_1 (by decide) ?_
  refine mr_putI C hR hS fl_1 ⟨rfl, rfl, rfl⟩ dX9_half_2 (fun H locs hR hS => ?_)
  refine lv_iload_n hx hb dX9_half_5 rfl (lv_at hl 1 rfl) ?_
  refine lv_if_lt (tgt := 24) hx hb dX9_half_6 (by decide) (fun hc => ?_) (fun hc => ?_)
  · rw [if_pos hc] at hf
    exact (wbM_half_24 C hRm) _ _ _ _ hf hR hS (lv_sub hl [0] rfl)
  · rw [if_neg hc] at hf
    refine lv_iload_n hx hb dX9_half_9 rfl (lv_at hl 1 rfl) ?_
    refine lv_aload_n hx hb dX9_half_10 rfl (lv_at hl 0 rfl) ?_
    refine mr_getI C hR fl_473 rfl dX9_half_11 ?_
    refine lv_icmp_ge (tgt := 24) hx hb dX9_half_14 (by decide) (fun hc => ?_) (fun hc => ?_)
    · rw [if_pos hc] at hf
      exact (wbM_half_24 C hRm) _ _ _ _ hf hR hS (lv_sub hl [0] rfl)
    · rw [if_neg hc] at hf
      refine lv_iload_n hx hb dX9_half_17 rfl (lv_at hl 1 rfl) ?_
      refine lv_sipush (v := 200) hx hb dX9_half_18 (by decide) ?_
      refine lv_icmp_lt (tgt := 26) hx hb dX9_half_21 (by decide) (fun hc => ?_) (fun hc => ?_)
      · rw [if_pos hc] at hf
        refine lv_iload_n hx hb dX9_half_26 rfl (lv_at hl 2 rfl) ?_
        refine lv_if_ne (tgt := 39) hx hb dX9_half_27 (by decide) (fun hc => ?_) (fun hc => ?_)
        · rw [if_neg hc] at hf
          refine lv_iload_n hx hb dX9_half_39 rfl (lv_at hl 2 rfl) ?_
          refine lv_iconst (v := 1) hx hb dX9_half_40 (by decide) ?_
          refine lv_icmp_ne (tgt := 53) hx hb dX9_half_41 (by decide) (fun hc => ?_) (fun hc => ?_)
          · rw [if_neg hc] at hf
            refine lv_iload_n hx hb dX9_half_53 rfl (lv_at hl 2 rfl) ?_
            refine lv_iconst (v := 2) hx hb dX9_half_54 (by decide) ?_
            refine lv_icmp_ne (tgt := 67) hx hb dX9_half_55 (by decide) (fun hc => ?_) (fun hc => ?_)
            · rw [if_neg hc] at hf
              refine lv_iconst (v := (-1)) hx hb dX9_half_67 (by decide) ?_
              exact (wbM_half_68 C hRm) _ _ _ _ _ hf hR hS (lv_sub hl [0] rfl)
            · rw [if_pos hc] at hf
              refine lv_aload_n hx hb dX9_half_58 rfl (lv_at hl 0 rfl) ?_
              refine mr_getR C hR fl_194 (by decide) dX9_half_59 ?_
              refine lv_iload_n hx hb dX9_half_62 rfl (lv_at hl 1 rfl) ?_
              obtain ⟨hi, hf⟩ := ck_some hf
              refine mr_iald C hR (k := 78) rfl hi dX9_half_63 ?_
              refine lv_goto (tgt := 68) hx hb dX9_half_64 (by decide) ?_
              exact (wbM_half_68 C hRm) _ _ _ _ _ hf hR hS (lv_sub hl [0] rfl)
          · rw [if_pos hc] at hf
            refine lv_aload_n hx hb dX9_half_44 rfl (lv_at hl 0 rfl) ?_
            refine mr_getR C hR fl_191 (by decide) dX9_half_45 ?_
            refine lv_iload_n hx hb dX9_half_48 rfl (lv_at hl 1 rfl) ?_
            obtain ⟨hi, hf⟩ := ck_some hf
            refine mr_iald C hR (k := 77) rfl hi dX9_half_49 ?_
            refine lv_goto (tgt := 68) hx hb dX9_half_50 (by decide) ?_
            exact (wbM_half_68 C hRm) _ _ _ _ _ hf hR hS (lv_sub hl [0] rfl)
        · rw [if_pos hc] at hf
          refine lv_aload_n hx hb dX9_half_30 rfl (lv_at hl 0 rfl) ?_
          refine mr_getR C hR fl_188 (by decide) dX9_half_31 ?_
          refine lv_iload_n hx hb dX9_half_34 rfl (lv_at hl 1 rfl) ?_
          obtain ⟨hi, hf⟩ := ck_some hf
          refine mr_iald C hR (k := 76) rfl hi dX9_half_35 ?_
          refine lv_goto (tgt := 68) hx hb dX9_half_36 (by decide) ?_
          exact (wbM_half_68 C hRm) _ _ _ _ _ hf hR hS (lv_sub hl [0] rfl)
      · rw [if_neg hc] at hf
        exact (wbM_half_24 C hRm) _ _ _ _ hf hR hS (lv_sub hl [0] rfl)
theorem MM_half (l : Launch) (d : Dd) (g : Gm) (N : Nat) (x1 : Int32) (x2 : Int32) (S : Ms) (o : Int32 × Ms) (hf : fM_half N x1 x2 S = some o) : MtI l d g yX9_half cX9_half 3 (some .int) 0 0 [.ref g.1, .int x1, .int x2] S o :=
  mr_metI (by decide) rfl (Nat.le_of_ble_eq_true rfl) (fun p e s m args below meth c ls C hR hl => wfM_half C ⟨Nat.le_refl _, Nat.le_refl _⟩ x1 x2 S s.heap [] ls hf hR va_S.rf hl)
def bM_order_24 (N : Nat)  (S : Ms) : Option (Int32 × Ms) := some ((-1), S)
set_option maxRecDepth 100000 in
set_option maxHeartbeats 4000000 in
theorem wbM_order_24 {p : Program} {l : Launch} {e : Env} {R : Room} {s : State} {m : MethodId} {args : Array Value} {below : List Frame} {meth : Method} {c : Code} {d : Dd} {g : Gm} {o : Int32 × Ms} {N : Nat} (C : CM p s m args meth c d g cX9_order 3 (some .int)) (hRm : 0 ≤ R.frames ∧ 0 ≤ R.locals)  (S : Ms) (H : Heap) (locs : List Loc) (ls : Array Slot) (hf : bM_order_24 N  S = some o) (hR : RM d g S H) (hS : va_S (AM g) s.heap H locs) (hl : lv_has ls 3 [(0, .ref g.1)]) : W p l e R s m args below meth c H locs 0 0 (MQ below (QI d g o) args s 0 0 (AM g)) (F0 m 24 ls []) := by
  obtain ⟨hx, hb, hml, hown, hts, hK, hg, hr, hlk⟩ := id C
  unfold bM_order_24 at hf
  refine lv_iconst (v := (-1)) hx hb dX9_order_24 (by decide) ?_
  exact mr_iret C hR hS hf dX9_order_25
def bM_order_90 (N : Nat) (s0 : Int32) (S : Ms) : Option (Int32 × Ms) := some (s0, S)
set_option maxRecDepth 100000 in
set_option maxHeartbeats 4000000 in
theorem wbM_order_90 {p : Program} {l : Launch} {e : Env} {R : Room} {s : State} {m : MethodId} {args : Array Value} {below : List Frame} {meth : Method} {c : Code} {d : Dd} {g : Gm} {o : Int32 × Ms} {N : Nat} (C : CM p s m args meth c d g cX9_order 3 (some .int)) (hRm : 0 ≤ R.frames ∧ 0 ≤ R.locals) (s0 : Int32) (S : Ms) (H : Heap) (locs : List Loc) (ls : Array Slot) (hf : bM_order_90 N s0 S = some o) (hR : RM d g S H) (hS : va_S (AM g) s.heap H locs) (hl : lv_has ls 3 [(0, .ref g.1)]) : W p l e R s m args below meth c H locs 0 0 (MQ below (QI d g o) args s 0 0 (AM g)) (F0 m 90 ls [.int s0]) := by
  obtain ⟨hx, hb, hml, hown, hts, hK, hg, hr, hlk⟩ := id C
  unfold bM_order_90 at hf
  exact mr_iret C hR hS hf dX9_order_90
def fM_order (N : Nat) (x1 : Int32) (x2 : Int32) (S : Ms) : Option (Int32 × Ms) := if x1 < 0 then ((bM_order_24 N) (pF S 0 0)) else (if (mF (pF S 0 0) 84) ≤ x1 then ((bM_order_24 N) (pF S 0 0)) else (if x1 < 200 then (if x2 = 0 then (ck x1 200 ((bM_order_90 N) (mA (pF S 0 0) 80 (x1 : Int32).toNatClampNeg) (pF S 0 0))) else (if x2 = 1 then (ck x1 200 ((bM_order_90 N) (mA (pF S 0 0) 81 (x1 : Int32).toNatClampNeg) (pF S 0 0))) else (if x2 = 2 then (ck x1 200 ((bM_order_90 N) (mA (pF S 0 0) 82 (x1 : Int32).toNatClampNeg) (pF S 0 0))) else (if x2 = 3 then (ck x1 200 (if (mA (pF S 0 0) 83 (x1 : Int32).toNatClampNeg) = 0 then ((bM_order_90 N) 0 (pF S 0 0)) else ((bM_order_90 N) 1 (pF S 0 0)))) else ((bM_order_90 N) (-1) (pF S 0 0)))))) else ((bM_order_24 N) (pF S 0 0))))
set_option maxRecDepth 100000 in
set_option maxHeartbeats 4000000 in
theorem wfM_order {p : Program} {l : Launch} {e : Env} {R : Room} {s : State} {m : MethodId} {args : Array Value} {below : List Frame} {meth : Method} {c : Code} {d : Dd} {g : Gm} {o : Int32 × Ms} {N : Nat} (C : CM p s m args meth c d g cX9_order 3 (some .int)) (hRm : 0 ≤ R.frames ∧ 0 ≤ R.locals) (x1 : Int32) (x2 : Int32) (S : Ms) (H : Heap) (locs : List Loc) (ls : Array Slot) (hf : fM_order N x1 x2 S = some o) (hR : RM d g S H) (hS : va_S (AM g) s.heap H locs) (hl : lv_has ls 3 [(0, .ref g.1), (1, .int x1), (2, .int x2)]) : W p l e R s m args below meth c H locs 0 0 (MQ below (QI d g o) args s 0 0 (AM g)) (F0 m 0 ls []) := by
  obtain ⟨hx, hb, hml, hown, hts, hK, hg, hr, hlk⟩ := id C
  unfold fM_order at hf
  refine lv_aload_n hx hb dX9_order_0 rfl (lv_at hl 0 rfl) ?_
  refine lv_iconst (v := 0) hx hb dX9_order_1 (by decide) ?_
  refine mr_putI C hR hS fl_1 ⟨rfl, rfl, rfl⟩ dX9_order_2 (fun H locs hR hS => ?_)
  refine lv_iload_n hx hb dX9_order_5 rfl (lv_at hl 1 rfl) ?_
  refine lv_if_lt (tgt := 24) hx hb dX9_order_6 (by decide) (fun hc => ?_) (fun hc => ?_)
  · rw [if_pos hc] at hf
    exact (wbM_order_24 C hRm) _ _ _ _ hf hR hS (lv_sub hl [0] rfl)
  · rw [if_neg hc] at hf
    refine lv_iload_n hx hb dX9_order_9 rfl (lv_at hl 1 rfl) ?_
    refine lv_aload_n hx hb dX9_order_10 rfl (lv_at hl 0 rfl) ?_
    refine mr_getI C hR fl_476 rfl dX9_order_11 ?_
    refine lv_icmp_ge (tgt := 24) hx hb dX9_order_14 (by decide) (fun hc => ?_) (fun hc => ?_)
    · rw [if_pos hc] at hf
      exact (wbM_order_24 C hRm) _ _ _ _ hf hR hS (lv_sub hl [0] rfl)
    · rw [if_neg hc] at hf
      refine lv_iload_n hx hb dX9_order_17 rfl (lv_at hl 1 rfl) ?_
      refine lv_sipush (v := 200) hx hb dX9_order_18 (by decide) ?_
      refine lv_icmp_lt (tgt := 26) hx hb dX9_order_21 (by decide) (fun hc => ?_) (fun hc => ?_)
      · rw [if_pos hc] at hf
        refine lv_iload_n hx hb dX9_order_26 rfl (lv_at hl 2 rfl) ?_
        refine lv_if_ne (tgt := 39) hx hb dX9_order_27 (by decide) (fun hc => ?_) (fun hc => ?_)
        · rw [if_neg hc] at hf
          refine lv_iload_n hx hb dX9_order_39 rfl (lv_at hl 2 rfl) ?_
          refine lv_iconst (v := 1) hx hb dX9_order_40 (by decide) ?_
          refine lv_icmp_ne (tgt := 53) hx hb dX9_order_41 (by decide) (fun hc => ?_) (fun hc => ?_)
          · rw [if_neg hc] at hf
            refine lv_iload_n hx hb dX9_order_53 rfl (lv_at hl 2 rfl) ?_
            refine lv_iconst (v := 2) hx hb dX9_order_54 (by decide) ?_
            refine lv_icmp_ne (tgt := 67) hx hb dX9_order_55 (by decide) (fun hc => ?_) (fun hc => ?_)
            · rw [if_neg hc] at hf
              refine lv_iload_n hx hb dX9_order_67 rfl (lv_at hl 2 rfl) ?_
              refine lv_iconst (v := 3) hx hb dX9_order_68 (by decide) ?_
              refine lv_icmp_ne (tgt := 89) hx hb dX9_order_69 (by decide) (fun hc => ?_) (fun hc => ?_)
              · rw [if_neg hc] at hf
                refine lv_iconst (v := (-1)) hx hb dX9_order_89 (by decide) ?_
                exact (wbM_order_90 C hRm) _ _ _ _ _ hf hR hS (lv_sub hl [0] rfl)
              · rw [if_pos hc] at hf
                refine lv_aload_n hx hb dX9_order_72 rfl (lv_at hl 0 rfl) ?_
                refine mr_getR C hR fl_206 (by decide) dX9_order_73 ?_
                refine lv_iload_n hx hb dX9_order_76 rfl (lv_at hl 1 rfl) ?_
                obtain ⟨hi, hf⟩ := ck_some hf
                refine mr_zald C hR (k := 83) rfl hi dX9_order_77 ?_
                refine lv_if_eq (tgt := 85) hx hb dX9_order_78 (by decide) (fun hc => ?_) (fun hc => ?_)
                · rw [if_pos hc] at hf
                  refine lv_iconst (v := 0) hx hb dX9_order_85 (by decide) ?_
                  refine lv_goto (tgt := 90) hx hb dX9_order_86 (by decide) ?_
                  exact (wbM_order_90 C hRm) _ _ _ _ _ hf hR hS (lv_sub hl [0] rfl)
                · rw [if_neg hc] at hf
                  refine lv_iconst (v := 1) hx hb dX9_order_81 (by decide) ?_
                  refine lv_goto (tgt := 90) hx hb dX9_order_82 (by decide) ?_
                  exact (wbM_order_90 C hRm) _ _ _ _ _ hf hR hS (lv_sub hl [0] rfl)
            · rw [if_pos hc] at hf
              refine lv_aload_n hx hb dX9_order_58 rfl (lv_at hl 0 rfl) ?_
              refine mr_getR C hR fl_203 (by decide) dX9_order_59 ?_
              refine lv_iload_n hx hb dX9_order_62 rfl (lv_at hl 1 rfl) ?_
              obtain ⟨hi, hf⟩ := ck_some hf
              refine mr_iald C hR (k := 82) rfl hi dX9_order_63 ?_
              refine lv_goto (tgt := 90) hx hb dX9_order_64 (by decide) ?_
              exact (wbM_order_90 C hRm) _ _ _ _ _ hf hR hS (lv_sub hl [0] rfl)
          · rw [if_pos hc] at hf
            refine lv_aload_n hx hb dX9_order_44 rfl (lv_at hl 0 rfl) ?_
            refine mr_getR C hR fl_200 (by decide) dX9_order_45 ?_
            refine lv_iload_n hx hb dX9_order_48 rfl (lv_at hl 1 rfl) ?_
            obtain ⟨hi, hf⟩ := ck_some hf
            refine mr_iald C hR (k := 81) rfl hi dX9_order_49 ?_
            refine lv_goto (tgt := 90) hx hb dX9_order_50 (by decide) ?_
            exact (wbM_order_90 C hRm) _ _ _ _ _ hf hR hS (lv_sub hl [0] rfl)
        · rw [if_pos hc] at hf
          refine lv_aload_n hx hb dX9_order_30 rfl (lv_at hl 0 rfl) ?_
          refine mr_getR C hR fl_197 (by decide) dX9_order_31 ?_
          refine lv_iload_n hx hb dX9_order_34 rfl (lv_at hl 1 rfl) ?_
          obtain ⟨hi, hf⟩ := ck_some hf
          refine mr_iald C hR (k := 80) rfl hi dX9_order_35 ?_
          refine lv_goto (tgt := 90) hx hb dX9_order_36 (by decide) ?_
          exact (wbM_order_90 C hRm) _ _ _ _ _ hf hR hS (lv_sub hl [0] rfl)
      · rw [if_neg hc] at hf
        exact (wbM_order_24 C hRm) _ _ _ _ hf hR hS (lv_sub hl [0] rfl)
theorem MM_order (l : Launch) (d : Dd) (g : Gm) (N : Nat) (x1 : Int32) (x2 : Int32) (S : Ms) (o : Int32 × Ms) (hf : fM_order N x1 x2 S = some o) : MtI l d g yX9_order cX9_order 3 (some .int) 0 0 [.ref g.1, .int x1, .int x2] S o :=
  mr_metI (by decide) rfl (Nat.le_of_ble_eq_true rfl) (fun p e s m args below meth c ls C hR hl => wfM_order C ⟨Nat.le_refl _, Nat.le_refl _⟩ x1 x2 S s.heap [] ls hf hR va_S.rf hl)
def bM_closed_17 (N : Nat)  (S : Ms) : Option (Int32 × Ms) := some ((-1), S)
set_option maxRecDepth 100000 in
set_option maxHeartbeats 4000000 in
theorem wbM_closed_17 {p : Program} {l : Launch} {e : Env} {R : Room} {s : State} {m : MethodId} {args : Array Value} {below : List Frame} {meth : Method} {c : Code} {d : Dd} {g : Gm} {o : Int32 × Ms} {N : Nat} (C : CM p s m args meth c d g cX9_closed 3 (some .int)) (hRm : 0 ≤ R.frames ∧ 0 ≤ R.locals)  (S : Ms) (H : Heap) (locs : List Loc) (ls : Array Slot) (hf : bM_closed_17 N  S = some o) (hR : RM d g S H) (hS : va_S (AM g) s.heap H locs) (hl : lv_has ls 3 [(0, .ref g.1)]) : W p l e R s m args below meth c H locs 0 0 (MQ below (QI d g o) args s 0 0 (AM g)) (F0 m 17 ls []) := by
  obtain ⟨hx, hb, hml, hown, hts, hK, hg, hr, hlk⟩ := id C
  unfold bM_closed_17 at hf
  refine lv_iconst (v := (-1)) hx hb dX9_closed_17 (by decide) ?_
  exact mr_iret C hR hS hf dX9_closed_18
def bM_closed_47 (N : Nat) (s0 : Int32) (S : Ms) : Option (Int32 × Ms) := some (s0, S)
set_option maxRecDepth 100000 in
set_option maxHeartbeats 4000000 in
theorem wbM_closed_47 {p : Program} {l : Launch} {e : Env} {R : Room} {s : State} {m : MethodId} {args : Array Value} {below : List Frame} {meth : Method} {c : Code} {d : Dd} {g : Gm} {o : Int32 × Ms} {N : Nat} (C : CM p s m args meth c d g cX9_closed 3 (some .int)) (hRm : 0 ≤ R.frames ∧ 0 ≤ R.locals) (s0 : Int32) (S : Ms) (H : Heap) (locs : List Loc) (ls : Array Slot) (hf : bM_closed_47 N s0 S = some o) (hR : RM d g S H) (hS : va_S (AM g) s.heap H locs) (hl : lv_has ls 3 [(0, .ref g.1)]) : W p l e R s m args below meth c H locs 0 0 (MQ below (QI d g o) args s 0 0 (AM g)) (F0 m 47 ls [.int s0]) := by
  obtain ⟨hx, hb, hml, hown, hts, hK, hg, hr, hlk⟩ := id C
  unfold bM_closed_47 at hf
  exact mr_iret C hR hS hf dX9_closed_47
def fM_closed (N : Nat) (x1 : Int32) (x2 : Int32) (S : Ms) : Option (Int32 × Ms) := if x1 < 0 then ((bM_closed_17 N) (pF S 0 0)) else (if x1 < (mF (pF S 0 0) 87) then (if x2 = 0 then (ck x1 24 ((bM_closed_47 N) (mA (pF S 0 0) 85 (x1 : Int32).toNatClampNeg) (pF S 0 0))) else (if x2 = 1 then (ck x1 24 ((bM_closed_47 N) (mA (pF S 0 0) 86 (x1 : Int32).toNatClampNeg) (pF S 0 0))) else ((bM_closed_47 N) (-1) (pF S 0 0)))) else ((bM_closed_17 N) (pF S 0 0)))
set_option maxRecDepth 100000 in
set_option maxHeartbeats 4000000 in
theorem wfM_closed {p : Program} {l : Launch} {e : Env} {R : Room} {s : State} {m : MethodId} {args : Array Value} {below : List Frame} {meth : Method} {c : Code} {d : Dd} {g : Gm} {o : Int32 × Ms} {N : Nat} (C : CM p s m args meth c d g cX9_closed 3 (some .int)) (hRm : 0 ≤ R.frames ∧ 0 ≤ R.locals) (x1 : Int32) (x2 : Int32) (S : Ms) (H : Heap) (locs : List Loc) (ls : Array Slot) (hf : fM_closed N x1 x2 S = some o) (hR : RM d g S H) (hS : va_S (AM g) s.heap H locs) (hl : lv_has ls 3 [(0, .ref g.1), (1, .int x1), (2, .int x2)]) : W p l e R s m args below meth c H locs 0 0 (MQ below (QI d g o) args s 0 0 (AM g)) (F0 m 0 ls []) := by
  obtain ⟨hx, hb, hml, hown, hts, hK, hg, hr, hlk⟩ := id C
  unfold fM_closed at hf
  refine lv_aload_n hx hb dX9_closed_0 rfl (lv_at hl 0 rfl) ?_
  refine lv_iconst (v := 0) hx hb dX9_closed_1 (by decide) ?_
  refine mr_putI C hR hS fl_1 ⟨rfl, rfl, rfl⟩ dX9_closed_2 (fun H locs hR hS => ?_)
  refine lv_iload_n hx hb dX9_closed_5 rfl (lv_at hl 1 rfl) ?_
  refine lv_if_lt (tgt := 17) hx hb dX9_closed_6 (by decide) (fun hc => ?_) (fun hc => ?_)
  · rw [if_pos hc] at hf
    exact (wbM_closed_17 C hRm) _ _ _ _ hf hR hS (lv_sub hl [0] rfl)
  · rw [if_neg hc] at hf
    refine lv_iload_n hx hb dX9_closed_9 rfl (lv_at hl 1 rfl) ?_
    refine lv_aload_n hx hb dX9_closed_10 rfl (lv_at hl 0 rfl) ?_
    refine mr_getI C hR fl_479 rfl dX9_closed_11 ?_
    refine lv_icmp_lt (tgt := 19) hx hb dX9_closed_14 (by decide) (fun hc => ?_) (fun hc => ?_)
    · rw [if_pos hc] at hf
      refine lv_iload_n hx hb dX9_closed_19 rfl (lv_at hl 2 rfl) ?_
      refine lv_if_ne (tgt := 32) hx hb dX9_closed_20 (by decide) (fun hc => ?_) (fun hc => ?_)
      · rw [if_neg hc] at hf
        refine lv_iload_n hx hb dX9_closed_32 rfl (lv_at hl 2 rfl) ?_
        refine lv_iconst (v := 1) hx hb dX9_closed_33 (by decide) ?_
        refine lv_icmp_ne (tgt := 46) hx hb dX9_closed_34 (by decide) (fun hc => ?_) (fun hc => ?_)
        · rw [if_neg hc] at hf
          refine lv_iconst (v := (-1)) hx hb dX9_closed_46 (by decide) ?_
          exact (wbM_closed_47 C hRm) _ _ _ _ _ hf hR hS (lv_sub hl [0] rfl)
        · rw [if_pos hc] at hf
          refine lv_aload_n hx hb dX9_closed_37 rfl (lv_at hl 0 rfl) ?_
          refine mr_getR C hR fl_212 (by decide) dX9_closed_38 ?_
          refine lv_iload_n hx hb dX9_closed_41 rfl (lv_at hl 1 rfl) ?_
          obtain ⟨hi, hf⟩ := ck_some hf
          refine mr_iald C hR (k := 86) rfl hi dX9_closed_42 ?_
          refine lv_goto (tgt := 47) hx hb dX9_closed_43 (by decide) ?_
          exact (wbM_closed_47 C hRm) _ _ _ _ _ hf hR hS (lv_sub hl [0] rfl)
      · rw [if_pos hc] at hf
        refine lv_aload_n hx hb dX9_closed_23 rfl (lv_at hl 0 rfl) ?_
        refine mr_getR C hR fl_209 (by decide) dX9_closed_24 ?_
        refine lv_iload_n hx hb dX9_closed_27 rfl (lv_at hl 1 rfl) ?_
        obtain ⟨hi, hf⟩ := ck_some hf
        refine mr_iald C hR (k := 85) rfl hi dX9_closed_28 ?_
        refine lv_goto (tgt := 47) hx hb dX9_closed_29 (by decide) ?_
        exact (wbM_closed_47 C hRm) _ _ _ _ _ hf hR hS (lv_sub hl [0] rfl)
    · rw [if_neg hc] at hf
      exact (wbM_closed_17 C hRm) _ _ _ _ hf hR hS (lv_sub hl [0] rfl)
theorem MM_closed (l : Launch) (d : Dd) (g : Gm) (N : Nat) (x1 : Int32) (x2 : Int32) (S : Ms) (o : Int32 × Ms) (hf : fM_closed N x1 x2 S = some o) : MtI l d g yX9_closed cX9_closed 3 (some .int) 0 0 [.ref g.1, .int x1, .int x2] S o :=
  mr_metI (by decide) rfl (Nat.le_of_ble_eq_true rfl) (fun p e s m args below meth c ls C hR hl => wfM_closed C ⟨Nat.le_refl _, Nat.le_refl _⟩ x1 x2 S s.heap [] ls hf hR va_S.rf hl)
def bM_device_65 (N : Nat) (s0 : Int32) (S : Ms) : Option (Int32 × Ms) := some (s0, S)
set_option maxRecDepth 100000 in
set_option maxHeartbeats 4000000 in
theorem wbM_device_65 {p : Program} {l : Launch} {e : Env} {R : Room} {s : State} {m : MethodId} {args : Array Value} {below : List Frame} {meth : Method} {c : Code} {d : Dd} {g : Gm} {o : Int32 × Ms} {N : Nat} (C : CM p s m args meth c d g cX9_device 3 (some .int)) (hRm : 0 ≤ R.frames ∧ 0 ≤ R.locals) (s0 : Int32) (S : Ms) (H : Heap) (locs : List Loc) (ls : Array Slot) (hf : bM_device_65 N s0 S = some o) (hR : RM d g S H) (hS : va_S (AM g) s.heap H locs) (hl : lv_has ls 3 [(0, .ref g.1)]) : W p l e R s m args below meth c H locs 0 0 (MQ below (QI d g o) args s 0 0 (AM g)) (F0 m 65 ls [.int s0]) := by
  obtain ⟨hx, hb, hml, hown, hts, hK, hg, hr, hlk⟩ := id C
  unfold bM_device_65 at hf
  exact mr_iret C hR hS hf dX9_device_65
def bM_device_32 (N : Nat) (x1 : Int32) (x2 : Int32) (s1 : Int32) (S : Ms) : Option (Int32 × Ms) := if (mF (pF S 0 s1) 0) ≤ 0 then (if x2 = 0 then (ck x1 24 ((bM_device_65 N) (mA (pF S 0 s1) 61 (x1 : Int32).toNatClampNeg) (pF S 0 s1))) else (ck x1 24 ((bM_device_65 N) (mA (pF S 0 s1) 62 (x1 : Int32).toNatClampNeg) (pF S 0 s1)))) else ((bM_device_65 N) 0 (pF S 0 s1))
set_option maxRecDepth 100000 in
set_option maxHeartbeats 4000000 in
theorem wbM_device_32 {p : Program} {l : Launch} {e : Env} {R : Room} {s : State} {m : MethodId} {args : Array Value} {below : List Frame} {meth : Method} {c : Code} {d : Dd} {g : Gm} {o : Int32 × Ms} {N : Nat} (C : CM p s m args meth c d g cX9_device 3 (some .int)) (hRm : 0 ≤ R.frames ∧ 0 ≤ R.locals) (x1 : Int32) (x2 : Int32) (s1 : Int32) (S : Ms) (H : Heap) (locs : List Loc) (ls : Array Slot) (hf : bM_device_32 N x1 x2 s1 S = some o) (hR : RM d g S H) (hS : va_S (AM g) s.heap H locs) (hl : lv_has ls 3 [(0, .ref g.1), (1, .int x1), (2, .int x2)]) : W p l e R s m args below meth c H locs 0 0 (MQ below (QI d g o) args s 0 0 (AM g)) (F0 m 32 ls [.int s1, .ref g.1]) := by
  obtain ⟨hx, hb, hml, hown, hts, hK, hg, hr, hlk⟩ := id C
  unfold bM_device_32 at hf
  refine mr_putI C hR hS fl_1 ⟨rfl, rfl, rfl⟩ dX9_device_32 (fun H locs hR hS => ?_)
  refine lv_aload_n hx hb dX9_device_35 rfl (lv_at hl 0 rfl) ?_
  refine mr_getI C hR fl_1 rfl dX9_device_36 ?_
  refine lv_if_le (tgt := 46) hx hb dX9_device_39 (by decide) (fun hc => ?_) (fun hc => ?_)
  · rw [if_pos hc] at hf
    refine lv_iload_n hx hb dX9_device_46 rfl (lv_at hl 2 rfl) ?_
    refine lv_if_ne (tgt := 59) hx hb dX9_device_47 (by decide) (fun hc => ?_) (fun hc => ?_)
    · rw [if_neg hc] at hf
      refine lv_aload_n hx hb dX9_device_59 rfl (lv_at hl 0 rfl) ?_
      refine mr_getR C hR fl_170 (by decide) dX9_device_60 ?_
      refine lv_iload_n hx hb dX9_device_63 rfl (lv_at hl 1 rfl) ?_
      obtain ⟨hi, hf⟩ := ck_some hf
      refine mr_iald C hR (k := 62) rfl hi dX9_device_64 ?_
      exact (wbM_device_65 C hRm) _ _ _ _ _ hf hR hS (lv_sub hl [0] rfl)
    · rw [if_pos hc] at hf
      refine lv_aload_n hx hb dX9_device_50 rfl (lv_at hl 0 rfl) ?_
      refine mr_getR C hR fl_167 (by decide) dX9_device_51 ?_
      refine lv_iload_n hx hb dX9_device_54 rfl (lv_at hl 1 rfl) ?_
      obtain ⟨hi, hf⟩ := ck_some hf
      refine mr_iald C hR (k := 61) rfl hi dX9_device_55 ?_
      refine lv_goto (tgt := 65) hx hb dX9_device_56 (by decide) ?_
      exact (wbM_device_65 C hRm) _ _ _ _ _ hf hR hS (lv_sub hl [0] rfl)
  · rw [if_neg hc] at hf
    refine lv_iconst (v := 0) hx hb dX9_device_42 (by decide) ?_
    refine lv_goto (tgt := 65) hx hb dX9_device_43 (by decide) ?_
    exact (wbM_device_65 C hRm) _ _ _ _ _ hf hR hS (lv_sub hl [0] rfl)
def bM_device_27 (N : Nat) (x1 : Int32) (x2 : Int32) (S : Ms) : Option (Int32 × Ms) := (bM_device_32 N) x1 x2 0 S
set_option maxRecDepth 100000 in
set_option maxHeartbeats 4000000 in
theorem wbM_device_27 {p : Program} {l : Launch} {e : Env} {R : Room} {s : State} {m : MethodId} {args : Array Value} {below : List Frame} {meth : Method} {c : Code} {d : Dd} {g : Gm} {o : Int32 × Ms} {N : Nat} (C : CM p s m args meth c d g cX9_device 3 (some .int)) (hRm : 0 ≤ R.frames ∧ 0 ≤ R.locals) (x1 : Int32) (x2 : Int32) (S : Ms) (H : Heap) (locs : List Loc) (ls : Array Slot) (hf : bM_device_27 N x1 x2 S = some o) (hR : RM d g S H) (hS : va_S (AM g) s.heap H locs) (hl : lv_has ls 3 [(0, .ref g.1), (1, .int x1), (2, .int x2)]) : W p l e R s m args below meth c H locs 0 0 (MQ below (QI d g o) args s 0 0 (AM g)) (F0 m 27 ls [.ref g.1]) := by
  obtain ⟨hx, hb, hml, hown, hts, hK, hg, hr, hlk⟩ := id C
  unfold bM_device_27 at hf
  refine lv_iconst (v := 0) hx hb dX9_device_27 (by decide) ?_
  refine lv_goto (tgt := 32) hx hb dX9_device_28 (by decide) ?_
  exact (wbM_device_32 C hRm) _ _ _ _ _ _ _ hf hR hS (lv_sub hl [0, 1, 2] rfl)
def bM_device_31 (N : Nat) (x1 : Int32) (x2 : Int32) (S : Ms) : Option (Int32 × Ms) := (bM_device_32 N) x1 x2 1 S
set_option maxRecDepth 100000 in
set_option maxHeartbeats 4000000 in
theorem wbM_device_31 {p : Program} {l : Launch} {e : Env} {R : Room} {s : State} {m : MethodId} {args : Array Value} {below : List Frame} {meth : Method} {c : Code} {d : Dd} {g : Gm} {o : Int32 × Ms} {N : Nat} (C : CM p s m args meth c d g cX9_device 3 (some .int)) (hRm : 0 ≤ R.frames ∧ 0 ≤ R.locals) (x1 : Int32) (x2 : Int32) (S : Ms) (H : Heap) (locs : List Loc) (ls : Array Slot) (hf : bM_device_31 N x1 x2 S = some o) (hR : RM d g S H) (hS : va_S (AM g) s.heap H locs) (hl : lv_has ls 3 [(0, .ref g.1), (1, .int x1), (2, .int x2)]) : W p l e R s m args below meth c H locs 0 0 (MQ below (QI d g o) args s 0 0 (AM g)) (F0 m 31 ls [.ref g.1]) := by
  obtain ⟨hx, hb, hml, hown, hts, hK, hg, hr, hlk⟩ := id C
  unfold bM_device_31 at hf
  refine lv_iconst (v := 1) hx hb dX9_device_31 (by decide) ?_
  exact (wbM_device_32 C hRm) _ _ _ _ _ _ _ hf hR hS (lv_sub hl [0, 1, 2] rfl)
def fM_device (N : Nat) (x1 : Int32) (x2 : Int32) (S : Ms) : Option (Int32 × Ms) := if x1 < 0 then ((bM_device_31 N) x1 x2 S) else (ck (mF S 11) 2 (if (mA S 13 (mF S 11 : Int32).toNatClampNeg) ≤ x1 then ((bM_device_31 N) x1 x2 S) else (if x2 = 0 then ((bM_device_27 N) x1 x2 S) else (if x2 = 1 then ((bM_device_27 N) x1 x2 S) else ((bM_device_31 N) x1 x2 S)))))
set_option maxRecDepth 100000 in
set_option maxHeartbeats 4000000 in
theorem wfM_device {p : Program} {l : Launch} {e : Env} {R : Room} {s : State} {m : MethodId} {args : Array Value} {below : List Frame} {meth : Method} {c : Code} {d : Dd} {g : Gm} {o : Int32 × Ms} {N : Nat} (C : CM p s m args meth c d g cX9_device 3 (some .int)) (hRm : 0 ≤ R.frames ∧ 0 ≤ R.locals) (x1 : Int32) (x2 : Int32) (S : Ms) (H : Heap) (locs : List Loc) (ls : Array Slot) (hf : fM_device N x1 x2 S = some o) (hR : RM d g S H) (hS : va_S (AM g) s.heap H locs) (hl : lv_has ls 3 [(0, .ref g.1), (1, .int x1), (2, .int x2)]) : W p l e R s m args below meth c H locs 0 0 (MQ below (QI d g o) args s 0 0 (AM g)) (F0 m 0 ls []) := by
  obtain ⟨hx, hb, hml, hown, hts, hK, hg, hr, hlk⟩ := id C
  unfold fM_device at hf
  refine lv_aload_n hx hb dX9_device_0 rfl (lv_at hl 0 rfl) ?_
  refine lv_iload_n hx hb dX9_device_1 rfl (lv_at hl 1 rfl) ?_
  refine lv_if_lt (tgt := 31) hx hb dX9_device_2 (by decide) (fun hc => ?_) (fun hc => ?_)
  · rw [if_pos hc] at hf
    exact (wbM_device_31 C hRm) _ _ _ _ _ _ hf hR hS (lv_sub hl [0, 1, 2] rfl)
  · rw [if_neg hc] at hf
    refine lv_iload_n hx hb dX9_device_5 rfl (lv_at hl 1 rfl) ?_
    refine lv_aload_n hx hb dX9_device_6 rfl (lv_at hl 0 rfl) ?_
    refine mr_getR C hR fl_43 (by decide) dX9_device_7 ?_
    refine lv_aload_n hx hb dX9_device_10 rfl (lv_at hl 0 rfl) ?_
    refine mr_getI C hR fl_307 rfl dX9_device_11 ?_
    obtain ⟨hi, hf⟩ := ck_some hf
    refine mr_iald C hR (k := 13) rfl hi dX9_device_14 ?_
    refine lv_icmp_ge (tgt := 31) hx hb dX9_device_15 (by decide) (fun hc => ?_) (fun hc => ?_)
    · rw [if_pos hc] at hf
      exact (wbM_device_31 C hRm) _ _ _ _ _ _ hf hR hS (lv_sub hl [0, 1, 2] rfl)
    · rw [if_neg hc] at hf
      refine lv_iload_n hx hb dX9_device_18 rfl (lv_at hl 2 rfl) ?_
      refine lv_if_eq (tgt := 27) hx hb dX9_device_19 (by decide) (fun hc => ?_) (fun hc => ?_)
      · rw [if_pos hc] at hf
        exact (wbM_device_27 C hRm) _ _ _ _ _ _ hf hR hS (lv_sub hl [0, 1, 2] rfl)
      · rw [if_neg hc] at hf
        refine lv_iload_n hx hb dX9_device_22 rfl (lv_at hl 2 rfl) ?_
        refine lv_iconst (v := 1) hx hb dX9_device_23 (by decide) ?_
        refine lv_icmp_ne (tgt := 31) hx hb dX9_device_24 (by decide) (fun hc => ?_) (fun hc => ?_)
        · rw [if_neg hc] at hf
          exact (wbM_device_31 C hRm) _ _ _ _ _ _ hf hR hS (lv_sub hl [0, 1, 2] rfl)
        · rw [if_pos hc] at hf
          exact (wbM_device_27 C hRm) _ _ _ _ _ _ hf hR hS (lv_sub hl [0, 1, 2] rfl)
theorem MM_device (l : Launch) (d : Dd) (g : Gm) (N : Nat) (x1 : Int32) (x2 : Int32) (S : Ms) (o : Int32 × Ms) (hf : fM_device N x1 x2 S = some o) : MtI l d g yX9_device cX9_device 3 (some .int) 0 0 [.ref g.1, .int x1, .int x2] S o :=
  mr_metI (by decide) rfl (Nat.le_of_ble_eq_true rfl) (fun p e s m args below meth c ls C hR hl => wfM_device C ⟨Nat.le_refl _, Nat.le_refl _⟩ x1 x2 S s.heap [] ls hf hR va_S.rf hl)
def bM_count_62 (N : Nat) (r12 : Int32 → Int32 → Int32 → Int32 → Ms → Option (Int32 × Ms)) (k70 : Int32 → Int32 → Int32 → Ms → Option (Int32 × Ms)) (x1 : Int32) (x2 : Int32) (x4 : Int32) (s0 : Int32) (s1 : Int32) (S : Ms) : Option (Int32 × Ms) := r12 x1 x2 (s0 + s1) (x4 + 1) S
set_option maxRecDepth 100000 in
set_option maxHeartbeats 4000000 in
theorem wbM_count_62 {p : Program} {l : Launch} {e : Env} {R : Room} {s : State} {m : MethodId} {args : Array Value} {below : List Frame} {meth : Method} {c : Code} {d : Dd} {g : Gm} {o : Int32 × Ms} {N : Nat} {r12 : Int32 → Int32 → Int32 → Int32 → Ms → Option (Int32 × Ms)} {k70 : Int32 → Int32 → Int32 → Ms → Option (Int32 × Ms)} (C : CM p s m args meth c d g cX9_count 5 (some .int)) (hRm : 0 ≤ R.frames ∧ 0 ≤ R.locals) (hr12 : ∀ (x1 : Int32) (x2 : Int32) (x3 : Int32) (x4 : Int32) (S : Ms) (H : Heap) (locs : List Loc) (ls : Array Slot), r12 x1 x2 x3 x4 S = some o → RM d g S H → va_S (AM g) s.heap H locs → lv_has ls 5 [(0, .ref g.1), (1, .int x1), (2, .int x2), (3, .int x3), (4, .int x4)] → W p l e R s m args below meth c H locs 0 0 (MQ below (QI d g o) args s 0 0 (AM g)) (F0 m 12 ls [])) (hk70 : ∀ (x1 : Int32) (x2 : Int32) (x3 : Int32) (S : Ms) (H : Heap) (locs : List Loc) (ls : Array Slot), k70 x1 x2 x3 S = some o → RM d g S H → va_S (AM g) s.heap H locs → lv_has ls 5 [(0, .ref g.1), (1, .int x1), (2, .int x2), (3, .int x3)] → W p l e R s m args below meth c H locs 0 0 (MQ below (QI d g o) args s 0 0 (AM g)) (F0 m 70 ls [])) (x1 : Int32) (x2 : Int32) (x4 : Int32) (s0 : Int32) (s1 : Int32) (S : Ms) (H : Heap) (locs : List Loc) (ls : Array Slot) (hf : bM_count_62 N r12 k70 x1 x2 x4 s0 s1 S = some o) (hR : RM d g S H) (hS : va_S (AM g) s.heap H locs) (hl : lv_has ls 5 [(0, .ref g.1), (1, .int x1), (2, .int x2), (4, .int x4)]) : W p l e R s m args below meth c H locs 0 0 (MQ below (QI d g o) args s 0 0 (AM g)) (F0 m 62 ls [.int s1, .int s0]) := by
  obtain ⟨hx, hb, hml, hown, hts, hK, hg, hr, hlk⟩ := id C
  unfold bM_count_62 at hf
  refine lv_iadd hx hb dX9_count_62 ?_
  refine lv_istore_n (lv' := [(3, .int (s0 + s1)), (0, .ref g.1), (1, .int x1), (2, .int x2), (4, .int x4)]) hx hb dX9_count_63 rfl hl (by decide) rfl (fun ls hl => ?_)
  refine lv_iinc (v := x4 + 1) (lv' := [(4, .int (x4 + 1)), (3, .int (s0 + s1)), (0, .ref g.1), (1, .int x1), (2, .int x2)]) hx hb dX9_count_64 hl (k := 4) rfl rfl (by decide) rfl (fun ls hl => ?_)
  refine lv_goto (tgt := 12) hx hb dX9_count_67 (by decide) ?_
  exact hr12 _ _ _ _ _ _ _ _ hf hR hS (lv_sub hl [2, 3, 4, 1, 0] rfl)
def bM_count_43 (N : Nat) (r12 : Int32 → Int32 → Int32 → Int32 → Ms → Option (Int32 × Ms)) (k70 : Int32 → Int32 → Int32 → Ms → Option (Int32 × Ms)) (x1 : Int32) (x3 : Int32) (x4 : Int32) (s0 : Int32) (s1 : Int32) (S : Ms) : Option (Int32 × Ms) := ck x4 24 (if (mA S 54 (x4 : Int32).toNatClampNeg) = 3 then ((bM_count_62 N r12 k70) x1 (s0 + s1) x4 x3 1 S) else ((bM_count_62 N r12 k70) x1 (s0 + s1) x4 x3 0 S))
set_option maxRecDepth 100000 in
set_option maxHeartbeats 4000000 in
theorem wbM_count_43 {p : Program} {l : Launch} {e : Env} {R : Room} {s : State} {m : MethodId} {args : Array Value} {below : List Frame} {meth : Method} {c : Code} {d : Dd} {g : Gm} {o : Int32 × Ms} {N : Nat} {r12 : Int32 → Int32 → Int32 → Int32 → Ms → Option (Int32 × Ms)} {k70 : Int32 → Int32 → Int32 → Ms → Option (Int32 × Ms)} (C : CM p s m args meth c d g cX9_count 5 (some .int)) (hRm : 0 ≤ R.frames ∧ 0 ≤ R.locals) (hr12 : ∀ (x1 : Int32) (x2 : Int32) (x3 : Int32) (x4 : Int32) (S : Ms) (H : Heap) (locs : List Loc) (ls : Array Slot), r12 x1 x2 x3 x4 S = some o → RM d g S H → va_S (AM g) s.heap H locs → lv_has ls 5 [(0, .ref g.1), (1, .int x1), (2, .int x2), (3, .int x3), (4, .int x4)] → W p l e R s m args below meth c H locs 0 0 (MQ below (QI d g o) args s 0 0 (AM g)) (F0 m 12 ls [])) (hk70 : ∀ (x1 : Int32) (x2 : Int32) (x3 : Int32) (S : Ms) (H : Heap) (locs : List Loc) (ls : Array Slot), k70 x1 x2 x3 S = some o → RM d g S H → va_S (AM g) s.heap H locs → lv_has ls 5 [(0, .ref g.1), (1, .int x1), (2, .int x2), (3, .int x3)] → W p l e R s m args below meth c H locs 0 0 (MQ below (QI d g o) args s 0 0 (AM g)) (F0 m 70 ls [])) (x1 : Int32) (x3 : Int32) (x4 : Int32) (s0 : Int32) (s1 : Int32) (S : Ms) (H : Heap) (locs : List Loc) (ls : Array Slot) (hf : bM_count_43 N r12 k70 x1 x3 x4 s0 s1 S = some o) (hR : RM d g S H) (hS : va_S (AM g) s.heap H locs) (hl : lv_has ls 5 [(0, .ref g.1), (1, .int x1), (3, .int x3), (4, .int x4)]) : W p l e R s m args below meth c H locs 0 0 (MQ below (QI d g o) args s 0 0 (AM g)) (F0 m 43 ls [.int s1, .int s0]) := by
  obtain ⟨hx, hb, hml, hown, hts, hK, hg, hr, hlk⟩ := id C
  unfold bM_count_43 at hf
  refine lv_iadd hx hb dX9_count_43 ?_
  refine lv_istore_n (lv' := [(2, .int (s0 + s1)), (0, .ref g.1), (1, .int x1), (3, .int x3), (4, .int x4)]) hx hb dX9_count_44 rfl hl (by decide) rfl (fun ls hl => ?_)
  refine lv_iload_n hx hb dX9_count_45 rfl (lv_at hl 3 rfl) ?_
  refine lv_aload_n hx hb dX9_count_46 rfl (lv_at hl 1 rfl) ?_
  refine mr_getR C hR fl_146 (by decide) dX9_count_47 ?_
  refine lv_iload hx hb dX9_count_50 (lv_at hl 4 rfl) ?_
  obtain ⟨hi, hf⟩ := ck_some hf
  refine mr_iald C hR (k := 54) rfl hi dX9_count_52 ?_
  refine lv_iconst (v := 3) hx hb dX9_count_53 (by decide) ?_
  refine lv_icmp_ne (tgt := 61) hx hb dX9_count_54 (by decide) (fun hc => ?_) (fun hc => ?_)
  · rw [if_neg hc] at hf
    refine lv_iconst (v := 0) hx hb dX9_count_61 (by decide) ?_
    exact (wbM_count_62 C hRm hr12 hk70) _ _ _ _ _ _ _ _ _ hf hR hS (lv_sub hl [1, 2, 0, 4] rfl)
  · rw [if_pos hc] at hf
    refine lv_iconst (v := 1) hx hb dX9_count_57 (by decide) ?_
    refine lv_goto (tgt := 62) hx hb dX9_count_58 (by decide) ?_
    exact (wbM_count_62 C hRm hr12 hk70) _ _ _ _ _ _ _ _ _ hf hR hS (lv_sub hl [1, 2, 0, 4] rfl)
def lM_count_12 (N : Nat) (k70 : Int32 → Int32 → Int32 → Ms → Option (Int32 × Ms)) : Nat → Int32 → Int32 → Int32 → Int32 → Ms → Option (Int32 × Ms)
  | 0, _, _, _, _, _ => none
  | n + 1, x1, x2, x3, x4, S => ck (mF S 11) 2 (if (mA S 18 (mF S 11 : Int32).toNatClampNeg) ≤ x4 then (k70 x1 x2 x3 S) else (ck x4 24 (if (mA S 54 (x4 : Int32).toNatClampNeg) = 2 then ((bM_count_43 N (lM_count_12 N k70 n) k70) x1 x3 x4 x2 1 S) else ((bM_count_43 N (lM_count_12 N k70 n) k70) x1 x3 x4 x2 0 S))))
set_option maxRecDepth 100000 in
set_option maxHeartbeats 4000000 in
theorem wlM_count_12 {p : Program} {l : Launch} {e : Env} {R : Room} {s : State} {m : MethodId} {args : Array Value} {below : List Frame} {meth : Method} {c : Code} {d : Dd} {g : Gm} {o : Int32 × Ms} {N : Nat} {k70 : Int32 → Int32 → Int32 → Ms → Option (Int32 × Ms)} (C : CM p s m args meth c d g cX9_count 5 (some .int)) (hRm : 0 ≤ R.frames ∧ 0 ≤ R.locals) (hk70 : ∀ (x1 : Int32) (x2 : Int32) (x3 : Int32) (S : Ms) (H : Heap) (locs : List Loc) (ls : Array Slot), k70 x1 x2 x3 S = some o → RM d g S H → va_S (AM g) s.heap H locs → lv_has ls 5 [(0, .ref g.1), (1, .int x1), (2, .int x2), (3, .int x3)] → W p l e R s m args below meth c H locs 0 0 (MQ below (QI d g o) args s 0 0 (AM g)) (F0 m 70 ls [])) : ∀ (n : Nat) (x1 : Int32) (x2 : Int32) (x3 : Int32) (x4 : Int32) (S : Ms) (H : Heap) (locs : List Loc) (ls : Array Slot), lM_count_12 N k70 n x1 x2 x3 x4 S = some o → RM d g S H → va_S (AM g) s.heap H locs → lv_has ls 5 [(0, .ref g.1), (1, .int x1), (2, .int x2), (3, .int x3), (4, .int x4)] → W p l e R s m args below meth c H locs 0 0 (MQ below (QI d g o) args s 0 0 (AM g)) (F0 m 12 ls []) := by
  obtain ⟨hx, hb, hml, hown, hts, hK, hg, hr, hlk⟩ := id C
  intro n
  induction n with
  | zero => intro x1 x2 x3 x4 S H locs ls hf; cases hf
  | succ n ih =>
    intro x1 x2 x3 x4 S H locs ls hf hR hS hl
    rw [lM_count_12] at hf
    refine lv_iload hx hb dX9_count_12 (lv_at hl 4 rfl) ?_
    refine lv_aload_n hx hb dX9_count_14 rfl (lv_at hl 0 rfl) ?_
    refine mr_getR C hR fl_58 (by decide) dX9_count_15 ?_
    refine lv_aload_n hx hb dX9_count_18 rfl (lv_at hl 0 rfl) ?_
    refine mr_getI C hR fl_307 rfl dX9_count_19 ?_
    obtain ⟨hi, hf⟩ := ck_some hf
    refine mr_iald C hR (k := 18) rfl hi dX9_count_22 ?_
    refine lv_icmp_ge (tgt := 70) hx hb dX9_count_23 (by decide) (fun hc => ?_) (fun hc => ?_)
    · rw [if_pos hc] at hf
      exact hk70 _ _ _ _ _ _ _ hf hR hS (lv_sub hl [0, 1, 2, 3] rfl)
    · rw [if_neg hc] at hf
      refine lv_iload_n hx hb dX9_count_26 rfl (lv_at hl 2 rfl) ?_
      refine lv_aload_n hx hb dX9_count_27 rfl (lv_at hl 0 rfl) ?_
      refine mr_getR C hR fl_146 (by decide) dX9_count_28 ?_
      refine lv_iload hx hb dX9_count_31 (lv_at hl 4 rfl) ?_
      obtain ⟨hi, hf⟩ := ck_some hf
      refine mr_iald C hR (k := 54) rfl hi dX9_count_33 ?_
      refine lv_iconst (v := 2) hx hb dX9_count_34 (by decide) ?_
      refine lv_icmp_ne (tgt := 42) hx hb dX9_count_35 (by decide) (fun hc => ?_) (fun hc => ?_)
      · rw [if_neg hc] at hf
        refine lv_iconst (v := 0) hx hb dX9_count_42 (by decide) ?_
        exact (wbM_count_43 C hRm ih hk70) _ _ _ _ _ _ _ _ _ hf hR hS (lv_sub hl [0, 1, 3, 4] rfl)
      · rw [if_pos hc] at hf
        refine lv_iconst (v := 1) hx hb dX9_count_38 (by decide) ?_
        refine lv_goto (tgt := 43) hx hb dX9_count_39 (by decide) ?_
        exact (wbM_count_43 C hRm ih hk70) _ _ _ _ _ _ _ _ _ hf hR hS (lv_sub hl [0, 1, 3, 4] rfl)
def bM_count_216 (N : Nat) (s0 : Int32) (S : Ms) : Option (Int32 × Ms) := some (s0, S)
set_option maxRecDepth 100000 in
set_option maxHeartbeats 4000000 in
theorem wbM_count_216 {p : Program} {l : Launch} {e : Env} {R : Room} {s : State} {m : MethodId} {args : Array Value} {below : List Frame} {meth : Method} {c : Code} {d : Dd} {g : Gm} {o : Int32 × Ms} {N : Nat} (C : CM p s m args meth c d g cX9_count 5 (some .int)) (hRm : 0 ≤ R.frames ∧ 0 ≤ R.locals) (s0 : Int32) (S : Ms) (H : Heap) (locs : List Loc) (ls : Array Slot) (hf : bM_count_216 N s0 S = some o) (hR : RM d g S H) (hS : va_S (AM g) s.heap H locs) (hl : lv_has ls 5 [(0, .ref g.1)]) : W p l e R s m args below meth c H locs 0 0 (MQ below (QI d g o) args s 0 0 (AM g)) (F0 m 216 ls [.int s0]) := by
  obtain ⟨hx, hb, hml, hown, hts, hK, hg, hr, hlk⟩ := id C
  unfold bM_count_216 at hf
  exact mr_iret C hR hS hf dX9_count_216
def bM_count_70 (N : Nat) (x1 : Int32) (x2 : Int32) (x3 : Int32) (S : Ms) : Option (Int32 × Ms) := if x1 = 0 then (ck (mF S 11) 2 (some (mA S 13 (mF S 11 : Int32).toNatClampNeg, S))) else if x1 = 1 then (ck (mF S 11) 2 (some (mA S 18 (mF S 11 : Int32).toNatClampNeg, S))) else if x1 = 2 then (ck (mF S 11) 2 (some (mA S 35 (mF S 11 : Int32).toNatClampNeg, S))) else if x1 = 3 then (some (x2, S)) else if x1 = 4 then (some (x3, S)) else if x1 = 5 then (some (mF S 79, S)) else if x1 = 6 then (some (mF S 84, S)) else if x1 = 7 then (some (mF S 75, S)) else if x1 = 8 then (some (mF S 63, S)) else if x1 = 9 then (some (mF S 65, S)) else if x1 = 10 then (some (mF S 66, S)) else if x1 = 11 then (if (mF S 64) = 0 then ((bM_count_216 N) 0 S) else ((bM_count_216 N) 1 S)) else if x1 = 12 then (some (mF S 71, S)) else if x1 = 13 then (some (mF S 2, S)) else (some ((-1), S))
set_option maxRecDepth 100000 in
set_option maxHeartbeats 4000000 in
theorem wbM_count_70 {p : Program} {l : Launch} {e : Env} {R : Room} {s : State} {m : MethodId} {args : Array Value} {below : List Frame} {meth : Method} {c : Code} {d : Dd} {g : Gm} {o : Int32 × Ms} {N : Nat} (C : CM p s m args meth c d g cX9_count 5 (some .int)) (hRm : 0 ≤ R.frames ∧ 0 ≤ R.locals) (x1 : Int32) (x2 : Int32) (x3 : Int32) (S : Ms) (H : Heap) (locs : List Loc) (ls : Array Slot) (hf : bM_count_70 N x1 x2 x3 S = some o) (hR : RM d g S H) (hS : va_S (AM g) s.heap H locs) (hl : lv_has ls 5 [(0, .ref g.1), (1, .int x1), (2, .int x2), (3, .int x3)]) : W p l e R s m args below meth c H locs 0 0 (MQ below (QI d g o) args s 0 0 (AM g)) (F0 m 70 ls []) := by
  obtain ⟨hx, hb, hml, hown, hts, hK, hg, hr, hlk⟩ := id C
  unfold bM_count_70 at hf
  refine lv_iload_n hx hb dX9_count_70 rfl (lv_at hl 1 rfl) ?_
  by_cases hc0 : x1 = 0
  · rw [if_pos hc0] at hf
    refine lv_tableIn (off := 69) (tgt := 140) hx hb dX9_count_71 (by rw [hc0]; decide) (by rw [hc0]; decide) (by rw [hc0]; decide) (by decide) ?_
    refine lv_aload_n hx hb dX9_count_140 rfl (lv_at hl 0 rfl) ?_
    refine mr_getR C hR fl_43 (by decide) dX9_count_141 ?_
    refine lv_aload_n hx hb dX9_count_144 rfl (lv_at hl 0 rfl) ?_
    refine mr_getI C hR fl_307 rfl dX9_count_145 ?_
    obtain ⟨hi, hf⟩ := ck_some hf
    refine mr_iald C hR (k := 13) rfl hi dX9_count_148 ?_
    exact mr_iret C hR hS hf dX9_count_149
  · rw [if_neg hc0] at hf
    by_cases hc1 : x1 = 1
    · rw [if_pos hc1] at hf
      refine lv_tableIn (off := 79) (tgt := 150) hx hb dX9_count_71 (by rw [hc1]; decide) (by rw [hc1]; decide) (by rw [hc1]; decide) (by decide) ?_
      refine lv_aload_n hx hb dX9_count_150 rfl (lv_at hl 0 rfl) ?_
      refine mr_getR C hR fl_58 (by decide) dX9_count_151 ?_
      refine lv_aload_n hx hb dX9_count_154 rfl (lv_at hl 0 rfl) ?_
      refine mr_getI C hR fl_307 rfl dX9_count_155 ?_
      obtain ⟨hi, hf⟩ := ck_some hf
      refine mr_iald C hR (k := 18) rfl hi dX9_count_158 ?_
      exact mr_iret C hR hS hf dX9_count_159
    · rw [if_neg hc1] at hf
      by_cases hc2 : x1 = 2
      · rw [if_pos hc2] at hf
        refine lv_tableIn (off := 89) (tgt := 160) hx hb dX9_count_71 (by rw [hc2]; decide) (by rw [hc2]; decide) (by rw [hc2]; decide) (by decide) ?_
        refine lv_aload_n hx hb dX9_count_160 rfl (lv_at hl 0 rfl) ?_
        refine mr_getR C hR fl_110 (by decide) dX9_count_161 ?_
        refine lv_aload_n hx hb dX9_count_164 rfl (lv_at hl 0 rfl) ?_
        refine mr_getI C hR fl_307 rfl dX9_count_165 ?_
        obtain ⟨hi, hf⟩ := ck_some hf
        refine mr_iald C hR (k := 35) rfl hi dX9_count_168 ?_
        exact mr_iret C hR hS hf dX9_count_169
      · rw [if_neg hc2] at hf
        by_cases hc3 : x1 = 3
        · rw [if_pos hc3] at hf
          refine lv_tableIn (off := 99) (tgt := 170) hx hb dX9_count_71 (by rw [hc3]; decide) (by rw [hc3]; decide) (by rw [hc3]; decide) (by decide) ?_
          refine lv_iload_n hx hb dX9_count_170 rfl (lv_at hl 2 rfl) ?_
          exact mr_iret C hR hS hf dX9_count_171
        · rw [if_neg hc3] at hf
          by_cases hc4 : x1 = 4
          · rw [if_pos hc4] at hf
            refine lv_tableIn (off := 101) (tgt := 172) hx hb dX9_count_71 (by rw [hc4]; decide) (by rw [hc4]; decide) (by rw [hc4]; decide) (by decide) ?_
            refine lv_iload_n hx hb dX9_count_172 rfl (lv_at hl 3 rfl) ?_
            exact mr_iret C hR hS hf dX9_count_173
          · rw [if_neg hc4] at hf
            by_cases hc5 : x1 = 5
            · rw [if_pos hc5] at hf
              refine lv_tableIn (off := 103) (tgt := 174) hx hb dX9_count_71 (by rw [hc5]; decide) (by rw [hc5]; decide) (by rw [hc5]; decide) (by decide) ?_
              refine lv_aload_n hx hb dX9_count_174 rfl (lv_at hl 0 rfl) ?_
              refine mr_getI C hR fl_473 rfl dX9_count_175 ?_
              exact mr_iret C hR hS hf dX9_count_178
            · rw [if_neg hc5] at hf
              by_cases hc6 : x1 = 6
              · rw [if_pos hc6] at hf
                refine lv_tableIn (off := 108) (tgt := 179) hx hb dX9_count_71 (by rw [hc6]; decide) (by rw [hc6]; decide) (by rw [hc6]; decide) (by decide) ?_
                refine lv_aload_n hx hb dX9_count_179 rfl (lv_at hl 0 rfl) ?_
                refine mr_getI C hR fl_476 rfl dX9_count_180 ?_
                exact mr_iret C hR hS hf dX9_count_183
              · rw [if_neg hc6] at hf
                by_cases hc7 : x1 = 7
                · rw [if_pos hc7] at hf
                  refine lv_tableIn (off := 113) (tgt := 184) hx hb dX9_count_71 (by rw [hc7]; decide) (by rw [hc7]; decide) (by rw [hc7]; decide) (by decide) ?_
                  refine lv_aload_n hx hb dX9_count_184 rfl (lv_at hl 0 rfl) ?_
                  refine mr_getI C hR fl_470 rfl dX9_count_185 ?_
                  exact mr_iret C hR hS hf dX9_count_188
                · rw [if_neg hc7] at hf
                  by_cases hc8 : x1 = 8
                  · rw [if_pos hc8] at hf
                    refine lv_tableIn (off := 118) (tgt := 189) hx hb dX9_count_71 (by rw [hc8]; decide) (by rw [hc8]; decide) (by rw [hc8]; decide) (by decide) ?_
                    refine lv_aload_n hx hb dX9_count_189 rfl (lv_at hl 0 rfl) ?_
                    refine mr_getI C hR fl_457 rfl dX9_count_190 ?_
                    exact mr_iret C hR hS hf dX9_count_193
                  · rw [if_neg hc8] at hf
                    by_cases hc9 : x1 = 9
                    · rw [if_pos hc9] at hf
                      refine lv_tableIn (off := 123) (tgt := 194) hx hb dX9_count_71 (by rw [hc9]; decide) (by rw [hc9]; decide) (by rw [hc9]; decide) (by decide) ?_
                      refine lv_aload_n hx hb dX9_count_194 rfl (lv_at hl 0 rfl) ?_
                      refine mr_getI C hR fl_522 rfl dX9_count_195 ?_
                      exact mr_iret C hR hS hf dX9_count_198
                    · rw [if_neg hc9] at hf
                      by_cases hc10 : x1 = 10
                      · rw [if_pos hc10] at hf
                        refine lv_tableIn (off := 128) (tgt := 199) hx hb dX9_count_71 (by rw [hc10]; decide) (by rw [hc10]; decide) (by rw [hc10]; decide) (by decide) ?_
                        refine lv_aload_n hx hb dX9_count_199 rfl (lv_at hl 0 rfl) ?_
                        refine mr_getI C hR fl_464 rfl dX9_count_200 ?_
                        exact mr_iret C hR hS hf dX9_count_203
                      · rw [if_neg hc10] at hf
                        by_cases hc11 : x1 = 11
                        · rw [if_pos hc11] at hf
                          refine lv_tableIn (off := 133) (tgt := 204) hx hb dX9_count_71 (by rw [hc11]; decide) (by rw [hc11]; decide) (by rw [hc11]; decide) (by decide) ?_
                          refine lv_aload_n hx hb dX9_count_204 rfl (lv_at hl 0 rfl) ?_
                          refine mr_getI C hR fl_460 rfl dX9_count_205 ?_
                          refine lv_if_eq (tgt := 215) hx hb dX9_count_208 (by decide) (fun hc => ?_) (fun hc => ?_)
                          · rw [if_pos hc] at hf
                            refine lv_iconst (v := 0) hx hb dX9_count_215 (by decide) ?_
                            exact (wbM_count_216 C hRm) _ _ _ _ _ hf hR hS (lv_sub hl [0] rfl)
                          · rw [if_neg hc] at hf
                            refine lv_iconst (v := 1) hx hb dX9_count_211 (by decide) ?_
                            refine lv_goto (tgt := 216) hx hb dX9_count_212 (by decide) ?_
                            exact (wbM_count_216 C hRm) _ _ _ _ _ hf hR hS (lv_sub hl [0] rfl)
                        · rw [if_neg hc11] at hf
                          by_cases hc12 : x1 = 12
                          · rw [if_pos hc12] at hf
                            refine lv_tableIn (off := 146) (tgt := 217) hx hb dX9_count_71 (by rw [hc12]; decide) (by rw [hc12]; decide) (by rw [hc12]; decide) (by decide) ?_
                            refine lv_aload_n hx hb dX9_count_217 rfl (lv_at hl 0 rfl) ?_
                            refine mr_getI C hR fl_467 rfl dX9_count_218 ?_
                            exact mr_iret C hR hS hf dX9_count_221
                          · rw [if_neg hc12] at hf
                            by_cases hc13 : x1 = 13
                            · rw [if_pos hc13] at hf
                              refine lv_tableIn (off := 151) (tgt := 222) hx hb dX9_count_71 (by rw [hc13]; decide) (by rw [hc13]; decide) (by rw [hc13]; decide) (by decide) ?_
                              refine lv_aload_n hx hb dX9_count_222 rfl (lv_at hl 0 rfl) ?_
                              refine mr_getI C hR fl_11 rfl dX9_count_223 ?_
                              exact mr_iret C hR hS hf dX9_count_226
                            · rw [if_neg hc13] at hf
                              have hn0 := tsw_ne (k := 0) rfl hc0
                              have hn1 := tsw_ne (k := 1) rfl hc1
                              have hn2 := tsw_ne (k := 2) rfl hc2
                              have hn3 := tsw_ne (k := 3) rfl hc3
                              have hn4 := tsw_ne (k := 4) rfl hc4
                              have hn5 := tsw_ne (k := 5) rfl hc5
                              have hn6 := tsw_ne (k := 6) rfl hc6
                              have hn7 := tsw_ne (k := 7) rfl hc7
                              have hn8 := tsw_ne (k := 8) rfl hc8
                              have hn9 := tsw_ne (k := 9) rfl hc9
                              have hn10 := tsw_ne (k := 10) rfl hc10
                              have hn11 := tsw_ne (k := 11) rfl hc11
                              have hn12 := tsw_ne (k := 12) rfl hc12
                              have hn13 := tsw_ne (k := 13) rfl hc13
                              refine lv_tableOut (tgt := 227) hx hb dX9_count_71 (by omega) (by decide) ?_
                              refine lv_iconst (v := (-1)) hx hb dX9_count_227 (by decide) ?_
                              exact mr_iret C hR hS hf dX9_count_228
def fM_count (N : Nat) (x1 : Int32) (S : Ms) : Option (Int32 × Ms) := (lM_count_12 N (bM_count_70 N) N) x1 0 0 0 (pF S 0 0)
set_option maxRecDepth 100000 in
set_option maxHeartbeats 4000000 in
theorem wfM_count {p : Program} {l : Launch} {e : Env} {R : Room} {s : State} {m : MethodId} {args : Array Value} {below : List Frame} {meth : Method} {c : Code} {d : Dd} {g : Gm} {o : Int32 × Ms} {N : Nat} (C : CM p s m args meth c d g cX9_count 5 (some .int)) (hRm : 0 ≤ R.frames ∧ 0 ≤ R.locals) (x1 : Int32) (S : Ms) (H : Heap) (locs : List Loc) (ls : Array Slot) (hf : fM_count N x1 S = some o) (hR : RM d g S H) (hS : va_S (AM g) s.heap H locs) (hl : lv_has ls 5 [(0, .ref g.1), (1, .int x1)]) : W p l e R s m args below meth c H locs 0 0 (MQ below (QI d g o) args s 0 0 (AM g)) (F0 m 0 ls []) := by
  obtain ⟨hx, hb, hml, hown, hts, hK, hg, hr, hlk⟩ := id C
  unfold fM_count at hf
  refine lv_aload_n hx hb dX9_count_0 rfl (lv_at hl 0 rfl) ?_
  refine lv_iconst (v := 0) hx hb dX9_count_1 (by decide) ?_
  refine mr_putI C hR hS fl_1 ⟨rfl, rfl, rfl⟩ dX9_count_2 (fun H locs hR hS => ?_)
  refine lv_iconst (v := 0) hx hb dX9_count_5 (by decide) ?_
  refine lv_istore_n (lv' := [(2, .int 0), (0, .ref g.1), (1, .int x1)]) hx hb dX9_count_6 rfl hl (by decide) rfl (fun ls hl => ?_)
  refine lv_iconst (v := 0) hx hb dX9_count_7 (by decide) ?_
  refine lv_istore_n (lv' := [(3, .int 0), (2, .int 0), (0, .ref g.1), (1, .int x1)]) hx hb dX9_count_8 rfl hl (by decide) rfl (fun ls hl => ?_)
  refine lv_iconst (v := 0) hx hb dX9_count_9 (by decide) ?_
  refine lv_istore (lv' := [(4, .int 0), (3, .int 0), (2, .int 0), (0, .ref g.1), (1, .int x1)]) hx hb dX9_count_10 hl (by decide) rfl (fun ls hl => ?_)
  exact (wlM_count_12 C hRm (wbM_count_70 C hRm) N) _ _ _ _ _ _ _ _ hf hR hS (lv_sub hl [3, 4, 2, 1, 0] rfl)
theorem MM_count (l : Launch) (d : Dd) (g : Gm) (N : Nat) (x1 : Int32) (S : Ms) (o : Int32 × Ms) (hf : fM_count N x1 S = some o) : MtI l d g yX9_count cX9_count 5 (some .int) 0 0 [.ref g.1, .int x1] S o :=
  mr_metI (by decide) rfl (Nat.le_of_ble_eq_true rfl) (fun p e s m args below meth c ls C hR hl => wfM_count C ⟨Nat.le_refl _, Nat.le_refl _⟩ x1 S s.heap [] ls hf hR va_S.rf hl)
