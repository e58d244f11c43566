def HF (l : Launch) (d : Dd) (g : Gm) (GF : Int32 → Int64 → Ms → Option (Int32 × Ms)) (fr lo : Nat) : Prop := (∀ (x1 : Int32) (x2 : Int64) (S : Ms) (o : Int32 × Ms), GF x1 x2 S = some o → MtI l d g yX9_finds cX9_finds 7 (some .boolean) fr lo [.ref g.1, .int x1, .long x2] S o) ∧ True
def lM_finds_73 (N : Nat) (GF : Int32 → Int64 → Ms → Option (Int32 × Ms)) (k106 : Ms → Option (Int32 × Ms)) (k114 : Int64 → Int32 → Ms → Option (Int32 × Ms)) : Nat → Int64 → Int32 → Int32 → Ms → Option (Int32 × Ms)
  | 0, _, _, _, _ => none
  | n + 1, x2, x4, x6, S => ck x4 48 (if (mA S 23 (x4 : Int32).toNatClampNeg) ≤ x6 then (k114 x2 x4 S) else (ck ((6 * x4) + x6) 288 ((GF (mA S 24 ((6 * x4) + x6 : Int32).toNatClampNeg) x2 S).bind fun o100 => if o100.1 = 0 then (lM_finds_73 N GF k106 k114 n x2 x4 (x6 + 1) o100.2) else (k106 o100.2))))
set_option maxRecDepth 100000 in
set_option maxHeartbeats 4000000 in
theorem wlM_finds_73 {p : Program} {l : Launch} {e : Env} {R : Room} {s : State} {m : MethodId} {args : Array Value} {below : List Frame} {meth : Method} {c : Code} {d : Dd} {g : Gm} {o : Int32 × Ms} {fr lo : Nat} {N : Nat} {GF : Int32 → Int64 → Ms → Option (Int32 × Ms)} {k106 : Ms → Option (Int32 × Ms)} {k114 : Int64 → Int32 → Ms → Option (Int32 × Ms)} (C : CM p s m args meth c d g cX9_finds 7 (some .boolean)) (hRm : (fr + 1) ≤ R.frames ∧ (lo + 60) ≤ R.locals) (hGF : HF l d g GF fr lo) (hB : 1 ≤ fr ∧ 27 ≤ lo) (hk106 : ∀  (S : Ms) (H : Heap) (locs : List Loc) (ls : Array Slot), k106 S = some o → RM d g S H → va_S (AM g) s.heap H locs → lv_has ls 7 [(0, .ref g.1)] → W p l e R s m args below meth c H locs 0 0 (MQ below (QI d g o) args s 0 0 (AM g)) (F0 m 106 ls [])) (hk114 : ∀ (x2 : Int64) (x4 : Int32) (S : Ms) (H : Heap) (locs : List Loc) (ls : Array Slot), k114 x2 x4 S = some o → RM d g S H → va_S (AM g) s.heap H locs → lv_has ls 7 [(0, .ref g.1), (2, .long x2), (4, .int x4)] → W p l e R s m args below meth c H locs 0 0 (MQ below (QI d g o) args s 0 0 (AM g)) (F0 m 114 ls [])) : ∀ (n : Nat) (x2 : Int64) (x4 : Int32) (x6 : Int32) (S : Ms) (H : Heap) (locs : List Loc) (ls : Array Slot), lM_finds_73 N GF k106 k114 n x2 x4 x6 S = some o → RM d g S H → va_S (AM g) s.heap H locs → lv_has ls 7 [(0, .ref g.1), (2, .long x2), (4, .int x4), (6, .int x6)] → W p l e R s m args below meth c H locs 0 0 (MQ below (QI d g o) args s 0 0 (AM g)) (F0 m 73 ls []) := by
  obtain ⟨hx, hb, hml, hown, hts, hK, hg, hr, hlk⟩ := id C
  intro n
  induction n with
  | zero => intro x2 x4 x6 S H locs ls hf; cases hf
  | succ n ih =>
    intro x2 x4 x6 S H locs ls hf hR hS hl
    rw [lM_finds_73] at hf
    refine lv_iload hx hb dX9_finds_73 (lv_at hl 3 rfl) ?_
    refine lv_aload_n hx hb dX9_finds_75 rfl (lv_at hl 0 rfl) ?_
    refine mr_getR C hR fl_74 (by decide) dX9_finds_76 ?_
    refine lv_iload hx hb dX9_finds_79 (lv_at hl 2 rfl) ?_
    obtain ⟨hi, hf⟩ := ck_some hf
    refine mr_iald C hR (k := 23) rfl hi dX9_finds_81 ?_
    refine lv_icmp_ge (tgt := 114) hx hb dX9_finds_82 (by decide) (fun hc => ?_) (fun hc => ?_)
    · rw [if_pos hc] at hf
      exact hk114 _ _ _ _ _ _ hf hR hS (lv_sub hl [0, 1, 2] rfl)
    · rw [if_neg hc] at hf
      refine lv_aload_n hx hb dX9_finds_85 rfl (lv_at hl 0 rfl) ?_
      refine lv_aload_n hx hb dX9_finds_86 rfl (lv_at hl 0 rfl) ?_
      refine mr_getR C hR fl_77 (by decide) dX9_finds_87 ?_
      refine lv_bipush (v := 6) hx hb dX9_finds_90 (by decide) ?_
      refine lv_iload hx hb dX9_finds_92 (lv_at hl 2 rfl) ?_
      refine lv_imul hx hb dX9_finds_94 ?_
      refine lv_iload hx hb dX9_finds_95 (lv_at hl 3 rfl) ?_
      refine lv_iadd hx hb dX9_finds_97 ?_
      obtain ⟨hi, hf⟩ := ck_some hf
      refine mr_iald C hR (k := 24) rfl hi dX9_finds_98 ?_
      refine lv_lload_n hx hb dX9_finds_99 rfl (lv_at hl 1 rfl) ?_
      obtain ⟨o100, ho100, hf⟩ := bnd_some hf
      refine mr_callIv C hR hS (As := [.int (mA S 24 ((6 * x4) + x6 : Int32).toNatClampNeg), .long x2]) (rest := []) (hGF.1 _ _ _ _ ho100) wv_392 ⟨by omega, by omega⟩ rfl rfl (Nat.le_of_ble_eq_true rfl) hl.1 dX9_finds_100 ⟨Nat.zero_le _, Nat.zero_le _⟩ (fun H locs hR hS => ?_)
      refine lv_if_eq (tgt := 108) hx hb dX9_finds_103 (by decide) (fun hc => ?_) (fun hc => ?_)
      · rw [if_pos hc] at hf
        refine lv_iinc (v := x6 + 1) (lv' := [(6, .int (x6 + 1)), (0, .ref g.1), (2, .long x2), (4, .int x4)]) hx hb dX9_finds_108 hl (k := 3) rfl rfl (by decide) rfl (fun ls hl => ?_)
        refine lv_goto (tgt := 73) hx hb dX9_finds_111 (by decide) ?_
        exact ih _ _ _ _ _ _ _ hf hR hS (lv_sub hl [1, 2, 3, 0] rfl)
      · rw [if_neg hc] at hf
        exact hk106 _ _ _ _ hf hR hS (lv_sub hl [0] rfl)
def bM_finds_106 (N : Nat) (GF : Int32 → Int64 → Ms → Option (Int32 × Ms))  (S : Ms) : Option (Int32 × Ms) := gd (is01 1) (some (1, S))
set_option maxRecDepth 100000 in
set_option maxHeartbeats 4000000 in
theorem wbM_finds_106 {p : Program} {l : Launch} {e : Env} {R : Room} {s : State} {m : MethodId} {args : Array Value} {below : List Frame} {meth : Method} {c : Code} {d : Dd} {g : Gm} {o : Int32 × Ms} {fr lo : Nat} {N : Nat} {GF : Int32 → Int64 → Ms → Option (Int32 × Ms)} (C : CM p s m args meth c d g cX9_finds 7 (some .boolean)) (hRm : (fr + 1) ≤ R.frames ∧ (lo + 60) ≤ R.locals) (hGF : HF l d g GF fr lo) (hB : 1 ≤ fr ∧ 27 ≤ lo)  (S : Ms) (H : Heap) (locs : List Loc) (ls : Array Slot) (hf : bM_finds_106 N GF  S = some o) (hR : RM d g S H) (hS : va_S (AM g) s.heap H locs) (hl : lv_has ls 7 [(0, .ref g.1)]) : W p l e R s m args below meth c H locs 0 0 (MQ below (QI d g o) args s 0 0 (AM g)) (F0 m 106 ls []) := by
  obtain ⟨hx, hb, hml, hown, hts, hK, hg, hr, hlk⟩ := id C
  unfold bM_finds_106 at hf
  refine lv_iconst (v := 1) hx hb dX9_finds_106 (by decide) ?_
  obtain ⟨hz, hf⟩ := gd_some hf
  exact mr_zret C hR hS hz hf dX9_finds_107
def bM_finds_144 (N : Nat) (GF : Int32 → Int64 → Ms → Option (Int32 × Ms)) (s0 : Int32) (S : Ms) : Option (Int32 × Ms) := gd (is01 s0) (some (s0, S))
set_option maxRecDepth 100000 in
set_option maxHeartbeats 4000000 in
theorem wbM_finds_144 {p : Program} {l : Launch} {e : Env} {R : Room} {s : State} {m : MethodId} {args : Array Value} {below : List Frame} {meth : Method} {c : Code} {d : Dd} {g : Gm} {o : Int32 × Ms} {fr lo : Nat} {N : Nat} {GF : Int32 → Int64 → Ms → Option (Int32 × Ms)} (C : CM p s m args meth c d g cX9_finds 7 (some .boolean)) (hRm : (fr + 1) ≤ R.frames ∧ (lo + 60) ≤ R.locals) (hGF : HF l d g GF fr lo) (hB : 1 ≤ fr ∧ 27 ≤ lo) (s0 : Int32) (S : Ms) (H : Heap) (locs : List Loc) (ls : Array Slot) (hf : bM_finds_144 N GF s0 S = some o) (hR : RM d g S H) (hS : va_S (AM g) s.heap H locs) (hl : lv_has ls 7 [(0, .ref g.1)]) : W p l e R s m args below meth c H locs 0 0 (MQ below (QI d g o) args s 0 0 (AM g)) (F0 m 144 ls [.int s0]) := by
  obtain ⟨hx, hb, hml, hown, hts, hK, hg, hr, hlk⟩ := id C
  unfold bM_finds_144 at hf
  obtain ⟨hz, hf⟩ := gd_some hf
  exact mr_zret C hR hS hz hf dX9_finds_144
def bM_finds_143 (N : Nat) (GF : Int32 → Int64 → Ms → Option (Int32 × Ms))  (S : Ms) : Option (Int32 × Ms) := (bM_finds_144 N GF) 0 S
set_option maxRecDepth 100000 in
set_option maxHeartbeats 4000000 in
theorem wbM_finds_143 {p : Program} {l : Launch} {e : Env} {R : Room} {s : State} {m : MethodId} {args : Array Value} {below : List Frame} {meth : Method} {c : Code} {d : Dd} {g : Gm} {o : Int32 × Ms} {fr lo : Nat} {N : Nat} {GF : Int32 → Int64 → Ms → Option (Int32 × Ms)} (C : CM p s m args meth c d g cX9_finds 7 (some .boolean)) (hRm : (fr + 1) ≤ R.frames ∧ (lo + 60) ≤ R.locals) (hGF : HF l d g GF fr lo) (hB : 1 ≤ fr ∧ 27 ≤ lo)  (S : Ms) (H : Heap) (locs : List Loc) (ls : Array Slot) (hf : bM_finds_143 N GF  S = some o) (hR : RM d g S H) (hS : va_S (AM g) s.heap H locs) (hl : lv_has ls 7 [(0, .ref g.1)]) : W p l e R s m args below meth c H locs 0 0 (MQ below (QI d g o) args s 0 0 (AM g)) (F0 m 143 ls []) := by
  obtain ⟨hx, hb, hml, hown, hts, hK, hg, hr, hlk⟩ := id C
  unfold bM_finds_143 at hf
  refine lv_iconst (v := 0) hx hb dX9_finds_143 (by decide) ?_
  exact (wbM_finds_144 C hRm hGF hB) _ _ _ _ _ hf hR hS (lv_sub hl [0] rfl)
def bM_finds_114 (N : Nat) (GF : Int32 → Int64 → Ms → Option (Int32 × Ms)) (x2 : Int64) (x4 : Int32) (S : Ms) : Option (Int32 × Ms) := ck x4 48 (if (mA S 22 (x4 : Int32).toNatClampNeg) < 0 then ((bM_finds_143 N GF) S) else (ck x4 48 ((GF (mA S 22 (x4 : Int32).toNatClampNeg) x2 S).bind fun o133 => if o133.1 = 0 then ((bM_finds_143 N GF) o133.2) else ((bM_finds_144 N GF) 1 o133.2))))
set_option maxRecDepth 100000 in
set_option maxHeartbeats 4000000 in
theorem wbM_finds_114 {p : Program} {l : Launch} {e : Env} {R : Room} {s : State} {m : MethodId} {args : Array Value} {below : List Frame} {meth : Method} {c : Code} {d : Dd} {g : Gm} {o : Int32 × Ms} {fr lo : Nat} {N : Nat} {GF : Int32 → Int64 → Ms → Option (Int32 × Ms)} (C : CM p s m args meth c d g cX9_finds 7 (some .boolean)) (hRm : (fr + 1) ≤ R.frames ∧ (lo + 60) ≤ R.locals) (hGF : HF l d g GF fr lo) (hB : 1 ≤ fr ∧ 27 ≤ lo) (x2 : Int64) (x4 : Int32) (S : Ms) (H : Heap) (locs : List Loc) (ls : Array Slot) (hf : bM_finds_114 N GF x2 x4 S = some o) (hR : RM d g S H) (hS : va_S (AM g) s.heap H locs) (hl : lv_has ls 7 [(0, .ref g.1), (2, .long x2), (4, .int x4)]) : W p l e R s m args below meth c H locs 0 0 (MQ below (QI d g o) args s 0 0 (AM g)) (F0 m 114 ls []) := by
  obtain ⟨hx, hb, hml, hown, hts, hK, hg, hr, hlk⟩ := id C
  unfold bM_finds_114 at hf
  refine lv_aload_n hx hb dX9_finds_114 rfl (lv_at hl 0 rfl) ?_
  refine mr_getR C hR fl_71 (by decide) dX9_finds_115 ?_
  refine lv_iload hx hb dX9_finds_118 (lv_at hl 2 rfl) ?_
  obtain ⟨hi, hf⟩ := ck_some hf
  refine mr_iald C hR (k := 22) rfl hi dX9_finds_120 ?_
  refine lv_if_lt (tgt := 143) hx hb dX9_finds_121 (by decide) (fun hc => ?_) (fun hc => ?_)
  · rw [if_pos hc] at hf
    exact (wbM_finds_143 C hRm hGF hB) _ _ _ _ hf hR hS (lv_sub hl [0] rfl)
  · rw [if_neg hc] at hf
    refine lv_aload_n hx hb dX9_finds_124 rfl (lv_at hl 0 rfl) ?_
    refine lv_aload_n hx hb dX9_finds_125 rfl (lv_at hl 0 rfl) ?_
    refine mr_getR C hR fl_71 (by decide) dX9_finds_126 ?_
    refine lv_iload hx hb dX9_finds_129 (lv_at hl 2 rfl) ?_
    obtain ⟨hi, hf⟩ := ck_some hf
    refine mr_iald C hR (k := 22) rfl hi dX9_finds_131 ?_
    refine lv_lload_n hx hb dX9_finds_132 rfl (lv_at hl 1 rfl) ?_
    obtain ⟨o133, ho133, hf⟩ := bnd_some hf
    refine mr_callIv C hR hS (As := [.int (mA S 22 (x4 : Int32).toNatClampNeg), .long x2]) (rest := []) (hGF.1 _ _ _ _ ho133) wv_392 ⟨by omega, by omega⟩ rfl rfl (Nat.le_of_ble_eq_true rfl) hl.1 dX9_finds_133 ⟨Nat.zero_le _, Nat.zero_le _⟩ (fun H locs hR hS => ?_)
    refine lv_if_eq (tgt := 143) hx hb dX9_finds_136 (by decide) (fun hc => ?_) (fun hc => ?_)
    · rw [if_pos hc] at hf
      exact (wbM_finds_143 C hRm hGF hB) _ _ _ _ hf hR hS (lv_sub hl [0] rfl)
    · rw [if_neg hc] at hf
      refine lv_iconst (v := 1) hx hb dX9_finds_139 (by decide) ?_
      refine lv_goto (tgt := 144) hx hb dX9_finds_140 (by decide) ?_
      exact (wbM_finds_144 C hRm hGF hB) _ _ _ _ _ hf hR hS (lv_sub hl [0] rfl)
def fM_finds (N : Nat) (GF : Int32 → Int64 → Ms → Option (Int32 × Ms)) (x1 : Int32) (x2 : Int64) (S : Ms) : Option (Int32 × Ms) := ck x1 24 (if (mA S 53 (x1 : Int32).toNatClampNeg) = 0 then (ck x1 24 (ck ((24 * (mF (pA S 53 (x1 : Int32).toNatClampNeg (vp_nar .boolean 1)) 12)) + x1) 48 ((fM_find N 26 (8 * ((24 * (mF (pA S 53 (x1 : Int32).toNatClampNeg (vp_nar .boolean 1)) 12)) + x1)) (mA (pA S 53 (x1 : Int32).toNatClampNeg (vp_nar .boolean 1)) 25 ((24 * (mF (pA S 53 (x1 : Int32).toNatClampNeg (vp_nar .boolean 1)) 12)) + x1 : Int32).toNatClampNeg) x2 (pA S 53 (x1 : Int32).toNatClampNeg (vp_nar .boolean 1))).bind fun o47 => if o47.1 < 0 then ((lM_finds_73 N GF (bM_finds_106 N GF) (bM_finds_114 N GF) N) x2 ((24 * (mF (pA S 53 (x1 : Int32).toNatClampNeg (vp_nar .boolean 1)) 12)) + x1) 0 o47.2) else (gd (is01 1) (some (1, pF (pF o47.2 51 x1) 52 o47.1)))))) else (gd (is01 0) (some (0, S))))
set_option maxRecDepth 100000 in
set_option maxHeartbeats 4000000 in
theorem wfM_finds {p : Program} {l : Launch} {e : Env} {R : Room} {s : State} {m : MethodId} {args : Array Value} {below : List Frame} {meth : Method} {c : Code} {d : Dd} {g : Gm} {o : Int32 × Ms} {fr lo : Nat} {N : Nat} {GF : Int32 → Int64 → Ms → Option (Int32 × Ms)} (C : CM p s m args meth c d g cX9_finds 7 (some .boolean)) (hRm : (fr + 1) ≤ R.frames ∧ (lo + 60) ≤ R.locals) (hGF : HF l d g GF fr lo) (hB : 1 ≤ fr ∧ 27 ≤ lo) (x1 : Int32) (x2 : Int64) (S : Ms) (H : Heap) (locs : List Loc) (ls : Array Slot) (hf : fM_finds N GF x1 x2 S = some o) (hR : RM d g S H) (hS : va_S (AM g) s.heap H locs) (hl : lv_has ls 7 [(0, .ref g.1), (1, .int x1), (2, .long x2)]) : W p l e R s m args below meth c H locs 0 0 (MQ below (QI d g o) args s 0 0 (AM g)) (F0 m 0 ls []) := by
  obtain ⟨hx, hb, hml, hown, hts, hK, hg, hr, hlk⟩ := id C
  unfold fM_finds at hf
  refine lv_aload_n hx hb dX9_finds_0 rfl (lv_at hl 0 rfl) ?_
  refine mr_getR C hR fl_143 (by decide) dX9_finds_1 ?_
  refine lv_iload_n hx hb dX9_finds_4 rfl (lv_at hl 1 rfl) ?_
  obtain ⟨hi, hf⟩ := ck_some hf
  refine mr_zald C hR (k := 53) rfl hi dX9_finds_5 ?_
  refine lv_if_eq (tgt := 11) hx hb dX9_finds_6 (by decide) (fun hc => ?_) (fun hc => ?_)
  · rw [if_pos hc] at hf
    refine lv_aload_n hx hb dX9_finds_11 rfl (lv_at hl 0 rfl) ?_
    refine mr_getR C hR fl_143 (by decide) dX9_finds_12 ?_
    refine lv_iload_n hx hb dX9_finds_15 rfl (lv_at hl 1 rfl) ?_
    refine lv_iconst (v := 1) hx hb dX9_finds_16 (by decide) ?_
    obtain ⟨hi, hf⟩ := ck_some hf
    refine mr_zast C hR hS (k := 53) rfl hi dX9_finds_17 (fun H locs hR hS => ?_)
    refine lv_bipush (v := 24) hx hb dX9_finds_18 (by decide) ?_
    refine lv_aload_n hx hb dX9_finds_20 rfl (lv_at hl 0 rfl) ?_
    refine mr_getI C hR fl_297 rfl dX9_finds_21 ?_
    refine lv_imul hx hb dX9_finds_24 ?_
    refine lv_iload_n hx hb dX9_finds_25 rfl (lv_at hl 1 rfl) ?_
    refine lv_iadd hx hb dX9_finds_26 ?_
    refine lv_istore (lv' := [(4, .int ((24 * (mF (pA S 53 (x1 : Int32).toNatClampNeg (vp_nar .boolean 1)) 12)) + x1)), (0, .ref g.1), (1, .int x1), (2, .long x2)]) hx hb dX9_finds_27 hl (by decide) rfl (fun ls hl => ?_)
    refine lv_aload_n hx hb dX9_finds_29 rfl (lv_at hl 1 rfl) ?_
    refine lv_aload_n hx hb dX9_finds_30 rfl (lv_at hl 1 rfl) ?_
    refine mr_getR C hR fl_83 (by decide) dX9_finds_31 ?_
    refine lv_bipush (v := 8) hx hb dX9_finds_34 (by decide) ?_
    refine lv_iload hx hb dX9_finds_36 (lv_at hl 0 rfl) ?_
    refine lv_imul hx hb dX9_finds_38 ?_
    refine lv_aload_n hx hb dX9_finds_39 rfl (lv_at hl 1 rfl) ?_
    refine mr_getR C hR fl_80 (by decide) dX9_finds_40 ?_
    refine lv_iload hx hb dX9_finds_43 (lv_at hl 0 rfl) ?_
    obtain ⟨hi, hf⟩ := ck_some hf
    refine mr_iald C hR (k := 25) rfl hi dX9_finds_45 ?_
    refine lv_lload_n hx hb dX9_finds_46 rfl (lv_at hl 3 rfl) ?_
    obtain ⟨o47, ho47, hf⟩ := bnd_some hf
    refine mr_callIv C hR hS (As := [.ref (g.2 26), .int (8 * ((24 * (mF (pA S 53 (x1 : Int32).toNatClampNeg (vp_nar .boolean 1)) 12)) + x1)), .int (mA (pA S 53 (x1 : Int32).toNatClampNeg (vp_nar .boolean 1)) 25 ((24 * (mF (pA S 53 (x1 : Int32).toNatClampNeg (vp_nar .boolean 1)) 12)) + x1 : Int32).toNatClampNeg), .long x2]) (rest := []) (MM_find l d g N 26 (8 * ((24 * (mF (pA S 53 (x1 : Int32).toNatClampNeg (vp_nar .boolean 1)) 12)) + x1)) (mA (pA S 53 (x1 : Int32).toNatClampNeg (vp_nar .boolean 1)) 25 ((24 * (mF (pA S 53 (x1 : Int32).toNatClampNeg (vp_nar .boolean 1)) 12)) + x1 : Int32).toNatClampNeg) x2 (pA S 53 (x1 : Int32).toNatClampNeg (vp_nar .boolean 1)) o47 ho47) wv_300 ⟨by omega, by omega⟩ rfl rfl (Nat.le_of_ble_eq_true rfl) hl.1 dX9_finds_47 ⟨Nat.zero_le _, Nat.zero_le _⟩ (fun H locs hR hS => ?_)
    refine lv_istore (lv' := [(5, .int o47.1), (4, .int ((24 * (mF (pA S 53 (x1 : Int32).toNatClampNeg (vp_nar .boolean 1)) 12)) + x1)), (0, .ref g.1), (1, .int x1), (2, .long x2)]) hx hb dX9_finds_50 hl (by decide) rfl (fun ls hl => ?_)
    refine lv_iload hx hb dX9_finds_52 (lv_at hl 0 rfl) ?_
    refine lv_if_lt (tgt := 70) hx hb dX9_finds_54 (by decide) (fun hc => ?_) (fun hc => ?_)
    · rw [if_pos hc] at hf
      refine lv_iconst (v := 0) hx hb dX9_finds_70 (by decide) ?_
      refine lv_istore (lv' := [(6, .int 0), (5, .int o47.1), (4, .int ((24 * (mF (pA S 53 (x1 : Int32).toNatClampNeg (vp_nar .boolean 1)) 12)) + x1)), (0, .ref g.1), (1, .int x1), (2, .long x2)]) hx hb dX9_finds_71 hl (by decide) rfl (fun ls hl => ?_)
      exact (wlM_finds_73 C hRm hGF hB (wbM_finds_106 C hRm hGF hB) (wbM_finds_114 C hRm hGF hB) N) _ _ _ _ _ _ _ hf hR hS (lv_sub hl [3, 5, 2, 0] rfl)
    · rw [if_neg hc] at hf
      refine lv_aload_n hx hb dX9_finds_57 rfl (lv_at hl 2 rfl) ?_
      refine lv_iload_n hx hb dX9_finds_58 rfl (lv_at hl 3 rfl) ?_
      refine mr_putI C hR hS fl_396 ⟨rfl, rfl, rfl⟩ dX9_finds_59 (fun H locs hR hS => ?_)
      refine lv_aload_n hx hb dX9_finds_62 rfl (lv_at hl 2 rfl) ?_
      refine lv_iload hx hb dX9_finds_63 (lv_at hl 0 rfl) ?_
      refine mr_putI C hR hS fl_399 ⟨rfl, rfl, rfl⟩ dX9_finds_65 (fun H locs hR hS => ?_)
      refine lv_iconst (v := 1) hx hb dX9_finds_68 (by decide) ?_
      obtain ⟨hz, hf⟩ := gd_some hf
      exact mr_zret C hR hS hz hf dX9_finds_69
  · rw [if_neg hc] at hf
    refine lv_iconst (v := 0) hx hb dX9_finds_9 (by decide) ?_
    obtain ⟨hz, hf⟩ := gd_some hf
    exact mr_zret C hR hS hz hf dX9_finds_10
def gF (N : Nat) : Nat → Int32 → Int64 → Ms → Option (Int32 × Ms)
  | 0, _, _, _ => none
  | k + 1, x1, x2, S => fM_finds N (gF N k) x1 x2 S
theorem hgF (l : Launch) (d : Dd) (g : Gm) (N : Nat) : ∀ k : Nat, HF l d g (gF N k) (1 + k) (27 + 60 * k) := by
  intro k
  induction k with
  | zero => exact ⟨(fun x1 x2 S o h => nomatch (show none = some o from h)), trivial⟩
  | succ k ih => exact ⟨fun x1 x2 S o h => mr_metI (by decide) rfl (Nat.le_of_ble_eq_true rfl) (fun p e s m args below meth c ls C hR hl => wfM_finds C ⟨Nat.le_refl _, Nat.le_refl _⟩ ih ⟨Nat.le_add_right _ _, Nat.le_add_right _ _⟩ x1 x2 S s.heap [] ls h hR va_S.rf hl), trivial⟩
def fG_finds (N : Nat) (x1 : Int32) (x2 : Int64) (S : Ms) : Option (Int32 × Ms) := gF N 26 x1 x2 S
theorem MG_finds (l : Launch) (d : Dd) (g : Gm) (N : Nat) (x1 : Int32) (x2 : Int64) (S : Ms) (o : Int32 × Ms) (hf : fG_finds N x1 x2 S = some o) : MtI l d g yX9_finds cX9_finds 7 (some .boolean) 27 1587 [.ref g.1, .int x1, .long x2] S o := (hgF l d g N 26).1 x1 x2 S o hf
def lM_looks_3 (N : Nat) (k24 : Int32 → Int64 → Ms → Option (Int32 × Ms)) : Nat → Int32 → Int64 → Int32 → Ms → Option (Int32 × Ms)
  | 0, _, _, _, _ => none
  | n + 1, x1, x2, x4, S => if 24 ≤ x4 then (k24 x1 x2 S) else (ck x4 24 (lM_looks_3 N k24 n x1 x2 (x4 + 1) (pA S 53 (x4 : Int32).toNatClampNeg (vp_nar .boolean 0))))
set_option maxRecDepth 100000 in
set_option maxHeartbeats 4000000 in
theorem wlM_looks_3 {p : Program} {l : Launch} {e : Env} {R : Room} {s : State} {m : MethodId} {args : Array Value} {below : List Frame} {meth : Method} {c : Code} {d : Dd} {g : Gm} {o : Int32 × Ms} {N : Nat} {k24 : Int32 → Int64 → Ms → Option (Int32 × Ms)} (C : CM p s m args meth c d g cX9_looks 5 (some .boolean)) (hRm : 28 ≤ R.frames ∧ 1613 ≤ R.locals) (hk24 : ∀ (x1 : Int32) (x2 : Int64) (S : Ms) (H : Heap) (locs : List Loc) (ls : Array Slot), k24 x1 x2 S = some o → RM d g S H → va_S (AM g) s.heap H locs → lv_has ls 5 [(0, .ref g.1), (1, .int x1), (2, .long x2)] → W p l e R s m args below meth c H locs 0 0 (MQ below (QI d g o) args s 0 0 (AM g)) (F0 m 24 ls [])) : ∀ (n : Nat) (x1 : Int32) (x2 : Int64) (x4 : Int32) (S : Ms) (H : Heap) (locs : List Loc) (ls : Array Slot), lM_looks_3 N k24 n x1 x2 x4 S = some o → RM d g S H → va_S (AM g) s.heap H locs → lv_has ls 5 [(0, .ref g.1), (1, .int x1), (2, .long x2), (4, .int x4)] → W p l e R s m args below meth c H locs 0 0 (MQ below (QI d g o) args s 0 0 (AM g)) (F0 m 3 ls []) := by
  obtain ⟨hx, hb, hml, hown, hts, hK, hg, hr, hlk⟩ := id C
  intro n
  induction n with
  | zero => intro x1 x2 x4 S H locs ls hf; cases hf
  | succ n ih =>
    intro x1 x2 x4 S H locs ls hf hR hS hl
    rw [lM_looks_3] at hf
    refine lv_iload hx hb dX9_looks_3 (lv_at hl 3 rfl) ?_
    refine lv_bipush (v := 24) hx hb dX9_looks_5 (by decide) ?_
    refine lv_icmp_ge (tgt := 24) hx hb dX9_looks_7 (by decide) (fun hc => ?_) (fun hc => ?_)
    · rw [if_pos hc] at hf
      exact hk24 _ _ _ _ _ _ hf hR hS (lv_sub hl [0, 1, 2] rfl)
    · rw [if_neg hc] at hf
      refine lv_aload_n hx hb dX9_looks_10 rfl (lv_at hl 0 rfl) ?_
      refine mr_getR C hR fl_143 (by decide) dX9_looks_11 ?_
      refine lv_iload hx hb dX9_looks_14 (lv_at hl 3 rfl) ?_
      refine lv_iconst (v := 0) hx hb dX9_looks_16 (by decide) ?_
      obtain ⟨hi, hf⟩ := ck_some hf
      refine mr_zast C hR hS (k := 53) rfl hi dX9_looks_17 (fun H locs hR hS => ?_)
      refine lv_iinc (v := x4 + 1) (lv' := [(4, .int (x4 + 1)), (0, .ref g.1), (1, .int x1), (2, .long x2)]) hx hb dX9_looks_18 hl (k := 3) rfl rfl (by decide) rfl (fun ls hl => ?_)
      refine lv_goto (tgt := 3) hx hb dX9_looks_21 (by decide) ?_
      exact ih _ _ _ _ _ _ _ hf hR hS (lv_sub hl [1, 2, 3, 0] rfl)
def bM_looks_24 (N : Nat) (x1 : Int32) (x2 : Int64) (S : Ms) : Option (Int32 × Ms) := (fG_finds N x1 x2 S).bind fun o27 => gd (is01 o27.1) (some (o27.1, o27.2))
set_option maxRecDepth 100000 in
set_option maxHeartbeats 4000000 in
theorem wbM_looks_24 {p : Program} {l : Launch} {e : Env} {R : Room} {s : State} {m : MethodId} {args : Array Value} {below : List Frame} {meth : Method} {c : Code} {d : Dd} {g : Gm} {o : Int32 × Ms} {N : Nat} (C : CM p s m args meth c d g cX9_looks 5 (some .boolean)) (hRm : 28 ≤ R.frames ∧ 1613 ≤ R.locals) (x1 : Int32) (x2 : Int64) (S : Ms) (H : Heap) (locs : List Loc) (ls : Array Slot) (hf : bM_looks_24 N x1 x2 S = some o) (hR : RM d g S H) (hS : va_S (AM g) s.heap H locs) (hl : lv_has ls 5 [(0, .ref g.1), (1, .int x1), (2, .long x2)]) : W p l e R s m args below meth c H locs 0 0 (MQ below (QI d g o) args s 0 0 (AM g)) (F0 m 24 ls []) := by
  obtain ⟨hx, hb, hml, hown, hts, hK, hg, hr, hlk⟩ := id C
  unfold bM_looks_24 at hf
  refine lv_aload_n hx hb dX9_looks_24 rfl (lv_at hl 0 rfl) ?_
  refine lv_iload_n hx hb dX9_looks_25 rfl (lv_at hl 1 rfl) ?_
  refine lv_lload_n hx hb dX9_looks_26 rfl (lv_at hl 2 rfl) ?_
  obtain ⟨o27, ho27, hf⟩ := bnd_some hf
  refine mr_callIv C hR hS (As := [.int x1, .long x2]) (rest := []) (MG_finds l d g N x1 x2 S o27 ho27) wv_392 ⟨by omega, by omega⟩ rfl rfl (Nat.le_of_ble_eq_true rfl) hl.1 dX9_looks_27 ⟨Nat.zero_le _, Nat.zero_le _⟩ (fun H locs hR hS => ?_)
  obtain ⟨hz, hf⟩ := gd_some hf
  exact mr_zret C hR hS hz hf dX9_looks_30
def fM_looks (N : Nat) (x1 : Int32) (x2 : Int64) (S : Ms) : Option (Int32 × Ms) := (lM_looks_3 N (bM_looks_24 N) N) x1 x2 0 S
set_option maxRecDepth 100000 in
set_option maxHeartbeats 4000000 in
theorem wfM_looks {p : Program} {l : Launch} {e : Env} {R : Room} {s : State} {m : MethodId} {args : Array Value} {below : List Frame} {meth : Method} {c : Code} {d : Dd} {g : Gm} {o : Int32 × Ms} {N : Nat} (C : CM p s m args meth c d g cX9_looks 5 (some .boolean)) (hRm : 28 ≤ R.frames ∧ 1613 ≤ R.locals) (x1 : Int32) (x2 : Int64) (S : Ms) (H : Heap) (locs : List Loc) (ls : Array Slot) (hf : fM_looks N x1 x2 S = some o) (hR : RM d g S H) (hS : va_S (AM g) s.heap H locs) (hl : lv_has ls 5 [(0, .ref g.1), (1, .int x1), (2, .long x2)]) : W p l e R s m args below meth c H locs 0 0 (MQ below (QI d g o) args s 0 0 (AM g)) (F0 m 0 ls []) := by
  obtain ⟨hx, hb, hml, hown, hts, hK, hg, hr, hlk⟩ := id C
  unfold fM_looks at hf
  refine lv_iconst (v := 0) hx hb dX9_looks_0 (by decide) ?_
  refine lv_istore (lv' := [(4, .int 0), (0, .ref g.1), (1, .int x1), (2, .long x2)]) hx hb dX9_looks_1 hl (by decide) rfl (fun ls hl => ?_)
  exact (wlM_looks_3 C hRm (wbM_looks_24 C hRm) N) _ _ _ _ _ _ _ hf hR hS (lv_sub hl [1, 2, 3, 0] rfl)
theorem MM_looks (l : Launch) (d : Dd) (g : Gm) (N : Nat) (x1 : Int32) (x2 : Int64) (S : Ms) (o : Int32 × Ms) (hf : fM_looks N x1 x2 S = some o) : MtI l d g yX9_looks cX9_looks 5 (some .boolean) 28 1613 [.ref g.1, .int x1, .long x2] S o :=
  mr_metI (by decide) rfl (Nat.le_of_ble_eq_true rfl) (fun p e s m args below meth c ls C hR hl => wfM_looks C ⟨Nat.le_refl _, Nat.le_refl _⟩ x1 x2 S s.heap [] ls hf hR va_S.rf hl)
def bM_place_62 (N : Nat) (x1 : Int32) (s1 : Int32) (s2 : Int32) (S : Ms) : Option (Ms) := ck s1 20000 (ck x1 20000 (ck x1 20000 (some (pA (pA (pA S 39 (s1 : Int32).toNatClampNeg s2) 40 (x1 : Int32).toNatClampNeg (mF (pA S 39 (s1 : Int32).toNatClampNeg s2) 51)) 41 (x1 : Int32).toNatClampNeg (mF (pA (pA S 39 (s1 : Int32).toNatClampNeg s2) 40 (x1 : Int32).toNatClampNeg (mF (pA S 39 (s1 : Int32).toNatClampNeg s2) 51)) 52)))))
set_option maxRecDepth 100000 in
set_option maxHeartbeats 4000000 in
theorem wbM_place_62 {p : Program} {l : Launch} {e : Env} {R : Room} {s : State} {m : MethodId} {args : Array Value} {below : List Frame} {meth : Method} {c : Code} {d : Dd} {g : Gm} {o : Ms} {N : Nat} (C : CM p s m args meth c d g cX9_place 4 none) (hRm : 1 ≤ R.frames ∧ 21 ≤ R.locals) (x1 : Int32) (s1 : Int32) (s2 : Int32) (S : Ms) (H : Heap) (locs : List Loc) (ls : Array Slot) (hf : bM_place_62 N x1 s1 s2 S = some o) (hR : RM d g S H) (hS : va_S (AM g) s.heap H locs) (hl : lv_has ls 4 [(0, .ref g.1), (1, .int x1)]) : W p l e R s m args below meth c H locs 0 0 (MQ below (QV d g o) args s 0 0 (AM g)) (F0 m 62 ls [.int s2, .int s1, .ref (g.2 39)]) := by
  obtain ⟨hx, hb, hml, hown, hts, hK, hg, hr, hlk⟩ := id C
  unfold bM_place_62 at hf
  obtain ⟨hi, hf⟩ := ck_some hf
  refine mr_iast C hR hS (k := 39) rfl hi dX9_place_62 (fun H locs hR hS => ?_)
  refine lv_aload_n hx hb dX9_place_63 rfl (lv_at hl 0 rfl) ?_
  refine mr_getR C hR fl_122 (by decide) dX9_place_64 ?_
  refine lv_iload_n hx hb dX9_place_67 rfl (lv_at hl 1 rfl) ?_
  refine lv_aload_n hx hb dX9_place_68 rfl (lv_at hl 0 rfl) ?_
  refine mr_getI C hR fl_396 rfl dX9_place_69 ?_
  obtain ⟨hi, hf⟩ := ck_some hf
  refine mr_iast C hR hS (k := 40) rfl hi dX9_place_72 (fun H locs hR hS => ?_)
  refine lv_aload_n hx hb dX9_place_73 rfl (lv_at hl 0 rfl) ?_
  refine mr_getR C hR fl_125 (by decide) dX9_place_74 ?_
  refine lv_iload_n hx hb dX9_place_77 rfl (lv_at hl 1 rfl) ?_
  refine lv_aload_n hx hb dX9_place_78 rfl (lv_at hl 0 rfl) ?_
  refine mr_getI C hR fl_399 rfl dX9_place_79 ?_
  obtain ⟨hi, hf⟩ := ck_some hf
  refine mr_iast C hR hS (k := 41) rfl hi dX9_place_82 (fun H locs hR hS => ?_)
  exact mr_vret C hR hS hf dX9_place_83
def bM_place_40 (N : Nat) (x1 : Int32) (x2 : Int32) (x3 : Int32) (S : Ms) : Option (Ms) := if x2 = 0 then (if x3 = 0 then ((bM_place_62 N) x1 x1 4 S) else ((bM_place_62 N) x1 x1 3 S)) else ((bM_place_62 N) x1 x1 5 S)
set_option maxRecDepth 100000 in
set_option maxHeartbeats 4000000 in
theorem wbM_place_40 {p : Program} {l : Launch} {e : Env} {R : Room} {s : State} {m : MethodId} {args : Array Value} {below : List Frame} {meth : Method} {c : Code} {d : Dd} {g : Gm} {o : Ms} {N : Nat} (C : CM p s m args meth c d g cX9_place 4 none) (hRm : 1 ≤ R.frames ∧ 21 ≤ R.locals) (x1 : Int32) (x2 : Int32) (x3 : Int32) (S : Ms) (H : Heap) (locs : List Loc) (ls : Array Slot) (hf : bM_place_40 N x1 x2 x3 S = some o) (hR : RM d g S H) (hS : va_S (AM g) s.heap H locs) (hl : lv_has ls 4 [(0, .ref g.1), (1, .int x1), (2, .int x2), (3, .int x3)]) : W p l e R s m args below meth c H locs 0 0 (MQ below (QV d g o) args s 0 0 (AM g)) (F0 m 40 ls []) := by
  obtain ⟨hx, hb, hml, hown, hts, hK, hg, hr, hlk⟩ := id C
  unfold bM_place_40 at hf
  refine lv_aload_n hx hb dX9_place_40 rfl (lv_at hl 0 rfl) ?_
  refine mr_getR C hR fl_119 (by decide) dX9_place_41 ?_
  refine lv_iload_n hx hb dX9_place_44 rfl (lv_at hl 1 rfl) ?_
  refine lv_iload_n hx hb dX9_place_45 rfl (lv_at hl 2 rfl) ?_
  refine lv_if_eq (tgt := 53) hx hb dX9_place_46 (by decide) (fun hc => ?_) (fun hc => ?_)
  · rw [if_pos hc] at hf
    refine lv_iload_n hx hb dX9_place_53 rfl (lv_at hl 3 rfl) ?_
    refine lv_if_eq (tgt := 61) hx hb dX9_place_54 (by decide) (fun hc => ?_) (fun hc => ?_)
    · rw [if_pos hc] at hf
      refine lv_iconst (v := 4) hx hb dX9_place_61 (by decide) ?_
      exact (wbM_place_62 C hRm) _ _ _ _ _ _ _ hf hR hS (lv_sub hl [0, 1] rfl)
    · rw [if_neg hc] at hf
      refine lv_iconst (v := 3) hx hb dX9_place_57 (by decide) ?_
      refine lv_goto (tgt := 62) hx hb dX9_place_58 (by decide) ?_
      exact (wbM_place_62 C hRm) _ _ _ _ _ _ _ hf hR hS (lv_sub hl [0, 1] rfl)
  · rw [if_neg hc] at hf
    refine lv_iconst (v := 5) hx hb dX9_place_49 (by decide) ?_
    refine lv_goto (tgt := 62) hx hb dX9_place_50 (by decide) ?_
    exact (wbM_place_62 C hRm) _ _ _ _ _ _ _ hf hR hS (lv_sub hl [0, 1] rfl)
def fM_place (N : Nat) (x1 : Int32) (x2 : Int32) (S : Ms) : Option (Ms) := ck ((8 * ((24 * (mF S 12)) + (mF S 51))) + (mF S 52)) 384 (if x2 = 0 then ((bM_place_40 N) x1 x2 (mA S 27 ((8 * ((24 * (mF S 12)) + (mF S 51))) + (mF S 52) : Int32).toNatClampNeg) S) else (if (mA S 27 ((8 * ((24 * (mF S 12)) + (mF S 51))) + (mF S 52) : Int32).toNatClampNeg) = 0 then ((bM_place_40 N) x1 x2 (mA S 27 ((8 * ((24 * (mF S 12)) + (mF S 51))) + (mF S 52) : Int32).toNatClampNeg) S) else ((fM_wrong N 6 S).bind fun o37 => (bM_place_40 N) x1 x2 (mA S 27 ((8 * ((24 * (mF S 12)) + (mF S 51))) + (mF S 52) : Int32).toNatClampNeg) o37)))
set_option maxRecDepth 100000 in
set_option maxHeartbeats 4000000 in
theorem wfM_place {p : Program} {l : Launch} {e : Env} {R : Room} {s : State} {m : MethodId} {args : Array Value} {below : List Frame} {meth : Method} {c : Code} {d : Dd} {g : Gm} {o : Ms} {N : Nat} (C : CM p s m args meth c d g cX9_place 4 none) (hRm : 1 ≤ R.frames ∧ 21 ≤ R.locals) (x1 : Int32) (x2 : Int32) (S : Ms) (H : Heap) (locs : List Loc) (ls : Array Slot) (hf : fM_place N x1 x2 S = some o) (hR : RM d g S H) (hS : va_S (AM g) s.heap H locs) (hl : lv_has ls 4 [(0, .ref g.1), (1, .int x1), (2, .int x2)]) : W p l e R s m args below meth c H locs 0 0 (MQ below (QV d g o) args s 0 0 (AM g)) (F0 m 0 ls []) := by
  obtain ⟨hx, hb, hml, hown, hts, hK, hg, hr, hlk⟩ := id C
  unfold fM_place at hf
  refine lv_aload_n hx hb dX9_place_0 rfl (lv_at hl 0 rfl) ?_
  refine mr_getR C hR fl_86 (by decide) dX9_place_1 ?_
  refine lv_bipush (v := 8) hx hb dX9_place_4 (by decide) ?_
  refine lv_bipush (v := 24) hx hb dX9_place_6 (by decide) ?_
  refine lv_aload_n hx hb dX9_place_8 rfl (lv_at hl 0 rfl) ?_
  refine mr_getI C hR fl_297 rfl dX9_place_9 ?_
  refine lv_imul hx hb dX9_place_12 ?_
  refine lv_aload_n hx hb dX9_place_13 rfl (lv_at hl 0 rfl) ?_
  refine mr_getI C hR fl_396 rfl dX9_place_14 ?_
  refine lv_iadd hx hb dX9_place_17 ?_
  refine lv_imul hx hb dX9_place_18 ?_
  refine lv_aload_n hx hb dX9_place_19 rfl (lv_at hl 0 rfl) ?_
  refine mr_getI C hR fl_399 rfl dX9_place_20 ?_
  refine lv_iadd hx hb dX9_place_23 ?_
  obtain ⟨hi, hf⟩ := ck_some hf
  refine mr_zald C hR (k := 27) rfl hi dX9_place_24 ?_
  refine lv_istore_n (lv' := [(3, .int (mA S 27 ((8 * ((24 * (mF S 12)) + (mF S 51))) + (mF S 52) : Int32).toNatClampNeg)), (0, .ref g.1), (1, .int x1), (2, .int x2)]) hx hb dX9_place_25 rfl hl (by decide) rfl (fun ls hl => ?_)
  refine lv_iload_n hx hb dX9_place_26 rfl (lv_at hl 3 rfl) ?_
  refine lv_if_eq (tgt := 40) hx hb dX9_place_27 (by decide) (fun hc => ?_) (fun hc => ?_)
  · rw [if_pos hc] at hf
    exact (wbM_place_40 C hRm) _ _ _ _ _ _ _ hf hR hS (lv_sub hl [1, 2, 3, 0] rfl)
  · rw [if_neg hc] at hf
    refine lv_iload_n hx hb dX9_place_30 rfl (lv_at hl 0 rfl) ?_
    refine lv_if_eq (tgt := 40) hx hb dX9_place_31 (by decide) (fun hc => ?_) (fun hc => ?_)
    · rw [if_pos hc] at hf
      exact (wbM_place_40 C hRm) _ _ _ _ _ _ _ hf hR hS (lv_sub hl [1, 2, 3, 0] rfl)
    · rw [if_neg hc] at hf
      refine lv_aload_n hx hb dX9_place_34 rfl (lv_at hl 1 rfl) ?_
      refine lv_bipush (v := 6) hx hb dX9_place_35 (by decide) ?_
      obtain ⟨o37, ho37, hf⟩ := bnd_some hf
      refine mr_callVv C hR hS (As := [.int 6]) (rest := []) (MM_wrong l d g N 6 S o37 ho37) wv_287 ⟨by omega, by omega⟩ rfl rfl (Nat.le_of_ble_eq_true rfl) hl.1 dX9_place_37 ⟨Nat.zero_le _, Nat.zero_le _⟩ (fun H locs hR hS => ?_)
      exact (wbM_place_40 C hRm) _ _ _ _ _ _ _ hf hR hS (lv_sub hl [1, 2, 3, 0] rfl)
theorem MM_place (l : Launch) (d : Dd) (g : Gm) (N : Nat) (x1 : Int32) (x2 : Int32) (S : Ms) (o : Ms) (hf : fM_place N x1 x2 S = some o) : MtV l d g yX9_place cX9_place 4 1 21 [.ref g.1, .int x1, .int x2] S o :=
  mr_metV (by decide) rfl (Nat.le_of_ble_eq_true rfl) (fun p e s m args below meth c ls C hR hl => wfM_place C ⟨Nat.le_refl _, Nat.le_refl _⟩ x1 x2 S s.heap [] ls hf hR va_S.rf hl)
def bM_late_70 (N : Nat) (x1 : Int32) (x2 : Int32) (S : Ms) : Option (Ms) := ck x1 2000 (ck x1 2000 (if 0 ≤ (mA S 44 (x1 : Int32).toNatClampNeg) then (ck x1 2000 (ck x1 2000 (ck (mA (pF S 7 (mA S 44 (x1 : Int32).toNatClampNeg)) 44 (x1 : Int32).toNatClampNeg) 4002 ((fM_looks N x2 (mL (pF S 7 (mA S 44 (x1 : Int32).toNatClampNeg)) 6 (mA (pF S 7 (mA S 44 (x1 : Int32).toNatClampNeg)) 44 (x1 : Int32).toNatClampNeg : Int32).toNatClampNeg) (pF S 7 (mA S 44 (x1 : Int32).toNatClampNeg))).bind fun o122 => if o122.1 = 0 then ((fM_wrong N 2 o122.2).bind fun o130 => some o130) else (ck x1 2000 ((fM_place N ((mF S 42) + (mA S 45 (x1 : Int32).toNatClampNeg)) (mA o122.2 46 (x1 : Int32).toNatClampNeg) o122.2).bind fun o142 => some o142)))))) else (ck ((mF S 42) + (mA S 45 (x1 : Int32).toNatClampNeg)) 20000 (some (pA S 40 ((mF S 42) + (mA S 45 (x1 : Int32).toNatClampNeg) : Int32).toNatClampNeg x2)))))
set_option maxRecDepth 100000 in
set_option maxHeartbeats 4000000 in
theorem wbM_late_70 {p : Program} {l : Launch} {e : Env} {R : Room} {s : State} {m : MethodId} {args : Array Value} {below : List Frame} {meth : Method} {c : Code} {d : Dd} {g : Gm} {o : Ms} {N : Nat} (C : CM p s m args meth c d g cX9_late 4 none) (hRm : 29 ≤ R.frames ∧ 1637 ≤ R.locals) (x1 : Int32) (x2 : Int32) (S : Ms) (H : Heap) (locs : List Loc) (ls : Array Slot) (hf : bM_late_70 N x1 x2 S = some o) (hR : RM d g S H) (hS : va_S (AM g) s.heap H locs) (hl : lv_has ls 4 [(0, .ref g.1), (1, .int x1), (2, .int x2)]) : W p l e R s m args below meth c H locs 0 0 (MQ below (QV d g o) args s 0 0 (AM g)) (F0 m 70 ls []) := by
  obtain ⟨hx, hb, hml, hown, hts, hK, hg, hr, hlk⟩ := id C
  unfold bM_late_70 at hf
  refine lv_aload_n hx hb dX9_late_70 rfl (lv_at hl 0 rfl) ?_
  refine mr_getI C hR fl_313 rfl dX9_late_71 ?_
  refine lv_aload_n hx hb dX9_late_74 rfl (lv_at hl 0 rfl) ?_
  refine mr_getR C hR fl_134 (by decide) dX9_late_75 ?_
  refine lv_iload_n hx hb dX9_late_78 rfl (lv_at hl 1 rfl) ?_
  obtain ⟨hi, hf⟩ := ck_some hf
  refine mr_iald C hR (k := 45) rfl hi dX9_late_79 ?_
  refine lv_iadd hx hb dX9_late_80 ?_
  refine lv_istore_n (lv' := [(3, .int ((mF S 42) + (mA S 45 (x1 : Int32).toNatClampNeg))), (0, .ref g.1), (1, .int x1), (2, .int x2)]) hx hb dX9_late_81 rfl hl (by decide) rfl (fun ls hl => ?_)
  refine lv_aload_n hx hb dX9_late_82 rfl (lv_at hl 1 rfl) ?_
  refine mr_getR C hR fl_131 (by decide) dX9_late_83 ?_
  refine lv_iload_n hx hb dX9_late_86 rfl (lv_at hl 2 rfl) ?_
  obtain ⟨hi, hf⟩ := ck_some hf
  refine mr_iald C hR (k := 44) rfl hi dX9_late_87 ?_
  refine lv_if_ge (tgt := 99) hx hb dX9_late_88 (by decide) (fun hc => ?_) (fun hc => ?_)
  · rw [if_pos hc] at hf
    refine lv_aload_n hx hb dX9_late_99 rfl (lv_at hl 1 rfl) ?_
    refine lv_aload_n hx hb dX9_late_100 rfl (lv_at hl 1 rfl) ?_
    refine mr_getR C hR fl_131 (by decide) dX9_late_101 ?_
    refine lv_iload_n hx hb dX9_late_104 rfl (lv_at hl 2 rfl) ?_
    obtain ⟨hi, hf⟩ := ck_some hf
    refine mr_iald C hR (k := 44) rfl hi dX9_late_105 ?_
    refine mr_putI C hR hS fl_278 ⟨rfl, rfl, rfl⟩ dX9_late_106 (fun H locs hR hS => ?_)
    refine lv_aload_n hx hb dX9_late_109 rfl (lv_at hl 1 rfl) ?_
    refine lv_iload_n hx hb dX9_late_110 rfl (lv_at hl 3 rfl) ?_
    refine lv_aload_n hx hb dX9_late_111 rfl (lv_at hl 1 rfl) ?_
    refine mr_getR C hR fl_30 (by decide) dX9_late_112 ?_
    refine lv_aload_n hx hb dX9_late_115 rfl (lv_at hl 1 rfl) ?_
    refine mr_getR C hR fl_131 (by decide) dX9_late_116 ?_
    refine lv_iload_n hx hb dX9_late_119 rfl (lv_at hl 2 rfl) ?_
    obtain ⟨hi, hf⟩ := ck_some hf
    refine mr_iald C hR (k := 44) rfl hi dX9_late_120 ?_
    obtain ⟨hi, hf⟩ := ck_some hf
    refine mr_lald C hR (k := 6) rfl hi dX9_late_121 ?_
    obtain ⟨o122, ho122, hf⟩ := bnd_some hf
    refine mr_callIv C hR hS (As := [.int x2, .long (mL (pF S 7 (mA S 44 (x1 : Int32).toNatClampNeg)) 6 (mA (pF S 7 (mA S 44 (x1 : Int32).toNatClampNeg)) 44 (x1 : Int32).toNatClampNeg : Int32).toNatClampNeg)]) (rest := []) (MM_looks l d g N x2 (mL (pF S 7 (mA S 44 (x1 : Int32).toNatClampNeg)) 6 (mA (pF S 7 (mA S 44 (x1 : Int32).toNatClampNeg)) 44 (x1 : Int32).toNatClampNeg : Int32).toNatClampNeg) (pF S 7 (mA S 44 (x1 : Int32).toNatClampNeg)) o122 ho122) wv_402 ⟨by omega, by omega⟩ rfl rfl (Nat.le_of_ble_eq_true rfl) hl.1 dX9_late_122 ⟨Nat.zero_le _, Nat.zero_le _⟩ (fun H locs hR hS => ?_)
    refine lv_if_ne (tgt := 134) hx hb dX9_late_125 (by decide) (fun hc => ?_) (fun hc => ?_)
    · rw [if_neg hc] at hf
      refine lv_aload_n hx hb dX9_late_134 rfl (lv_at hl 1 rfl) ?_
      refine lv_iload_n hx hb dX9_late_135 rfl (lv_at hl 0 rfl) ?_
      refine lv_aload_n hx hb dX9_late_136 rfl (lv_at hl 1 rfl) ?_
      refine mr_getR C hR fl_137 (by decide) dX9_late_137 ?_
      refine lv_iload_n hx hb dX9_late_140 rfl (lv_at hl 2 rfl) ?_
      obtain ⟨hi, hf⟩ := ck_some hf
      refine mr_zald C hR (k := 46) rfl hi dX9_late_141 ?_
      obtain ⟨o142, ho142, hf⟩ := bnd_some hf
      refine mr_callVv C hR hS (As := [.int ((mF S 42) + (mA S 45 (x1 : Int32).toNatClampNeg)), .int (mA o122.2 46 (x1 : Int32).toNatClampNeg)]) (rest := []) (MM_place l d g N ((mF S 42) + (mA S 45 (x1 : Int32).toNatClampNeg)) (mA o122.2 46 (x1 : Int32).toNatClampNeg) o122.2 o142 ho142) wv_405 ⟨by omega, by omega⟩ rfl rfl (Nat.le_of_ble_eq_true rfl) hl.1 dX9_late_142 ⟨Nat.zero_le _, Nat.zero_le _⟩ (fun H locs hR hS => ?_)
      exact mr_vret C hR hS hf dX9_late_145
    · rw [if_pos hc] at hf
      refine lv_aload_n hx hb dX9_late_128 rfl (lv_at hl 1 rfl) ?_
      refine lv_iconst (v := 2) hx hb dX9_late_129 (by decide) ?_
      obtain ⟨o130, ho130, hf⟩ := bnd_some hf
      refine mr_callVv C hR hS (As := [.int 2]) (rest := []) (MM_wrong l d g N 2 o122.2 o130 ho130) wv_287 ⟨by omega, by omega⟩ rfl rfl (Nat.le_of_ble_eq_true rfl) hl.1 dX9_late_130 ⟨Nat.zero_le _, Nat.zero_le _⟩ (fun H locs hR hS => ?_)
      exact mr_vret C hR hS hf dX9_late_133
  · rw [if_neg hc] at hf
    refine lv_aload_n hx hb dX9_late_91 rfl (lv_at hl 1 rfl) ?_
    refine mr_getR C hR fl_122 (by decide) dX9_late_92 ?_
    refine lv_iload_n hx hb dX9_late_95 rfl (lv_at hl 0 rfl) ?_
    refine lv_iload_n hx hb dX9_late_96 rfl (lv_at hl 3 rfl) ?_
    obtain ⟨hi, hf⟩ := ck_some hf
    refine mr_iast C hR hS (k := 40) rfl hi dX9_late_97 (fun H locs hR hS => ?_)
    exact mr_vret C hR hS hf dX9_late_98
def fM_late (N : Nat) (x1 : Int32) (S : Ms) : Option (Ms) := ck x1 2000 (ck (mA S 43 (x1 : Int32).toNatClampNeg) 4002 ((fM_findUnit N (mL S 6 (mA S 43 (x1 : Int32).toNatClampNeg : Int32).toNatClampNeg) S).bind fun o12 => if 0 ≤ o12.1 then (ck x1 2000 (if (mA o12.2 47 (x1 : Int32).toNatClampNeg) < 0 then ((bM_late_70 N) x1 o12.1 o12.2) else (ck x1 2000 (ck ((24 * ((24 * (mF o12.2 12)) + (mA o12.2 47 (x1 : Int32).toNatClampNeg))) + o12.1) 1152 ((bM_late_70 N) x1 o12.1 (pA o12.2 34 ((24 * ((24 * (mF o12.2 12)) + (mA o12.2 47 (x1 : Int32).toNatClampNeg))) + o12.1 : Int32).toNatClampNeg (vp_nar .boolean 1))))))) else (ck x1 2000 ((fM_wrong N 2 (pF o12.2 7 (mA o12.2 43 (x1 : Int32).toNatClampNeg))).bind fun o32 => some o32))))
set_option maxRecDepth 100000 in
set_option maxHeartbeats 4000000 in
theorem wfM_late {p : Program} {l : Launch} {e : Env} {R : Room} {s : State} {m : MethodId} {args : Array Value} {below : List Frame} {meth : Method} {c : Code} {d : Dd} {g : Gm} {o : Ms} {N : Nat} (C : CM p s m args meth c d g cX9_late 4 none) (hRm : 29 ≤ R.frames ∧ 1637 ≤ R.locals) (x1 : Int32) (S : Ms) (H : Heap) (locs : List Loc) (ls : Array Slot) (hf : fM_late N x1 S = some o) (hR : RM d g S H) (hS : va_S (AM g) s.heap H locs) (hl : lv_has ls 4 [(0, .ref g.1), (1, .int x1)]) : W p l e R s m args below meth c H locs 0 0 (MQ below (QV d g o) args s 0 0 (AM g)) (F0 m 0 ls []) := by
  obtain ⟨hx, hb, hml, hown, hts, hK, hg, hr, hlk⟩ := id C
  unfold fM_late at hf
  refine lv_aload_n hx hb dX9_late_0 rfl (lv_at hl 0 rfl) ?_
  refine lv_aload_n hx hb dX9_late_1 rfl (lv_at hl 0 rfl) ?_
  refine mr_getR C hR fl_30 (by decide) dX9_late_2 ?_
  refine lv_aload_n hx hb dX9_late_5 rfl (lv_at hl 0 rfl) ?_
  refine mr_getR C hR fl_128 (by decide) dX9_late_6 ?_
  refine lv_iload_n hx hb dX9_late_9 rfl (lv_at hl 1 rfl) ?_
  obtain ⟨hi, hf⟩ := ck_some hf
  refine mr_iald C hR (k := 43) rfl hi dX9_late_10 ?_
  obtain ⟨hi, hf⟩ := ck_some hf
  refine mr_lald C hR (k := 6) rfl hi dX9_late_11 ?_
  obtain ⟨o12, ho12, hf⟩ := bnd_some hf
  refine mr_callIv C hR hS (As := [.long (mL S 6 (mA S 43 (x1 : Int32).toNatClampNeg : Int32).toNatClampNeg)]) (rest := []) (MM_findUnit l d g N (mL S 6 (mA S 43 (x1 : Int32).toNatClampNeg : Int32).toNatClampNeg) S o12 ho12) wv_341 ⟨by omega, by omega⟩ rfl rfl (Nat.le_of_ble_eq_true rfl) hl.1 dX9_late_12 ⟨Nat.zero_le _, Nat.zero_le _⟩ (fun H locs hR hS => ?_)
  refine lv_istore_n (lv' := [(2, .int o12.1), (0, .ref g.1), (1, .int x1)]) hx hb dX9_late_15 rfl hl (by decide) rfl (fun ls hl => ?_)
  refine lv_iload_n hx hb dX9_late_16 rfl (lv_at hl 0 rfl) ?_
  refine lv_if_ge (tgt := 36) hx hb dX9_late_17 (by decide) (fun hc => ?_) (fun hc => ?_)
  · rw [if_pos hc] at hf
    refine lv_aload_n hx hb dX9_late_36 rfl (lv_at hl 1 rfl) ?_
    refine mr_getR C hR fl_140 (by decide) dX9_late_37 ?_
    refine lv_iload_n hx hb dX9_late_40 rfl (lv_at hl 2 rfl) ?_
    obtain ⟨hi, hf⟩ := ck_some hf
    refine mr_iald C hR (k := 47) rfl hi dX9_late_41 ?_
    refine lv_if_lt (tgt := 70) hx hb dX9_late_42 (by decide) (fun hc => ?_) (fun hc => ?_)
    · rw [if_pos hc] at hf
      exact (wbM_late_70 C hRm) _ _ _ _ _ _ hf hR hS (lv_sub hl [1, 2, 0] rfl)
    · rw [if_neg hc] at hf
      refine lv_aload_n hx hb dX9_late_45 rfl (lv_at hl 1 rfl) ?_
      refine mr_getR C hR fl_107 (by decide) dX9_late_46 ?_
      refine lv_bipush (v := 24) hx hb dX9_late_49 (by decide) ?_
      refine lv_bipush (v := 24) hx hb dX9_late_51 (by decide) ?_
      refine lv_aload_n hx hb dX9_late_53 rfl (lv_at hl 1 rfl) ?_
      refine mr_getI C hR fl_297 rfl dX9_late_54 ?_
      refine lv_imul hx hb dX9_late_57 ?_
      refine lv_aload_n hx hb dX9_late_58 rfl (lv_at hl 1 rfl) ?_
      refine mr_getR C hR fl_140 (by decide) dX9_late_59 ?_
      refine lv_iload_n hx hb dX9_late_62 rfl (lv_at hl 2 rfl) ?_
      obtain ⟨hi, hf⟩ := ck_some hf
      refine mr_iald C hR (k := 47) rfl hi dX9_late_63 ?_
      refine lv_iadd hx hb dX9_late_64 ?_
      refine lv_imul hx hb dX9_late_65 ?_
      refine lv_iload_n hx hb dX9_late_66 rfl (lv_at hl 0 rfl) ?_
      refine lv_iadd hx hb dX9_late_67 ?_
      refine lv_iconst (v := 1) hx hb dX9_late_68 (by decide) ?_
      obtain ⟨hi, hf⟩ := ck_some hf
      refine mr_zast C hR hS (k := 34) rfl hi dX9_late_69 (fun H locs hR hS => ?_)
      exact (wbM_late_70 C hRm) _ _ _ _ _ _ hf hR hS (lv_sub hl [1, 2, 0] rfl)
  · rw [if_neg hc] at hf
    refine lv_aload_n hx hb dX9_late_20 rfl (lv_at hl 1 rfl) ?_
    refine lv_aload_n hx hb dX9_late_21 rfl (lv_at hl 1 rfl) ?_
    refine mr_getR C hR fl_128 (by decide) dX9_late_22 ?_
    refine lv_iload_n hx hb dX9_late_25 rfl (lv_at hl 2 rfl) ?_
    obtain ⟨hi, hf⟩ := ck_some hf
    refine mr_iald C hR (k := 43) rfl hi dX9_late_26 ?_
    refine mr_putI C hR hS fl_278 ⟨rfl, rfl, rfl⟩ dX9_late_27 (fun H locs hR hS => ?_)
    refine lv_aload_n hx hb dX9_late_30 rfl (lv_at hl 1 rfl) ?_
    refine lv_iconst (v := 2) hx hb dX9_late_31 (by decide) ?_
    obtain ⟨o32, ho32, hf⟩ := bnd_some hf
    refine mr_callVv C hR hS (As := [.int 2]) (rest := []) (MM_wrong l d g N 2 (pF o12.2 7 (mA o12.2 43 (x1 : Int32).toNatClampNeg)) o32 ho32) wv_287 ⟨by omega, by omega⟩ rfl rfl (Nat.le_of_ble_eq_true rfl) hl.1 dX9_late_32 ⟨Nat.zero_le _, Nat.zero_le _⟩ (fun H locs hR hS => ?_)
    exact mr_vret C hR hS hf dX9_late_35
theorem MM_late (l : Launch) (d : Dd) (g : Gm) (N : Nat) (x1 : Int32) (S : Ms) (o : Ms) (hf : fM_late N x1 S = some o) : MtV l d g yX9_late cX9_late 4 29 1637 [.ref g.1, .int x1] S o :=
  mr_metV (by decide) rfl (Nat.le_of_ble_eq_true rfl) (fun p e s m args below meth c ls C hR hl => wfM_late C ⟨Nat.le_refl _, Nat.le_refl _⟩ x1 S s.heap [] ls hf hR va_S.rf hl)
def bM_leanOn_97 (N : Nat) (r18 : Int32 → Int32 → Int32 → Ms → Option (Ms)) (k104 : Int32 → Int32 → Ms → Option (Ms)) (x1 : Int32) (x2 : Int32) (x3 : Int32) (s1 : Int32) (s2 : Int32) (S : Ms) : Option (Ms) := ck s1 1152 (r18 x1 x2 (x3 + 1) (pA S 34 (s1 : Int32).toNatClampNeg (vp_nar .boolean s2)))
set_option maxRecDepth 100000 in
set_option maxHeartbeats 4000000 in
theorem wbM_leanOn_97 {p : Program} {l : Launch} {e : Env} {R : Room} {s : State} {m : MethodId} {args : Array Value} {below : List Frame} {meth : Method} {c : Code} {d : Dd} {g : Gm} {o : Ms} {N : Nat} {r18 : Int32 → Int32 → Int32 → Ms → Option (Ms)} {k104 : Int32 → Int32 → Ms → Option (Ms)} (C : CM p s m args meth c d g cX9_leanOn 5 none) (hRm : 0 ≤ R.frames ∧ 0 ≤ R.locals) (hr18 : ∀ (x1 : Int32) (x2 : Int32) (x3 : Int32) (S : Ms) (H : Heap) (locs : List Loc) (ls : Array Slot), r18 x1 x2 x3 S = some o → RM d g S H → va_S (AM g) s.heap H locs → lv_has ls 5 [(0, .ref g.1), (1, .int x1), (2, .int x2), (3, .int x3)] → W p l e R s m args below meth c H locs 0 0 (MQ below (QV d g o) args s 0 0 (AM g)) (F0 m 18 ls [])) (hk104 : ∀ (x1 : Int32) (x2 : Int32) (S : Ms) (H : Heap) (locs : List Loc) (ls : Array Slot), k104 x1 x2 S = some o → RM d g S H → va_S (AM g) s.heap H locs → lv_has ls 5 [(0, .ref g.1), (1, .int x1), (2, .int x2)] → W p l e R s m args below meth c H locs 0 0 (MQ below (QV d g o) args s 0 0 (AM g)) (F0 m 104 ls [])) (x1 : Int32) (x2 : Int32) (x3 : Int32) (s1 : Int32) (s2 : Int32) (S : Ms) (H : Heap) (locs : List Loc) (ls : Array Slot) (hf : bM_leanOn_97 N r18 k104 x1 x2 x3 s1 s2 S = some o) (hR : RM d g S H) (hS : va_S (AM g) s.heap H locs) (hl : lv_has ls 5 [(0, .ref g.1), (1, .int x1), (2, .int x2), (3, .int x3)]) : W p l e R s m args below meth c H locs 0 0 (MQ below (QV d g o) args s 0 0 (AM g)) (F0 m 97 ls [.int s2, .int s1, .ref (g.2 34)]) := by
  obtain ⟨hx, hb, hml, hown, hts, hK, hg, hr, hlk⟩ := id C
  unfold bM_leanOn_97 at hf
  obtain ⟨hi, hf⟩ := ck_some hf
  refine mr_zast C hR hS (k := 34) rfl hi dX9_leanOn_97 (fun H locs hR hS => ?_)
  refine lv_iinc (v := x3 + 1) (lv' := [(3, .int (x3 + 1)), (0, .ref g.1), (1, .int x1), (2, .int x2)]) hx hb dX9_leanOn_98 hl (k := 3) rfl rfl (by decide) rfl (fun ls hl => ?_)
  refine lv_goto (tgt := 18) hx hb dX9_leanOn_101 (by decide) ?_
  exact hr18 _ _ _ _ _ _ _ hf hR hS (lv_sub hl [1, 2, 3, 0] rfl)
def bM_leanOn_92 (N : Nat) (r18 : Int32 → Int32 → Int32 → Ms → Option (Ms)) (k104 : Int32 → Int32 → Ms → Option (Ms)) (x1 : Int32) (x2 : Int32) (x3 : Int32) (s1 : Int32) (S : Ms) : Option (Ms) := (bM_leanOn_97 N r18 k104) x1 x2 x3 s1 1 S
set_option maxRecDepth 100000 in
set_option maxHeartbeats 4000000 in
theorem wbM_leanOn_92 {p : Program} {l : Launch} {e : Env} {R : Room} {s : State} {m : MethodId} {args : Array Value} {below : List Frame} {meth : Method} {c : Code} {d : Dd} {g : Gm} {o : Ms} {N : Nat} {r18 : Int32 → Int32 → Int32 → Ms → Option (Ms)} {k104 : Int32 → Int32 → Ms → Option (Ms)} (C : CM p s m args meth c d g cX9_leanOn 5 none) (hRm : 0 ≤ R.frames ∧ 0 ≤ R.locals) (hr18 : ∀ (x1 : Int32) (x2 : Int32) (x3 : Int32) (S : Ms) (H : Heap) (locs : List Loc) (ls : Array Slot), r18 x1 x2 x3 S = some o → RM d g S H → va_S (AM g) s.heap H locs → lv_has ls 5 [(0, .ref g.1), (1, .int x1), (2, .int x2), (3, .int x3)] → W p l e R s m args below meth c H locs 0 0 (MQ below (QV d g o) args s 0 0 (AM g)) (F0 m 18 ls [])) (hk104 : ∀ (x1 : Int32) (x2 : Int32) (S : Ms) (H : Heap) (locs : List Loc) (ls : Array Slot), k104 x1 x2 S = some o → RM d g S H → va_S (AM g) s.heap H locs → lv_has ls 5 [(0, .ref g.1), (1, .int x1), (2, .int x2)] → W p l e R s m args below meth c H locs 0 0 (MQ below (QV d g o) args s 0 0 (AM g)) (F0 m 104 ls [])) (x1 : Int32) (x2 : Int32) (x3 : Int32) (s1 : Int32) (S : Ms) (H : Heap) (locs : List Loc) (ls : Array Slot) (hf : bM_leanOn_92 N r18 k104 x1 x2 x3 s1 S = some o) (hR : RM d g S H) (hS : va_S (AM g) s.heap H locs) (hl : lv_has ls 5 [(0, .ref g.1), (1, .int x1), (2, .int x2), (3, .int x3)]) : W p l e R s m args below meth c H locs 0 0 (MQ below (QV d g o) args s 0 0 (AM g)) (F0 m 92 ls [.int s1, .ref (g.2 34)]) := by
  obtain ⟨hx, hb, hml, hown, hts, hK, hg, hr, hlk⟩ := id C
  unfold bM_leanOn_92 at hf
  refine lv_iconst (v := 1) hx hb dX9_leanOn_92 (by decide) ?_
  refine lv_goto (tgt := 97) hx hb dX9_leanOn_93 (by decide) ?_
  exact (wbM_leanOn_97 C hRm hr18 hk104) _ _ _ _ _ _ _ _ _ hf hR hS (lv_sub hl [0, 1, 2, 3] rfl)
def bM_leanOn_96 (N : Nat) (r18 : Int32 → Int32 → Int32 → Ms → Option (Ms)) (k104 : Int32 → Int32 → Ms → Option (Ms)) (x1 : Int32) (x2 : Int32) (x3 : Int32) (s1 : Int32) (S : Ms) : Option (Ms) := (bM_leanOn_97 N r18 k104) x1 x2 x3 s1 0 S
set_option maxRecDepth 100000 in
set_option maxHeartbeats 4000000 in
theorem wbM_leanOn_96 {p : Program} {l : Launch} {e : Env} {R : Room} {s : State} {m : MethodId} {args : Array Value} {below : List Frame} {meth : Method} {c : Code} {d : Dd} {g : Gm} {o : Ms} {N : Nat} {r18 : Int32 → Int32 → Int32 → Ms → Option (Ms)} {k104 : Int32 → Int32 → Ms → Option (Ms)} (C : CM p s m args meth c d g cX9_leanOn 5 none) (hRm : 0 ≤ R.frames ∧ 0 ≤ R.locals) (hr18 : ∀ (x1 : Int32) (x2 : Int32) (x3 : Int32) (S : Ms) (H : Heap) (locs : List Loc) (ls : Array Slot), r18 x1 x2 x3 S = some o → RM d g S H → va_S (AM g) s.heap H locs → lv_has ls 5 [(0, .ref g.1), (1, .int x1), (2, .int x2), (3, .int x3)] → W p l e R s m args below meth c H locs 0 0 (MQ below (QV d g o) args s 0 0 (AM g)) (F0 m 18 ls [])) (hk104 : ∀ (x1 : Int32) (x2 : Int32) (S : Ms) (H : Heap) (locs : List Loc) (ls : Array Slot), k104 x1 x2 S = some o → RM d g S H → va_S (AM g) s.heap H locs → lv_has ls 5 [(0, .ref g.1), (1, .int x1), (2, .int x2)] → W p l e R s m args below meth c H locs 0 0 (MQ below (QV d g o) args s 0 0 (AM g)) (F0 m 104 ls [])) (x1 : Int32) (x2 : Int32) (x3 : Int32) (s1 : Int32) (S : Ms) (H : Heap) (locs : List Loc) (ls : Array Slot) (hf : bM_leanOn_96 N r18 k104 x1 x2 x3 s1 S = some o) (hR : RM d g S H) (hS : va_S (AM g) s.heap H locs) (hl : lv_has ls 5 [(0, .ref g.1), (1, .int x1), (2, .int x2), (3, .int x3)]) : W p l e R s m args below meth c H locs 0 0 (MQ below (QV d g o) args s 0 0 (AM g)) (F0 m 96 ls [.int s1, .ref (g.2 34)]) := by
  obtain ⟨hx, hb, hml, hown, hts, hK, hg, hr, hlk⟩ := id C
  unfold bM_leanOn_96 at hf
  refine lv_iconst (v := 0) hx hb dX9_leanOn_96 (by decide) ?_
  exact (wbM_leanOn_97 C hRm hr18 hk104) _ _ _ _ _ _ _ _ _ hf hR hS (lv_sub hl [0, 1, 2, 3] rfl)
def lM_leanOn_18 (N : Nat) (k104 : Int32 → Int32 → Ms → Option (Ms)) : Nat → Int32 → Int32 → Int32 → Ms → Option (Ms)
  | 0, _, _, _, _ => none
  | n + 1, x1, x2, x3, S => if 24 ≤ x3 then (k104 x1 x2 S) else (ck ((24 * ((24 * (mF S 12)) + x2)) + x3) 1152 (if (mA S 34 ((24 * ((24 * (mF S 12)) + x2)) + x3 : Int32).toNatClampNeg) = 0 then (ck ((24 * ((24 * (mF S 12)) + x2)) + x1) 1152 (if (mA S 34 ((24 * ((24 * (mF S 12)) + x2)) + x1 : Int32).toNatClampNeg) = 0 then ((bM_leanOn_96 N (lM_leanOn_18 N k104 n) k104) x1 x2 x3 ((24 * ((24 * (mF S 12)) + x2)) + x3) S) else (ck ((24 * ((24 * (mF S 12)) + x1)) + x3) 1152 (if (mA S 34 ((24 * ((24 * (mF S 12)) + x1)) + x3 : Int32).toNatClampNeg) = 0 then ((bM_leanOn_96 N (lM_leanOn_18 N k104 n) k104) x1 x2 x3 ((24 * ((24 * (mF S 12)) + x2)) + x3) S) else ((bM_leanOn_92 N (lM_leanOn_18 N k104 n) k104) x1 x2 x3 ((24 * ((24 * (mF S 12)) + x2)) + x3) S))))) else ((bM_leanOn_92 N (lM_leanOn_18 N k104 n) k104) x1 x2 x3 ((24 * ((24 * (mF S 12)) + x2)) + x3) S)))
set_option maxRecDepth 100000 in
set_option maxHeartbeats 4000000 in
theorem wlM_leanOn_18 {p : Program} {l : Launch} {e : Env} {R : Room} {s : State} {m : MethodId} {args : Array Value} {below : List Frame} {meth : Method} {c : Code} {d : Dd} {g : Gm} {o : Ms} {N : Nat} {k104 : Int32 → Int32 → Ms → Option (Ms)} (C : CM p s m args meth c d g cX9_leanOn 5 none) (hRm : 0 ≤ R.frames ∧ 0 ≤ R.locals) (hk104 : ∀ (x1 : Int32) (x2 : Int32) (S : Ms) (H : Heap) (locs : List Loc) (ls : Array Slot), k104 x1 x2 S = some o → RM d g S H → va_S (AM g) s.heap H locs → lv_has ls 5 [(0, .ref g.1), (1, .int x1), (2, .int x2)] → W p l e R s m args below meth c H locs 0 0 (MQ below (QV d g o) args s 0 0 (AM g)) (F0 m 104 ls [])) : ∀ (n : Nat) (x1 : Int32) (x2 : Int32) (x3 : Int32) (S : Ms) (H : Heap) (locs : List Loc) (ls : Array Slot), lM_leanOn_18 N k104 n x1 x2 x3 S = some o → RM d g S H → va_S (AM g) s.heap H locs → lv_has ls 5 [(0, .ref g.1), (1, .int x1), (2, .int x2), (3, .int x3)] → W p l e R s m args below meth c H locs 0 0 (MQ below (QV d g o) args s 0 0 (AM g)) (F0 m 18 ls []) := by
  obtain ⟨hx, hb, hml, hown, hts, hK, hg, hr, hlk⟩ := id C
  intro n
  induction n with
  | zero => intro x1 x2 x3 S H locs ls hf; cases hf
  | succ n ih =>
    intro x1 x2 x3 S H locs ls hf hR hS hl
    rw [lM_leanOn_18] at hf
    refine lv_iload_n hx hb dX9_leanOn_18 rfl (lv_at hl 3 rfl) ?_
    refine lv_bipush (v := 24) hx hb dX9_leanOn_19 (by decide) ?_
    refine lv_icmp_ge (tgt := 104) hx hb dX9_leanOn_21 (by decide) (fun hc => ?_) (fun hc => ?_)
    · rw [if_pos hc] at hf
      exact hk104 _ _ _ _ _ _ hf hR hS (lv_sub hl [0, 1, 2] rfl)
    · rw [if_neg hc] at hf
      refine lv_bipush (v := 24) hx hb dX9_leanOn_24 (by decide) ?_
      refine lv_bipush (v := 24) hx hb dX9_leanOn_26 (by decide) ?_
      refine lv_aload_n hx hb dX9_leanOn_28 rfl (lv_at hl 0 rfl) ?_
      refine mr_getI C hR fl_297 rfl dX9_leanOn_29 ?_
      refine lv_imul hx hb dX9_leanOn_32 ?_
      refine lv_iload_n hx hb dX9_leanOn_33 rfl (lv_at hl 2 rfl) ?_
      refine lv_iadd hx hb dX9_leanOn_34 ?_
      refine lv_imul hx hb dX9_leanOn_35 ?_
      refine lv_istore (lv' := [(4, .int (24 * ((24 * (mF S 12)) + x2))), (0, .ref g.1), (1, .int x1), (2, .int x2), (3, .int x3)]) hx hb dX9_leanOn_36 hl (by decide) rfl (fun ls hl => ?_)
      refine lv_aload_n hx hb dX9_leanOn_38 rfl (lv_at hl 1 rfl) ?_
      refine mr_getR C hR fl_107 (by decide) dX9_leanOn_39 ?_
      refine lv_iload hx hb dX9_leanOn_42 (lv_at hl 0 rfl) ?_
      refine lv_iload_n hx hb dX9_leanOn_44 rfl (lv_at hl 4 rfl) ?_
      refine lv_iadd hx hb dX9_leanOn_45 ?_
      refine lv_aload_n hx hb dX9_leanOn_46 rfl (lv_at hl 1 rfl) ?_
      refine mr_getR C hR fl_107 (by decide) dX9_leanOn_47 ?_
      refine lv_iload hx hb dX9_leanOn_50 (lv_at hl 0 rfl) ?_
      refine lv_iload_n hx hb dX9_leanOn_52 rfl (lv_at hl 4 rfl) ?_
      refine lv_iadd hx hb dX9_leanOn_53 ?_
      obtain ⟨hi, hf⟩ := ck_some hf
      refine mr_zald C hR (k := 34) rfl hi dX9_leanOn_54 ?_
      refine lv_if_ne (tgt := 92) hx hb dX9_leanOn_55 (by decide) (fun hc => ?_) (fun hc => ?_)
      · rw [if_neg hc] at hf
        exact (wbM_leanOn_92 C hRm ih hk104) _ _ _ _ _ _ _ _ hf hR hS (lv_sub hl [1, 2, 3, 4] rfl)
      · rw [if_pos hc] at hf
        refine lv_aload_n hx hb dX9_leanOn_58 rfl (lv_at hl 1 rfl) ?_
        refine mr_getR C hR fl_107 (by decide) dX9_leanOn_59 ?_
        refine lv_iload hx hb dX9_leanOn_62 (lv_at hl 0 rfl) ?_
        refine lv_iload_n hx hb dX9_leanOn_64 rfl (lv_at hl 2 rfl) ?_
        refine lv_iadd hx hb dX9_leanOn_65 ?_
        obtain ⟨hi, hf⟩ := ck_some hf
        refine mr_zald C hR (k := 34) rfl hi dX9_leanOn_66 ?_
        refine lv_if_eq (tgt := 96) hx hb dX9_leanOn_67 (by decide) (fun hc => ?_) (fun hc => ?_)
        · rw [if_pos hc] at hf
          exact (wbM_leanOn_96 C hRm ih hk104) _ _ _ _ _ _ _ _ hf hR hS (lv_sub hl [1, 2, 3, 4] rfl)
        · rw [if_neg hc] at hf
          refine lv_aload_n hx hb dX9_leanOn_70 rfl (lv_at hl 1 rfl) ?_
          refine mr_getR C hR fl_107 (by decide) dX9_leanOn_71 ?_
          refine lv_bipush (v := 24) hx hb dX9_leanOn_74 (by decide) ?_
          refine lv_bipush (v := 24) hx hb dX9_leanOn_76 (by decide) ?_
          refine lv_aload_n hx hb dX9_leanOn_78 rfl (lv_at hl 1 rfl) ?_
          refine mr_getI C hR fl_297 rfl dX9_leanOn_79 ?_
          refine lv_imul hx hb dX9_leanOn_82 ?_
          refine lv_iload_n hx hb dX9_leanOn_83 rfl (lv_at hl 2 rfl) ?_
          refine lv_iadd hx hb dX9_leanOn_84 ?_
          refine lv_imul hx hb dX9_leanOn_85 ?_
          refine lv_iload_n hx hb dX9_leanOn_86 rfl (lv_at hl 4 rfl) ?_
          refine lv_iadd hx hb dX9_leanOn_87 ?_
          obtain ⟨hi, hf⟩ := ck_some hf
          refine mr_zald C hR (k := 34) rfl hi dX9_leanOn_88 ?_
          refine lv_if_eq (tgt := 96) hx hb dX9_leanOn_89 (by decide) (fun hc => ?_) (fun hc => ?_)
          · rw [if_pos hc] at hf
            exact (wbM_leanOn_96 C hRm ih hk104) _ _ _ _ _ _ _ _ hf hR hS (lv_sub hl [1, 2, 3, 4] rfl)
          · rw [if_neg hc] at hf
            exact (wbM_leanOn_92 C hRm ih hk104) _ _ _ _ _ _ _ _ hf hR hS (lv_sub hl [1, 2, 3, 4] rfl)
def bM_leanOn_104 (N : Nat) (r10 : Int32 → Int32 → Ms → Option (Ms)) (k110 : Int32 → Ms → Option (Ms)) (x1 : Int32) (x2 : Int32) (S : Ms) : Option (Ms) := r10 x1 (x2 + 1) S
set_option maxRecDepth 100000 in
set_option maxHeartbeats 4000000 in
theorem wbM_leanOn_104 {p : Program} {l : Launch} {e : Env} {R : Room} {s : State} {m : MethodId} {args : Array Value} {below : List Frame} {meth : Method} {c : Code} {d : Dd} {g : Gm} {o : Ms} {N : Nat} {r10 : Int32 → Int32 → Ms → Option (Ms)} {k110 : Int32 → Ms → Option (Ms)} (C : CM p s m args meth c d g cX9_leanOn 5 none) (hRm : 0 ≤ R.frames ∧ 0 ≤ R.locals) (hr10 : ∀ (x1 : Int32) (x2 : Int32) (S : Ms) (H : Heap) (locs : List Loc) (ls : Array Slot), r10 x1 x2 S = some o → RM d g S H → va_S (AM g) s.heap H locs → lv_has ls 5 [(0, .ref g.1), (1, .int x1), (2, .int x2)] → W p l e R s m args below meth c H locs 0 0 (MQ below (QV d g o) args s 0 0 (AM g)) (F0 m 10 ls [])) (hk110 : ∀ (x1 : Int32) (S : Ms) (H : Heap) (locs : List Loc) (ls : Array Slot), k110 x1 S = some o → RM d g S H → va_S (AM g) s.heap H locs → lv_has ls 5 [(0, .ref g.1), (1, .int x1)] → W p l e R s m args below meth c H locs 0 0 (MQ below (QV d g o) args s 0 0 (AM g)) (F0 m 110 ls [])) (x1 : Int32) (x2 : Int32) (S : Ms) (H : Heap) (locs : List Loc) (ls : Array Slot) (hf : bM_leanOn_104 N r10 k110 x1 x2 S = some o) (hR : RM d g S H) (hS : va_S (AM g) s.heap H locs) (hl : lv_has ls 5 [(0, .ref g.1), (1, .int x1), (2, .int x2)]) : W p l e R s m args below meth c H locs 0 0 (MQ below (QV d g o) args s 0 0 (AM g)) (F0 m 104 ls []) := by
  obtain ⟨hx, hb, hml, hown, hts, hK, hg, hr, hlk⟩ := id C
  unfold bM_leanOn_104 at hf
  refine lv_iinc (v := x2 + 1) (lv' := [(2, .int (x2 + 1)), (0, .ref g.1), (1, .int x1)]) hx hb dX9_leanOn_104 hl (k := 2) rfl rfl (by decide) rfl (fun ls hl => ?_)
  refine lv_goto (tgt := 10) hx hb dX9_leanOn_107 (by decide) ?_
  exact hr10 _ _ _ _ _ _ hf hR hS (lv_sub hl [1, 2, 0] rfl)
def lM_leanOn_10 (N : Nat) (k110 : Int32 → Ms → Option (Ms)) : Nat → Int32 → Int32 → Ms → Option (Ms)
  | 0, _, _, _ => none
  | n + 1, x1, x2, S => if 24 ≤ x2 then (k110 x1 S) else ((lM_leanOn_18 N (bM_leanOn_104 N (lM_leanOn_10 N k110 n) k110) N) x1 x2 0 S)
set_option maxRecDepth 100000 in
set_option maxHeartbeats 4000000 in
theorem wlM_leanOn_10 {p : Program} {l : Launch} {e : Env} {R : Room} {s : State} {m : MethodId} {args : Array Value} {below : List Frame} {meth : Method} {c : Code} {d : Dd} {g : Gm} {o : Ms} {N : Nat} {k110 : Int32 → Ms → Option (Ms)} (C : CM p s m args meth c d g cX9_leanOn 5 none) (hRm : 0 ≤ R.frames ∧ 0 ≤ R.locals) (hk110 : ∀ (x1 : Int32) (S : Ms) (H : Heap) (locs : List Loc) (ls : Array Slot), k110 x1 S = some o → RM d g S H → va_S (AM g) s.heap H locs → lv_has ls 5 [(0, .ref g.1), (1, .int x1)] → W p l e R s m args below meth c H locs 0 0 (MQ below (QV d g o) args s 0 0 (AM g)) (F0 m 110 ls [])) : ∀ (n : Nat) (x1 : Int32) (x2 : Int32) (S : Ms) (H : Heap) (locs : List Loc) (ls : Array Slot), lM_leanOn_10 N k110 n x1 x2 S = some o → RM d g S H → va_S (AM g) s.heap H locs → lv_has ls 5 [(0, .ref g.1), (1, .int x1), (2, .int x2)] → W p l e R s m args below meth c H locs 0 0 (MQ below (QV d g o) args s 0 0 (AM g)) (F0 m 10 ls []) := by
  obtain ⟨hx, hb, hml, hown, hts, hK, hg, hr, hlk⟩ := id C
  intro n
  induction n with
  | zero => intro x1 x2 S H locs ls hf; cases hf
  | succ n ih =>
    intro x1 x2 S H locs ls hf hR hS hl
    rw [lM_leanOn_10] at hf
    refine lv_iload_n hx hb dX9_leanOn_10 rfl (lv_at hl 2 rfl) ?_
    refine lv_bipush (v := 24) hx hb dX9_leanOn_11 (by decide) ?_
    refine lv_icmp_ge (tgt := 110) hx hb dX9_leanOn_13 (by decide) (fun hc => ?_) (fun hc => ?_)
    · rw [if_pos hc] at hf
      exact hk110 _ _ _ _ _ hf hR hS (lv_sub hl [0, 1] rfl)
    · rw [if_neg hc] at hf
      refine lv_iconst (v := 0) hx hb dX9_leanOn_16 (by decide) ?_
      refine lv_istore_n (lv' := [(3, .int 0), (0, .ref g.1), (1, .int x1), (2, .int x2)]) hx hb dX9_leanOn_17 rfl hl (by decide) rfl (fun ls hl => ?_)
      exact (wlM_leanOn_18 C hRm (wbM_leanOn_104 C hRm ih hk110) N) _ _ _ _ _ _ _ hf hR hS (lv_sub hl [1, 2, 3, 0] rfl)
def bM_leanOn_110 (N : Nat) (r2 : Int32 → Ms → Option (Ms)) (k116 : Ms → Option (Ms)) (x1 : Int32) (S : Ms) : Option (Ms) := r2 (x1 + 1) S
set_option maxRecDepth 100000 in
set_option maxHeartbeats 4000000 in
theorem wbM_leanOn_110 {p : Program} {l : Launch} {e : Env} {R : Room} {s : State} {m : MethodId} {args : Array Value} {below : List Frame} {meth : Method} {c : Code} {d : Dd} {g : Gm} {o : Ms} {N : Nat} {r2 : Int32 → Ms → Option (Ms)} {k116 : Ms → Option (Ms)} (C : CM p s m args meth c d g cX9_leanOn 5 none) (hRm : 0 ≤ R.frames ∧ 0 ≤ R.locals) (hr2 : ∀ (x1 : Int32) (S : Ms) (H : Heap) (locs : List Loc) (ls : Array Slot), r2 x1 S = some o → RM d g S H → va_S (AM g) s.heap H locs → lv_has ls 5 [(0, .ref g.1), (1, .int x1)] → W p l e R s m args below meth c H locs 0 0 (MQ below (QV d g o) args s 0 0 (AM g)) (F0 m 2 ls [])) (hk116 : ∀  (S : Ms) (H : Heap) (locs : List Loc) (ls : Array Slot), k116 S = some o → RM d g S H → va_S (AM g) s.heap H locs → lv_has ls 5 [(0, .ref g.1)] → W p l e R s m args below meth c H locs 0 0 (MQ below (QV d g o) args s 0 0 (AM g)) (F0 m 116 ls [])) (x1 : Int32) (S : Ms) (H : Heap) (locs : List Loc) (ls : Array Slot) (hf : bM_leanOn_110 N r2 k116 x1 S = some o) (hR : RM d g S H) (hS : va_S (AM g) s.heap H locs) (hl : lv_has ls 5 [(0, .ref g.1), (1, .int x1)]) : W p l e R s m args below meth c H locs 0 0 (MQ below (QV d g o) args s 0 0 (AM g)) (F0 m 110 ls []) := by
  obtain ⟨hx, hb, hml, hown, hts, hK, hg, hr, hlk⟩ := id C
  unfold bM_leanOn_110 at hf
  refine lv_iinc (v := x1 + 1) (lv' := [(1, .int (x1 + 1)), (0, .ref g.1)]) hx hb dX9_leanOn_110 hl (k := 1) rfl rfl (by decide) rfl (fun ls hl => ?_)
  refine lv_goto (tgt := 2) hx hb dX9_leanOn_113 (by decide) ?_
  exact hr2 _ _ _ _ _ hf hR hS (lv_sub hl [1, 0] rfl)
def lM_leanOn_2 (N : Nat) (k116 : Ms → Option (Ms)) : Nat → Int32 → Ms → Option (Ms)
  | 0, _, _ => none
  | n + 1, x1, S => if 24 ≤ x1 then (k116 S) else ((lM_leanOn_10 N (bM_leanOn_110 N (lM_leanOn_2 N k116 n) k116) N) x1 0 S)
set_option maxRecDepth 100000 in
set_option maxHeartbeats 4000000 in
theorem wlM_leanOn_2 {p : Program} {l : Launch} {e : Env} {R : Room} {s : State} {m : MethodId} {args : Array Value} {below : List Frame} {meth : Method} {c : Code} {d : Dd} {g : Gm} {o : Ms} {N : Nat} {k116 : Ms → Option (Ms)} (C : CM p s m args meth c d g cX9_leanOn 5 none) (hRm : 0 ≤ R.frames ∧ 0 ≤ R.locals) (hk116 : ∀  (S : Ms) (H : Heap) (locs : List Loc) (ls : Array Slot), k116 S = some o → RM d g S H → va_S (AM g) s.heap H locs → lv_has ls 5 [(0, .ref g.1)] → W p l e R s m args below meth c H locs 0 0 (MQ below (QV d g o) args s 0 0 (AM g)) (F0 m 116 ls [])) : ∀ (n : Nat) (x1 : Int32) (S : Ms) (H : Heap) (locs : List Loc) (ls : Array Slot), lM_leanOn_2 N k116 n x1 S = some o → RM d g S H → va_S (AM g) s.heap H locs → lv_has ls 5 [(0, .ref g.1), (1, .int x1)] → W p l e R s m args below meth c H locs 0 0 (MQ below (QV d g o) args s 0 0 (AM g)) (F0 m 2 ls []) := by
  obtain ⟨hx, hb, hml, hown, hts, hK, hg, hr, hlk⟩ := id C
  intro n
  induction n with
  | zero => intro x1 S H locs ls hf; cases hf
  | succ n ih =>
    intro x1 S H locs ls hf hR hS hl
    rw [lM_leanOn_2] at hf
    refine lv_iload_n hx hb dX9_leanOn_2 rfl (lv_at hl 1 rfl) ?_
    refine lv_bipush (v := 24) hx hb dX9_leanOn_3 (by decide) ?_
    refine lv_icmp_ge (tgt := 116) hx hb dX9_leanOn_5 (by decide) (fun hc => ?_) (fun hc => ?_)
    · rw [if_pos hc] at hf
      exact hk116 _ _ _ _ hf hR hS (lv_sub hl [0] rfl)
    · rw [if_neg hc] at hf
      refine lv_iconst (v := 0) hx hb dX9_leanOn_8 (by decide) ?_
      refine lv_istore_n (lv' := [(2, .int 0), (0, .ref g.1), (1, .int x1)]) hx hb dX9_leanOn_9 rfl hl (by decide) rfl (fun ls hl => ?_)
      exact (wlM_leanOn_10 C hRm (wbM_leanOn_110 C hRm ih hk116) N) _ _ _ _ _ _ hf hR hS (lv_sub hl [1, 2, 0] rfl)
def bM_leanOn_116 (N : Nat)  (S : Ms) : Option (Ms) := some S
set_option maxRecDepth 100000 in
set_option maxHeartbeats 4000000 in
theorem wbM_leanOn_116 {p : Program} {l : Launch} {e : Env} {R : Room} {s : State} {m : MethodId} {args : Array Value} {below : List Frame} {meth : Method} {c : Code} {d : Dd} {g : Gm} {o : Ms} {N : Nat} (C : CM p s m args meth c d g cX9_leanOn 5 none) (hRm : 0 ≤ R.frames ∧ 0 ≤ R.locals)  (S : Ms) (H : Heap) (locs : List Loc) (ls : Array Slot) (hf : bM_leanOn_116 N  S = some o) (hR : RM d g S H) (hS : va_S (AM g) s.heap H locs) (hl : lv_has ls 5 [(0, .ref g.1)]) : W p l e R s m args below meth c H locs 0 0 (MQ below (QV d g o) args s 0 0 (AM g)) (F0 m 116 ls []) := by
  obtain ⟨hx, hb, hml, hown, hts, hK, hg, hr, hlk⟩ := id C
  unfold bM_leanOn_116 at hf
  exact mr_vret C hR hS hf dX9_leanOn_116
def fM_leanOn (N : Nat)  (S : Ms) : Option (Ms) := (lM_leanOn_2 N (bM_leanOn_116 N) N) 0 S
set_option maxRecDepth 100000 in
set_option maxHeartbeats 4000000 in
theorem wfM_leanOn {p : Program} {l : Launch} {e : Env} {R : Room} {s : State} {m : MethodId} {args : Array Value} {below : List Frame} {meth : Method} {c : Code} {d : Dd} {g : Gm} {o : Ms} {N : Nat} (C : CM p s m args meth c d g cX9_leanOn 5 none) (hRm : 0 ≤ R.frames ∧ 0 ≤ R.locals)  (S : Ms) (H : Heap) (locs : List Loc) (ls : Array Slot) (hf : fM_leanOn N  S = some o) (hR : RM d g S H) (hS : va_S (AM g) s.heap H locs) (hl : lv_has ls 5 [(0, .ref g.1)]) : W p l e R s m args below meth c H locs 0 0 (MQ below (QV d g o) args s 0 0 (AM g)) (F0 m 0 ls []) := by
  obtain ⟨hx, hb, hml, hown, hts, hK, hg, hr, hlk⟩ := id C
  unfold fM_leanOn at hf
  refine lv_iconst (v := 0) hx hb dX9_leanOn_0 (by decide) ?_
  refine lv_istore_n (lv' := [(1, .int 0), (0, .ref g.1)]) hx hb dX9_leanOn_1 rfl hl (by decide) rfl (fun ls hl => ?_)
  exact (wlM_leanOn_2 C hRm (wbM_leanOn_116 C hRm) N) _ _ _ _ _ hf hR hS (lv_sub hl [1, 0] rfl)
theorem MM_leanOn (l : Launch) (d : Dd) (g : Gm) (N : Nat)  (S : Ms) (o : Ms) (hf : fM_leanOn N  S = some o) : MtV l d g yX9_leanOn cX9_leanOn 5 0 0 [.ref g.1] S o :=
  mr_metV (by decide) rfl (Nat.le_of_ble_eq_true rfl) (fun p e s m args below meth c ls C hR hl => wfM_leanOn C ⟨Nat.le_refl _, Nat.le_refl _⟩  S s.heap [] ls hf hR va_S.rf hl)
def bM_within_26 (N : Nat)  (S : Ms) : Option (Ms) := some (pF S 50 ((mF S 50) + 1))
set_option maxRecDepth 100000 in
set_option maxHeartbeats 4000000 in
theorem wbM_within_26 {p : Program} {l : Launch} {e : Env} {R : Room} {s : State} {m : MethodId} {args : Array Value} {below : List Frame} {meth : Method} {c : Code} {d : Dd} {g : Gm} {o : Ms} {N : Nat} (C : CM p s m args meth c d g cX9_within 2 none) (hRm : 1 ≤ R.frames ∧ 21 ≤ R.locals)  (S : Ms) (H : Heap) (locs : List Loc) (ls : Array Slot) (hf : bM_within_26 N  S = some o) (hR : RM d g S H) (hS : va_S (AM g) s.heap H locs) (hl : lv_has ls 2 [(0, .ref g.1)]) : W p l e R s m args below meth c H locs 0 0 (MQ below (QV d g o) args s 0 0 (AM g)) (F0 m 26 ls []) := by
  obtain ⟨hx, hb, hml, hown, hts, hK, hg, hr, hlk⟩ := id C
  unfold bM_within_26 at hf
  refine lv_aload_n hx hb dX9_within_26 rfl (lv_at hl 0 rfl) ?_
  refine lv_dup hx hb dX9_within_27 rfl ?_
  refine mr_getI C hR fl_373 rfl dX9_within_28 ?_
  refine lv_iconst (v := 1) hx hb dX9_within_31 (by decide) ?_
  refine lv_iadd hx hb dX9_within_32 ?_
  refine mr_putI C hR hS fl_373 ⟨rfl, rfl, rfl⟩ dX9_within_33 (fun H locs hR hS => ?_)
  exact mr_vret C hR hS hf dX9_within_36
def fM_within (N : Nat) (x1 : Int32) (S : Ms) : Option (Ms) := if x1 = 0 then ((fM_wrong N 1 S).bind fun o6 => (bM_within_26 N) o6) else (if (mF S 50) = 10 then ((fM_wrong N 5 S).bind fun o23 => (bM_within_26 N) o23) else ((bM_within_26 N) S))
set_option maxRecDepth 100000 in
set_option maxHeartbeats 4000000 in
theorem wfM_within {p : Program} {l : Launch} {e : Env} {R : Room} {s : State} {m : MethodId} {args : Array Value} {below : List Frame} {meth : Method} {c : Code} {d : Dd} {g : Gm} {o : Ms} {N : Nat} (C : CM p s m args meth c d g cX9_within 2 none) (hRm : 1 ≤ R.frames ∧ 21 ≤ R.locals) (x1 : Int32) (S : Ms) (H : Heap) (locs : List Loc) (ls : Array Slot) (hf : fM_within N x1 S = some o) (hR : RM d g S H) (hS : va_S (AM g) s.heap H locs) (hl : lv_has ls 2 [(0, .ref g.1), (1, .int x1)]) : W p l e R s m args below meth c H locs 0 0 (MQ below (QV d g o) args s 0 0 (AM g)) (F0 m 0 ls []) := by
  obtain ⟨hx, hb, hml, hown, hts, hK, hg, hr, hlk⟩ := id C
  unfold fM_within at hf
  refine lv_iload_n hx hb dX9_within_0 rfl (lv_at hl 1 rfl) ?_
  refine lv_if_ne (tgt := 12) hx hb dX9_within_1 (by decide) (fun hc => ?_) (fun hc => ?_)
  · rw [if_neg hc] at hf
    refine lv_aload_n hx hb dX9_within_12 rfl (lv_at hl 0 rfl) ?_
    refine mr_getI C hR fl_373 rfl dX9_within_13 ?_
    refine lv_bipush (v := 10) hx hb dX9_within_16 (by decide) ?_
    refine lv_icmp_ne (tgt := 26) hx hb dX9_within_18 (by decide) (fun hc => ?_) (fun hc => ?_)
    · rw [if_neg hc] at hf
      exact (wbM_within_26 C hRm) _ _ _ _ hf hR hS (lv_sub hl [0] rfl)
    · rw [if_pos hc] at hf
      refine lv_aload_n hx hb dX9_within_21 rfl (lv_at hl 0 rfl) ?_
      refine lv_iconst (v := 5) hx hb dX9_within_22 (by decide) ?_
      obtain ⟨o23, ho23, hf⟩ := bnd_some hf
      refine mr_callVv C hR hS (As := [.int 5]) (rest := []) (MM_wrong l d g N 5 S o23 ho23) wv_287 ⟨by omega, by omega⟩ rfl rfl (Nat.le_of_ble_eq_true rfl) hl.1 dX9_within_23 ⟨Nat.zero_le _, Nat.zero_le _⟩ (fun H locs hR hS => ?_)
      exact (wbM_within_26 C hRm) _ _ _ _ hf hR hS (lv_sub hl [0] rfl)
  · rw [if_pos hc] at hf
    refine lv_aload_n hx hb dX9_within_4 rfl (lv_at hl 0 rfl) ?_
    refine lv_iconst (v := 1) hx hb dX9_within_5 (by decide) ?_
    obtain ⟨o6, ho6, hf⟩ := bnd_some hf
    refine mr_callVv C hR hS (As := [.int 1]) (rest := []) (MM_wrong l d g N 1 S o6 ho6) wv_287 ⟨by omega, by omega⟩ rfl rfl (Nat.le_of_ble_eq_true rfl) hl.1 dX9_within_6 ⟨Nat.zero_le _, Nat.zero_le _⟩ (fun H locs hR hS => ?_)
    refine lv_goto (tgt := 26) hx hb dX9_within_9 (by decide) ?_
    exact (wbM_within_26 C hRm) _ _ _ _ hf hR hS (lv_sub hl [0] rfl)
theorem MM_within (l : Launch) (d : Dd) (g : Gm) (N : Nat) (x1 : Int32) (S : Ms) (o : Ms) (hf : fM_within N x1 S = some o) : MtV l d g yX9_within cX9_within 2 1 21 [.ref g.1, .int x1] S o :=
  mr_metV (by decide) rfl (Nat.le_of_ble_eq_true rfl) (fun p e s m args below meth c ls C hR hl => wfM_within C ⟨Nat.le_refl _, Nat.le_refl _⟩ x1 S s.heap [] ls hf hR va_S.rf hl)
def fM_emit (N : Nat) (x1 : Int32) (x2 : Int32) (x3 : Int32) (S : Ms) : Option (Int32 × Ms) := ck ((mF S 42) + (mF S 38)) 20000 (ck ((mF (pA S 39 ((mF S 42) + (mF S 38) : Int32).toNatClampNeg x1) 42) + (mF (pA S 39 ((mF S 42) + (mF S 38) : Int32).toNatClampNeg x1) 38)) 20000 (ck ((mF (pA (pA S 39 ((mF S 42) + (mF S 38) : Int32).toNatClampNeg x1) 40 ((mF (pA S 39 ((mF S 42) + (mF S 38) : Int32).toNatClampNeg x1) 42) + (mF (pA S 39 ((mF S 42) + (mF S 38) : Int32).toNatClampNeg x1) 38) : Int32).toNatClampNeg x2) 42) + (mF (pA (pA S 39 ((mF S 42) + (mF S 38) : Int32).toNatClampNeg x1) 40 ((mF (pA S 39 ((mF S 42) + (mF S 38) : Int32).toNatClampNeg x1) 42) + (mF (pA S 39 ((mF S 42) + (mF S 38) : Int32).toNatClampNeg x1) 38) : Int32).toNatClampNeg x2) 38)) 20000 (some ((mF (pF (pA (pA (pA S 39 ((mF S 42) + (mF S 38) : Int32).toNatClampNeg x1) 40 ((mF (pA S 39 ((mF S 42) + (mF S 38) : Int32).toNatClampNeg x1) 42) + (mF (pA S 39 ((mF S 42) + (mF S 38) : Int32).toNatClampNeg x1) 38) : Int32).toNatClampNeg x2) 41 ((mF (pA (pA S 39 ((mF S 42) + (mF S 38) : Int32).toNatClampNeg x1) 40 ((mF (pA S 39 ((mF S 42) + (mF S 38) : Int32).toNatClampNeg x1) 42) + (mF (pA S 39 ((mF S 42) + (mF S 38) : Int32).toNatClampNeg x1) 38) : Int32).toNatClampNeg x2) 42) + (mF (pA (pA S 39 ((mF S 42) + (mF S 38) : Int32).toNatClampNeg x1) 40 ((mF (pA S 39 ((mF S 42) + (mF S 38) : Int32).toNatClampNeg x1) 42) + (mF (pA S 39 ((mF S 42) + (mF S 38) : Int32).toNatClampNeg x1) 38) : Int32).toNatClampNeg x2) 38) : Int32).toNatClampNeg x3) 38 ((mF (pA (pA (pA S 39 ((mF S 42) + (mF S 38) : Int32).toNatClampNeg x1) 40 ((mF (pA S 39 ((mF S 42) + (mF S 38) : Int32).toNatClampNeg x1) 42) + (mF (pA S 39 ((mF S 42) + (mF S 38) : Int32).toNatClampNeg x1) 38) : Int32).toNatClampNeg x2) 41 ((mF (pA (pA S 39 ((mF S 42) + (mF S 38) : Int32).toNatClampNeg x1) 40 ((mF (pA S 39 ((mF S 42) + (mF S 38) : Int32).toNatClampNeg x1) 42) + (mF (pA S 39 ((mF S 42) + (mF S 38) : Int32).toNatClampNeg x1) 38) : Int32).toNatClampNeg x2) 42) + (mF (pA (pA S 39 ((mF S 42) + (mF S 38) : Int32).toNatClampNeg x1) 40 ((mF (pA S 39 ((mF S 42) + (mF S 38) : Int32).toNatClampNeg x1) 42) + (mF (pA S 39 ((mF S 42) + (mF S 38) : Int32).toNatClampNeg x1) 38) : Int32).toNatClampNeg x2) 38) : Int32).toNatClampNeg x3) 38) + 1)) 38) - 1, pF (pA (pA (pA S 39 ((mF S 42) + (mF S 38) : Int32).toNatClampNeg x1) 40 ((mF (pA S 39 ((mF S 42) + (mF S 38) : Int32).toNatClampNeg x1) 42) + (mF (pA S 39 ((mF S 42) + (mF S 38) : Int32).toNatClampNeg x1) 38) : Int32).toNatClampNeg x2) 41 ((mF (pA (pA S 39 ((mF S 42) + (mF S 38) : Int32).toNatClampNeg x1) 40 ((mF (pA S 39 ((mF S 42) + (mF S 38) : Int32).toNatClampNeg x1) 42) + (mF (pA S 39 ((mF S 42) + (mF S 38) : Int32).toNatClampNeg x1) 38) : Int32).toNatClampNeg x2) 42) + (mF (pA (pA S 39 ((mF S 42) + (mF S 38) : Int32).toNatClampNeg x1) 40 ((mF (pA S 39 ((mF S 42) + (mF S 38) : Int32).toNatClampNeg x1) 42) + (mF (pA S 39 ((mF S 42) + (mF S 38) : Int32).toNatClampNeg x1) 38) : Int32).toNatClampNeg x2) 38) : Int32).toNatClampNeg x3) 38 ((mF (pA (pA (pA S 39 ((mF S 42) + (mF S 38) : Int32).toNatClampNeg x1) 40 ((mF (pA S 39 ((mF S 42) + (mF S 38) : Int32).toNatClampNeg x1) 42) + (mF (pA S 39 ((mF S 42) + (mF S 38) : Int32).toNatClampNeg x1) 38) : Int32).toNatClampNeg x2) 41 ((mF (pA (pA S 39 ((mF S 42) + (mF S 38) : Int32).toNatClampNeg x1) 40 ((mF (pA S 39 ((mF S 42) + (mF S 38) : Int32).toNatClampNeg x1) 42) + (mF (pA S 39 ((mF S 42) + (mF S 38) : Int32).toNatClampNeg x1) 38) : Int32).toNatClampNeg x2) 42) + (mF (pA (pA S 39 ((mF S 42) + (mF S 38) : Int32).toNatClampNeg x1) 40 ((mF (pA S 39 ((mF S 42) + (mF S 38) : Int32).toNatClampNeg x1) 42) + (mF (pA S 39 ((mF S 42) + (mF S 38) : Int32).toNatClampNeg x1) 38) : Int32).toNatClampNeg x2) 38) : Int32).toNatClampNeg x3) 38) + 1)))))
set_option maxRecDepth 100000 in
set_option maxHeartbeats 4000000 in
theorem wfM_emit {p : Program} {l : Launch} {e : Env} {R : Room} {s : State} {m : MethodId} {args : Array Value} {below : List Frame} {meth : Method} {c : Code} {d : Dd} {g : Gm} {o : Int32 × Ms} {N : Nat} (C : CM p s m args meth c d g cX9_emit 4 (some .int)) (hRm : 0 ≤ R.frames ∧ 0 ≤ R.locals) (x1 : Int32) (x2 : Int32) (x3 : Int32) (S : Ms) (H : Heap) (locs : List Loc) (ls : Array Slot) (hf : fM_emit N x1 x2 x3 S = some o) (hR : RM d g S H) (hS : va_S (AM g) s.heap H locs) (hl : lv_has ls 4 [(0, .ref g.1), (1, .int x1), (2, .int x2), (3, .int x3)]) : W p l e R s m args below meth c H locs 0 0 (MQ below (QI d g o) args s 0 0 (AM g)) (F0 m 0 ls []) := by
  obtain ⟨hx, hb, hml, hown, hts, hK, hg, hr, hlk⟩ := id C
  unfold fM_emit at hf
  refine lv_aload_n hx hb dX9_emit_0 rfl (lv_at hl 0 rfl) ?_
  refine mr_getR C hR fl_119 (by decide) dX9_emit_1 ?_
  refine lv_aload_n hx hb dX9_emit_4 rfl (lv_at hl 0 rfl) ?_
  refine mr_getI C hR fl_313 rfl dX9_emit_5 ?_
  refine lv_aload_n hx hb dX9_emit_8 rfl (lv_at hl 0 rfl) ?_
  refine mr_getI C hR fl_310 rfl dX9_emit_9 ?_
  refine lv_iadd hx hb dX9_emit_12 ?_
  refine lv_iload_n hx hb dX9_emit_13 rfl (lv_at hl 1 rfl) ?_
  obtain ⟨hi, hf⟩ := ck_some hf
  refine mr_iast C hR hS (k := 39) rfl hi dX9_emit_14 (fun H locs hR hS => ?_)
  refine lv_aload_n hx hb dX9_emit_15 rfl (lv_at hl 0 rfl) ?_
  refine mr_getR C hR fl_122 (by decide) dX9_emit_16 ?_
  refine lv_aload_n hx hb dX9_emit_19 rfl (lv_at hl 0 rfl) ?_
  refine mr_getI C hR fl_313 rfl dX9_emit_20 ?_
  refine lv_aload_n hx hb dX9_emit_23 rfl (lv_at hl 0 rfl) ?_
  refine mr_getI C hR fl_310 rfl dX9_emit_24 ?_
  refine lv_iadd hx hb dX9_emit_27 ?_
  refine lv_iload_n hx hb dX9_emit_28 rfl (lv_at hl 2 rfl) ?_
  obtain ⟨hi, hf⟩ := ck_some hf
  refine mr_iast C hR hS (k := 40) rfl hi dX9_emit_29 (fun H locs hR hS => ?_)
  refine lv_aload_n hx hb dX9_emit_30 rfl (lv_at hl 0 rfl) ?_
  refine mr_getR C hR fl_125 (by decide) dX9_emit_31 ?_
  refine lv_aload_n hx hb dX9_emit_34 rfl (lv_at hl 0 rfl) ?_
  refine mr_getI C hR fl_313 rfl dX9_emit_35 ?_
  refine lv_aload_n hx hb dX9_emit_38 rfl (lv_at hl 0 rfl) ?_
  refine mr_getI C hR fl_310 rfl dX9_emit_39 ?_
  refine lv_iadd hx hb dX9_emit_42 ?_
  refine lv_iload_n hx hb dX9_emit_43 rfl (lv_at hl 3 rfl) ?_
  obtain ⟨hi, hf⟩ := ck_some hf
  refine mr_iast C hR hS (k := 41) rfl hi dX9_emit_44 (fun H locs hR hS => ?_)
  refine lv_aload_n hx hb dX9_emit_45 rfl (lv_at hl 0 rfl) ?_
  refine lv_dup hx hb dX9_emit_46 rfl ?_
  refine mr_getI C hR fl_310 rfl dX9_emit_47 ?_
  refine lv_iconst (v := 1) hx hb dX9_emit_50 (by decide) ?_
  refine lv_iadd hx hb dX9_emit_51 ?_
  refine mr_putI C hR hS fl_310 ⟨rfl, rfl, rfl⟩ dX9_emit_52 (fun H locs hR hS => ?_)
  refine lv_aload_n hx hb dX9_emit_55 rfl (lv_at hl 0 rfl) ?_
  refine mr_getI C hR fl_310 rfl dX9_emit_56 ?_
  refine lv_iconst (v := 1) hx hb dX9_emit_59 (by decide) ?_
  refine lv_isub hx hb dX9_emit_60 ?_
  exact mr_iret C hR hS hf dX9_emit_61
theorem MM_emit (l : Launch) (d : Dd) (g : Gm) (N : Nat) (x1 : Int32) (x2 : Int32) (x3 : Int32) (S : Ms) (o : Int32 × Ms) (hf : fM_emit N x1 x2 x3 S = some o) : MtI l d g yX9_emit cX9_emit 4 (some .int) 0 0 [.ref g.1, .int x1, .int x2, .int x3] S o :=
  mr_metI (by decide) rfl (Nat.le_of_ble_eq_true rfl) (fun p e s m args below meth c ls C hR hl => wfM_emit C ⟨Nat.le_refl _, Nat.le_refl _⟩ x1 x2 x3 S s.heap [] ls hf hR va_S.rf hl)
def fM_here (N : Nat) (x1 : Int32) (S : Ms) : Option (Ms) := ck ((mF S 42) + x1) 20000 (some (pA S 40 ((mF S 42) + x1 : Int32).toNatClampNeg ((mF S 42) + (mF S 38))))
set_option maxRecDepth 100000 in
set_option maxHeartbeats 4000000 in
theorem wfM_here {p : Program} {l : Launch} {e : Env} {R : Room} {s : State} {m : MethodId} {args : Array Value} {below : List Frame} {meth : Method} {c : Code} {d : Dd} {g : Gm} {o : Ms} {N : Nat} (C : CM p s m args meth c d g cX9_here 2 none) (hRm : 0 ≤ R.frames ∧ 0 ≤ R.locals) (x1 : Int32) (S : Ms) (H : Heap) (locs : List Loc) (ls : Array Slot) (hf : fM_here N x1 S = some o) (hR : RM d g S H) (hS : va_S (AM g) s.heap H locs) (hl : lv_has ls 2 [(0, .ref g.1), (1, .int x1)]) : W p l e R s m args below meth c H locs 0 0 (MQ below (QV d g o) args s 0 0 (AM g)) (F0 m 0 ls []) := by
  obtain ⟨hx, hb, hml, hown, hts, hK, hg, hr, hlk⟩ := id C
  unfold fM_here at hf
  refine lv_aload_n hx hb dX9_here_0 rfl (lv_at hl 0 rfl) ?_
  refine mr_getR C hR fl_122 (by decide) dX9_here_1 ?_
  refine lv_aload_n hx hb dX9_here_4 rfl (lv_at hl 0 rfl) ?_
  refine mr_getI C hR fl_313 rfl dX9_here_5 ?_
  refine lv_iload_n hx hb dX9_here_8 rfl (lv_at hl 1 rfl) ?_
  refine lv_iadd hx hb dX9_here_9 ?_
  refine lv_aload_n hx hb dX9_here_10 rfl (lv_at hl 0 rfl) ?_
  refine mr_getI C hR fl_313 rfl dX9_here_11 ?_
  refine lv_aload_n hx hb dX9_here_14 rfl (lv_at hl 0 rfl) ?_
  refine mr_getI C hR fl_310 rfl dX9_here_15 ?_
  refine lv_iadd hx hb dX9_here_18 ?_
  obtain ⟨hi, hf⟩ := ck_some hf
  refine mr_iast C hR hS (k := 40) rfl hi dX9_here_19 (fun H locs hR hS => ?_)
  exact mr_vret C hR hS hf dX9_here_20
theorem MM_here (l : Launch) (d : Dd) (g : Gm) (N : Nat) (x1 : Int32) (S : Ms) (o : Ms) (hf : fM_here N x1 S = some o) : MtV l d g yX9_here cX9_here 2 0 0 [.ref g.1, .int x1] S o :=
  mr_metV (by decide) rfl (Nat.le_of_ble_eq_true rfl) (fun p e s m args below meth c ls C hR hl => wfM_here C ⟨Nat.le_refl _, Nat.le_refl _⟩ x1 S s.heap [] ls hf hR va_S.rf hl)
def fM_turns (N : Nat) (x1 : Int32) (S : Ms) : Option (Ms) := ck x1 2000 (ck x1 2000 (ck x1 2000 (ck x1 2000 (ck x1 2000 (ck (x1 - 1) 2000 (ck x1 2000 (ck (x1 - 1) 2000 (ck x1 2000 (ck (x1 - 1) 2000 (ck x1 2000 (ck (x1 - 1) 2000 (ck x1 2000 (ck (x1 - 1) 2000 (ck x1 2000 (ck (x1 - 1) 2000 (ck (x1 - 1) 2000 (ck (x1 - 1) 2000 (ck (x1 - 1) 2000 (ck (x1 - 1) 2000 (some (pA (pA (pA (pA (pA (pA (pA (pA (pA (pA S 43 (x1 : Int32).toNatClampNeg (mA S 43 (x1 - 1 : Int32).toNatClampNeg)) 44 (x1 : Int32).toNatClampNeg (mA (pA S 43 (x1 : Int32).toNatClampNeg (mA S 43 (x1 - 1 : Int32).toNatClampNeg)) 44 (x1 - 1 : Int32).toNatClampNeg)) 45 (x1 : Int32).toNatClampNeg (mA (pA (pA S 43 (x1 : Int32).toNatClampNeg (mA S 43 (x1 - 1 : Int32).toNatClampNeg)) 44 (x1 : Int32).toNatClampNeg (mA (pA S 43 (x1 : Int32).toNatClampNeg (mA S 43 (x1 - 1 : Int32).toNatClampNeg)) 44 (x1 - 1 : Int32).toNatClampNeg)) 45 (x1 - 1 : Int32).toNatClampNeg)) 46 (x1 : Int32).toNatClampNeg (vp_nar .boolean (mA (pA (pA (pA S 43 (x1 : Int32).toNatClampNeg (mA S 43 (x1 - 1 : Int32).toNatClampNeg)) 44 (x1 : Int32).toNatClampNeg (mA (pA S 43 (x1 : Int32).toNatClampNeg (mA S 43 (x1 - 1 : Int32).toNatClampNeg)) 44 (x1 - 1 : Int32).toNatClampNeg)) 45 (x1 : Int32).toNatClampNeg (mA (pA (pA S 43 (x1 : Int32).toNatClampNeg (mA S 43 (x1 - 1 : Int32).toNatClampNeg)) 44 (x1 : Int32).toNatClampNeg (mA (pA S 43 (x1 : Int32).toNatClampNeg (mA S 43 (x1 - 1 : Int32).toNatClampNeg)) 44 (x1 - 1 : Int32).toNatClampNeg)) 45 (x1 - 1 : Int32).toNatClampNeg)) 46 (x1 - 1 : Int32).toNatClampNeg))) 47 (x1 : Int32).toNatClampNeg (mA (pA (pA (pA (pA S 43 (x1 : Int32).toNatClampNeg (mA S 43 (x1 - 1 : Int32).toNatClampNeg)) 44 (x1 : Int32).toNatClampNeg (mA (pA S 43 (x1 : Int32).toNatClampNeg (mA S 43 (x1 - 1 : Int32).toNatClampNeg)) 44 (x1 - 1 : Int32).toNatClampNeg)) 45 (x1 : Int32).toNatClampNeg (mA (pA (pA S 43 (x1 : Int32).toNatClampNeg (mA S 43 (x1 - 1 : Int32).toNatClampNeg)) 44 (x1 : Int32).toNatClampNeg (mA (pA S 43 (x1 : Int32).toNatClampNeg (mA S 43 (x1 - 1 : Int32).toNatClampNeg)) 44 (x1 - 1 : Int32).toNatClampNeg)) 45 (x1 - 1 : Int32).toNatClampNeg)) 46 (x1 : Int32).toNatClampNeg (vp_nar .boolean (mA (pA (pA (pA S 43 (x1 : Int32).toNatClampNeg (mA S 43 (x1 - 1 : Int32).toNatClampNeg)) 44 (x1 : Int32).toNatClampNeg (mA (pA S 43 (x1 : Int32).toNatClampNeg (mA S 43 (x1 - 1 : Int32).toNatClampNeg)) 44 (x1 - 1 : Int32).toNatClampNeg)) 45 (x1 : Int32).toNatClampNeg (mA (pA (pA S 43 (x1 : Int32).toNatClampNeg (mA S 43 (x1 - 1 : Int32).toNatClampNeg)) 44 (x1 : Int32).toNatClampNeg (mA (pA S 43 (x1 : Int32).toNatClampNeg (mA S 43 (x1 - 1 : Int32).toNatClampNeg)) 44 (x1 - 1 : Int32).toNatClampNeg)) 45 (x1 - 1 : Int32).toNatClampNeg)) 46 (x1 - 1 : Int32).toNatClampNeg))) 47 (x1 - 1 : Int32).toNatClampNeg)) 43 (x1 - 1 : Int32).toNatClampNeg (mA S 43 (x1 : Int32).toNatClampNeg)) 44 (x1 - 1 : Int32).toNatClampNeg (mA S 44 (x1 : Int32).toNatClampNeg)) 45 (x1 - 1 : Int32).toNatClampNeg (mA S 45 (x1 : Int32).toNatClampNeg)) 46 (x1 - 1 : Int32).toNatClampNeg (vp_nar .boolean (mA S 46 (x1 : Int32).toNatClampNeg))) 47 (x1 - 1 : Int32).toNatClampNeg (mA S 47 (x1 : Int32).toNatClampNeg))))))))))))))))))))))
set_option maxRecDepth 100000 in
set_option maxHeartbeats 4000000 in
theorem wfM_turns {p : Program} {l : Launch} {e : Env} {R : Room} {s : State} {m : MethodId} {args : Array Value} {below : List Frame} {meth : Method} {c : Code} {d : Dd} {g : Gm} {o : Ms} {N : Nat} (C : CM p s m args meth c d g cX9_turns 7 none) (hRm : 0 ≤ R.frames ∧ 0 ≤ R.locals) (x1 : Int32) (S : Ms) (H : Heap) (locs : List Loc) (ls : Array Slot) (hf : fM_turns N x1 S = some o) (hR : RM d g S H) (hS : va_S (AM g) s.heap H locs) (hl : lv_has ls 7 [(0, .ref g.1), (1, .int x1)]) : W p l e R s m args below meth c H locs 0 0 (MQ below (QV d g o) args s 0 0 (AM g)) (F0 m 0 ls []) := by
  obtain ⟨hx, hb, hml, hown, hts, hK, hg, hr, hlk⟩ := id C
  unfold fM_turns at hf
  refine lv_aload_n hx hb dX9_turns_0 rfl (lv_at hl 0 rfl) ?_
  refine mr_getR C hR fl_128 (by decide) dX9_turns_1 ?_
  refine lv_iload_n hx hb dX9_turns_4 rfl (lv_at hl 1 rfl) ?_
  obtain ⟨hi, hf⟩ := ck_some hf
  refine mr_iald C hR (k := 43) rfl hi dX9_turns_5 ?_
  refine lv_istore_n (lv' := [(2, .int (mA S 43 (x1 : Int32).toNatClampNeg)), (0, .ref g.1), (1, .int x1)]) hx hb dX9_turns_6 rfl hl (by decide) rfl (fun ls hl => ?_)
  refine lv_aload_n hx hb dX9_turns_7 rfl (lv_at hl 1 rfl) ?_
  refine mr_getR C hR fl_131 (by decide) dX9_turns_8 ?_
  refine lv_iload_n hx hb dX9_turns_11 rfl (lv_at hl 2 rfl) ?_
  obtain ⟨hi, hf⟩ := ck_some hf
  refine mr_iald C hR (k := 44) rfl hi dX9_turns_12 ?_
  refine lv_istore_n (lv' := [(3, .int (mA S 44 (x1 : Int32).toNatClampNeg)), (2, .int (mA S 43 (x1 : Int32).toNatClampNeg)), (0, .ref g.1), (1, .int x1)]) hx hb dX9_turns_13 rfl hl (by decide) rfl (fun ls hl => ?_)
  refine lv_aload_n hx hb dX9_turns_14 rfl (lv_at hl 2 rfl) ?_
  refine mr_getR C hR fl_134 (by decide) dX9_turns_15 ?_
  refine lv_iload_n hx hb dX9_turns_18 rfl (lv_at hl 3 rfl) ?_
  obtain ⟨hi, hf⟩ := ck_some hf
  refine mr_iald C hR (k := 45) rfl hi dX9_turns_19 ?_
  refine lv_istore (lv' := [(4, .int (mA S 45 (x1 : Int32).toNatClampNeg)), (3, .int (mA S 44 (x1 : Int32).toNatClampNeg)), (2, .int (mA S 43 (x1 : Int32).toNatClampNeg)), (0, .ref g.1), (1, .int x1)]) hx hb dX9_turns_20 hl (by decide) rfl (fun ls hl => ?_)
  refine lv_aload_n hx hb dX9_turns_22 rfl (lv_at hl 3 rfl) ?_
  refine mr_getR C hR fl_137 (by decide) dX9_turns_23 ?_
  refine lv_iload_n hx hb dX9_turns_26 rfl (lv_at hl 4 rfl) ?_
  obtain ⟨hi, hf⟩ := ck_some hf
  refine mr_zald C hR (k := 46) rfl hi dX9_turns_27 ?_
  refine lv_istore (lv' := [(5, .int (mA S 46 (x1 : Int32).toNatClampNeg)), (4, .int (mA S 45 (x1 : Int32).toNatClampNeg)), (3, .int (mA S 44 (x1 : Int32).toNatClampNeg)), (2, .int (mA S 43 (x1 : Int32).toNatClampNeg)), (0, .ref g.1), (1, .int x1)]) hx hb dX9_turns_28 hl (by decide) rfl (fun ls hl => ?_)
  refine lv_aload_n hx hb dX9_turns_30 rfl (lv_at hl 4 rfl) ?_
  refine mr_getR C hR fl_140 (by decide) dX9_turns_31 ?_
  refine lv_iload_n hx hb dX9_turns_34 rfl (lv_at hl 5 rfl) ?_
  obtain ⟨hi, hf⟩ := ck_some hf
  refine mr_iald C hR (k := 47) rfl hi dX9_turns_35 ?_
  refine lv_istore (lv' := [(6, .int (mA S 47 (x1 : Int32).toNatClampNeg)), (5, .int (mA S 46 (x1 : Int32).toNatClampNeg)), (4, .int (mA S 45 (x1 : Int32).toNatClampNeg)), (3, .int (mA S 44 (x1 : Int32).toNatClampNeg)), (2, .int (mA S 43 (x1 : Int32).toNatClampNeg)), (0, .ref g.1), (1, .int x1)]) hx hb dX9_turns_36 hl (by decide) rfl (fun ls hl => ?_)
  refine lv_aload_n hx hb dX9_turns_38 rfl (lv_at hl 5 rfl) ?_
  refine mr_getR C hR fl_128 (by decide) dX9_turns_39 ?_
  refine lv_iload_n hx hb dX9_turns_42 rfl (lv_at hl 6 rfl) ?_
  refine lv_aload_n hx hb dX9_turns_43 rfl (lv_at hl 5 rfl) ?_
  refine mr_getR C hR fl_128 (by decide) dX9_turns_44 ?_
  refine lv_iload_n hx hb dX9_turns_47 rfl (lv_at hl 6 rfl) ?_
  refine lv_iconst (v := 1) hx hb dX9_turns_48 (by decide) ?_
  refine lv_isub hx hb dX9_turns_49 ?_
  obtain ⟨hi, hf⟩ := ck_some hf
  refine mr_iald C hR (k := 43) rfl hi dX9_turns_50 ?_
  obtain ⟨hi, hf⟩ := ck_some hf
  refine mr_iast C hR hS (k := 43) rfl hi dX9_turns_51 (fun H locs hR hS => ?_)
  refine lv_aload_n hx hb dX9_turns_52 rfl (lv_at hl 5 rfl) ?_
  refine mr_getR C hR fl_131 (by decide) dX9_turns_53 ?_
  refine lv_iload_n hx hb dX9_turns_56 rfl (lv_at hl 6 rfl) ?_
  refine lv_aload_n hx hb dX9_turns_57 rfl (lv_at hl 5 rfl) ?_
  refine mr_getR C hR fl_131 (by decide) dX9_turns_58 ?_
  refine lv_iload_n hx hb dX9_turns_61 rfl (lv_at hl 6 rfl) ?_
  refine lv_iconst (v := 1) hx hb dX9_turns_62 (by decide) ?_
  refine lv_isub hx hb dX9_turns_63 ?_
  obtain ⟨hi, hf⟩ := ck_some hf
  refine mr_iald C hR (k := 44) rfl hi dX9_turns_64 ?_
  obtain ⟨hi, hf⟩ := ck_some hf
  refine mr_iast C hR hS (k := 44) rfl hi dX9_turns_65 (fun H locs hR hS => ?_)
  refine lv_aload_n hx hb dX9_turns_66 rfl (lv_at hl 5 rfl) ?_
  refine mr_getR C hR fl_134 (by decide) dX9_turns_67 ?_
  refine lv_iload_n hx hb dX9_turns_70 rfl (lv_at hl 6 rfl) ?_
  refine lv_aload_n hx hb dX9_turns_71 rfl (lv_at hl 5 rfl) ?_
  refine mr_getR C hR fl_134 (by decide) dX9_turns_72 ?_
  refine lv_iload_n hx hb dX9_turns_75 rfl (lv_at hl 6 rfl) ?_
  refine lv_iconst (v := 1) hx hb dX9_turns_76 (by decide) ?_
  refine lv_isub hx hb dX9_turns_77 ?_
  obtain ⟨hi, hf⟩ := ck_some hf
  refine mr_iald C hR (k := 45) rfl hi dX9_turns_78 ?_
  obtain ⟨hi, hf⟩ := ck_some hf
  refine mr_iast C hR hS (k := 45) rfl hi dX9_turns_79 (fun H locs hR hS => ?_)
  refine lv_aload_n hx hb dX9_turns_80 rfl (lv_at hl 5 rfl) ?_
  refine mr_getR C hR fl_137 (by decide) dX9_turns_81 ?_
  refine lv_iload_n hx hb dX9_turns_84 rfl (lv_at hl 6 rfl) ?_
  refine lv_aload_n hx hb dX9_turns_85 rfl (lv_at hl 5 rfl) ?_
  refine mr_getR C hR fl_137 (by decide) dX9_turns_86 ?_
  refine lv_iload_n hx hb dX9_turns_89 rfl (lv_at hl 6 rfl) ?_
  refine lv_iconst (v := 1) hx hb dX9_turns_90 (by decide) ?_
  refine lv_isub hx hb dX9_turns_91 ?_
  obtain ⟨hi, hf⟩ := ck_some hf
  refine mr_zald C hR (k := 46) rfl hi dX9_turns_92 ?_
  obtain ⟨hi, hf⟩ := ck_some hf
  refine mr_zast C hR hS (k := 46) rfl hi dX9_turns_93 (fun H locs hR hS => ?_)
  refine lv_aload_n hx hb dX9_turns_94 rfl (lv_at hl 5 rfl) ?_
  refine mr_getR C hR fl_140 (by decide) dX9_turns_95 ?_
  refine lv_iload_n hx hb dX9_turns_98 rfl (lv_at hl 6 rfl) ?_
  refine lv_aload_n hx hb dX9_turns_99 rfl (lv_at hl 5 rfl) ?_
  refine mr_getR C hR fl_140 (by decide) dX9_turns_100 ?_
  refine lv_iload_n hx hb dX9_turns_103 rfl (lv_at hl 6 rfl) ?_
  refine lv_iconst (v := 1) hx hb dX9_turns_104 (by decide) ?_
  refine lv_isub hx hb dX9_turns_105 ?_
  obtain ⟨hi, hf⟩ := ck_some hf
  refine mr_iald C hR (k := 47) rfl hi dX9_turns_106 ?_
  obtain ⟨hi, hf⟩ := ck_some hf
  refine mr_iast C hR hS (k := 47) rfl hi dX9_turns_107 (fun H locs hR hS => ?_)
  refine lv_aload_n hx hb dX9_turns_108 rfl (lv_at hl 5 rfl) ?_
  refine mr_getR C hR fl_128 (by decide) dX9_turns_109 ?_
  refine lv_iload_n hx hb dX9_turns_112 rfl (lv_at hl 6 rfl) ?_
  refine lv_iconst (v := 1) hx hb dX9_turns_113 (by decide) ?_
  refine lv_isub hx hb dX9_turns_114 ?_
  refine lv_iload_n hx hb dX9_turns_115 rfl (lv_at hl 4 rfl) ?_
  obtain ⟨hi, hf⟩ := ck_some hf
  refine mr_iast C hR hS (k := 43) rfl hi dX9_turns_116 (fun H locs hR hS => ?_)
  refine lv_aload_n hx hb dX9_turns_117 rfl (lv_at hl 5 rfl) ?_
  refine mr_getR C hR fl_131 (by decide) dX9_turns_118 ?_
  refine lv_iload_n hx hb dX9_turns_121 rfl (lv_at hl 6 rfl) ?_
  refine lv_iconst (v := 1) hx hb dX9_turns_122 (by decide) ?_
  refine lv_isub hx hb dX9_turns_123 ?_
  refine lv_iload_n hx hb dX9_turns_124 rfl (lv_at hl 3 rfl) ?_
  obtain ⟨hi, hf⟩ := ck_some hf
  refine mr_iast C hR hS (k := 44) rfl hi dX9_turns_125 (fun H locs hR hS => ?_)
  refine lv_aload_n hx hb dX9_turns_126 rfl (lv_at hl 5 rfl) ?_
  refine mr_getR C hR fl_134 (by decide) dX9_turns_127 ?_
  refine lv_iload_n hx hb dX9_turns_130 rfl (lv_at hl 6 rfl) ?_
  refine lv_iconst (v := 1) hx hb dX9_turns_131 (by decide) ?_
  refine lv_isub hx hb dX9_turns_132 ?_
  refine lv_iload hx hb dX9_turns_133 (lv_at hl 2 rfl) ?_
  obtain ⟨hi, hf⟩ := ck_some hf
  refine mr_iast C hR hS (k := 45) rfl hi dX9_turns_135 (fun H locs hR hS => ?_)
  refine lv_aload_n hx hb dX9_turns_136 rfl (lv_at hl 5 rfl) ?_
  refine mr_getR C hR fl_137 (by decide) dX9_turns_137 ?_
  refine lv_iload_n hx hb dX9_turns_140 rfl (lv_at hl 6 rfl) ?_
  refine lv_iconst (v := 1) hx hb dX9_turns_141 (by decide) ?_
  refine lv_isub hx hb dX9_turns_142 ?_
  refine lv_iload hx hb dX9_turns_143 (lv_at hl 1 rfl) ?_
  obtain ⟨hi, hf⟩ := ck_some hf
  refine mr_zast C hR hS (k := 46) rfl hi dX9_turns_145 (fun H locs hR hS => ?_)
  refine lv_aload_n hx hb dX9_turns_146 rfl (lv_at hl 5 rfl) ?_
  refine mr_getR C hR fl_140 (by decide) dX9_turns_147 ?_
  refine lv_iload_n hx hb dX9_turns_150 rfl (lv_at hl 6 rfl) ?_
  refine lv_iconst (v := 1) hx hb dX9_turns_151 (by decide) ?_
  refine lv_isub hx hb dX9_turns_152 ?_
  refine lv_iload hx hb dX9_turns_153 (lv_at hl 0 rfl) ?_
  obtain ⟨hi, hf⟩ := ck_some hf
  refine mr_iast C hR hS (k := 47) rfl hi dX9_turns_155 (fun H locs hR hS => ?_)
  exact mr_vret C hR hS hf dX9_turns_156
theorem MM_turns (l : Launch) (d : Dd) (g : Gm) (N : Nat) (x1 : Int32) (S : Ms) (o : Ms) (hf : fM_turns N x1 S = some o) : MtV l d g yX9_turns cX9_turns 7 0 0 [.ref g.1, .int x1] S o :=
  mr_metV (by decide) rfl (Nat.le_of_ble_eq_true rfl) (fun p e s m args below meth c ls C hR hl => wfM_turns C ⟨Nat.le_refl _, Nat.le_refl _⟩ x1 S s.heap [] ls hf hR va_S.rf hl)
def lM_later_80 (N : Nat) (k116 : Ms → Option (Ms)) : Nat → Int32 → Ms → Option (Ms)
  | 0, _, _ => none
  | n + 1, x5, S => if x5 ≤ 0 then (k116 S) else (ck (x5 - 1) 2000 (ck x5 2000 (if (mA S 43 (x5 - 1 : Int32).toNatClampNeg) ≤ (mA S 43 (x5 : Int32).toNatClampNeg) then (k116 S) else ((fM_turns N x5 S).bind fun o107 => lM_later_80 N k116 n (x5 + (-1)) o107))))
set_option maxRecDepth 100000 in
set_option maxHeartbeats 4000000 in
theorem wlM_later_80 {p : Program} {l : Launch} {e : Env} {R : Room} {s : State} {m : MethodId} {args : Array Value} {below : List Frame} {meth : Method} {c : Code} {d : Dd} {g : Gm} {o : Ms} {N : Nat} {k116 : Ms → Option (Ms)} (C : CM p s m args meth c d g cX9_later 6 none) (hRm : 1 ≤ R.frames ∧ 26 ≤ R.locals) (hk116 : ∀  (S : Ms) (H : Heap) (locs : List Loc) (ls : Array Slot), k116 S = some o → RM d g S H → va_S (AM g) s.heap H locs → lv_has ls 6 [(0, .ref g.1)] → W p l e R s m args below meth c H locs 0 0 (MQ below (QV d g o) args s 0 0 (AM g)) (F0 m 116 ls [])) : ∀ (n : Nat) (x5 : Int32) (S : Ms) (H : Heap) (locs : List Loc) (ls : Array Slot), lM_later_80 N k116 n x5 S = some o → RM d g S H → va_S (AM g) s.heap H locs → lv_has ls 6 [(0, .ref g.1), (5, .int x5)] → W p l e R s m args below meth c H locs 0 0 (MQ below (QV d g o) args s 0 0 (AM g)) (F0 m 80 ls []) := by
  obtain ⟨hx, hb, hml, hown, hts, hK, hg, hr, hlk⟩ := id C
  intro n
  induction n with
  | zero => intro x5 S H locs ls hf; cases hf
  | succ n ih =>
    intro x5 S H locs ls hf hR hS hl
    rw [lM_later_80] at hf
    refine lv_iload hx hb dX9_later_80 (lv_at hl 1 rfl) ?_
    refine lv_if_le (tgt := 116) hx hb dX9_later_82 (by decide) (fun hc => ?_) (fun hc => ?_)
    · rw [if_pos hc] at hf
      exact hk116 _ _ _ _ hf hR hS (lv_sub hl [0] rfl)
    · rw [if_neg hc] at hf
      refine lv_aload_n hx hb dX9_later_85 rfl (lv_at hl 0 rfl) ?_
      refine mr_getR C hR fl_128 (by decide) dX9_later_86 ?_
      refine lv_iload hx hb dX9_later_89 (lv_at hl 1 rfl) ?_
      refine lv_iconst (v := 1) hx hb dX9_later_91 (by decide) ?_
      refine lv_isub hx hb dX9_later_92 ?_
      obtain ⟨hi, hf⟩ := ck_some hf
      refine mr_iald C hR (k := 43) rfl hi dX9_later_93 ?_
      refine lv_aload_n hx hb dX9_later_94 rfl (lv_at hl 0 rfl) ?_
      refine mr_getR C hR fl_128 (by decide) dX9_later_95 ?_
      refine lv_iload hx hb dX9_later_98 (lv_at hl 1 rfl) ?_
      obtain ⟨hi, hf⟩ := ck_some hf
      refine mr_iald C hR (k := 43) rfl hi dX9_later_100 ?_
      refine lv_icmp_le (tgt := 116) hx hb dX9_later_101 (by decide) (fun hc => ?_) (fun hc => ?_)
      · rw [if_pos hc] at hf
        exact hk116 _ _ _ _ hf hR hS (lv_sub hl [0] rfl)
      · rw [if_neg hc] at hf
        refine lv_aload_n hx hb dX9_later_104 rfl (lv_at hl 0 rfl) ?_
        refine lv_iload hx hb dX9_later_105 (lv_at hl 1 rfl) ?_
        obtain ⟨o107, ho107, hf⟩ := bnd_some hf
        refine mr_callVv C hR hS (As := [.int x5]) (rest := []) (MM_turns l d g N x5 S o107 ho107) wv_412 ⟨by omega, by omega⟩ rfl rfl (Nat.le_of_ble_eq_true rfl) hl.1 dX9_later_107 ⟨Nat.zero_le _, Nat.zero_le _⟩ (fun H locs hR hS => ?_)
        refine lv_iinc (v := x5 + (-1)) (lv' := [(5, .int (x5 + (-1))), (0, .ref g.1)]) hx hb dX9_later_110 hl (k := 1) rfl rfl (by decide) rfl (fun ls hl => ?_)
        refine lv_goto (tgt := 80) hx hb dX9_later_113 (by decide) ?_
        exact ih _ _ _ _ _ hf hR hS (lv_sub hl [1, 0] rfl)
def bM_later_116 (N : Nat)  (S : Ms) : Option (Ms) := some S
set_option maxRecDepth 100000 in
set_option maxHeartbeats 4000000 in
theorem wbM_later_116 {p : Program} {l : Launch} {e : Env} {R : Room} {s : State} {m : MethodId} {args : Array Value} {below : List Frame} {meth : Method} {c : Code} {d : Dd} {g : Gm} {o : Ms} {N : Nat} (C : CM p s m args meth c d g cX9_later 6 none) (hRm : 1 ≤ R.frames ∧ 26 ≤ R.locals)  (S : Ms) (H : Heap) (locs : List Loc) (ls : Array Slot) (hf : bM_later_116 N  S = some o) (hR : RM d g S H) (hS : va_S (AM g) s.heap H locs) (hl : lv_has ls 6 [(0, .ref g.1)]) : W p l e R s m args below meth c H locs 0 0 (MQ below (QV d g o) args s 0 0 (AM g)) (F0 m 116 ls []) := by
  obtain ⟨hx, hb, hml, hown, hts, hK, hg, hr, hlk⟩ := id C
  unfold bM_later_116 at hf
  exact mr_vret C hR hS hf dX9_later_116
def fM_later (N : Nat) (x1 : Int32) (x2 : Int32) (x3 : Int32) (x4 : Int32) (S : Ms) : Option (Ms) := if (mF S 8) ≤ 0 then (ck (mF S 48) 2000 (ck (mF (pA S 43 (mF S 48 : Int32).toNatClampNeg x1) 48) 2000 (ck (mF (pA (pA S 43 (mF S 48 : Int32).toNatClampNeg x1) 44 (mF (pA S 43 (mF S 48 : Int32).toNatClampNeg x1) 48 : Int32).toNatClampNeg x2) 48) 2000 (ck (mF (pA (pA (pA S 43 (mF S 48 : Int32).toNatClampNeg x1) 44 (mF (pA S 43 (mF S 48 : Int32).toNatClampNeg x1) 48 : Int32).toNatClampNeg x2) 45 (mF (pA (pA S 43 (mF S 48 : Int32).toNatClampNeg x1) 44 (mF (pA S 43 (mF S 48 : Int32).toNatClampNeg x1) 48 : Int32).toNatClampNeg x2) 48 : Int32).toNatClampNeg x3) 48) 2000 (ck (mF (pA (pA (pA (pA S 43 (mF S 48 : Int32).toNatClampNeg x1) 44 (mF (pA S 43 (mF S 48 : Int32).toNatClampNeg x1) 48 : Int32).toNatClampNeg x2) 45 (mF (pA (pA S 43 (mF S 48 : Int32).toNatClampNeg x1) 44 (mF (pA S 43 (mF S 48 : Int32).toNatClampNeg x1) 48 : Int32).toNatClampNeg x2) 48 : Int32).toNatClampNeg x3) 46 (mF (pA (pA (pA S 43 (mF S 48 : Int32).toNatClampNeg x1) 44 (mF (pA S 43 (mF S 48 : Int32).toNatClampNeg x1) 48 : Int32).toNatClampNeg x2) 45 (mF (pA (pA S 43 (mF S 48 : Int32).toNatClampNeg x1) 44 (mF (pA S 43 (mF S 48 : Int32).toNatClampNeg x1) 48 : Int32).toNatClampNeg x2) 48 : Int32).toNatClampNeg x3) 48 : Int32).toNatClampNeg (vp_nar .boolean x4)) 48) 2000 ((lM_later_80 N (bM_later_116 N) N) ((mF (pF (pA (pA (pA (pA (pA S 43 (mF S 48 : Int32).toNatClampNeg x1) 44 (mF (pA S 43 (mF S 48 : Int32).toNatClampNeg x1) 48 : Int32).toNatClampNeg x2) 45 (mF (pA (pA S 43 (mF S 48 : Int32).toNatClampNeg x1) 44 (mF (pA S 43 (mF S 48 : Int32).toNatClampNeg x1) 48 : Int32).toNatClampNeg x2) 48 : Int32).toNatClampNeg x3) 46 (mF (pA (pA (pA S 43 (mF S 48 : Int32).toNatClampNeg x1) 44 (mF (pA S 43 (mF S 48 : Int32).toNatClampNeg x1) 48 : Int32).toNatClampNeg x2) 45 (mF (pA (pA S 43 (mF S 48 : Int32).toNatClampNeg x1) 44 (mF (pA S 43 (mF S 48 : Int32).toNatClampNeg x1) 48 : Int32).toNatClampNeg x2) 48 : Int32).toNatClampNeg x3) 48 : Int32).toNatClampNeg (vp_nar .boolean x4)) 47 (mF (pA (pA (pA (pA S 43 (mF S 48 : Int32).toNatClampNeg x1) 44 (mF (pA S 43 (mF S 48 : Int32).toNatClampNeg x1) 48 : Int32).toNatClampNeg x2) 45 (mF (pA (pA S 43 (mF S 48 : Int32).toNatClampNeg x1) 44 (mF (pA S 43 (mF S 48 : Int32).toNatClampNeg x1) 48 : Int32).toNatClampNeg x2) 48 : Int32).toNatClampNeg x3) 46 (mF (pA (pA (pA S 43 (mF S 48 : Int32).toNatClampNeg x1) 44 (mF (pA S 43 (mF S 48 : Int32).toNatClampNeg x1) 48 : Int32).toNatClampNeg x2) 45 (mF (pA (pA S 43 (mF S 48 : Int32).toNatClampNeg x1) 44 (mF (pA S 43 (mF S 48 : Int32).toNatClampNeg x1) 48 : Int32).toNatClampNeg x2) 48 : Int32).toNatClampNeg x3) 48 : Int32).toNatClampNeg (vp_nar .boolean x4)) 48 : Int32).toNatClampNeg (mF (pA (pA (pA (pA S 43 (mF S 48 : Int32).toNatClampNeg x1) 44 (mF (pA S 43 (mF S 48 : Int32).toNatClampNeg x1) 48 : Int32).toNatClampNeg x2) 45 (mF (pA (pA S 43 (mF S 48 : Int32).toNatClampNeg x1) 44 (mF (pA S 43 (mF S 48 : Int32).toNatClampNeg x1) 48 : Int32).toNatClampNeg x2) 48 : Int32).toNatClampNeg x3) 46 (mF (pA (pA (pA S 43 (mF S 48 : Int32).toNatClampNeg x1) 44 (mF (pA S 43 (mF S 48 : Int32).toNatClampNeg x1) 48 : Int32).toNatClampNeg x2) 45 (mF (pA (pA S 43 (mF S 48 : Int32).toNatClampNeg x1) 44 (mF (pA S 43 (mF S 48 : Int32).toNatClampNeg x1) 48 : Int32).toNatClampNeg x2) 48 : Int32).toNatClampNeg x3) 48 : Int32).toNatClampNeg (vp_nar .boolean x4)) 49)) 48 ((mF (pA (pA (pA (pA (pA S 43 (mF S 48 : Int32).toNatClampNeg x1) 44 (mF (pA S 43 (mF S 48 : Int32).toNatClampNeg x1) 48 : Int32).toNatClampNeg x2) 45 (mF (pA (pA S 43 (mF S 48 : Int32).toNatClampNeg x1) 44 (mF (pA S 43 (mF S 48 : Int32).toNatClampNeg x1) 48 : Int32).toNatClampNeg x2) 48 : Int32).toNatClampNeg x3) 46 (mF (pA (pA (pA S 43 (mF S 48 : Int32).toNatClampNeg x1) 44 (mF (pA S 43 (mF S 48 : Int32).toNatClampNeg x1) 48 : Int32).toNatClampNeg x2) 45 (mF (pA (pA S 43 (mF S 48 : Int32).toNatClampNeg x1) 44 (mF (pA S 43 (mF S 48 : Int32).toNatClampNeg x1) 48 : Int32).toNatClampNeg x2) 48 : Int32).toNatClampNeg x3) 48 : Int32).toNatClampNeg (vp_nar .boolean x4)) 47 (mF (pA (pA (pA (pA S 43 (mF S 48 : Int32).toNatClampNeg x1) 44 (mF (pA S 43 (mF S 48 : Int32).toNatClampNeg x1) 48 : Int32).toNatClampNeg x2) 45 (mF (pA (pA S 43 (mF S 48 : Int32).toNatClampNeg x1) 44 (mF (pA S 43 (mF S 48 : Int32).toNatClampNeg x1) 48 : Int32).toNatClampNeg x2) 48 : Int32).toNatClampNeg x3) 46 (mF (pA (pA (pA S 43 (mF S 48 : Int32).toNatClampNeg x1) 44 (mF (pA S 43 (mF S 48 : Int32).toNatClampNeg x1) 48 : Int32).toNatClampNeg x2) 45 (mF (pA (pA S 43 (mF S 48 : Int32).toNatClampNeg x1) 44 (mF (pA S 43 (mF S 48 : Int32).toNatClampNeg x1) 48 : Int32).toNatClampNeg x2) 48 : Int32).toNatClampNeg x3) 48 : Int32).toNatClampNeg (vp_nar .boolean x4)) 48 : Int32).toNatClampNeg (mF (pA (pA (pA (pA S 43 (mF S 48 : Int32).toNatClampNeg x1) 44 (mF (pA S 43 (mF S 48 : Int32).toNatClampNeg x1) 48 : Int32).toNatClampNeg x2) 45 (mF (pA (pA S 43 (mF S 48 : Int32).toNatClampNeg x1) 44 (mF (pA S 43 (mF S 48 : Int32).toNatClampNeg x1) 48 : Int32).toNatClampNeg x2) 48 : Int32).toNatClampNeg x3) 46 (mF (pA (pA (pA S 43 (mF S 48 : Int32).toNatClampNeg x1) 44 (mF (pA S 43 (mF S 48 : Int32).toNatClampNeg x1) 48 : Int32).toNatClampNeg x2) 45 (mF (pA (pA S 43 (mF S 48 : Int32).toNatClampNeg x1) 44 (mF (pA S 43 (mF S 48 : Int32).toNatClampNeg x1) 48 : Int32).toNatClampNeg x2) 48 : Int32).toNatClampNeg x3) 48 : Int32).toNatClampNeg (vp_nar .boolean x4)) 49)) 48) + 1)) 48) - 1) (pF (pA (pA (pA (pA (pA S 43 (mF S 48 : Int32).toNatClampNeg x1) 44 (mF (pA S 43 (mF S 48 : Int32).toNatClampNeg x1) 48 : Int32).toNatClampNeg x2) 45 (mF (pA (pA S 43 (mF S 48 : Int32).toNatClampNeg x1) 44 (mF (pA S 43 (mF S 48 : Int32).toNatClampNeg x1) 48 : Int32).toNatClampNeg x2) 48 : Int32).toNatClampNeg x3) 46 (mF (pA (pA (pA S 43 (mF S 48 : Int32).toNatClampNeg x1) 44 (mF (pA S 43 (mF S 48 : Int32).toNatClampNeg x1) 48 : Int32).toNatClampNeg x2) 45 (mF (pA (pA S 43 (mF S 48 : Int32).toNatClampNeg x1) 44 (mF (pA S 43 (mF S 48 : Int32).toNatClampNeg x1) 48 : Int32).toNatClampNeg x2) 48 : Int32).toNatClampNeg x3) 48 : Int32).toNatClampNeg (vp_nar .boolean x4)) 47 (mF (pA (pA (pA (pA S 43 (mF S 48 : Int32).toNatClampNeg x1) 44 (mF (pA S 43 (mF S 48 : Int32).toNatClampNeg x1) 48 : Int32).toNatClampNeg x2) 45 (mF (pA (pA S 43 (mF S 48 : Int32).toNatClampNeg x1) 44 (mF (pA S 43 (mF S 48 : Int32).toNatClampNeg x1) 48 : Int32).toNatClampNeg x2) 48 : Int32).toNatClampNeg x3) 46 (mF (pA (pA (pA S 43 (mF S 48 : Int32).toNatClampNeg x1) 44 (mF (pA S 43 (mF S 48 : Int32).toNatClampNeg x1) 48 : Int32).toNatClampNeg x2) 45 (mF (pA (pA S 43 (mF S 48 : Int32).toNatClampNeg x1) 44 (mF (pA S 43 (mF S 48 : Int32).toNatClampNeg x1) 48 : Int32).toNatClampNeg x2) 48 : Int32).toNatClampNeg x3) 48 : Int32).toNatClampNeg (vp_nar .boolean x4)) 48 : Int32).toNatClampNeg (mF (pA (pA (pA (pA S 43 (mF S 48 : Int32).toNatClampNeg x1) 44 (mF (pA S 43 (mF S 48 : Int32).toNatClampNeg x1) 48 : Int32).toNatClampNeg x2) 45 (mF (pA (pA S 43 (mF S 48 : Int32).toNatClampNeg x1) 44 (mF (pA S 43 (mF S 48 : Int32).toNatClampNeg x1) 48 : Int32).toNatClampNeg x2) 48 : Int32).toNatClampNeg x3) 46 (mF (pA (pA (pA S 43 (mF S 48 : Int32).toNatClampNeg x1) 44 (mF (pA S 43 (mF S 48 : Int32).toNatClampNeg x1) 48 : Int32).toNatClampNeg x2) 45 (mF (pA (pA S 43 (mF S 48 : Int32).toNatClampNeg x1) 44 (mF (pA S 43 (mF S 48 : Int32).toNatClampNeg x1) 48 : Int32).toNatClampNeg x2) 48 : Int32).toNatClampNeg x3) 48 : Int32).toNatClampNeg (vp_nar .boolean x4)) 49)) 48 ((mF (pA (pA (pA (pA (pA S 43 (mF S 48 : Int32).toNatClampNeg x1) 44 (mF (pA S 43 (mF S 48 : Int32).toNatClampNeg x1) 48 : Int32).toNatClampNeg x2) 45 (mF (pA (pA S 43 (mF S 48 : Int32).toNatClampNeg x1) 44 (mF (pA S 43 (mF S 48 : Int32).toNatClampNeg x1) 48 : Int32).toNatClampNeg x2) 48 : Int32).toNatClampNeg x3) 46 (mF (pA (pA (pA S 43 (mF S 48 : Int32).toNatClampNeg x1) 44 (mF (pA S 43 (mF S 48 : Int32).toNatClampNeg x1) 48 : Int32).toNatClampNeg x2) 45 (mF (pA (pA S 43 (mF S 48 : Int32).toNatClampNeg x1) 44 (mF (pA S 43 (mF S 48 : Int32).toNatClampNeg x1) 48 : Int32).toNatClampNeg x2) 48 : Int32).toNatClampNeg x3) 48 : Int32).toNatClampNeg (vp_nar .boolean x4)) 47 (mF (pA (pA (pA (pA S 43 (mF S 48 : Int32).toNatClampNeg x1) 44 (mF (pA S 43 (mF S 48 : Int32).toNatClampNeg x1) 48 : Int32).toNatClampNeg x2) 45 (mF (pA (pA S 43 (mF S 48 : Int32).toNatClampNeg x1) 44 (mF (pA S 43 (mF S 48 : Int32).toNatClampNeg x1) 48 : Int32).toNatClampNeg x2) 48 : Int32).toNatClampNeg x3) 46 (mF (pA (pA (pA S 43 (mF S 48 : Int32).toNatClampNeg x1) 44 (mF (pA S 43 (mF S 48 : Int32).toNatClampNeg x1) 48 : Int32).toNatClampNeg x2) 45 (mF (pA (pA S 43 (mF S 48 : Int32).toNatClampNeg x1) 44 (mF (pA S 43 (mF S 48 : Int32).toNatClampNeg x1) 48 : Int32).toNatClampNeg x2) 48 : Int32).toNatClampNeg x3) 48 : Int32).toNatClampNeg (vp_nar .boolean x4)) 48 : Int32).toNatClampNeg (mF (pA (pA (pA (pA S 43 (mF S 48 : Int32).toNatClampNeg x1) 44 (mF (pA S 43 (mF S 48 : Int32).toNatClampNeg x1) 48 : Int32).toNatClampNeg x2) 45 (mF (pA (pA S 43 (mF S 48 : Int32).toNatClampNeg x1) 44 (mF (pA S 43 (mF S 48 : Int32).toNatClampNeg x1) 48 : Int32).toNatClampNeg x2) 48 : Int32).toNatClampNeg x3) 46 (mF (pA (pA (pA S 43 (mF S 48 : Int32).toNatClampNeg x1) 44 (mF (pA S 43 (mF S 48 : Int32).toNatClampNeg x1) 48 : Int32).toNatClampNeg x2) 45 (mF (pA (pA S 43 (mF S 48 : Int32).toNatClampNeg x1) 44 (mF (pA S 43 (mF S 48 : Int32).toNatClampNeg x1) 48 : Int32).toNatClampNeg x2) 48 : Int32).toNatClampNeg x3) 48 : Int32).toNatClampNeg (vp_nar .boolean x4)) 49)) 48) + 1)))))))) else (some S)
set_option maxRecDepth 100000 in
set_option maxHeartbeats 4000000 in
theorem wfM_later {p : Program} {l : Launch} {e : Env} {R : Room} {s : State} {m : MethodId} {args : Array Value} {below : List Frame} {meth : Method} {c : Code} {d : Dd} {g : Gm} {o : Ms} {N : Nat} (C : CM p s m args meth c d g cX9_later 6 none) (hRm : 1 ≤ R.frames ∧ 26 ≤ R.locals) (x1 : Int32) (x2 : Int32) (x3 : Int32) (x4 : Int32) (S : Ms) (H : Heap) (locs : List Loc) (ls : Array Slot) (hf : fM_later N x1 x2 x3 x4 S = some o) (hR : RM d g S H) (hS : va_S (AM g) s.heap H locs) (hl : lv_has ls 6 [(0, .ref g.1), (1, .int x1), (2, .int x2), (3, .int x3), (4, .int x4)]) : W p l e R s m args below meth c H locs 0 0 (MQ below (QV d g o) args s 0 0 (AM g)) (F0 m 0 ls []) := by
  obtain ⟨hx, hb, hml, hown, hts, hK, hg, hr, hlk⟩ := id C
  unfold fM_later at hf
  refine lv_aload_n hx hb dX9_later_0 rfl (lv_at hl 0 rfl) ?_
  refine mr_getI C hR fl_281 rfl dX9_later_1 ?_
  refine lv_if_le (tgt := 8) hx hb dX9_later_4 (by decide) (fun hc => ?_) (fun hc => ?_)
  · rw [if_pos hc] at hf
    refine lv_aload_n hx hb dX9_later_8 rfl (lv_at hl 0 rfl) ?_
    refine mr_getR C hR fl_128 (by decide) dX9_later_9 ?_
    refine lv_aload_n hx hb dX9_later_12 rfl (lv_at hl 0 rfl) ?_
    refine mr_getI C hR fl_316 rfl dX9_later_13 ?_
    refine lv_iload_n hx hb dX9_later_16 rfl (lv_at hl 1 rfl) ?_
    obtain ⟨hi, hf⟩ := ck_some hf
    refine mr_iast C hR hS (k := 43) rfl hi dX9_later_17 (fun H locs hR hS => ?_)
    refine lv_aload_n hx hb dX9_later_18 rfl (lv_at hl 0 rfl) ?_
    refine mr_getR C hR fl_131 (by decide) dX9_later_19 ?_
    refine lv_aload_n hx hb dX9_later_22 rfl (lv_at hl 0 rfl) ?_
    refine mr_getI C hR fl_316 rfl dX9_later_23 ?_
    refine lv_iload_n hx hb dX9_later_26 rfl (lv_at hl 2 rfl) ?_
    obtain ⟨hi, hf⟩ := ck_some hf
    refine mr_iast C hR hS (k := 44) rfl hi dX9_later_27 (fun H locs hR hS => ?_)
    refine lv_aload_n hx hb dX9_later_28 rfl (lv_at hl 0 rfl) ?_
    refine mr_getR C hR fl_134 (by decide) dX9_later_29 ?_
    refine lv_aload_n hx hb dX9_later_32 rfl (lv_at hl 0 rfl) ?_
    refine mr_getI C hR fl_316 rfl dX9_later_33 ?_
    refine lv_iload_n hx hb dX9_later_36 rfl (lv_at hl 3 rfl) ?_
    obtain ⟨hi, hf⟩ := ck_some hf
    refine mr_iast C hR hS (k := 45) rfl hi dX9_later_37 (fun H locs hR hS => ?_)
    refine lv_aload_n hx hb dX9_later_38 rfl (lv_at hl 0 rfl) ?_
    refine mr_getR C hR fl_137 (by decide) dX9_later_39 ?_
    refine lv_aload_n hx hb dX9_later_42 rfl (lv_at hl 0 rfl) ?_
    refine mr_getI C hR fl_316 rfl dX9_later_43 ?_
    refine lv_iload hx hb dX9_later_46 (lv_at hl 4 rfl) ?_
    obtain ⟨hi, hf⟩ := ck_some hf
    refine mr_zast C hR hS (k := 46) rfl hi dX9_later_48 (fun H locs hR hS => ?_)
    refine lv_aload_n hx hb dX9_later_49 rfl (lv_at hl 0 rfl) ?_
    refine mr_getR C hR fl_140 (by decide) dX9_later_50 ?_
    refine lv_aload_n hx hb dX9_later_53 rfl (lv_at hl 0 rfl) ?_
    refine mr_getI C hR fl_316 rfl dX9_later_54 ?_
    refine lv_aload_n hx hb dX9_later_57 rfl (lv_at hl 0 rfl) ?_
    refine mr_getI C hR fl_370 rfl dX9_later_58 ?_
    obtain ⟨hi, hf⟩ := ck_some hf
    refine mr_iast C hR hS (k := 47) rfl hi dX9_later_61 (fun H locs hR hS => ?_)
    refine lv_aload_n hx hb dX9_later_62 rfl (lv_at hl 0 rfl) ?_
    refine lv_dup hx hb dX9_later_63 rfl ?_
    refine mr_getI C hR fl_316 rfl dX9_later_64 ?_
    refine lv_iconst (v := 1) hx hb dX9_later_67 (by decide) ?_
    refine lv_iadd hx hb dX9_later_68 ?_
    refine mr_putI C hR hS fl_316 ⟨rfl, rfl, rfl⟩ dX9_later_69 (fun H locs hR hS => ?_)
    refine lv_aload_n hx hb dX9_later_72 rfl (lv_at hl 0 rfl) ?_
    refine mr_getI C hR fl_316 rfl dX9_later_73 ?_
    refine lv_iconst (v := 1) hx hb dX9_later_76 (by decide) ?_
    refine lv_isub hx hb dX9_later_77 ?_
    refine lv_istore (lv' := [(5, .int ((mF (pF (pA (pA (pA (pA (pA S 43 (mF S 48 : Int32).toNatClampNeg x1) 44 (mF (pA S 43 (mF S 48 : Int32).toNatClampNeg x1) 48 : Int32).toNatClampNeg x2) 45 (mF (pA (pA S 43 (mF S 48 : Int32).toNatClampNeg x1) 44 (mF (pA S 43 (mF S 48 : Int32).toNatClampNeg x1) 48 : Int32).toNatClampNeg x2) 48 : Int32).toNatClampNeg x3) 46 (mF (pA (pA (pA S 43 (mF S 48 : Int32).toNatClampNeg x1) 44 (mF (pA S 43 (mF S 48 : Int32).toNatClampNeg x1) 48 : Int32).toNatClampNeg x2) 45 (mF (pA (pA S 43 (mF S 48 : Int32).toNatClampNeg x1) 44 (mF (pA S 43 (mF S 48 : Int32).toNatClampNeg x1) 48 : Int32).toNatClampNeg x2) 48 : Int32).toNatClampNeg x3) 48 : Int32).toNatClampNeg (vp_nar .boolean x4)) 47 (mF (pA (pA (pA (pA S 43 (mF S 48 : Int32).toNatClampNeg x1) 44 (mF (pA S 43 (mF S 48 : Int32).toNatClampNeg x1) 48 : Int32).toNatClampNeg x2) 45 (mF (pA (pA S 43 (mF S 48 : Int32).toNatClampNeg x1) 44 (mF (pA S 43 (mF S 48 : Int32).toNatClampNeg x1) 48 : Int32).toNatClampNeg x2) 48 : Int32).toNatClampNeg x3) 46 (mF (pA (pA (pA S 43 (mF S 48 : Int32).toNatClampNeg x1) 44 (mF (pA S 43 (mF S 48 : Int32).toNatClampNeg x1) 48 : Int32).toNatClampNeg x2) 45 (mF (pA (pA S 43 (mF S 48 : Int32).toNatClampNeg x1) 44 (mF (pA S 43 (mF S 48 : Int32).toNatClampNeg x1) 48 : Int32).toNatClampNeg x2) 48 : Int32).toNatClampNeg x3) 48 : Int32).toNatClampNeg (vp_nar .boolean x4)) 48 : Int32).toNatClampNeg (mF (pA (pA (pA (pA S 43 (mF S 48 : Int32).toNatClampNeg x1) 44 (mF (pA S 43 (mF S 48 : Int32).toNatClampNeg x1) 48 : Int32).toNatClampNeg x2) 45 (mF (pA (pA S 43 (mF S 48 : Int32).toNatClampNeg x1) 44 (mF (pA S 43 (mF S 48 : Int32).toNatClampNeg x1) 48 : Int32).toNatClampNeg x2) 48 : Int32).toNatClampNeg x3) 46 (mF (pA (pA (pA S 43 (mF S 48 : Int32).toNatClampNeg x1) 44 (mF (pA S 43 (mF S 48 : Int32).toNatClampNeg x1) 48 : Int32).toNatClampNeg x2) 45 (mF (pA (pA S 43 (mF S 48 : Int32).toNatClampNeg x1) 44 (mF (pA S 43 (mF S 48 : Int32).toNatClampNeg x1) 48 : Int32).toNatClampNeg x2) 48 : Int32).toNatClampNeg x3) 48 : Int32).toNatClampNeg (vp_nar .boolean x4)) 49)) 48 ((mF (pA (pA (pA (pA (pA S 43 (mF S 48 : Int32).toNatClampNeg x1) 44 (mF (pA S 43 (mF S 48 : Int32).toNatClampNeg x1) 48 : Int32).toNatClampNeg x2) 45 (mF (pA (pA S 43 (mF S 48 : Int32).toNatClampNeg x1) 44 (mF (pA S 43 (mF S 48 : Int32).toNatClampNeg x1) 48 : Int32).toNatClampNeg x2) 48 : Int32).toNatClampNeg x3) 46 (mF (pA (pA (pA S 43 (mF S 48 : Int32).toNatClampNeg x1) 44 (mF (pA S 43 (mF S 48 : Int32).toNatClampNeg x1) 48 : Int32).toNatClampNeg x2) 45 (mF (pA (pA S 43 (mF S 48 : Int32).toNatClampNeg x1) 44 (mF (pA S 43 (mF S 48 : Int32).toNatClampNeg x1) 48 : Int32).toNatClampNeg x2) 48 : Int32).toNatClampNeg x3) 48 : Int32).toNatClampNeg (vp_nar .boolean x4)) 47 (mF (pA (pA (pA (pA S 43 (mF S 48 : Int32).toNatClampNeg x1) 44 (mF (pA S 43 (mF S 48 : Int32).toNatClampNeg x1) 48 : Int32).toNatClampNeg x2) 45 (mF (pA (pA S 43 (mF S 48 : Int32).toNatClampNeg x1) 44 (mF (pA S 43 (mF S 48 : Int32).toNatClampNeg x1) 48 : Int32).toNatClampNeg x2) 48 : Int32).toNatClampNeg x3) 46 (mF (pA (pA (pA S 43 (mF S 48 : Int32).toNatClampNeg x1) 44 (mF (pA S 43 (mF S 48 : Int32).toNatClampNeg x1) 48 : Int32).toNatClampNeg x2) 45 (mF (pA (pA S 43 (mF S 48 : Int32).toNatClampNeg x1) 44 (mF (pA S 43 (mF S 48 : Int32).toNatClampNeg x1) 48 : Int32).toNatClampNeg x2) 48 : Int32).toNatClampNeg x3) 48 : Int32).toNatClampNeg (vp_nar .boolean x4)) 48 : Int32).toNatClampNeg (mF (pA (pA (pA (pA S 43 (mF S 48 : Int32).toNatClampNeg x1) 44 (mF (pA S 43 (mF S 48 : Int32).toNatClampNeg x1) 48 : Int32).toNatClampNeg x2) 45 (mF (pA (pA S 43 (mF S 48 : Int32).toNatClampNeg x1) 44 (mF (pA S 43 (mF S 48 : Int32).toNatClampNeg x1) 48 : Int32).toNatClampNeg x2) 48 : Int32).toNatClampNeg x3) 46 (mF (pA (pA (pA S 43 (mF S 48 : Int32).toNatClampNeg x1) 44 (mF (pA S 43 (mF S 48 : Int32).toNatClampNeg x1) 48 : Int32).toNatClampNeg x2) 45 (mF (pA (pA S 43 (mF S 48 : Int32).toNatClampNeg x1) 44 (mF (pA S 43 (mF S 48 : Int32).toNatClampNeg x1) 48 : Int32).toNatClampNeg x2) 48 : Int32).toNatClampNeg x3) 48 : Int32).toNatClampNeg (vp_nar .boolean x4)) 49)) 48) + 1)) 48) - 1)), (0, .ref g.1), (1, .int x1), (2, .int x2), (3, .int x3), (4, .int x4)]) hx hb dX9_later_78 hl (by decide) rfl (fun ls hl => ?_)
    exact (wlM_later_80 C hRm (wbM_later_116 C hRm) N) _ _ _ _ _ hf hR hS (lv_sub hl [1, 0] rfl)
  · rw [if_neg hc] at hf
    exact mr_vret C hR hS hf dX9_later_7
theorem MM_later (l : Launch) (d : Dd) (g : Gm) (N : Nat) (x1 : Int32) (x2 : Int32) (x3 : Int32) (x4 : Int32) (S : Ms) (o : Ms) (hf : fM_later N x1 x2 x3 x4 S = some o) : MtV l d g yX9_later cX9_later 6 1 26 [.ref g.1, .int x1, .int x2, .int x3, .int x4] S o :=
  mr_metV (by decide) rfl (Nat.le_of_ble_eq_true rfl) (fun p e s m args below meth c ls C hR hl => wfM_later C ⟨Nat.le_refl _, Nat.le_refl _⟩ x1 x2 x3 x4 S s.heap [] ls hf hR va_S.rf hl)
def bM_takeDevice_80 (N : Nat) (x1 : Int32) (S : Ms) : Option (Int32 × Ms) := some (x1, pF S 7 ((mF S 7) + 1))
set_option maxRecDepth 100000 in
set_option maxHeartbeats 4000000 in
theorem wbM_takeDevice_80 {p : Program} {l : Launch} {e : Env} {R : Room} {s : State} {m : MethodId} {args : Array Value} {below : List Frame} {meth : Method} {c : Code} {d : Dd} {g : Gm} {o : Int32 × Ms} {N : Nat} (C : CM p s m args meth c d g cX9_takeDevice 2 (some .int)) (hRm : 1 ≤ R.frames ∧ 27 ≤ R.locals) (x1 : Int32) (S : Ms) (H : Heap) (locs : List Loc) (ls : Array Slot) (hf : bM_takeDevice_80 N x1 S = some o) (hR : RM d g S H) (hS : va_S (AM g) s.heap H locs) (hl : lv_has ls 2 [(0, .ref g.1), (1, .int x1)]) : W p l e R s m args below meth c H locs 0 0 (MQ below (QI d g o) args s 0 0 (AM g)) (F0 m 80 ls []) := by
  obtain ⟨hx, hb, hml, hown, hts, hK, hg, hr, hlk⟩ := id C
  unfold bM_takeDevice_80 at hf
  refine lv_aload_n hx hb dX9_takeDevice_80 rfl (lv_at hl 0 rfl) ?_
  refine lv_dup hx hb dX9_takeDevice_81 rfl ?_
  refine mr_getI C hR fl_278 rfl dX9_takeDevice_82 ?_
  refine lv_iconst (v := 1) hx hb dX9_takeDevice_85 (by decide) ?_
  refine lv_iadd hx hb dX9_takeDevice_86 ?_
  refine mr_putI C hR hS fl_278 ⟨rfl, rfl, rfl⟩ dX9_takeDevice_87 (fun H locs hR hS => ?_)
  refine lv_iload_n hx hb dX9_takeDevice_90 rfl (lv_at hl 1 rfl) ?_
  exact mr_iret C hR hS hf dX9_takeDevice_91
def bM_takeDevice_63 (N : Nat) (s0 : Int32) (S : Ms) : Option (Int32 × Ms) := if (mF S 8) = 0 then (if 0 ≤ s0 then ((bM_takeDevice_80 N) s0 S) else ((fM_wrong N 2 S).bind fun o77 => (bM_takeDevice_80 N) s0 o77)) else ((bM_takeDevice_80 N) s0 S)
set_option maxRecDepth 100000 in
set_option maxHeartbeats 4000000 in
theorem wbM_takeDevice_63 {p : Program} {l : Launch} {e : Env} {R : Room} {s : State} {m : MethodId} {args : Array Value} {below : List Frame} {meth : Method} {c : Code} {d : Dd} {g : Gm} {o : Int32 × Ms} {N : Nat} (C : CM p s m args meth c d g cX9_takeDevice 2 (some .int)) (hRm : 1 ≤ R.frames ∧ 27 ≤ R.locals) (s0 : Int32) (S : Ms) (H : Heap) (locs : List Loc) (ls : Array Slot) (hf : bM_takeDevice_63 N s0 S = some o) (hR : RM d g S H) (hS : va_S (AM g) s.heap H locs) (hl : lv_has ls 2 [(0, .ref g.1)]) : W p l e R s m args below meth c H locs 0 0 (MQ below (QI d g o) args s 0 0 (AM g)) (F0 m 63 ls [.int s0]) := by
  obtain ⟨hx, hb, hml, hown, hts, hK, hg, hr, hlk⟩ := id C
  unfold bM_takeDevice_63 at hf
  refine lv_istore_n (lv' := [(1, .int s0), (0, .ref g.1)]) hx hb dX9_takeDevice_63 rfl hl (by decide) rfl (fun ls hl => ?_)
  refine lv_aload_n hx hb dX9_takeDevice_64 rfl (lv_at hl 1 rfl) ?_
  refine mr_getI C hR fl_281 rfl dX9_takeDevice_65 ?_
  refine lv_if_ne (tgt := 80) hx hb dX9_takeDevice_68 (by decide) (fun hc => ?_) (fun hc => ?_)
  · rw [if_neg hc] at hf
    exact (wbM_takeDevice_80 C hRm) _ _ _ _ _ hf hR hS (lv_sub hl [1, 0] rfl)
  · rw [if_pos hc] at hf
    refine lv_iload_n hx hb dX9_takeDevice_71 rfl (lv_at hl 0 rfl) ?_
    refine lv_if_ge (tgt := 80) hx hb dX9_takeDevice_72 (by decide) (fun hc => ?_) (fun hc => ?_)
    · rw [if_pos hc] at hf
      exact (wbM_takeDevice_80 C hRm) _ _ _ _ _ hf hR hS (lv_sub hl [1, 0] rfl)
    · rw [if_neg hc] at hf
      refine lv_aload_n hx hb dX9_takeDevice_75 rfl (lv_at hl 1 rfl) ?_
      refine lv_iconst (v := 2) hx hb dX9_takeDevice_76 (by decide) ?_
      obtain ⟨o77, ho77, hf⟩ := bnd_some hf
      refine mr_callVv C hR hS (As := [.int 2]) (rest := []) (MM_wrong l d g N 2 S o77 ho77) wv_287 ⟨by omega, by omega⟩ rfl rfl (Nat.le_of_ble_eq_true rfl) hl.1 dX9_takeDevice_77 ⟨Nat.zero_le _, Nat.zero_le _⟩ (fun H locs hR hS => ?_)
      exact (wbM_takeDevice_80 C hRm) _ _ _ _ _ hf hR hS (lv_sub hl [1, 0] rfl)
def bM_takeDevice_19 (N : Nat)  (S : Ms) : Option (Int32 × Ms) := if (mF S 8) = 0 then (ck (mF S 12) 2 (ck (mF S 7) 4002 ((fM_find N 14 (24 * (mF S 12)) (mA S 13 (mF S 12 : Int32).toNatClampNeg) (mL S 6 (mF S 7 : Int32).toNatClampNeg) S).bind fun o56 => (bM_takeDevice_63 N) o56.1 o56.2))) else ((bM_takeDevice_63 N) (-1) S)
set_option maxRecDepth 100000 in
set_option maxHeartbeats 4000000 in
theorem wbM_takeDevice_19 {p : Program} {l : Launch} {e : Env} {R : Room} {s : State} {m : MethodId} {args : Array Value} {below : List Frame} {meth : Method} {c : Code} {d : Dd} {g : Gm} {o : Int32 × Ms} {N : Nat} (C : CM p s m args meth c d g cX9_takeDevice 2 (some .int)) (hRm : 1 ≤ R.frames ∧ 27 ≤ R.locals)  (S : Ms) (H : Heap) (locs : List Loc) (ls : Array Slot) (hf : bM_takeDevice_19 N  S = some o) (hR : RM d g S H) (hS : va_S (AM g) s.heap H locs) (hl : lv_has ls 2 [(0, .ref g.1)]) : W p l e R s m args below meth c H locs 0 0 (MQ below (QI d g o) args s 0 0 (AM g)) (F0 m 19 ls []) := by
  obtain ⟨hx, hb, hml, hown, hts, hK, hg, hr, hlk⟩ := id C
  unfold bM_takeDevice_19 at hf
  refine lv_aload_n hx hb dX9_takeDevice_19 rfl (lv_at hl 0 rfl) ?_
  refine mr_getI C hR fl_281 rfl dX9_takeDevice_20 ?_
  refine lv_if_ne (tgt := 62) hx hb dX9_takeDevice_23 (by decide) (fun hc => ?_) (fun hc => ?_)
  · rw [if_neg hc] at hf
    refine lv_iconst (v := (-1)) hx hb dX9_takeDevice_62 (by decide) ?_
    exact (wbM_takeDevice_63 C hRm) _ _ _ _ _ hf hR hS (lv_sub hl [0] rfl)
  · rw [if_pos hc] at hf
    refine lv_aload_n hx hb dX9_takeDevice_26 rfl (lv_at hl 0 rfl) ?_
    refine lv_aload_n hx hb dX9_takeDevice_27 rfl (lv_at hl 0 rfl) ?_
    refine mr_getR C hR fl_46 (by decide) dX9_takeDevice_28 ?_
    refine lv_bipush (v := 24) hx hb dX9_takeDevice_31 (by decide) ?_
    refine lv_aload_n hx hb dX9_takeDevice_33 rfl (lv_at hl 0 rfl) ?_
    refine mr_getI C hR fl_297 rfl dX9_takeDevice_34 ?_
    refine lv_imul hx hb dX9_takeDevice_37 ?_
    refine lv_aload_n hx hb dX9_takeDevice_38 rfl (lv_at hl 0 rfl) ?_
    refine mr_getR C hR fl_43 (by decide) dX9_takeDevice_39 ?_
    refine lv_aload_n hx hb dX9_takeDevice_42 rfl (lv_at hl 0 rfl) ?_
    refine mr_getI C hR fl_297 rfl dX9_takeDevice_43 ?_
    obtain ⟨hi, hf⟩ := ck_some hf
    refine mr_iald C hR (k := 13) rfl hi dX9_takeDevice_46 ?_
    refine lv_aload_n hx hb dX9_takeDevice_47 rfl (lv_at hl 0 rfl) ?_
    refine mr_getR C hR fl_30 (by decide) dX9_takeDevice_48 ?_
    refine lv_aload_n hx hb dX9_takeDevice_51 rfl (lv_at hl 0 rfl) ?_
    refine mr_getI C hR fl_278 rfl dX9_takeDevice_52 ?_
    obtain ⟨hi, hf⟩ := ck_some hf
    refine mr_lald C hR (k := 6) rfl hi dX9_takeDevice_55 ?_
    obtain ⟨o56, ho56, hf⟩ := bnd_some hf
    refine mr_callIv C hR hS (As := [.ref (g.2 14), .int (24 * (mF S 12)), .int (mA S 13 (mF S 12 : Int32).toNatClampNeg), .long (mL S 6 (mF S 7 : Int32).toNatClampNeg)]) (rest := []) (MM_find l d g N 14 (24 * (mF S 12)) (mA S 13 (mF S 12 : Int32).toNatClampNeg) (mL S 6 (mF S 7 : Int32).toNatClampNeg) S o56 ho56) wv_300 ⟨by omega, by omega⟩ rfl rfl (Nat.le_of_ble_eq_true rfl) hl.1 dX9_takeDevice_56 ⟨Nat.zero_le _, Nat.zero_le _⟩ (fun H locs hR hS => ?_)
    refine lv_goto (tgt := 63) hx hb dX9_takeDevice_59 (by decide) ?_
    exact (wbM_takeDevice_63 C hRm) _ _ _ _ _ hf hR hS (lv_sub hl [0] rfl)
def fM_takeDevice (N : Nat)  (S : Ms) : Option (Int32 × Ms) := if (mF S 8) = 0 then ((fM_isName N S).bind fun o8 => if o8.1 = 0 then ((fM_wrong N 1 o8.2).bind fun o16 => (bM_takeDevice_19 N) o16) else ((bM_takeDevice_19 N) o8.2)) else ((bM_takeDevice_19 N) S)
set_option maxRecDepth 100000 in
set_option maxHeartbeats 4000000 in
theorem wfM_takeDevice {p : Program} {l : Launch} {e : Env} {R : Room} {s : State} {m : MethodId} {args : Array Value} {below : List Frame} {meth : Method} {c : Code} {d : Dd} {g : Gm} {o : Int32 × Ms} {N : Nat} (C : CM p s m args meth c d g cX9_takeDevice 2 (some .int)) (hRm : 1 ≤ R.frames ∧ 27 ≤ R.locals)  (S : Ms) (H : Heap) (locs : List Loc) (ls : Array Slot) (hf : fM_takeDevice N  S = some o) (hR : RM d g S H) (hS : va_S (AM g) s.heap H locs) (hl : lv_has ls 2 [(0, .ref g.1)]) : W p l e R s m args below meth c H locs 0 0 (MQ below (QI d g o) args s 0 0 (AM g)) (F0 m 0 ls []) := by
  obtain ⟨hx, hb, hml, hown, hts, hK, hg, hr, hlk⟩ := id C
  unfold fM_takeDevice at hf
  refine lv_aload_n hx hb dX9_takeDevice_0 rfl (lv_at hl 0 rfl) ?_
  refine mr_getI C hR fl_281 rfl dX9_takeDevice_1 ?_
  refine lv_if_ne (tgt := 19) hx hb dX9_takeDevice_4 (by decide) (fun hc => ?_) (fun hc => ?_)
  · rw [if_neg hc] at hf
    exact (wbM_takeDevice_19 C hRm) _ _ _ _ hf hR hS (lv_sub hl [0] rfl)
  · rw [if_pos hc] at hf
    refine lv_aload_n hx hb dX9_takeDevice_7 rfl (lv_at hl 0 rfl) ?_
    obtain ⟨o8, ho8, hf⟩ := bnd_some hf
    refine mr_callIv C hR hS (As := []) (rest := []) (MM_isName l d g N  S o8 ho8) wv_337 ⟨by omega, by omega⟩ rfl rfl (Nat.le_of_ble_eq_true rfl) hl.1 dX9_takeDevice_8 ⟨Nat.zero_le _, Nat.zero_le _⟩ (fun H locs hR hS => ?_)
    refine lv_if_ne (tgt := 19) hx hb dX9_takeDevice_11 (by decide) (fun hc => ?_) (fun hc => ?_)
    · rw [if_neg hc] at hf
      exact (wbM_takeDevice_19 C hRm) _ _ _ _ hf hR hS (lv_sub hl [0] rfl)
    · rw [if_pos hc] at hf
      refine lv_aload_n hx hb dX9_takeDevice_14 rfl (lv_at hl 0 rfl) ?_
      refine lv_iconst (v := 1) hx hb dX9_takeDevice_15 (by decide) ?_
      obtain ⟨o16, ho16, hf⟩ := bnd_some hf
      refine mr_callVv C hR hS (As := [.int 1]) (rest := []) (MM_wrong l d g N 1 o8.2 o16 ho16) wv_287 ⟨by omega, by omega⟩ rfl rfl (Nat.le_of_ble_eq_true rfl) hl.1 dX9_takeDevice_16 ⟨Nat.zero_le _, Nat.zero_le _⟩ (fun H locs hR hS => ?_)
      exact (wbM_takeDevice_19 C hRm) _ _ _ _ hf hR hS (lv_sub hl [0] rfl)
theorem MM_takeDevice (l : Launch) (d : Dd) (g : Gm) (N : Nat)  (S : Ms) (o : Int32 × Ms) (hf : fM_takeDevice N  S = some o) : MtI l d g yX9_takeDevice cX9_takeDevice 2 (some .int) 1 27 [.ref g.1] S o :=
  mr_metI (by decide) rfl (Nat.le_of_ble_eq_true rfl) (fun p e s m args below meth c ls C hR hl => wfM_takeDevice C ⟨Nat.le_refl _, Nat.le_refl _⟩  S s.heap [] ls hf hR va_S.rf hl)
def bM_farName_29 (N : Nat)  (S : Ms) : Option (Ms) := some (pF S 7 ((mF S 7) + 1))
set_option maxRecDepth 100000 in
set_option maxHeartbeats 4000000 in
theorem wbM_farName_29 {p : Program} {l : Launch} {e : Env} {R : Room} {s : State} {m : MethodId} {args : Array Value} {below : List Frame} {meth : Method} {c : Code} {d : Dd} {g : Gm} {o : Ms} {N : Nat} (C : CM p s m args meth c d g cX9_farName 1 none) (hRm : 1 ≤ R.frames ∧ 22 ≤ R.locals)  (S : Ms) (H : Heap) (locs : List Loc) (ls : Array Slot) (hf : bM_farName_29 N  S = some o) (hR : RM d g S H) (hS : va_S (AM g) s.heap H locs) (hl : lv_has ls 1 [(0, .ref g.1)]) : W p l e R s m args below meth c H locs 0 0 (MQ below (QV d g o) args s 0 0 (AM g)) (F0 m 29 ls []) := by
  obtain ⟨hx, hb, hml, hown, hts, hK, hg, hr, hlk⟩ := id C
  unfold bM_farName_29 at hf
  refine lv_aload_n hx hb dX9_farName_29 rfl (lv_at hl 0 rfl) ?_
  refine lv_dup hx hb dX9_farName_30 rfl ?_
  refine mr_getI C hR fl_278 rfl dX9_farName_31 ?_
  refine lv_iconst (v := 1) hx hb dX9_farName_34 (by decide) ?_
  refine lv_iadd hx hb dX9_farName_35 ?_
  refine mr_putI C hR hS fl_278 ⟨rfl, rfl, rfl⟩ dX9_farName_36 (fun H locs hR hS => ?_)
  exact mr_vret C hR hS hf dX9_farName_39
def fM_farName (N : Nat)  (S : Ms) : Option (Ms) := if (mF (pF S 7 ((mF S 7) + 2)) 8) = 0 then ((fM_isName N (pF S 7 ((mF S 7) + 2))).bind fun o18 => if o18.1 = 0 then ((fM_wrong N 1 o18.2).bind fun o26 => (bM_farName_29 N) o26) else ((bM_farName_29 N) o18.2)) else ((bM_farName_29 N) (pF S 7 ((mF S 7) + 2)))
set_option maxRecDepth 100000 in
set_option maxHeartbeats 4000000 in
theorem wfM_farName {p : Program} {l : Launch} {e : Env} {R : Room} {s : State} {m : MethodId} {args : Array Value} {below : List Frame} {meth : Method} {c : Code} {d : Dd} {g : Gm} {o : Ms} {N : Nat} (C : CM p s m args meth c d g cX9_farName 1 none) (hRm : 1 ≤ R.frames ∧ 22 ≤ R.locals)  (S : Ms) (H : Heap) (locs : List Loc) (ls : Array Slot) (hf : fM_farName N  S = some o) (hR : RM d g S H) (hS : va_S (AM g) s.heap H locs) (hl : lv_has ls 1 [(0, .ref g.1)]) : W p l e R s m args below meth c H locs 0 0 (MQ below (QV d g o) args s 0 0 (AM g)) (F0 m 0 ls []) := by
  obtain ⟨hx, hb, hml, hown, hts, hK, hg, hr, hlk⟩ := id C
  unfold fM_farName at hf
  refine lv_aload_n hx hb dX9_farName_0 rfl (lv_at hl 0 rfl) ?_
  refine lv_dup hx hb dX9_farName_1 rfl ?_
  refine mr_getI C hR fl_278 rfl dX9_farName_2 ?_
  refine lv_iconst (v := 2) hx hb dX9_farName_5 (by decide) ?_
  refine lv_iadd hx hb dX9_farName_6 ?_
  refine mr_putI C hR hS fl_278 ⟨rfl, rfl, rfl⟩ dX9_farName_7 (fun H locs hR hS => ?_)
  refine lv_aload_n hx hb dX9_farName_10 rfl (lv_at hl 0 rfl) ?_
  refine mr_getI C hR fl_281 rfl dX9_farName_11 ?_
  refine lv_if_ne (tgt := 29) hx hb dX9_farName_14 (by decide) (fun hc => ?_) (fun hc => ?_)
  · rw [if_neg hc] at hf
    exact (wbM_farName_29 C hRm) _ _ _ _ hf hR hS (lv_sub hl [0] rfl)
  · rw [if_pos hc] at hf
    refine lv_aload_n hx hb dX9_farName_17 rfl (lv_at hl 0 rfl) ?_
    obtain ⟨o18, ho18, hf⟩ := bnd_some hf
    refine mr_callIv C hR hS (As := []) (rest := []) (MM_isName l d g N  (pF S 7 ((mF S 7) + 2)) o18 ho18) wv_337 ⟨by omega, by omega⟩ rfl rfl (Nat.le_of_ble_eq_true rfl) hl.1 dX9_farName_18 ⟨Nat.zero_le _, Nat.zero_le _⟩ (fun H locs hR hS => ?_)
    refine lv_if_ne (tgt := 29) hx hb dX9_farName_21 (by decide) (fun hc => ?_) (fun hc => ?_)
    · rw [if_neg hc] at hf
      exact (wbM_farName_29 C hRm) _ _ _ _ hf hR hS (lv_sub hl [0] rfl)
    · rw [if_pos hc] at hf
      refine lv_aload_n hx hb dX9_farName_24 rfl (lv_at hl 0 rfl) ?_
      refine lv_iconst (v := 1) hx hb dX9_farName_25 (by decide) ?_
      obtain ⟨o26, ho26, hf⟩ := bnd_some hf
      refine mr_callVv C hR hS (As := [.int 1]) (rest := []) (MM_wrong l d g N 1 o18.2 o26 ho26) wv_287 ⟨by omega, by omega⟩ rfl rfl (Nat.le_of_ble_eq_true rfl) hl.1 dX9_farName_26 ⟨Nat.zero_le _, Nat.zero_le _⟩ (fun H locs hR hS => ?_)
      exact (wbM_farName_29 C hRm) _ _ _ _ hf hR hS (lv_sub hl [0] rfl)
theorem MM_farName (l : Launch) (d : Dd) (g : Gm) (N : Nat)  (S : Ms) (o : Ms) (hf : fM_farName N  S = some o) : MtV l d g yX9_farName cX9_farName 1 1 22 [.ref g.1] S o :=
  mr_metV (by decide) rfl (Nat.le_of_ble_eq_true rfl) (fun p e s m args below meth c ls C hR hl => wfM_farName C ⟨Nat.le_refl _, Nat.le_refl _⟩  S s.heap [] ls hf hR va_S.rf hl)
def bM_isPoint_45 (N : Nat) (s0 : Int32) (S : Ms) : Option (Int32 × Ms) := gd (is01 s0) (some (s0, S))
set_option maxRecDepth 100000 in
set_option maxHeartbeats 4000000 in
theorem wbM_isPoint_45 {p : Program} {l : Launch} {e : Env} {R : Room} {s : State} {m : MethodId} {args : Array Value} {below : List Frame} {meth : Method} {c : Code} {d : Dd} {g : Gm} {o : Int32 × Ms} {N : Nat} (C : CM p s m args meth c d g cX9_isPoint 1 (some .boolean)) (hRm : 0 ≤ R.frames ∧ 0 ≤ R.locals) (s0 : Int32) (S : Ms) (H : Heap) (locs : List Loc) (ls : Array Slot) (hf : bM_isPoint_45 N s0 S = some o) (hR : RM d g S H) (hS : va_S (AM g) s.heap H locs) (hl : lv_has ls 1 [(0, .ref g.1)]) : W p l e R s m args below meth c H locs 0 0 (MQ below (QI d g o) args s 0 0 (AM g)) (F0 m 45 ls [.int s0]) := by
  obtain ⟨hx, hb, hml, hown, hts, hK, hg, hr, hlk⟩ := id C
  unfold bM_isPoint_45 at hf
  obtain ⟨hz, hf⟩ := gd_some hf
  exact mr_zret C hR hS hz hf dX9_isPoint_45
def bM_isPoint_44 (N : Nat)  (S : Ms) : Option (Int32 × Ms) := (bM_isPoint_45 N) 0 S
set_option maxRecDepth 100000 in
set_option maxHeartbeats 4000000 in
theorem wbM_isPoint_44 {p : Program} {l : Launch} {e : Env} {R : Room} {s : State} {m : MethodId} {args : Array Value} {below : List Frame} {meth : Method} {c : Code} {d : Dd} {g : Gm} {o : Int32 × Ms} {N : Nat} (C : CM p s m args meth c d g cX9_isPoint 1 (some .boolean)) (hRm : 0 ≤ R.frames ∧ 0 ≤ R.locals)  (S : Ms) (H : Heap) (locs : List Loc) (ls : Array Slot) (hf : bM_isPoint_44 N  S = some o) (hR : RM d g S H) (hS : va_S (AM g) s.heap H locs) (hl : lv_has ls 1 [(0, .ref g.1)]) : W p l e R s m args below meth c H locs 0 0 (MQ below (QI d g o) args s 0 0 (AM g)) (F0 m 44 ls []) := by
  obtain ⟨hx, hb, hml, hown, hts, hK, hg, hr, hlk⟩ := id C
  unfold bM_isPoint_44 at hf
  refine lv_iconst (v := 0) hx hb dX9_isPoint_44 (by decide) ?_
  exact (wbM_isPoint_45 C hRm) _ _ _ _ _ hf hR hS (lv_sub hl [0] rfl)
def fM_isPoint (N : Nat)  (S : Ms) : Option (Int32 × Ms) := if (mF S 8) = 0 then (ck ((mF S 7) + 1) 4002 (if (mA S 4 ((mF S 7) + 1 : Int32).toNatClampNeg) = 3 then (ck ((mF S 7) + 1) 4002 (if (lg_cmp (mL S 6 ((mF S 7) + 1 : Int32).toNatClampNeg) 46) = 0 then ((bM_isPoint_45 N) 1 S) else ((bM_isPoint_44 N) S))) else ((bM_isPoint_44 N) S))) else ((bM_isPoint_44 N) S)
set_option maxRecDepth 100000 in
set_option maxHeartbeats 4000000 in
theorem wfM_isPoint {p : Program} {l : Launch} {e : Env} {R : Room} {s : State} {m : MethodId} {args : Array Value} {below : List Frame} {meth : Method} {c : Code} {d : Dd} {g : Gm} {o : Int32 × Ms} {N : Nat} (C : CM p s m args meth c d g cX9_isPoint 1 (some .boolean)) (hRm : 0 ≤ R.frames ∧ 0 ≤ R.locals)  (S : Ms) (H : Heap) (locs : List Loc) (ls : Array Slot) (hf : fM_isPoint N  S = some o) (hR : RM d g S H) (hS : va_S (AM g) s.heap H locs) (hl : lv_has ls 1 [(0, .ref g.1)]) : W p l e R s m args below meth c H locs 0 0 (MQ below (QI d g o) args s 0 0 (AM g)) (F0 m 0 ls []) := by
  obtain ⟨hx, hb, hml, hown, hts, hK, hg, hr, hlk⟩ := id C
  unfold fM_isPoint at hf
  refine lv_aload_n hx hb dX9_isPoint_0 rfl (lv_at hl 0 rfl) ?_
  refine mr_getI C hR fl_281 rfl dX9_isPoint_1 ?_
  refine lv_if_ne (tgt := 44) hx hb dX9_isPoint_4 (by decide) (fun hc => ?_) (fun hc => ?_)
  · rw [if_neg hc] at hf
    exact (wbM_isPoint_44 C hRm) _ _ _ _ hf hR hS (lv_sub hl [0] rfl)
  · rw [if_pos hc] at hf
    refine lv_aload_n hx hb dX9_isPoint_7 rfl (lv_at hl 0 rfl) ?_
    refine mr_getR C hR fl_24 (by decide) dX9_isPoint_8 ?_
    refine lv_aload_n hx hb dX9_isPoint_11 rfl (lv_at hl 0 rfl) ?_
    refine mr_getI C hR fl_278 rfl dX9_isPoint_12 ?_
    refine lv_iconst (v := 1) hx hb dX9_isPoint_15 (by decide) ?_
    refine lv_iadd hx hb dX9_isPoint_16 ?_
    obtain ⟨hi, hf⟩ := ck_some hf
    refine mr_iald C hR (k := 4) rfl hi dX9_isPoint_17 ?_
    refine lv_iconst (v := 3) hx hb dX9_isPoint_18 (by decide) ?_
    refine lv_icmp_ne (tgt := 44) hx hb dX9_isPoint_19 (by decide) (fun hc => ?_) (fun hc => ?_)
    · rw [if_neg hc] at hf
      exact (wbM_isPoint_44 C hRm) _ _ _ _ hf hR hS (lv_sub hl [0] rfl)
    · rw [if_pos hc] at hf
      refine lv_aload_n hx hb dX9_isPoint_22 rfl (lv_at hl 0 rfl) ?_
      refine mr_getR C hR fl_30 (by decide) dX9_isPoint_23 ?_
      refine lv_aload_n hx hb dX9_isPoint_26 rfl (lv_at hl 0 rfl) ?_
      refine mr_getI C hR fl_278 rfl dX9_isPoint_27 ?_
      refine lv_iconst (v := 1) hx hb dX9_isPoint_30 (by decide) ?_
      refine lv_iadd hx hb dX9_isPoint_31 ?_
      obtain ⟨hi, hf⟩ := ck_some hf
      refine mr_lald C hR (k := 6) rfl hi dX9_isPoint_32 ?_
      refine lv_ldc2 hx hb hown (hts _ wd_1847) dX9_isPoint_33 ?_
      refine W.lcmp hx hb dX9_isPoint_36 ?_
      refine lv_if_ne (tgt := 44) hx hb dX9_isPoint_37 (by decide) (fun hc => ?_) (fun hc => ?_)
      · rw [if_neg hc] at hf
        exact (wbM_isPoint_44 C hRm) _ _ _ _ hf hR hS (lv_sub hl [0] rfl)
      · rw [if_pos hc] at hf
        refine lv_iconst (v := 1) hx hb dX9_isPoint_40 (by decide) ?_
        refine lv_goto (tgt := 45) hx hb dX9_isPoint_41 (by decide) ?_
        exact (wbM_isPoint_45 C hRm) _ _ _ _ _ hf hR hS (lv_sub hl [0] rfl)
theorem MM_isPoint (l : Launch) (d : Dd) (g : Gm) (N : Nat)  (S : Ms) (o : Int32 × Ms) (hf : fM_isPoint N  S = some o) : MtI l d g yX9_isPoint cX9_isPoint 1 (some .boolean) 0 0 [.ref g.1] S o :=
  mr_metI (by decide) rfl (Nat.le_of_ble_eq_true rfl) (fun p e s m args below meth c ls C hR hl => wfM_isPoint C ⟨Nat.le_refl _, Nat.le_refl _⟩  S s.heap [] ls hf hR va_S.rf hl)
def bM_nearName_109 (N : Nat)  (S : Ms) : Option (Ms) := some (pF S 7 ((mF S 7) + 1))
set_option maxRecDepth 100000 in
set_option maxHeartbeats 4000000 in
theorem wbM_nearName_109 {p : Program} {l : Launch} {e : Env} {R : Room} {s : State} {m : MethodId} {args : Array Value} {below : List Frame} {meth : Method} {c : Code} {d : Dd} {g : Gm} {o : Ms} {N : Nat} (C : CM p s m args meth c d g cX9_nearName 3 none) (hRm : 29 ≤ R.frames ∧ 1637 ≤ R.locals)  (S : Ms) (H : Heap) (locs : List Loc) (ls : Array Slot) (hf : bM_nearName_109 N  S = some o) (hR : RM d g S H) (hS : va_S (AM g) s.heap H locs) (hl : lv_has ls 3 [(0, .ref g.1)]) : W p l e R s m args below meth c H locs 0 0 (MQ below (QV d g o) args s 0 0 (AM g)) (F0 m 109 ls []) := by
  obtain ⟨hx, hb, hml, hown, hts, hK, hg, hr, hlk⟩ := id C
  unfold bM_nearName_109 at hf
  refine lv_aload_n hx hb dX9_nearName_109 rfl (lv_at hl 0 rfl) ?_
  refine lv_dup hx hb dX9_nearName_110 rfl ?_
  refine mr_getI C hR fl_278 rfl dX9_nearName_111 ?_
  refine lv_iconst (v := 1) hx hb dX9_nearName_114 (by decide) ?_
  refine lv_iadd hx hb dX9_nearName_115 ?_
  refine mr_putI C hR hS fl_278 ⟨rfl, rfl, rfl⟩ dX9_nearName_116 (fun H locs hR hS => ?_)
  exact mr_vret C hR hS hf dX9_nearName_119
def bM_nearName_32 (N : Nat) (x1 : Int32) (s0 : Int32) (S : Ms) : Option (Ms) := if s0 = 0 then ((fM_wrong N 2 S).bind fun o39 => (bM_nearName_109 N) o39) else (ck ((24 * ((24 * (mF S 12)) + (mF S 49))) + (mF S 51)) 1152 (if x1 = 0 then ((bM_nearName_109 N) (pA S 34 ((24 * ((24 * (mF S 12)) + (mF S 49))) + (mF S 51) : Int32).toNatClampNeg (vp_nar .boolean 1))) else (ck ((8 * ((24 * (mF (pA S 34 ((24 * ((24 * (mF S 12)) + (mF S 49))) + (mF S 51) : Int32).toNatClampNeg (vp_nar .boolean 1)) 12)) + (mF (pA S 34 ((24 * ((24 * (mF S 12)) + (mF S 49))) + (mF S 51) : Int32).toNatClampNeg (vp_nar .boolean 1)) 51))) + (mF (pA S 34 ((24 * ((24 * (mF S 12)) + (mF S 49))) + (mF S 51) : Int32).toNatClampNeg (vp_nar .boolean 1)) 52)) 384 (if (mA (pA S 34 ((24 * ((24 * (mF S 12)) + (mF S 49))) + (mF S 51) : Int32).toNatClampNeg (vp_nar .boolean 1)) 27 ((8 * ((24 * (mF (pA S 34 ((24 * ((24 * (mF S 12)) + (mF S 49))) + (mF S 51) : Int32).toNatClampNeg (vp_nar .boolean 1)) 12)) + (mF (pA S 34 ((24 * ((24 * (mF S 12)) + (mF S 49))) + (mF S 51) : Int32).toNatClampNeg (vp_nar .boolean 1)) 51))) + (mF (pA S 34 ((24 * ((24 * (mF S 12)) + (mF S 49))) + (mF S 51) : Int32).toNatClampNeg (vp_nar .boolean 1)) 52) : Int32).toNatClampNeg) = 0 then ((bM_nearName_109 N) (pA S 34 ((24 * ((24 * (mF S 12)) + (mF S 49))) + (mF S 51) : Int32).toNatClampNeg (vp_nar .boolean 1))) else ((fM_wrong N 6 (pA S 34 ((24 * ((24 * (mF S 12)) + (mF S 49))) + (mF S 51) : Int32).toNatClampNeg (vp_nar .boolean 1))).bind fun o106 => (bM_nearName_109 N) o106)))))
set_option maxRecDepth 100000 in
set_option maxHeartbeats 4000000 in
theorem wbM_nearName_32 {p : Program} {l : Launch} {e : Env} {R : Room} {s : State} {m : MethodId} {args : Array Value} {below : List Frame} {meth : Method} {c : Code} {d : Dd} {g : Gm} {o : Ms} {N : Nat} (C : CM p s m args meth c d g cX9_nearName 3 none) (hRm : 29 ≤ R.frames ∧ 1637 ≤ R.locals) (x1 : Int32) (s0 : Int32) (S : Ms) (H : Heap) (locs : List Loc) (ls : Array Slot) (hf : bM_nearName_32 N x1 s0 S = some o) (hR : RM d g S H) (hS : va_S (AM g) s.heap H locs) (hl : lv_has ls 3 [(0, .ref g.1), (1, .int x1)]) : W p l e R s m args below meth c H locs 0 0 (MQ below (QV d g o) args s 0 0 (AM g)) (F0 m 32 ls [.int s0]) := by
  obtain ⟨hx, hb, hml, hown, hts, hK, hg, hr, hlk⟩ := id C
  unfold bM_nearName_32 at hf
  refine lv_istore_n (lv' := [(2, .int s0), (0, .ref g.1), (1, .int x1)]) hx hb dX9_nearName_32 rfl hl (by decide) rfl (fun ls hl => ?_)
  refine lv_iload_n hx hb dX9_nearName_33 rfl (lv_at hl 0 rfl) ?_
  refine lv_if_ne (tgt := 45) hx hb dX9_nearName_34 (by decide) (fun hc => ?_) (fun hc => ?_)
  · rw [if_neg hc] at hf
    refine lv_aload_n hx hb dX9_nearName_45 rfl (lv_at hl 1 rfl) ?_
    refine mr_getR C hR fl_107 (by decide) dX9_nearName_46 ?_
    refine lv_bipush (v := 24) hx hb dX9_nearName_49 (by decide) ?_
    refine lv_bipush (v := 24) hx hb dX9_nearName_51 (by decide) ?_
    refine lv_aload_n hx hb dX9_nearName_53 rfl (lv_at hl 1 rfl) ?_
    refine mr_getI C hR fl_297 rfl dX9_nearName_54 ?_
    refine lv_imul hx hb dX9_nearName_57 ?_
    refine lv_aload_n hx hb dX9_nearName_58 rfl (lv_at hl 1 rfl) ?_
    refine mr_getI C hR fl_370 rfl dX9_nearName_59 ?_
    refine lv_iadd hx hb dX9_nearName_62 ?_
    refine lv_imul hx hb dX9_nearName_63 ?_
    refine lv_aload_n hx hb dX9_nearName_64 rfl (lv_at hl 1 rfl) ?_
    refine mr_getI C hR fl_396 rfl dX9_nearName_65 ?_
    refine lv_iadd hx hb dX9_nearName_68 ?_
    refine lv_iconst (v := 1) hx hb dX9_nearName_69 (by decide) ?_
    obtain ⟨hi, hf⟩ := ck_some hf
    refine mr_zast C hR hS (k := 34) rfl hi dX9_nearName_70 (fun H locs hR hS => ?_)
    refine lv_iload_n hx hb dX9_nearName_71 rfl (lv_at hl 2 rfl) ?_
    refine lv_if_eq (tgt := 109) hx hb dX9_nearName_72 (by decide) (fun hc => ?_) (fun hc => ?_)
    · rw [if_pos hc] at hf
      exact (wbM_nearName_109 C hRm) _ _ _ _ hf hR hS (lv_sub hl [1] rfl)
    · rw [if_neg hc] at hf
      refine lv_aload_n hx hb dX9_nearName_75 rfl (lv_at hl 1 rfl) ?_
      refine mr_getR C hR fl_86 (by decide) dX9_nearName_76 ?_
      refine lv_bipush (v := 8) hx hb dX9_nearName_79 (by decide) ?_
      refine lv_bipush (v := 24) hx hb dX9_nearName_81 (by decide) ?_
      refine lv_aload_n hx hb dX9_nearName_83 rfl (lv_at hl 1 rfl) ?_
      refine mr_getI C hR fl_297 rfl dX9_nearName_84 ?_
      refine lv_imul hx hb dX9_nearName_87 ?_
      refine lv_aload_n hx hb dX9_nearName_88 rfl (lv_at hl 1 rfl) ?_
      refine mr_getI C hR fl_396 rfl dX9_nearName_89 ?_
      refine lv_iadd hx hb dX9_nearName_92 ?_
      refine lv_imul hx hb dX9_nearName_93 ?_
      refine lv_aload_n hx hb dX9_nearName_94 rfl (lv_at hl 1 rfl) ?_
      refine mr_getI C hR fl_399 rfl dX9_nearName_95 ?_
      refine lv_iadd hx hb dX9_nearName_98 ?_
      obtain ⟨hi, hf⟩ := ck_some hf
      refine mr_zald C hR (k := 27) rfl hi dX9_nearName_99 ?_
      refine lv_if_eq (tgt := 109) hx hb dX9_nearName_100 (by decide) (fun hc => ?_) (fun hc => ?_)
      · rw [if_pos hc] at hf
        exact (wbM_nearName_109 C hRm) _ _ _ _ hf hR hS (lv_sub hl [1] rfl)
      · rw [if_neg hc] at hf
        refine lv_aload_n hx hb dX9_nearName_103 rfl (lv_at hl 1 rfl) ?_
        refine lv_bipush (v := 6) hx hb dX9_nearName_104 (by decide) ?_
        obtain ⟨o106, ho106, hf⟩ := bnd_some hf
        refine mr_callVv C hR hS (As := [.int 6]) (rest := []) (MM_wrong l d g N 6 (pA S 34 ((24 * ((24 * (mF S 12)) + (mF S 49))) + (mF S 51) : Int32).toNatClampNeg (vp_nar .boolean 1)) o106 ho106) wv_287 ⟨by omega, by omega⟩ rfl rfl (Nat.le_of_ble_eq_true rfl) hl.1 dX9_nearName_106 ⟨Nat.zero_le _, Nat.zero_le _⟩ (fun H locs hR hS => ?_)
        exact (wbM_nearName_109 C hRm) _ _ _ _ hf hR hS (lv_sub hl [1] rfl)
  · rw [if_pos hc] at hf
    refine lv_aload_n hx hb dX9_nearName_37 rfl (lv_at hl 1 rfl) ?_
    refine lv_iconst (v := 2) hx hb dX9_nearName_38 (by decide) ?_
    obtain ⟨o39, ho39, hf⟩ := bnd_some hf
    refine mr_callVv C hR hS (As := [.int 2]) (rest := []) (MM_wrong l d g N 2 S o39 ho39) wv_287 ⟨by omega, by omega⟩ rfl rfl (Nat.le_of_ble_eq_true rfl) hl.1 dX9_nearName_39 ⟨Nat.zero_le _, Nat.zero_le _⟩ (fun H locs hR hS => ?_)
    refine lv_goto (tgt := 109) hx hb dX9_nearName_42 (by decide) ?_
    exact (wbM_nearName_109 C hRm) _ _ _ _ hf hR hS (lv_sub hl [1] rfl)
def bM_nearName_31 (N : Nat) (x1 : Int32) (S : Ms) : Option (Ms) := (bM_nearName_32 N) x1 0 S
set_option maxRecDepth 100000 in
set_option maxHeartbeats 4000000 in
theorem wbM_nearName_31 {p : Program} {l : Launch} {e : Env} {R : Room} {s : State} {m : MethodId} {args : Array Value} {below : List Frame} {meth : Method} {c : Code} {d : Dd} {g : Gm} {o : Ms} {N : Nat} (C : CM p s m args meth c d g cX9_nearName 3 none) (hRm : 29 ≤ R.frames ∧ 1637 ≤ R.locals) (x1 : Int32) (S : Ms) (H : Heap) (locs : List Loc) (ls : Array Slot) (hf : bM_nearName_31 N x1 S = some o) (hR : RM d g S H) (hS : va_S (AM g) s.heap H locs) (hl : lv_has ls 3 [(0, .ref g.1), (1, .int x1)]) : W p l e R s m args below meth c H locs 0 0 (MQ below (QV d g o) args s 0 0 (AM g)) (F0 m 31 ls []) := by
  obtain ⟨hx, hb, hml, hown, hts, hK, hg, hr, hlk⟩ := id C
  unfold bM_nearName_31 at hf
  refine lv_iconst (v := 0) hx hb dX9_nearName_31 (by decide) ?_
  exact (wbM_nearName_32 C hRm) _ _ _ _ _ _ hf hR hS (lv_sub hl [0, 1] rfl)
def fM_nearName (N : Nat) (x1 : Int32) (S : Ms) : Option (Ms) := if (mF S 49) < 0 then ((bM_nearName_31 N) x1 S) else (ck (mF S 7) 4002 ((fM_looks N (mF S 49) (mL S 6 (mF S 7 : Int32).toNatClampNeg) S).bind fun o21 => if o21.1 = 0 then ((bM_nearName_31 N) x1 o21.2) else ((bM_nearName_32 N) x1 1 o21.2)))
set_option maxRecDepth 100000 in
set_option maxHeartbeats 4000000 in
theorem wfM_nearName {p : Program} {l : Launch} {e : Env} {R : Room} {s : State} {m : MethodId} {args : Array Value} {below : List Frame} {meth : Method} {c : Code} {d : Dd} {g : Gm} {o : Ms} {N : Nat} (C : CM p s m args meth c d g cX9_nearName 3 none) (hRm : 29 ≤ R.frames ∧ 1637 ≤ R.locals) (x1 : Int32) (S : Ms) (H : Heap) (locs : List Loc) (ls : Array Slot) (hf : fM_nearName N x1 S = some o) (hR : RM d g S H) (hS : va_S (AM g) s.heap H locs) (hl : lv_has ls 3 [(0, .ref g.1), (1, .int x1)]) : W p l e R s m args below meth c H locs 0 0 (MQ below (QV d g o) args s 0 0 (AM g)) (F0 m 0 ls []) := by
  obtain ⟨hx, hb, hml, hown, hts, hK, hg, hr, hlk⟩ := id C
  unfold fM_nearName at hf
  refine lv_aload_n hx hb dX9_nearName_0 rfl (lv_at hl 0 rfl) ?_
  refine mr_getI C hR fl_370 rfl dX9_nearName_1 ?_
  refine lv_if_lt (tgt := 31) hx hb dX9_nearName_4 (by decide) (fun hc => ?_) (fun hc => ?_)
  · rw [if_pos hc] at hf
    exact (wbM_nearName_31 C hRm) _ _ _ _ _ hf hR hS (lv_sub hl [0, 1] rfl)
  · rw [if_neg hc] at hf
    refine lv_aload_n hx hb dX9_nearName_7 rfl (lv_at hl 0 rfl) ?_
    refine lv_aload_n hx hb dX9_nearName_8 rfl (lv_at hl 0 rfl) ?_
    refine mr_getI C hR fl_370 rfl dX9_nearName_9 ?_
    refine lv_aload_n hx hb dX9_nearName_12 rfl (lv_at hl 0 rfl) ?_
    refine mr_getR C hR fl_30 (by decide) dX9_nearName_13 ?_
    refine lv_aload_n hx hb dX9_nearName_16 rfl (lv_at hl 0 rfl) ?_
    refine mr_getI C hR fl_278 rfl dX9_nearName_17 ?_
    obtain ⟨hi, hf⟩ := ck_some hf
    refine mr_lald C hR (k := 6) rfl hi dX9_nearName_20 ?_
    obtain ⟨o21, ho21, hf⟩ := bnd_some hf
    refine mr_callIv C hR hS (As := [.int (mF S 49), .long (mL S 6 (mF S 7 : Int32).toNatClampNeg)]) (rest := []) (MM_looks l d g N (mF S 49) (mL S 6 (mF S 7 : Int32).toNatClampNeg) S o21 ho21) wv_402 ⟨by omega, by omega⟩ rfl rfl (Nat.le_of_ble_eq_true rfl) hl.1 dX9_nearName_21 ⟨Nat.zero_le _, Nat.zero_le _⟩ (fun H locs hR hS => ?_)
    refine lv_if_eq (tgt := 31) hx hb dX9_nearName_24 (by decide) (fun hc => ?_) (fun hc => ?_)
    · rw [if_pos hc] at hf
      exact (wbM_nearName_31 C hRm) _ _ _ _ _ hf hR hS (lv_sub hl [0, 1] rfl)
    · rw [if_neg hc] at hf
      refine lv_iconst (v := 1) hx hb dX9_nearName_27 (by decide) ?_
      refine lv_goto (tgt := 32) hx hb dX9_nearName_28 (by decide) ?_
      exact (wbM_nearName_32 C hRm) _ _ _ _ _ _ hf hR hS (lv_sub hl [0, 1] rfl)
theorem MM_nearName (l : Launch) (d : Dd) (g : Gm) (N : Nat) (x1 : Int32) (S : Ms) (o : Ms) (hf : fM_nearName N x1 S = some o) : MtV l d g yX9_nearName cX9_nearName 3 29 1637 [.ref g.1, .int x1] S o :=
  mr_metV (by decide) rfl (Nat.le_of_ble_eq_true rfl) (fun p e s m args below meth c ls C hR hl => wfM_nearName C ⟨Nat.le_refl _, Nat.le_refl _⟩ x1 S s.heap [] ls hf hR va_S.rf hl)
