def bT_X7_init_67 (N : Nat) (x0 : Nat) (x1 : Int32) (x2 : Int32) (s0 : Nat) (s1 : Nat) (K : Ka) (M : Cm) : Option ((Ka × Cm) ⊕ (Ka × Cm)) := gd (kd K s0 == 8) (gd (kd K x0 == 8) (gd (is01 x1) (gd (is01 x2) (some (.inl (K, wI (wI (wI (wI (wR M s0 11 (some s1)) x0 12 0) x0 13 (-1)) x0 0 x1) x0 1 x2))))))
theorem mbT_X7_init_67 {o : (Ka × Cm) ⊕ (Ka × Cm)} {N : Nat}  (x0 : Nat) (x1 : Int32) (x2 : Int32) (s0 : Nat) (s1 : Nat) (K : Ka) (M : Cm) (hf : bT_X7_init_67 N x0 x1 x2 s0 s1 K M = some o) : KLe K (oK sV o) := by
  unfold bT_X7_init_67 at hf
  obtain ⟨-, hf⟩ := gd_some hf
  obtain ⟨-, hf⟩ := gd_some hf
  obtain ⟨-, hf⟩ := gd_some hf
  obtain ⟨-, hf⟩ := gd_some hf
  cases hf
  exact KLe.rf _
set_option maxRecDepth 100000 in
set_option maxHeartbeats 4000000 in
theorem wbT_X7_init_67 {p : Program} {l : Launch} {e : Env} {R : Room} {s : State} {m : MethodId} {args : Array Value} {below : List Frame} {meth : Method} {c : Code} {x : Xc} {K0 : Ka} {o : (Ka × Cm) ⊕ (Ka × Cm)} {N : Nat} (CTX : CT p l s m args meth c x K0 RX7 "<init>" cX7_init 3 none) (hRm : 6 ≤ R.frames ∧ 95 ≤ R.locals) (hRc : nz sV K0 o ≤ R.cells ∧ nu sV K0 o ≤ R.slots) (x0 : Nat) (x1 : Int32) (x2 : Int32) (s0 : Nat) (s1 : Nat) (K : Ka) (M : Cm) (H : Heap) (locs : List Loc) (ls : Array Slot) (hf : bT_X7_init_67 N x0 x1 x2 s0 s1 K M = some o) (hL : KLe K0 K) (hR : RC x K M H) (hS : va_S (AC K0) s.heap H locs) (hl : lv_has ls 3 [(0, .ref x0), (1, .int x1), (2, .int x2)]) : W p l e R s m args below meth c H locs (kz K - kz K0) (ku K - ku K0) (TQ sV (aQV x K0) (zQV K0) "java/lang/IllegalStateException" x K0 below args s o) (F0 m 67 ls [.ref s1, .ref s0]) := by
  obtain ⟨CX, hno, hlt, hmn⟩ := id CTX
  obtain ⟨hx, hb, hml, hown, hts, hE, hB, hr, hlk⟩ := id CX
  have hcs := nz_le (mbT_X7_init_67  x0 x1 x2 s0 s1 K M hf) hRc
  unfold bT_X7_init_67 at hf
  obtain ⟨hk_s0_8, hf⟩ := gd_some hf
  refine cr_putR kc_7 CX hR hL hS (v := some s1) fa_X7_42 ⟨rfl, rfl, .inr ⟨_, rfl⟩⟩ hk_s0_8 dX7_init_67 (fun H locs hR hS => ?_)
  refine lv_aload_n hx hb dX7_init_70 rfl (lv_at hl 0 rfl) ?_
  refine lv_iconst (v := 0) hx hb dX7_init_71 (by decide) ?_
  obtain ⟨hk_x0_8, hf⟩ := gd_some hf
  refine cr_putI kc_7 CX hR hL hS fa_X7_45 ⟨rfl, rfl, rfl⟩ hk_x0_8 dX7_init_72 (fun H locs hR hS => ?_)
  refine lv_aload_n hx hb dX7_init_75 rfl (lv_at hl 0 rfl) ?_
  refine lv_iconst (v := (-1)) hx hb dX7_init_76 (by decide) ?_
  refine cr_putI kc_7 CX hR hL hS fa_X7_48 ⟨rfl, rfl, rfl⟩ hk_x0_8 dX7_init_77 (fun H locs hR hS => ?_)
  refine lv_aload_n hx hb dX7_init_80 rfl (lv_at hl 0 rfl) ?_
  refine lv_iload_n hx hb dX7_init_81 rfl (lv_at hl 1 rfl) ?_
  obtain ⟨hq, hf⟩ := gd_some hf
  refine tr_putFZ kc_7 CX hmn hR hL hS ff_X7_51 ⟨rfl, rfl, rfl⟩ hk_x0_8 hq dX7_init_82 (fun H locs hR hS => ?_)
  refine lv_aload_n hx hb dX7_init_85 rfl (lv_at hl 0 rfl) ?_
  refine lv_iload_n hx hb dX7_init_86 rfl (lv_at hl 2 rfl) ?_
  obtain ⟨hq, hf⟩ := gd_some hf
  refine tr_putFZ kc_7 CX hmn hR hL hS ff_X7_55 ⟨rfl, rfl, rfl⟩ hk_x0_8 hq dX7_init_87 (fun H locs hR hS => ?_)
  exact tr_vret CX hR hS hf dX7_init_90
def bT_X7_init_60 (N : Nat) (x0 : Nat) (x1 : Int32) (x2 : Int32) (s0 : Nat) (s1 : Nat) (K : Ka) (M : Cm) : Option ((Ka × Cm) ⊕ (Ka × Cm)) := gd (kd K s0 == 8) (gd (decide (¬ (0 : Int32) < 0 ∧ (0 : Int32).toNatClampNeg ≤ 1000000)) ((bT_X7_init_67 N) x0 x1 x2 x0 (kz K) (kNew K 22 (0 : Int32).toNatClampNeg (0 : Int32).toNatClampNeg) (mZ (wR M s0 10 (some s1)) (kz K))))
theorem mbT_X7_init_60 {o : (Ka × Cm) ⊕ (Ka × Cm)} {N : Nat}  (x0 : Nat) (x1 : Int32) (x2 : Int32) (s0 : Nat) (s1 : Nat) (K : Ka) (M : Cm) (hf : bT_X7_init_60 N x0 x1 x2 s0 s1 K M = some o) : KLe K (oK sV o) := by
  unfold bT_X7_init_60 at hf
  obtain ⟨-, hf⟩ := gd_some hf
  obtain ⟨-, hf⟩ := gd_some hf
  exact (kNew_le _ _ _ _).tr (mbT_X7_init_67 _ _ _ _ _ _ _ hf)
set_option maxRecDepth 100000 in
set_option maxHeartbeats 4000000 in
theorem wbT_X7_init_60 {p : Program} {l : Launch} {e : Env} {R : Room} {s : State} {m : MethodId} {args : Array Value} {below : List Frame} {meth : Method} {c : Code} {x : Xc} {K0 : Ka} {o : (Ka × Cm) ⊕ (Ka × Cm)} {N : Nat} (CTX : CT p l s m args meth c x K0 RX7 "<init>" cX7_init 3 none) (hRm : 6 ≤ R.frames ∧ 95 ≤ R.locals) (hRc : nz sV K0 o ≤ R.cells ∧ nu sV K0 o ≤ R.slots) (x0 : Nat) (x1 : Int32) (x2 : Int32) (s0 : Nat) (s1 : Nat) (K : Ka) (M : Cm) (H : Heap) (locs : List Loc) (ls : Array Slot) (hf : bT_X7_init_60 N x0 x1 x2 s0 s1 K M = some o) (hL : KLe K0 K) (hR : RC x K M H) (hS : va_S (AC K0) s.heap H locs) (hl : lv_has ls 3 [(0, .ref x0), (1, .int x1), (2, .int x2)]) : W p l e R s m args below meth c H locs (kz K - kz K0) (ku K - ku K0) (TQ sV (aQV x K0) (zQV K0) "java/lang/IllegalStateException" x K0 below args s o) (F0 m 60 ls [.ref s1, .ref s0]) := by
  obtain ⟨CX, hno, hlt, hmn⟩ := id CTX
  obtain ⟨hx, hb, hml, hown, hts, hE, hB, hr, hlk⟩ := id CX
  have hcs := nz_le (mbT_X7_init_60  x0 x1 x2 s0 s1 K M hf) hRc
  unfold bT_X7_init_60 at hf
  obtain ⟨hk_s0_8, hf⟩ := gd_some hf
  refine cr_putR kc_7 CX hR hL hS (v := some s1) fa_X7_39 ⟨rfl, rfl, .inr ⟨_, rfl⟩⟩ hk_s0_8 dX7_init_60 (fun H locs hR hS => ?_)
  refine lv_aload_n hx hb dX7_init_63 rfl (lv_at hl 0 rfl) ?_
  refine lv_iconst (v := 0) hx hb dX7_init_64 (by decide) ?_
  obtain ⟨hq, hf⟩ := gd_some hf
  have hm1 := mbT_X7_init_67 _ _ _ _ _ _ _ hf
  have hb1 := nz_le hm1 hRc
  refine tr_newai CX hL hR hS hq hb1 dX7_init_65 (fun H hR hS => ?_)
  exact (wbT_X7_init_67 CTX hRm hRc) _ _ _ _ _ _ _ _ _ _ hf (hL.tr (kNew_le _ _ _ _)) hR hS (lv_sub hl [0, 1, 2] rfl)
def bT_X7_init_33 (N : Nat) (x0 : Nat) (x1 : Int32) (x2 : Int32) (s0 : Nat) (s1 : Nat) (K : Ka) (M : Cm) : Option ((Ka × Cm) ⊕ (Ka × Cm)) := gd (kd K s0 == 8) (gd (kd K x0 == 8) (gd (decide (¬ (0 : Int32) < 0 ∧ (0 : Int32).toNatClampNeg ≤ 1000000)) ((bT_X7_init_60 N) x0 x1 x2 x0 (kz K) (kNew K 22 (0 : Int32).toNatClampNeg (0 : Int32).toNatClampNeg) (mZ (wI (wI (wI (wI (wR M s0 5 (some s1)) x0 6 (-1)) x0 7 0) x0 8 0) x0 9 0) (kz K)))))
theorem mbT_X7_init_33 {o : (Ka × Cm) ⊕ (Ka × Cm)} {N : Nat}  (x0 : Nat) (x1 : Int32) (x2 : Int32) (s0 : Nat) (s1 : Nat) (K : Ka) (M : Cm) (hf : bT_X7_init_33 N x0 x1 x2 s0 s1 K M = some o) : KLe K (oK sV o) := by
  unfold bT_X7_init_33 at hf
  obtain ⟨-, hf⟩ := gd_some hf
  obtain ⟨-, hf⟩ := gd_some hf
  obtain ⟨-, hf⟩ := gd_some hf
  exact (kNew_le _ _ _ _).tr (mbT_X7_init_60 _ _ _ _ _ _ _ hf)
set_option maxRecDepth 100000 in
set_option maxHeartbeats 4000000 in
theorem wbT_X7_init_33 {p : Program} {l : Launch} {e : Env} {R : Room} {s : State} {m : MethodId} {args : Array Value} {below : List Frame} {meth : Method} {c : Code} {x : Xc} {K0 : Ka} {o : (Ka × Cm) ⊕ (Ka × Cm)} {N : Nat} (CTX : CT p l s m args meth c x K0 RX7 "<init>" cX7_init 3 none) (hRm : 6 ≤ R.frames ∧ 95 ≤ R.locals) (hRc : nz sV K0 o ≤ R.cells ∧ nu sV K0 o ≤ R.slots) (x0 : Nat) (x1 : Int32) (x2 : Int32) (s0 : Nat) (s1 : Nat) (K : Ka) (M : Cm) (H : Heap) (locs : List Loc) (ls : Array Slot) (hf : bT_X7_init_33 N x0 x1 x2 s0 s1 K M = some o) (hL : KLe K0 K) (hR : RC x K M H) (hS : va_S (AC K0) s.heap H locs) (hl : lv_has ls 3 [(0, .ref x0), (1, .int x1), (2, .int x2)]) : W p l e R s m args below meth c H locs (kz K - kz K0) (ku K - ku K0) (TQ sV (aQV x K0) (zQV K0) "java/lang/IllegalStateException" x K0 below args s o) (F0 m 33 ls [.ref s1, .ref s0]) := by
  obtain ⟨CX, hno, hlt, hmn⟩ := id CTX
  obtain ⟨hx, hb, hml, hown, hts, hE, hB, hr, hlk⟩ := id CX
  have hcs := nz_le (mbT_X7_init_33  x0 x1 x2 s0 s1 K M hf) hRc
  unfold bT_X7_init_33 at hf
  obtain ⟨hk_s0_8, hf⟩ := gd_some hf
  refine tr_putFR kc_7 CX hmn hR hL hS (v := some s1) ff_X7_22 ⟨rfl, rfl, .inr ⟨_, rfl⟩⟩ hk_s0_8 dX7_init_33 (fun H locs hR hS => ?_)
  refine lv_aload_n hx hb dX7_init_36 rfl (lv_at hl 0 rfl) ?_
  refine lv_iconst (v := (-1)) hx hb dX7_init_37 (by decide) ?_
  obtain ⟨hk_x0_8, hf⟩ := gd_some hf
  refine cr_putI kc_7 CX hR hL hS fa_X7_26 ⟨rfl, rfl, rfl⟩ hk_x0_8 dX7_init_38 (fun H locs hR hS => ?_)
  refine lv_aload_n hx hb dX7_init_41 rfl (lv_at hl 0 rfl) ?_
  refine lv_iconst (v := 0) hx hb dX7_init_42 (by decide) ?_
  refine cr_putI kc_7 CX hR hL hS fa_X7_30 ⟨rfl, rfl, rfl⟩ hk_x0_8 dX7_init_43 (fun H locs hR hS => ?_)
  refine lv_aload_n hx hb dX7_init_46 rfl (lv_at hl 0 rfl) ?_
  refine lv_iconst (v := 0) hx hb dX7_init_47 (by decide) ?_
  refine cr_putI kc_7 CX hR hL hS fa_X7_33 ⟨rfl, rfl, rfl⟩ hk_x0_8 dX7_init_48 (fun H locs hR hS => ?_)
  refine lv_aload_n hx hb dX7_init_51 rfl (lv_at hl 0 rfl) ?_
  refine lv_iconst (v := 0) hx hb dX7_init_52 (by decide) ?_
  refine cr_putI kc_7 CX hR hL hS fa_X7_36 ⟨rfl, rfl, rfl⟩ hk_x0_8 dX7_init_53 (fun H locs hR hS => ?_)
  refine lv_aload_n hx hb dX7_init_56 rfl (lv_at hl 0 rfl) ?_
  refine lv_iconst (v := 0) hx hb dX7_init_57 (by decide) ?_
  obtain ⟨hq, hf⟩ := gd_some hf
  have hm1 := mbT_X7_init_60 _ _ _ _ _ _ _ hf
  have hb1 := nz_le hm1 hRc
  refine tr_newai CX hL hR hS hq hb1 dX7_init_58 (fun H hR hS => ?_)
  exact (wbT_X7_init_60 CTX hRm hRc) _ _ _ _ _ _ _ _ _ _ hf (hL.tr (kNew_le _ _ _ _)) hR hS (lv_sub hl [0, 1, 2] rfl)
def bT_X7_init_25 (N : Nat) (x0 : Nat) (x1 : Int32) (x2 : Int32) (s0 : Nat) (s1 : Nat) (K : Ka) (M : Cm) : Option ((Ka × Cm) ⊕ (Ka × Cm)) := gd (kd K s0 == 8) (gd (decide (¬ (8 : Int32) < 0 ∧ (8 : Int32).toNatClampNeg ≤ 1000000)) ((bT_X7_init_33 N) x0 x1 x2 x0 (kz K) (kNew K 24 (8 : Int32).toNatClampNeg (8 : Int32).toNatClampNeg) (mZ (wR M s0 4 (some s1)) (kz K))))
theorem mbT_X7_init_25 {o : (Ka × Cm) ⊕ (Ka × Cm)} {N : Nat}  (x0 : Nat) (x1 : Int32) (x2 : Int32) (s0 : Nat) (s1 : Nat) (K : Ka) (M : Cm) (hf : bT_X7_init_25 N x0 x1 x2 s0 s1 K M = some o) : KLe K (oK sV o) := by
  unfold bT_X7_init_25 at hf
  obtain ⟨-, hf⟩ := gd_some hf
  obtain ⟨-, hf⟩ := gd_some hf
  exact (kNew_le _ _ _ _).tr (mbT_X7_init_33 _ _ _ _ _ _ _ hf)
set_option maxRecDepth 100000 in
set_option maxHeartbeats 4000000 in
theorem wbT_X7_init_25 {p : Program} {l : Launch} {e : Env} {R : Room} {s : State} {m : MethodId} {args : Array Value} {below : List Frame} {meth : Method} {c : Code} {x : Xc} {K0 : Ka} {o : (Ka × Cm) ⊕ (Ka × Cm)} {N : Nat} (CTX : CT p l s m args meth c x K0 RX7 "<init>" cX7_init 3 none) (hRm : 6 ≤ R.frames ∧ 95 ≤ R.locals) (hRc : nz sV K0 o ≤ R.cells ∧ nu sV K0 o ≤ R.slots) (x0 : Nat) (x1 : Int32) (x2 : Int32) (s0 : Nat) (s1 : Nat) (K : Ka) (M : Cm) (H : Heap) (locs : List Loc) (ls : Array Slot) (hf : bT_X7_init_25 N x0 x1 x2 s0 s1 K M = some o) (hL : KLe K0 K) (hR : RC x K M H) (hS : va_S (AC K0) s.heap H locs) (hl : lv_has ls 3 [(0, .ref x0), (1, .int x1), (2, .int x2)]) : W p l e R s m args below meth c H locs (kz K - kz K0) (ku K - ku K0) (TQ sV (aQV x K0) (zQV K0) "java/lang/IllegalStateException" x K0 below args s o) (F0 m 25 ls [.ref s1, .ref s0]) := by
  obtain ⟨CX, hno, hlt, hmn⟩ := id CTX
  obtain ⟨hx, hb, hml, hown, hts, hE, hB, hr, hlk⟩ := id CX
  have hcs := nz_le (mbT_X7_init_25  x0 x1 x2 s0 s1 K M hf) hRc
  unfold bT_X7_init_25 at hf
  obtain ⟨hk_s0_8, hf⟩ := gd_some hf
  refine tr_putFR kc_7 CX hmn hR hL hS (v := some s1) ff_X7_19 ⟨rfl, rfl, .inr ⟨_, rfl⟩⟩ hk_s0_8 dX7_init_25 (fun H locs hR hS => ?_)
  refine lv_aload_n hx hb dX7_init_28 rfl (lv_at hl 0 rfl) ?_
  refine lv_bipush (v := 8) hx hb dX7_init_29 (by decide) ?_
  obtain ⟨hq, hf⟩ := gd_some hf
  have hm1 := mbT_X7_init_33 _ _ _ _ _ _ _ hf
  have hb1 := nz_le hm1 hRc
  refine tr_newaz CX hL hR hS hq hb1 dX7_init_31 (fun H hR hS => ?_)
  exact (wbT_X7_init_33 CTX hRm hRc) _ _ _ _ _ _ _ _ _ _ hf (hL.tr (kNew_le _ _ _ _)) hR hS (lv_sub hl [0, 1, 2] rfl)
def bT_X7_init_17 (N : Nat) (x0 : Nat) (x1 : Int32) (x2 : Int32) (s0 : Nat) (s1 : Nat) (K : Ka) (M : Cm) : Option ((Ka × Cm) ⊕ (Ka × Cm)) := gd (kd K s0 == 8) (gd (decide (¬ (8 : Int32) < 0 ∧ (8 : Int32).toNatClampNeg ≤ 1000000)) ((bT_X7_init_25 N) x0 x1 x2 x0 (kz K) (kNew K 22 (8 : Int32).toNatClampNeg (8 : Int32).toNatClampNeg) (mZ (wR M s0 3 (some s1)) (kz K))))
theorem mbT_X7_init_17 {o : (Ka × Cm) ⊕ (Ka × Cm)} {N : Nat}  (x0 : Nat) (x1 : Int32) (x2 : Int32) (s0 : Nat) (s1 : Nat) (K : Ka) (M : Cm) (hf : bT_X7_init_17 N x0 x1 x2 s0 s1 K M = some o) : KLe K (oK sV o) := by
  unfold bT_X7_init_17 at hf
  obtain ⟨-, hf⟩ := gd_some hf
  obtain ⟨-, hf⟩ := gd_some hf
  exact (kNew_le _ _ _ _).tr (mbT_X7_init_25 _ _ _ _ _ _ _ hf)
set_option maxRecDepth 100000 in
set_option maxHeartbeats 4000000 in
theorem wbT_X7_init_17 {p : Program} {l : Launch} {e : Env} {R : Room} {s : State} {m : MethodId} {args : Array Value} {below : List Frame} {meth : Method} {c : Code} {x : Xc} {K0 : Ka} {o : (Ka × Cm) ⊕ (Ka × Cm)} {N : Nat} (CTX : CT p l s m args meth c x K0 RX7 "<init>" cX7_init 3 none) (hRm : 6 ≤ R.frames ∧ 95 ≤ R.locals) (hRc : nz sV K0 o ≤ R.cells ∧ nu sV K0 o ≤ R.slots) (x0 : Nat) (x1 : Int32) (x2 : Int32) (s0 : Nat) (s1 : Nat) (K : Ka) (M : Cm) (H : Heap) (locs : List Loc) (ls : Array Slot) (hf : bT_X7_init_17 N x0 x1 x2 s0 s1 K M = some o) (hL : KLe K0 K) (hR : RC x K M H) (hS : va_S (AC K0) s.heap H locs) (hl : lv_has ls 3 [(0, .ref x0), (1, .int x1), (2, .int x2)]) : W p l e R s m args below meth c H locs (kz K - kz K0) (ku K - ku K0) (TQ sV (aQV x K0) (zQV K0) "java/lang/IllegalStateException" x K0 below args s o) (F0 m 17 ls [.ref s1, .ref s0]) := by
  obtain ⟨CX, hno, hlt, hmn⟩ := id CTX
  obtain ⟨hx, hb, hml, hown, hts, hE, hB, hr, hlk⟩ := id CX
  have hcs := nz_le (mbT_X7_init_17  x0 x1 x2 s0 s1 K M hf) hRc
  unfold bT_X7_init_17 at hf
  obtain ⟨hk_s0_8, hf⟩ := gd_some hf
  refine tr_putFR kc_7 CX hmn hR hL hS (v := some s1) ff_X7_15 ⟨rfl, rfl, .inr ⟨_, rfl⟩⟩ hk_s0_8 dX7_init_17 (fun H locs hR hS => ?_)
  refine lv_aload_n hx hb dX7_init_20 rfl (lv_at hl 0 rfl) ?_
  refine lv_bipush (v := 8) hx hb dX7_init_21 (by decide) ?_
  obtain ⟨hq, hf⟩ := gd_some hf
  have hm1 := mbT_X7_init_25 _ _ _ _ _ _ _ hf
  have hb1 := nz_le hm1 hRc
  refine tr_newai CX hL hR hS hq hb1 dX7_init_23 (fun H hR hS => ?_)
  exact (wbT_X7_init_25 CTX hRm hRc) _ _ _ _ _ _ _ _ _ _ hf (hL.tr (kNew_le _ _ _ _)) hR hS (lv_sub hl [0, 1, 2] rfl)
def bT_X7_init_9 (N : Nat) (x0 : Nat) (x1 : Int32) (x2 : Int32) (s0 : Nat) (s1 : Nat) (K : Ka) (M : Cm) : Option ((Ka × Cm) ⊕ (Ka × Cm)) := gd (kd K s0 == 8) (gd (decide (¬ (8 : Int32) < 0 ∧ (8 : Int32).toNatClampNeg ≤ 1000000)) ((bT_X7_init_17 N) x0 x1 x2 x0 (kz K) (kNew K 23 (8 : Int32).toNatClampNeg (8 : Int32).toNatClampNeg) (mZ (wR M s0 2 (some s1)) (kz K))))
theorem mbT_X7_init_9 {o : (Ka × Cm) ⊕ (Ka × Cm)} {N : Nat}  (x0 : Nat) (x1 : Int32) (x2 : Int32) (s0 : Nat) (s1 : Nat) (K : Ka) (M : Cm) (hf : bT_X7_init_9 N x0 x1 x2 s0 s1 K M = some o) : KLe K (oK sV o) := by
  unfold bT_X7_init_9 at hf
  obtain ⟨-, hf⟩ := gd_some hf
  obtain ⟨-, hf⟩ := gd_some hf
  exact (kNew_le _ _ _ _).tr (mbT_X7_init_17 _ _ _ _ _ _ _ hf)
set_option maxRecDepth 100000 in
set_option maxHeartbeats 4000000 in
theorem wbT_X7_init_9 {p : Program} {l : Launch} {e : Env} {R : Room} {s : State} {m : MethodId} {args : Array Value} {below : List Frame} {meth : Method} {c : Code} {x : Xc} {K0 : Ka} {o : (Ka × Cm) ⊕ (Ka × Cm)} {N : Nat} (CTX : CT p l s m args meth c x K0 RX7 "<init>" cX7_init 3 none) (hRm : 6 ≤ R.frames ∧ 95 ≤ R.locals) (hRc : nz sV K0 o ≤ R.cells ∧ nu sV K0 o ≤ R.slots) (x0 : Nat) (x1 : Int32) (x2 : Int32) (s0 : Nat) (s1 : Nat) (K : Ka) (M : Cm) (H : Heap) (locs : List Loc) (ls : Array Slot) (hf : bT_X7_init_9 N x0 x1 x2 s0 s1 K M = some o) (hL : KLe K0 K) (hR : RC x K M H) (hS : va_S (AC K0) s.heap H locs) (hl : lv_has ls 3 [(0, .ref x0), (1, .int x1), (2, .int x2)]) : W p l e R s m args below meth c H locs (kz K - kz K0) (ku K - ku K0) (TQ sV (aQV x K0) (zQV K0) "java/lang/IllegalStateException" x K0 below args s o) (F0 m 9 ls [.ref s1, .ref s0]) := by
  obtain ⟨CX, hno, hlt, hmn⟩ := id CTX
  obtain ⟨hx, hb, hml, hown, hts, hE, hB, hr, hlk⟩ := id CX
  have hcs := nz_le (mbT_X7_init_9  x0 x1 x2 s0 s1 K M hf) hRc
  unfold bT_X7_init_9 at hf
  obtain ⟨hk_s0_8, hf⟩ := gd_some hf
  refine tr_putFR kc_7 CX hmn hR hL hS (v := some s1) ff_X7_9 ⟨rfl, rfl, .inr ⟨_, rfl⟩⟩ hk_s0_8 dX7_init_9 (fun H locs hR hS => ?_)
  refine lv_aload_n hx hb dX7_init_12 rfl (lv_at hl 0 rfl) ?_
  refine lv_bipush (v := 8) hx hb dX7_init_13 (by decide) ?_
  obtain ⟨hq, hf⟩ := gd_some hf
  have hm1 := mbT_X7_init_17 _ _ _ _ _ _ _ hf
  have hb1 := nz_le hm1 hRc
  refine tr_newal CX hL hR hS hq hb1 dX7_init_15 (fun H hR hS => ?_)
  exact (wbT_X7_init_17 CTX hRm hRc) _ _ _ _ _ _ _ _ _ _ hf (hL.tr (kNew_le _ _ _ _)) hR hS (lv_sub hl [0, 1, 2] rfl)
def fT_X7_init (N : Nat) (x0 : Nat) (x1 : Int32) (x2 : Int32) (K : Ka) (M : Cm) : Option ((Ka × Cm) ⊕ (Ka × Cm)) := gd (decide (¬ (6 : Int32) < 0 ∧ (6 : Int32).toNatClampNeg ≤ 1000000)) ((bT_X7_init_9 N) x0 x1 x2 x0 (kz K) (kNew K 22 (6 : Int32).toNatClampNeg (6 : Int32).toNatClampNeg) (mZ M (kz K)))
theorem mfT_X7_init {o : (Ka × Cm) ⊕ (Ka × Cm)} {N : Nat}  (x0 : Nat) (x1 : Int32) (x2 : Int32) (K : Ka) (M : Cm) (hf : fT_X7_init N x0 x1 x2 K M = some o) : KLe K (oK sV o) := by
  unfold fT_X7_init at hf
  obtain ⟨-, hf⟩ := gd_some hf
  exact (kNew_le _ _ _ _).tr (mbT_X7_init_9 _ _ _ _ _ _ _ hf)
set_option maxRecDepth 100000 in
set_option maxHeartbeats 4000000 in
theorem wfT_X7_init {p : Program} {l : Launch} {e : Env} {R : Room} {s : State} {m : MethodId} {args : Array Value} {below : List Frame} {meth : Method} {c : Code} {x : Xc} {K0 : Ka} {o : (Ka × Cm) ⊕ (Ka × Cm)} {N : Nat} (CTX : CT p l s m args meth c x K0 RX7 "<init>" cX7_init 3 none) (hRm : 6 ≤ R.frames ∧ 95 ≤ R.locals) (hRc : nz sV K0 o ≤ R.cells ∧ nu sV K0 o ≤ R.slots) (x0 : Nat) (x1 : Int32) (x2 : Int32) (K : Ka) (M : Cm) (H : Heap) (locs : List Loc) (ls : Array Slot) (hf : fT_X7_init N x0 x1 x2 K M = some o) (hL : KLe K0 K) (hR : RC x K M H) (hS : va_S (AC K0) s.heap H locs) (hl : lv_has ls 3 [(0, .ref x0), (1, .int x1), (2, .int x2)]) : W p l e R s m args below meth c H locs (kz K - kz K0) (ku K - ku K0) (TQ sV (aQV x K0) (zQV K0) "java/lang/IllegalStateException" x K0 below args s o) (F0 m 0 ls []) := by
  obtain ⟨CX, hno, hlt, hmn⟩ := id CTX
  obtain ⟨hx, hb, hml, hown, hts, hE, hB, hr, hlk⟩ := id CX
  have hcs := nz_le (mfT_X7_init  x0 x1 x2 K M hf) hRc
  unfold fT_X7_init at hf
  refine lv_aload_n hx hb dX7_init_0 rfl (lv_at hl 0 rfl) ?_
  refine tr_objInit CX wi_X7_3 hl.1 (by omega) (by omega) (Nat.le_of_ble_eq_true rfl) dX7_init_1 ?_
  refine lv_aload_n hx hb dX7_init_4 rfl (lv_at hl 0 rfl) ?_
  refine lv_bipush (v := 6) hx hb dX7_init_5 (by decide) ?_
  obtain ⟨hq, hf⟩ := gd_some hf
  have hm1 := mbT_X7_init_9 _ _ _ _ _ _ _ hf
  have hb1 := nz_le hm1 hRc
  refine tr_newai CX hL hR hS hq hb1 dX7_init_7 (fun H hR hS => ?_)
  exact (wbT_X7_init_9 CTX hRm hRc) _ _ _ _ _ _ _ _ _ _ hf (hL.tr (kNew_le _ _ _ _)) hR hS (lv_sub hl [0, 1, 2] rfl)
theorem MT_X7_init (l : Launch) (x : Xc) (hlt : l.stackTraces = false) (N : Nat) (x0 : Nat) (x1 : Int32) (x2 : Int32) (K : Ka) (M : Cm) (o : (Ka × Cm) ⊕ (Ka × Cm)) (hf : fT_X7_init N x0 x1 x2 K M = some o) : Tc sV (aQV x K) (zQV K) "java/lang/IllegalStateException" l x yX7_init cX7_init 3 none 6 95 [.ref x0, .int x1, .int x2] K M o :=
  tr_met RX7 "<init>" hlt (by decide) rfl rfl (Nat.le_of_ble_eq_true rfl) (fun p e s m args below meth c ls CTX hR hl => wfT_X7_init CTX ⟨Nat.le_refl _, Nat.le_refl _⟩ ⟨Nat.le_refl _, Nat.le_refl _⟩ x0 x1 x2 K M s.heap [] ls hf (KLe.rf K) hR va_S.rf hl)
def bT_X3_readModuleHead_77 (N : Nat) (x0 : Nat) (x1 : Nat) (K : Ka) (M : Cm) : Option ((Nat × Ka × Cm) ⊕ (Ka × Cm)) := some (.inl (x1, K, M))
theorem mbT_X3_readModuleHead_77 {o : (Nat × Ka × Cm) ⊕ (Ka × Cm)} {N : Nat}  (x0 : Nat) (x1 : Nat) (K : Ka) (M : Cm) (hf : bT_X3_readModuleHead_77 N x0 x1 K M = some o) : KLe K (oK sT o) := by
  unfold bT_X3_readModuleHead_77 at hf
  cases hf
  exact KLe.rf _
set_option maxRecDepth 100000 in
set_option maxHeartbeats 4000000 in
theorem wbT_X3_readModuleHead_77 {p : Program} {l : Launch} {e : Env} {R : Room} {s : State} {m : MethodId} {args : Array Value} {below : List Frame} {meth : Method} {c : Code} {x : Xc} {K0 : Ka} {o : (Nat × Ka × Cm) ⊕ (Ka × Cm)} {N : Nat} (CTX : CT p l s m args meth c x K0 RX3 "readModuleHead" cX3_readModuleHead 4 (some (.object "StationStarter$Unit"))) (hRm : 8 ≤ R.frames ∧ 142 ≤ R.locals) (hRc : nz sT K0 o ≤ R.cells ∧ nu sT K0 o ≤ R.slots) (x0 : Nat) (x1 : Nat) (K : Ka) (M : Cm) (H : Heap) (locs : List Loc) (ls : Array Slot) (hf : bT_X3_readModuleHead_77 N x0 x1 K M = some o) (hL : KLe K0 K) (hR : RC x K M H) (hS : va_S (AC K0) s.heap H locs) (hl : lv_has ls 4 [(0, .ref x0), (1, .ref x1)]) : W p l e R s m args below meth c H locs (kz K - kz K0) (ku K - ku K0) (TQ sT (aQA x K0) (zQV K0) "java/lang/IllegalStateException" x K0 below args s o) (F0 m 77 ls []) := by
  obtain ⟨CX, hno, hlt, hmn⟩ := id CTX
  obtain ⟨hx, hb, hml, hown, hts, hE, hB, hr, hlk⟩ := id CX
  have hcs := nz_le (mbT_X3_readModuleHead_77  x0 x1 K M hf) hRc
  unfold bT_X3_readModuleHead_77 at hf
  refine lv_aload_n hx hb dX3_readModuleHead_77 rfl (lv_at hl 1 rfl) ?_
  exact tr_aret CX ⟨rfl, .inl ⟨_, rfl⟩⟩ hR hS hf dX3_readModuleHead_78
def bT_X3_readModuleHead_68 (N : Nat) (x0 : Nat) (x1 : Nat) (x2 : Int64) (K : Ka) (M : Cm) : Option ((Nat × Ka × Cm) ⊕ (Ka × Cm)) := gd (kd K x0 == 4) (nn (cR M x0 1) fun a1 => gd (kd K a1 == 6) (ta (fT_X5_addUnit N a1 x2 x1 K M) fun o74 => (bT_X3_readModuleHead_77 N) x0 x1 o74.1 o74.2))
theorem mbT_X3_readModuleHead_68 {o : (Nat × Ka × Cm) ⊕ (Ka × Cm)} {N : Nat}  (x0 : Nat) (x1 : Nat) (x2 : Int64) (K : Ka) (M : Cm) (hf : bT_X3_readModuleHead_68 N x0 x1 x2 K M = some o) : KLe K (oK sT o) := by
  unfold bT_X3_readModuleHead_68 at hf
  obtain ⟨-, hf⟩ := gd_some hf
  obtain ⟨a1, -, hf⟩ := nn_some hf
  obtain ⟨-, hf⟩ := gd_some hf
  obtain ⟨o74, ho, hf⟩ := ta_some hf
  exact KLe.tr (mfT_X5_addUnit _ _ _ _ _ ho) (mbT_X3_readModuleHead_77 _ _ _ _ hf)
set_option maxRecDepth 100000 in
set_option maxHeartbeats 4000000 in
theorem wbT_X3_readModuleHead_68 {p : Program} {l : Launch} {e : Env} {R : Room} {s : State} {m : MethodId} {args : Array Value} {below : List Frame} {meth : Method} {c : Code} {x : Xc} {K0 : Ka} {o : (Nat × Ka × Cm) ⊕ (Ka × Cm)} {N : Nat} (CTX : CT p l s m args meth c x K0 RX3 "readModuleHead" cX3_readModuleHead 4 (some (.object "StationStarter$Unit"))) (hRm : 8 ≤ R.frames ∧ 142 ≤ R.locals) (hRc : nz sT K0 o ≤ R.cells ∧ nu sT K0 o ≤ R.slots) (x0 : Nat) (x1 : Nat) (x2 : Int64) (K : Ka) (M : Cm) (H : Heap) (locs : List Loc) (ls : Array Slot) (hf : bT_X3_readModuleHead_68 N x0 x1 x2 K M = some o) (hL : KLe K0 K) (hR : RC x K M H) (hS : va_S (AC K0) s.heap H locs) (hl : lv_has ls 4 [(0, .ref x0), (1, .ref x1), (2, .long x2)]) : W p l e R s m args below meth c H locs (kz K - kz K0) (ku K - ku K0) (TQ sT (aQA x K0) (zQV K0) "java/lang/IllegalStateException" x K0 below args s o) (F0 m 68 ls []) := by
  obtain ⟨CX, hno, hlt, hmn⟩ := id CTX
  obtain ⟨hx, hb, hml, hown, hts, hE, hB, hr, hlk⟩ := id CX
  have hcs := nz_le (mbT_X3_readModuleHead_68  x0 x1 x2 K M hf) hRc
  unfold bT_X3_readModuleHead_68 at hf
  refine lv_aload_n hx hb dX3_readModuleHead_68 rfl (lv_at hl 0 rfl) ?_
  obtain ⟨hk_x0_4, hf⟩ := gd_some hf
  refine cr_getR kc_3 CX hR fa_X3_9 rfl hk_x0_4 dX3_readModuleHead_69 ?_
  refine lv_lload_n hx hb dX3_readModuleHead_72 rfl (lv_at hl 2 rfl) ?_
  refine lv_aload_n hx hb dX3_readModuleHead_73 rfl (lv_at hl 1 rfl) ?_
  obtain ⟨a1, ha1, hf⟩ := nn_some hf
  refine rf_2 ha1 ?_
  obtain ⟨hk_a1_6, hf⟩ := gd_some hf
  obtain ⟨o74, ho, hf⟩ := ta_some hf
  have hm1 := mbT_X3_readModuleHead_77 _ _ _ _ hf
  have hb1 := nz_le hm1 hRc
  have hq1 := (mfT_X5_addUnit _ _ _ _ _ ho)
  refine ta_callVv kc_5 CX hL hR hS (As := [.long x2, .ref x1]) (rest := []) hk_a1_6 (MT_X5_addUnit l x hlt N _ _ _ _ _ _ ho) cv_X3_186 ⟨by omega, by omega⟩ rfl (Nat.le_of_ble_eq_true rfl) hl.1 hq1 hb1 rfl dX3_readModuleHead_74 (fun H locs hR hS => ?_)
  exact (wbT_X3_readModuleHead_77 CTX hRm hRc) _ _ _ _ _ _ _ hf (hL.tr hq1) hR hS (lv_sub hl [0, 1] rfl)
def bT_X3_readModuleHead_53 (N : Nat) (x0 : Nat) (x1 : Nat) (x2 : Int64) (K : Ka) (M : Cm) : Option ((Nat × Ka × Cm) ⊕ (Ka × Cm)) := gd (kd K x0 == 4) (if (cI M x0 3) = 137 then (tb (fT_X3_readRoles N x0 x1 K M) fun o65 => (bT_X3_readModuleHead_68 N) x0 x1 x2 o65.1 o65.2) else ((bT_X3_readModuleHead_68 N) x0 x1 x2 K M))
theorem mbT_X3_readModuleHead_53 {o : (Nat × Ka × Cm) ⊕ (Ka × Cm)} {N : Nat}  (x0 : Nat) (x1 : Nat) (x2 : Int64) (K : Ka) (M : Cm) (hf : bT_X3_readModuleHead_53 N x0 x1 x2 K M = some o) : KLe K (oK sT o) := by
  unfold bT_X3_readModuleHead_53 at hf
  obtain ⟨-, hf⟩ := gd_some hf
  by_cases hc : (cI M x0 3) = 137
  · rw [if_pos hc] at hf
    rcases tb_some hf with ⟨o65, ho, hf⟩ | ⟨q, ho, rfl⟩
    · exact KLe.tr (mfT_X3_readRoles _ _ _ _ ho) (mbT_X3_readModuleHead_68 _ _ _ _ _ hf)
    · exact (mfT_X3_readRoles _ _ _ _ ho)
  · rw [if_neg hc] at hf
    exact mbT_X3_readModuleHead_68 _ _ _ _ _ hf
set_option maxRecDepth 100000 in
set_option maxHeartbeats 4000000 in
theorem wbT_X3_readModuleHead_53 {p : Program} {l : Launch} {e : Env} {R : Room} {s : State} {m : MethodId} {args : Array Value} {below : List Frame} {meth : Method} {c : Code} {x : Xc} {K0 : Ka} {o : (Nat × Ka × Cm) ⊕ (Ka × Cm)} {N : Nat} (CTX : CT p l s m args meth c x K0 RX3 "readModuleHead" cX3_readModuleHead 4 (some (.object "StationStarter$Unit"))) (hRm : 8 ≤ R.frames ∧ 142 ≤ R.locals) (hRc : nz sT K0 o ≤ R.cells ∧ nu sT K0 o ≤ R.slots) (x0 : Nat) (x1 : Nat) (x2 : Int64) (K : Ka) (M : Cm) (H : Heap) (locs : List Loc) (ls : Array Slot) (hf : bT_X3_readModuleHead_53 N x0 x1 x2 K M = some o) (hL : KLe K0 K) (hR : RC x K M H) (hS : va_S (AC K0) s.heap H locs) (hl : lv_has ls 4 [(0, .ref x0), (1, .ref x1), (2, .long x2)]) : W p l e R s m args below meth c H locs (kz K - kz K0) (ku K - ku K0) (TQ sT (aQA x K0) (zQV K0) "java/lang/IllegalStateException" x K0 below args s o) (F0 m 53 ls []) := by
  obtain ⟨CX, hno, hlt, hmn⟩ := id CTX
  obtain ⟨hx, hb, hml, hown, hts, hE, hB, hr, hlk⟩ := id CX
  have hcs := nz_le (mbT_X3_readModuleHead_53  x0 x1 x2 K M hf) hRc
  unfold bT_X3_readModuleHead_53 at hf
  refine lv_aload_n hx hb dX3_readModuleHead_53 rfl (lv_at hl 0 rfl) ?_
  obtain ⟨hk_x0_4, hf⟩ := gd_some hf
  refine cr_getI kc_3 CX hR fa_X3_19 rfl hk_x0_4 dX3_readModuleHead_54 ?_
  refine lv_sipush (v := 137) hx hb dX3_readModuleHead_57 (by decide) ?_
  refine lv_icmp_ne (tgt := 68) hx hb dX3_readModuleHead_60 (by decide) (fun hc => ?_) (fun hc => ?_)
  · rw [if_neg hc] at hf
    exact (wbT_X3_readModuleHead_68 CTX hRm hRc) _ _ _ _ _ _ _ _ hf hL hR hS (lv_sub hl [0, 1, 2] rfl)
  · rw [if_pos hc] at hf
    refine lv_aload_n hx hb dX3_readModuleHead_63 rfl (lv_at hl 0 rfl) ?_
    refine lv_aload_n hx hb dX3_readModuleHead_64 rfl (lv_at hl 1 rfl) ?_
    rcases tb_some hf with ⟨o65, ho, hf⟩ | ⟨q, ho, rfl⟩
    · have hm1 := mbT_X3_readModuleHead_68 _ _ _ _ _ hf
      have hb1 := nz_le hm1 hRc
      have hq1 := (mfT_X3_readRoles _ _ _ _ ho)
      refine ta_callVv kc_3 CX hL hR hS (As := [.ref x1]) (rest := []) hk_x0_4 (MT_X3_readRoles l x hlt N _ _ _ _ _ ho) cv_X3_183 ⟨by omega, by omega⟩ rfl (Nat.le_of_ble_eq_true rfl) hl.1 hq1 hb1 rfl dX3_readModuleHead_65 (fun H locs hR hS => ?_)
      exact (wbT_X3_readModuleHead_68 CTX hRm hRc) _ _ _ _ _ _ _ _ hf (hL.tr hq1) hR hS (lv_sub hl [0, 1, 2] rfl)
    · exact tx_callv kc_3 CTX hL hR hS (As := [.ref x1]) (rest := []) hk_x0_4 (MT_X3_readRoles l x hlt N _ _ _ _ _ ho) cv_X3_183 ⟨by omega, by omega⟩ rfl (Nat.le_of_ble_eq_true rfl) hl.1 (mfT_X3_readRoles _ _ _ _ ho) hRc rfl dX3_readModuleHead_65
def bT_X3_readModuleHead_50 (N : Nat) (x0 : Nat) (x1 : Nat) (x2 : Int64) (s0 : Nat) (s1 : Int32) (K : Ka) (M : Cm) : Option ((Nat × Ka × Cm) ⊕ (Ka × Cm)) := gd (kd K s0 == 8) ((bT_X3_readModuleHead_53 N) x0 x1 x2 K (wI M s0 6 s1))
theorem mbT_X3_readModuleHead_50 {o : (Nat × Ka × Cm) ⊕ (Ka × Cm)} {N : Nat}  (x0 : Nat) (x1 : Nat) (x2 : Int64) (s0 : Nat) (s1 : Int32) (K : Ka) (M : Cm) (hf : bT_X3_readModuleHead_50 N x0 x1 x2 s0 s1 K M = some o) : KLe K (oK sT o) := by
  unfold bT_X3_readModuleHead_50 at hf
  obtain ⟨-, hf⟩ := gd_some hf
  exact mbT_X3_readModuleHead_53 _ _ _ _ _ hf
set_option maxRecDepth 100000 in
set_option maxHeartbeats 4000000 in
theorem wbT_X3_readModuleHead_50 {p : Program} {l : Launch} {e : Env} {R : Room} {s : State} {m : MethodId} {args : Array Value} {below : List Frame} {meth : Method} {c : Code} {x : Xc} {K0 : Ka} {o : (Nat × Ka × Cm) ⊕ (Ka × Cm)} {N : Nat} (CTX : CT p l s m args meth c x K0 RX3 "readModuleHead" cX3_readModuleHead 4 (some (.object "StationStarter$Unit"))) (hRm : 8 ≤ R.frames ∧ 142 ≤ R.locals) (hRc : nz sT K0 o ≤ R.cells ∧ nu sT K0 o ≤ R.slots) (x0 : Nat) (x1 : Nat) (x2 : Int64) (s0 : Nat) (s1 : Int32) (K : Ka) (M : Cm) (H : Heap) (locs : List Loc) (ls : Array Slot) (hf : bT_X3_readModuleHead_50 N x0 x1 x2 s0 s1 K M = some o) (hL : KLe K0 K) (hR : RC x K M H) (hS : va_S (AC K0) s.heap H locs) (hl : lv_has ls 4 [(0, .ref x0), (1, .ref x1), (2, .long x2)]) : W p l e R s m args below meth c H locs (kz K - kz K0) (ku K - ku K0) (TQ sT (aQA x K0) (zQV K0) "java/lang/IllegalStateException" x K0 below args s o) (F0 m 50 ls [.int s1, .ref s0]) := by
  obtain ⟨CX, hno, hlt, hmn⟩ := id CTX
  obtain ⟨hx, hb, hml, hown, hts, hE, hB, hr, hlk⟩ := id CX
  have hcs := nz_le (mbT_X3_readModuleHead_50  x0 x1 x2 s0 s1 K M hf) hRc
  unfold bT_X3_readModuleHead_50 at hf
  obtain ⟨hk_s0_8, hf⟩ := gd_some hf
  refine cr_putI kc_7 CX hR hL hS fa_X3_194 ⟨rfl, rfl, rfl⟩ hk_s0_8 dX3_readModuleHead_50 (fun H locs hR hS => ?_)
  exact (wbT_X3_readModuleHead_53 CTX hRm hRc) _ _ _ _ _ _ _ _ hf hL hR hS (lv_sub hl [0, 1, 2] rfl)
def bT_X3_readModuleHead_24 (N : Nat) (x0 : Nat) (x1 : Nat) (s0 : Int64) (K : Ka) (M : Cm) : Option ((Nat × Ka × Cm) ⊕ (Ka × Cm)) := gd (kd K x0 == 4) (if (cI M x0 3) = 136 then ((fC_X3_moveTo N K x0 ((cI M x0 2) + 1) M).bind fun o42 => tb (fT_X3_readBase N x0 K o42) fun o47 => (bT_X3_readModuleHead_50 N) x0 x1 s0 x1 o47.1 o47.2.1 o47.2.2) else ((bT_X3_readModuleHead_53 N) x0 x1 s0 K M))
theorem mbT_X3_readModuleHead_24 {o : (Nat × Ka × Cm) ⊕ (Ka × Cm)} {N : Nat}  (x0 : Nat) (x1 : Nat) (s0 : Int64) (K : Ka) (M : Cm) (hf : bT_X3_readModuleHead_24 N x0 x1 s0 K M = some o) : KLe K (oK sT o) := by
  unfold bT_X3_readModuleHead_24 at hf
  obtain ⟨-, hf⟩ := gd_some hf
  by_cases hc : (cI M x0 3) = 136
  · rw [if_pos hc] at hf
    obtain ⟨o42, -, hf⟩ := bnd_some hf
    rcases tb_some hf with ⟨o47, ho, hf⟩ | ⟨q, ho, rfl⟩
    · exact KLe.tr (mfT_X3_readBase _ _ _ ho) (mbT_X3_readModuleHead_50 _ _ _ _ _ _ _ hf)
    · exact (mfT_X3_readBase _ _ _ ho)
  · rw [if_neg hc] at hf
    exact mbT_X3_readModuleHead_53 _ _ _ _ _ hf
set_option maxRecDepth 100000 in
set_option maxHeartbeats 4000000 in
theorem wbT_X3_readModuleHead_24 {p : Program} {l : Launch} {e : Env} {R : Room} {s : State} {m : MethodId} {args : Array Value} {below : List Frame} {meth : Method} {c : Code} {x : Xc} {K0 : Ka} {o : (Nat × Ka × Cm) ⊕ (Ka × Cm)} {N : Nat} (CTX : CT p l s m args meth c x K0 RX3 "readModuleHead" cX3_readModuleHead 4 (some (.object "StationStarter$Unit"))) (hRm : 8 ≤ R.frames ∧ 142 ≤ R.locals) (hRc : nz sT K0 o ≤ R.cells ∧ nu sT K0 o ≤ R.slots) (x0 : Nat) (x1 : Nat) (s0 : Int64) (K : Ka) (M : Cm) (H : Heap) (locs : List Loc) (ls : Array Slot) (hf : bT_X3_readModuleHead_24 N x0 x1 s0 K M = some o) (hL : KLe K0 K) (hR : RC x K M H) (hS : va_S (AC K0) s.heap H locs) (hl : lv_has ls 4 [(0, .ref x0), (1, .ref x1)]) : W p l e R s m args below meth c H locs (kz K - kz K0) (ku K - ku K0) (TQ sT (aQA x K0) (zQV K0) "java/lang/IllegalStateException" x K0 below args s o) (F0 m 24 ls [.long s0]) := by
  obtain ⟨CX, hno, hlt, hmn⟩ := id CTX
  obtain ⟨hx, hb, hml, hown, hts, hE, hB, hr, hlk⟩ := id CX
  have hcs := nz_le (mbT_X3_readModuleHead_24  x0 x1 s0 K M hf) hRc
  unfold bT_X3_readModuleHead_24 at hf
  refine lv_lstore_n (lv' := [(2, .long s0), (0, .ref x0), (1, .ref x1)]) hx hb dX3_readModuleHead_24 rfl hl (by decide) rfl (fun ls hl => ?_)
  refine lv_aload_n hx hb dX3_readModuleHead_25 rfl (lv_at hl 1 rfl) ?_
  obtain ⟨hk_x0_4, hf⟩ := gd_some hf
  refine cr_getI kc_3 CX hR fa_X3_19 rfl hk_x0_4 dX3_readModuleHead_26 ?_
  refine lv_sipush (v := 136) hx hb dX3_readModuleHead_29 (by decide) ?_
  refine lv_icmp_ne (tgt := 53) hx hb dX3_readModuleHead_32 (by decide) (fun hc => ?_) (fun hc => ?_)
  · rw [if_neg hc] at hf
    exact (wbT_X3_readModuleHead_53 CTX hRm hRc) _ _ _ _ _ _ _ _ hf hL hR hS (lv_sub hl [1, 2, 0] rfl)
  · rw [if_pos hc] at hf
    refine lv_aload_n hx hb dX3_readModuleHead_35 rfl (lv_at hl 1 rfl) ?_
    refine lv_aload_n hx hb dX3_readModuleHead_36 rfl (lv_at hl 1 rfl) ?_
    refine cr_getI kc_3 CX hR fa_X3_15 rfl hk_x0_4 dX3_readModuleHead_37 ?_
    refine lv_iconst (v := 1) hx hb dX3_readModuleHead_40 (by decide) ?_
    refine lv_iadd hx hb dX3_readModuleHead_41 ?_
    obtain ⟨o42, ho42, hf⟩ := bnd_some hf
    refine cr_callVv kc_3 CX hR hL hS (As := [.int ((cI M x0 2) + 1)]) (rest := []) hk_x0_4 (MC_X3_moveTo l x N K x0 ((cI M x0 2) + 1) M o42 ho42) cv_X3_42 ⟨by omega, by omega⟩ rfl rfl (Nat.le_of_ble_eq_true rfl) hl.1 dX3_readModuleHead_42 hcs (fun H locs hR hS => ?_)
    refine lv_aload_n hx hb dX3_readModuleHead_45 rfl (lv_at hl 2 rfl) ?_
    refine lv_aload_n hx hb dX3_readModuleHead_46 rfl (lv_at hl 1 rfl) ?_
    rcases tb_some hf with ⟨o47, ho, hf⟩ | ⟨q, ho, rfl⟩
    · have hm1 := mbT_X3_readModuleHead_50 _ _ _ _ _ _ _ hf
      have hb1 := nz_le hm1 hRc
      have hq1 := (mfT_X3_readBase _ _ _ ho)
      refine ta_callIv kc_3 CX hL hR hS (As := []) (rest := [.ref x1]) hk_x0_4 (MT_X3_readBase l x hlt N _ _ _ _ ho) cv_X3_190 ⟨by omega, by omega⟩ rfl (Nat.le_of_ble_eq_true rfl) hl.1 hq1 hb1 rfl dX3_readModuleHead_47 (fun H locs hR hS => ?_)
      exact (wbT_X3_readModuleHead_50 CTX hRm hRc) _ _ _ _ _ _ _ _ _ _ hf (hL.tr hq1) hR hS (lv_sub hl [1, 2, 0] rfl)
    · exact tx_callv kc_3 CTX hL hR hS (As := []) (rest := [.ref x1]) hk_x0_4 (MT_X3_readBase l x hlt N _ _ _ _ ho) cv_X3_190 ⟨by omega, by omega⟩ rfl (Nat.le_of_ble_eq_true rfl) hl.1 (mfT_X3_readBase _ _ _ ho) hRc rfl dX3_readModuleHead_47
def bT_X3_readModuleHead_19 (N : Nat) (x0 : Nat) (s0 : Nat) (K : Ka) (M : Cm) : Option ((Nat × Ka × Cm) ⊕ (Ka × Cm)) := gd (kd K x0 == 4) (tb (fT_X3_takeNewName N x0 K M) fun o21 => (bT_X3_readModuleHead_24 N) x0 s0 o21.1 o21.2.1 o21.2.2)
theorem mbT_X3_readModuleHead_19 {o : (Nat × Ka × Cm) ⊕ (Ka × Cm)} {N : Nat}  (x0 : Nat) (s0 : Nat) (K : Ka) (M : Cm) (hf : bT_X3_readModuleHead_19 N x0 s0 K M = some o) : KLe K (oK sT o) := by
  unfold bT_X3_readModuleHead_19 at hf
  obtain ⟨-, hf⟩ := gd_some hf
  rcases tb_some hf with ⟨o21, ho, hf⟩ | ⟨q, ho, rfl⟩
  · exact KLe.tr (mfT_X3_takeNewName _ _ _ ho) (mbT_X3_readModuleHead_24 _ _ _ _ _ hf)
  · exact (mfT_X3_takeNewName _ _ _ ho)
set_option maxRecDepth 100000 in
set_option maxHeartbeats 4000000 in
theorem wbT_X3_readModuleHead_19 {p : Program} {l : Launch} {e : Env} {R : Room} {s : State} {m : MethodId} {args : Array Value} {below : List Frame} {meth : Method} {c : Code} {x : Xc} {K0 : Ka} {o : (Nat × Ka × Cm) ⊕ (Ka × Cm)} {N : Nat} (CTX : CT p l s m args meth c x K0 RX3 "readModuleHead" cX3_readModuleHead 4 (some (.object "StationStarter$Unit"))) (hRm : 8 ≤ R.frames ∧ 142 ≤ R.locals) (hRc : nz sT K0 o ≤ R.cells ∧ nu sT K0 o ≤ R.slots) (x0 : Nat) (s0 : Nat) (K : Ka) (M : Cm) (H : Heap) (locs : List Loc) (ls : Array Slot) (hf : bT_X3_readModuleHead_19 N x0 s0 K M = some o) (hL : KLe K0 K) (hR : RC x K M H) (hS : va_S (AC K0) s.heap H locs) (hl : lv_has ls 4 [(0, .ref x0)]) : W p l e R s m args below meth c H locs (kz K - kz K0) (ku K - ku K0) (TQ sT (aQA x K0) (zQV K0) "java/lang/IllegalStateException" x K0 below args s o) (F0 m 19 ls [.ref s0]) := by
  obtain ⟨CX, hno, hlt, hmn⟩ := id CTX
  obtain ⟨hx, hb, hml, hown, hts, hE, hB, hr, hlk⟩ := id CX
  have hcs := nz_le (mbT_X3_readModuleHead_19  x0 s0 K M hf) hRc
  unfold bT_X3_readModuleHead_19 at hf
  refine lv_astore_n (lv' := [(1, .ref s0), (0, .ref x0)]) hx hb dX3_readModuleHead_19 rfl hl (by decide) rfl (fun ls hl => ?_)
  refine lv_aload_n hx hb dX3_readModuleHead_20 rfl (lv_at hl 1 rfl) ?_
  obtain ⟨hk_x0_4, hf⟩ := gd_some hf
  rcases tb_some hf with ⟨o21, ho, hf⟩ | ⟨q, ho, rfl⟩
  · have hm1 := mbT_X3_readModuleHead_24 _ _ _ _ _ hf
    have hb1 := nz_le hm1 hRc
    have hq1 := (mfT_X3_takeNewName _ _ _ ho)
    refine ta_callLv kc_3 CX hL hR hS (As := []) (rest := []) hk_x0_4 (MT_X3_takeNewName l x hlt N _ _ _ _ ho) cv_X3_115 ⟨by omega, by omega⟩ rfl (Nat.le_of_ble_eq_true rfl) hl.1 hq1 hb1 rfl dX3_readModuleHead_21 (fun H locs hR hS => ?_)
    exact (wbT_X3_readModuleHead_24 CTX hRm hRc) _ _ _ _ _ _ _ _ hf (hL.tr hq1) hR hS (lv_sub hl [1, 0] rfl)
  · exact tx_callv kc_3 CTX hL hR hS (As := []) (rest := []) hk_x0_4 (MT_X3_takeNewName l x hlt N _ _ _ _ ho) cv_X3_115 ⟨by omega, by omega⟩ rfl (Nat.le_of_ble_eq_true rfl) hl.1 (mfT_X3_takeNewName _ _ _ ho) hRc rfl dX3_readModuleHead_21
def bT_X3_readModuleHead_13 (N : Nat) (x0 : Nat) (s0 : Nat) (K : Ka) (M : Cm) : Option ((Nat × Ka × Cm) ⊕ (Ka × Cm)) := ta (fT_X7_init N s0 1 0 K M) fun o16 => (bT_X3_readModuleHead_19 N) x0 s0 o16.1 o16.2
theorem mbT_X3_readModuleHead_13 {o : (Nat × Ka × Cm) ⊕ (Ka × Cm)} {N : Nat}  (x0 : Nat) (s0 : Nat) (K : Ka) (M : Cm) (hf : bT_X3_readModuleHead_13 N x0 s0 K M = some o) : KLe K (oK sT o) := by
  unfold bT_X3_readModuleHead_13 at hf
  obtain ⟨o16, ho, hf⟩ := ta_some hf
  exact KLe.tr (mfT_X7_init _ _ _ _ _ ho) (mbT_X3_readModuleHead_19 _ _ _ _ hf)
set_option maxRecDepth 100000 in
set_option maxHeartbeats 4000000 in
theorem wbT_X3_readModuleHead_13 {p : Program} {l : Launch} {e : Env} {R : Room} {s : State} {m : MethodId} {args : Array Value} {below : List Frame} {meth : Method} {c : Code} {x : Xc} {K0 : Ka} {o : (Nat × Ka × Cm) ⊕ (Ka × Cm)} {N : Nat} (CTX : CT p l s m args meth c x K0 RX3 "readModuleHead" cX3_readModuleHead 4 (some (.object "StationStarter$Unit"))) (hRm : 8 ≤ R.frames ∧ 142 ≤ R.locals) (hRc : nz sT K0 o ≤ R.cells ∧ nu sT K0 o ≤ R.slots) (x0 : Nat) (s0 : Nat) (K : Ka) (M : Cm) (H : Heap) (locs : List Loc) (ls : Array Slot) (hf : bT_X3_readModuleHead_13 N x0 s0 K M = some o) (hL : KLe K0 K) (hR : RC x K M H) (hS : va_S (AC K0) s.heap H locs) (hl : lv_has ls 4 [(0, .ref x0)]) : W p l e R s m args below meth c H locs (kz K - kz K0) (ku K - ku K0) (TQ sT (aQA x K0) (zQV K0) "java/lang/IllegalStateException" x K0 below args s o) (F0 m 13 ls [.ref s0]) := by
  obtain ⟨CX, hno, hlt, hmn⟩ := id CTX
  obtain ⟨hx, hb, hml, hown, hts, hE, hB, hr, hlk⟩ := id CX
  have hcs := nz_le (mbT_X3_readModuleHead_13  x0 s0 K M hf) hRc
  unfold bT_X3_readModuleHead_13 at hf
  refine lv_dup hx hb dX3_readModuleHead_13 rfl ?_
  refine lv_iconst (v := 1) hx hb dX3_readModuleHead_14 (by decide) ?_
  refine lv_iconst (v := 0) hx hb dX3_readModuleHead_15 (by decide) ?_
  obtain ⟨o16, ho, hf⟩ := ta_some hf
  have hm1 := mbT_X3_readModuleHead_19 _ _ _ _ hf
  have hb1 := nz_le hm1 hRc
  have hq1 := (mfT_X7_init _ _ _ _ _ ho)
  refine ta_callVi CX hL hR hS (As := [.int 1, .int 0]) (rest := [.ref s0]) (MT_X7_init l x hlt N _ _ _ _ _ _ ho) cj_X3_180 ⟨by omega, by omega⟩ rfl (Nat.le_of_ble_eq_true rfl) hl.1 hq1 hb1 rfl dX3_readModuleHead_16 (fun H locs hR hS => ?_)
  exact (wbT_X3_readModuleHead_19 CTX hRm hRc) _ _ _ _ _ _ _ hf (hL.tr hq1) hR hS (lv_sub hl [0] rfl)
def fT_X3_readModuleHead (N : Nat) (x0 : Nat) (K : Ka) (M : Cm) : Option ((Nat × Ka × Cm) ⊕ (Ka × Cm)) := gd (kd K x0 == 4) ((fC_X3_moveTo N K x0 ((cI M x0 2) + 1) M).bind fun o7 => (bT_X3_readModuleHead_13 N) x0 (kz K) (kNew K 8 0 (cN 7)) (mZ o7 (kz K)))
theorem mfT_X3_readModuleHead {o : (Nat × Ka × Cm) ⊕ (Ka × Cm)} {N : Nat}  (x0 : Nat) (K : Ka) (M : Cm) (hf : fT_X3_readModuleHead N x0 K M = some o) : KLe K (oK sT o) := by
  unfold fT_X3_readModuleHead at hf
  obtain ⟨-, hf⟩ := gd_some hf
  obtain ⟨o7, -, hf⟩ := bnd_some hf
  exact (kNew_le _ _ _ _).tr (mbT_X3_readModuleHead_13 _ _ _ _ hf)
set_option maxRecDepth 100000 in
set_option maxHeartbeats 4000000 in
theorem wfT_X3_readModuleHead {p : Program} {l : Launch} {e : Env} {R : Room} {s : State} {m : MethodId} {args : Array Value} {below : List Frame} {meth : Method} {c : Code} {x : Xc} {K0 : Ka} {o : (Nat × Ka × Cm) ⊕ (Ka × Cm)} {N : Nat} (CTX : CT p l s m args meth c x K0 RX3 "readModuleHead" cX3_readModuleHead 4 (some (.object "StationStarter$Unit"))) (hRm : 8 ≤ R.frames ∧ 142 ≤ R.locals) (hRc : nz sT K0 o ≤ R.cells ∧ nu sT K0 o ≤ R.slots) (x0 : Nat) (K : Ka) (M : Cm) (H : Heap) (locs : List Loc) (ls : Array Slot) (hf : fT_X3_readModuleHead N x0 K M = some o) (hL : KLe K0 K) (hR : RC x K M H) (hS : va_S (AC K0) s.heap H locs) (hl : lv_has ls 4 [(0, .ref x0)]) : W p l e R s m args below meth c H locs (kz K - kz K0) (ku K - ku K0) (TQ sT (aQA x K0) (zQV K0) "java/lang/IllegalStateException" x K0 below args s o) (F0 m 0 ls []) := by
  obtain ⟨CX, hno, hlt, hmn⟩ := id CTX
  obtain ⟨hx, hb, hml, hown, hts, hE, hB, hr, hlk⟩ := id CX
  have hcs := nz_le (mfT_X3_readModuleHead  x0 K M hf) hRc
  unfold fT_X3_readModuleHead at hf
  refine lv_aload_n hx hb dX3_readModuleHead_0 rfl (lv_at hl 0 rfl) ?_
  refine lv_aload_n hx hb dX3_readModuleHead_1 rfl (lv_at hl 0 rfl) ?_
  obtain ⟨hk_x0_4, hf⟩ := gd_some hf
  refine cr_getI kc_3 CX hR fa_X3_15 rfl hk_x0_4 dX3_readModuleHead_2 ?_
  refine lv_iconst (v := 1) hx hb dX3_readModuleHead_5 (by decide) ?_
  refine lv_iadd hx hb dX3_readModuleHead_6 ?_
  obtain ⟨o7, ho7, hf⟩ := bnd_some hf
  refine cr_callVv kc_3 CX hR hL hS (As := [.int ((cI M x0 2) + 1)]) (rest := []) hk_x0_4 (MC_X3_moveTo l x N K x0 ((cI M x0 2) + 1) M o7 ho7) cv_X3_42 ⟨by omega, by omega⟩ rfl rfl (Nat.le_of_ble_eq_true rfl) hl.1 dX3_readModuleHead_7 hcs (fun H locs hR hS => ?_)
  have hm1 := mbT_X3_readModuleHead_13 _ _ _ _ hf
  have hb1 := nz_le hm1 hRc
  refine tr_new kc_7 df_7 CX hL hR hS cn_X3_97 hb1 dX3_readModuleHead_10 (fun H hR hS => ?_)
  exact (wbT_X3_readModuleHead_13 CTX hRm hRc) _ _ _ _ _ _ _ hf (hL.tr (kNew_le _ _ _ _)) hR hS (lv_sub hl [0] rfl)
theorem MT_X3_readModuleHead (l : Launch) (x : Xc) (hlt : l.stackTraces = false) (N : Nat) (x0 : Nat) (K : Ka) (M : Cm) (o : (Nat × Ka × Cm) ⊕ (Ka × Cm)) (hf : fT_X3_readModuleHead N x0 K M = some o) : Tc sT (aQA x K) (zQV K) "java/lang/IllegalStateException" l x yX3_readModuleHead cX3_readModuleHead 4 (some (.object "StationStarter$Unit")) 8 142 [.ref x0] K M o :=
  tr_met RX3 "readModuleHead" hlt (by decide) rfl rfl (Nat.le_of_ble_eq_true rfl) (fun p e s m args below meth c ls CTX hR hl => wfT_X3_readModuleHead CTX ⟨Nat.le_refl _, Nat.le_refl _⟩ ⟨Nat.le_refl _, Nat.le_refl _⟩ x0 K M s.heap [] ls hf (KLe.rf K) hR va_S.rf hl)
def bT_X3_readRoleHead_76 (N : Nat) (x0 : Nat) (x2 : Nat) (K : Ka) (M : Cm) : Option ((Nat × Ka × Cm) ⊕ (Ka × Cm)) := some (.inl (x2, K, M))
theorem mbT_X3_readRoleHead_76 {o : (Nat × Ka × Cm) ⊕ (Ka × Cm)} {N : Nat}  (x0 : Nat) (x2 : Nat) (K : Ka) (M : Cm) (hf : bT_X3_readRoleHead_76 N x0 x2 K M = some o) : KLe K (oK sT o) := by
  unfold bT_X3_readRoleHead_76 at hf
  cases hf
  exact KLe.rf _
set_option maxRecDepth 100000 in
set_option maxHeartbeats 4000000 in
theorem wbT_X3_readRoleHead_76 {p : Program} {l : Launch} {e : Env} {R : Room} {s : State} {m : MethodId} {args : Array Value} {below : List Frame} {meth : Method} {c : Code} {x : Xc} {K0 : Ka} {o : (Nat × Ka × Cm) ⊕ (Ka × Cm)} {N : Nat} (CTX : CT p l s m args meth c x K0 RX3 "readRoleHead" cX3_readRoleHead 5 (some (.object "StationStarter$Unit"))) (hRm : 8 ≤ R.frames ∧ 142 ≤ R.locals) (hRc : nz sT K0 o ≤ R.cells ∧ nu sT K0 o ≤ R.slots) (x0 : Nat) (x2 : Nat) (K : Ka) (M : Cm) (H : Heap) (locs : List Loc) (ls : Array Slot) (hf : bT_X3_readRoleHead_76 N x0 x2 K M = some o) (hL : KLe K0 K) (hR : RC x K M H) (hS : va_S (AC K0) s.heap H locs) (hl : lv_has ls 5 [(0, .ref x0), (2, .ref x2)]) : W p l e R s m args below meth c H locs (kz K - kz K0) (ku K - ku K0) (TQ sT (aQA x K0) (zQV K0) "java/lang/IllegalStateException" x K0 below args s o) (F0 m 76 ls []) := by
  obtain ⟨CX, hno, hlt, hmn⟩ := id CTX
  obtain ⟨hx, hb, hml, hown, hts, hE, hB, hr, hlk⟩ := id CX
  have hcs := nz_le (mbT_X3_readRoleHead_76  x0 x2 K M hf) hRc
  unfold bT_X3_readRoleHead_76 at hf
  refine lv_aload_n hx hb dX3_readRoleHead_76 rfl (lv_at hl 1 rfl) ?_
  exact tr_aret CX ⟨rfl, .inl ⟨_, rfl⟩⟩ hR hS hf dX3_readRoleHead_77
def bT_X3_readRoleHead_67 (N : Nat) (x0 : Nat) (x2 : Nat) (x3 : Int64) (K : Ka) (M : Cm) : Option ((Nat × Ka × Cm) ⊕ (Ka × Cm)) := gd (kd K x0 == 4) (nn (cR M x0 1) fun a1 => gd (kd K a1 == 6) (ta (fT_X5_addUnit N a1 x3 x2 K M) fun o73 => (bT_X3_readRoleHead_76 N) x0 x2 o73.1 o73.2))
theorem mbT_X3_readRoleHead_67 {o : (Nat × Ka × Cm) ⊕ (Ka × Cm)} {N : Nat}  (x0 : Nat) (x2 : Nat) (x3 : Int64) (K : Ka) (M : Cm) (hf : bT_X3_readRoleHead_67 N x0 x2 x3 K M = some o) : KLe K (oK sT o) := by
  unfold bT_X3_readRoleHead_67 at hf
  obtain ⟨-, hf⟩ := gd_some hf
  obtain ⟨a1, -, hf⟩ := nn_some hf
  obtain ⟨-, hf⟩ := gd_some hf
  obtain ⟨o73, ho, hf⟩ := ta_some hf
  exact KLe.tr (mfT_X5_addUnit _ _ _ _ _ ho) (mbT_X3_readRoleHead_76 _ _ _ _ hf)
set_option maxRecDepth 100000 in
set_option maxHeartbeats 4000000 in
theorem wbT_X3_readRoleHead_67 {p : Program} {l : Launch} {e : Env} {R : Room} {s : State} {m : MethodId} {args : Array Value} {below : List Frame} {meth : Method} {c : Code} {x : Xc} {K0 : Ka} {o : (Nat × Ka × Cm) ⊕ (Ka × Cm)} {N : Nat} (CTX : CT p l s m args meth c x K0 RX3 "readRoleHead" cX3_readRoleHead 5 (some (.object "StationStarter$Unit"))) (hRm : 8 ≤ R.frames ∧ 142 ≤ R.locals) (hRc : nz sT K0 o ≤ R.cells ∧ nu sT K0 o ≤ R.slots) (x0 : Nat) (x2 : Nat) (x3 : Int64) (K : Ka) (M : Cm) (H : Heap) (locs : List Loc) (ls : Array Slot) (hf : bT_X3_readRoleHead_67 N x0 x2 x3 K M = some o) (hL : KLe K0 K) (hR : RC x K M H) (hS : va_S (AC K0) s.heap H locs) (hl : lv_has ls 5 [(0, .ref x0), (2, .ref x2), (3, .long x3)]) : W p l e R s m args below meth c H locs (kz K - kz K0) (ku K - ku K0) (TQ sT (aQA x K0) (zQV K0) "java/lang/IllegalStateException" x K0 below args s o) (F0 m 67 ls []) := by
  obtain ⟨CX, hno, hlt, hmn⟩ := id CTX
  obtain ⟨hx, hb, hml, hown, hts, hE, hB, hr, hlk⟩ := id CX
  have hcs := nz_le (mbT_X3_readRoleHead_67  x0 x2 x3 K M hf) hRc
  unfold bT_X3_readRoleHead_67 at hf
  refine lv_aload_n hx hb dX3_readRoleHead_67 rfl (lv_at hl 0 rfl) ?_
  obtain ⟨hk_x0_4, hf⟩ := gd_some hf
  refine cr_getR kc_3 CX hR fa_X3_9 rfl hk_x0_4 dX3_readRoleHead_68 ?_
  refine lv_lload_n hx hb dX3_readRoleHead_71 rfl (lv_at hl 2 rfl) ?_
  refine lv_aload_n hx hb dX3_readRoleHead_72 rfl (lv_at hl 1 rfl) ?_
  obtain ⟨a1, ha1, hf⟩ := nn_some hf
  refine rf_2 ha1 ?_
  obtain ⟨hk_a1_6, hf⟩ := gd_some hf
  obtain ⟨o73, ho, hf⟩ := ta_some hf
  have hm1 := mbT_X3_readRoleHead_76 _ _ _ _ hf
  have hb1 := nz_le hm1 hRc
  have hq1 := (mfT_X5_addUnit _ _ _ _ _ ho)
  refine ta_callVv kc_5 CX hL hR hS (As := [.long x3, .ref x2]) (rest := []) hk_a1_6 (MT_X5_addUnit l x hlt N _ _ _ _ _ _ ho) cv_X3_186 ⟨by omega, by omega⟩ rfl (Nat.le_of_ble_eq_true rfl) hl.1 hq1 hb1 rfl dX3_readRoleHead_73 (fun H locs hR hS => ?_)
  exact (wbT_X3_readRoleHead_76 CTX hRm hRc) _ _ _ _ _ _ _ hf (hL.tr hq1) hR hS (lv_sub hl [0, 1] rfl)
def bT_X3_readRoleHead_51 (N : Nat) (x0 : Nat) (x2 : Nat) (s0 : Int64) (K : Ka) (M : Cm) : Option ((Nat × Ka × Cm) ⊕ (Ka × Cm)) := gd (kd K x0 == 4) (if (cI M x0 3) = 134 then (tb (fT_X3_readRoles N x0 x2 K M) fun o64 => (bT_X3_readRoleHead_67 N) x0 x2 s0 o64.1 o64.2) else ((bT_X3_readRoleHead_67 N) x0 x2 s0 K M))
theorem mbT_X3_readRoleHead_51 {o : (Nat × Ka × Cm) ⊕ (Ka × Cm)} {N : Nat}  (x0 : Nat) (x2 : Nat) (s0 : Int64) (K : Ka) (M : Cm) (hf : bT_X3_readRoleHead_51 N x0 x2 s0 K M = some o) : KLe K (oK sT o) := by
  unfold bT_X3_readRoleHead_51 at hf
  obtain ⟨-, hf⟩ := gd_some hf
  by_cases hc : (cI M x0 3) = 134
  · rw [if_pos hc] at hf
    rcases tb_some hf with ⟨o64, ho, hf⟩ | ⟨q, ho, rfl⟩
    · exact KLe.tr (mfT_X3_readRoles _ _ _ _ ho) (mbT_X3_readRoleHead_67 _ _ _ _ _ hf)
    · exact (mfT_X3_readRoles _ _ _ _ ho)
  · rw [if_neg hc] at hf
    exact mbT_X3_readRoleHead_67 _ _ _ _ _ hf
set_option maxRecDepth 100000 in
set_option maxHeartbeats 4000000 in
theorem wbT_X3_readRoleHead_51 {p : Program} {l : Launch} {e : Env} {R : Room} {s : State} {m : MethodId} {args : Array Value} {below : List Frame} {meth : Method} {c : Code} {x : Xc} {K0 : Ka} {o : (Nat × Ka × Cm) ⊕ (Ka × Cm)} {N : Nat} (CTX : CT p l s m args meth c x K0 RX3 "readRoleHead" cX3_readRoleHead 5 (some (.object "StationStarter$Unit"))) (hRm : 8 ≤ R.frames ∧ 142 ≤ R.locals) (hRc : nz sT K0 o ≤ R.cells ∧ nu sT K0 o ≤ R.slots) (x0 : Nat) (x2 : Nat) (s0 : Int64) (K : Ka) (M : Cm) (H : Heap) (locs : List Loc) (ls : Array Slot) (hf : bT_X3_readRoleHead_51 N x0 x2 s0 K M = some o) (hL : KLe K0 K) (hR : RC x K M H) (hS : va_S (AC K0) s.heap H locs) (hl : lv_has ls 5 [(0, .ref x0), (2, .ref x2)]) : W p l e R s m args below meth c H locs (kz K - kz K0) (ku K - ku K0) (TQ sT (aQA x K0) (zQV K0) "java/lang/IllegalStateException" x K0 below args s o) (F0 m 51 ls [.long s0]) := by
  obtain ⟨CX, hno, hlt, hmn⟩ := id CTX
  obtain ⟨hx, hb, hml, hown, hts, hE, hB, hr, hlk⟩ := id CX
  have hcs := nz_le (mbT_X3_readRoleHead_51  x0 x2 s0 K M hf) hRc
  unfold bT_X3_readRoleHead_51 at hf
  refine lv_lstore_n (lv' := [(3, .long s0), (0, .ref x0), (2, .ref x2)]) hx hb dX3_readRoleHead_51 rfl hl (by decide) rfl (fun ls hl => ?_)
  refine lv_aload_n hx hb dX3_readRoleHead_52 rfl (lv_at hl 1 rfl) ?_
  obtain ⟨hk_x0_4, hf⟩ := gd_some hf
  refine cr_getI kc_3 CX hR fa_X3_19 rfl hk_x0_4 dX3_readRoleHead_53 ?_
  refine lv_sipush (v := 134) hx hb dX3_readRoleHead_56 (by decide) ?_
  refine lv_icmp_ne (tgt := 67) hx hb dX3_readRoleHead_59 (by decide) (fun hc => ?_) (fun hc => ?_)
  · rw [if_neg hc] at hf
    exact (wbT_X3_readRoleHead_67 CTX hRm hRc) _ _ _ _ _ _ _ _ hf hL hR hS (lv_sub hl [1, 2, 0] rfl)
  · rw [if_pos hc] at hf
    refine lv_aload_n hx hb dX3_readRoleHead_62 rfl (lv_at hl 1 rfl) ?_
    refine lv_aload_n hx hb dX3_readRoleHead_63 rfl (lv_at hl 2 rfl) ?_
    rcases tb_some hf with ⟨o64, ho, hf⟩ | ⟨q, ho, rfl⟩
    · have hm1 := mbT_X3_readRoleHead_67 _ _ _ _ _ hf
      have hb1 := nz_le hm1 hRc
      have hq1 := (mfT_X3_readRoles _ _ _ _ ho)
      refine ta_callVv kc_3 CX hL hR hS (As := [.ref x2]) (rest := []) hk_x0_4 (MT_X3_readRoles l x hlt N _ _ _ _ _ ho) cv_X3_183 ⟨by omega, by omega⟩ rfl (Nat.le_of_ble_eq_true rfl) hl.1 hq1 hb1 rfl dX3_readRoleHead_64 (fun H locs hR hS => ?_)
      exact (wbT_X3_readRoleHead_67 CTX hRm hRc) _ _ _ _ _ _ _ _ hf (hL.tr hq1) hR hS (lv_sub hl [1, 2, 0] rfl)
    · exact tx_callv kc_3 CTX hL hR hS (As := [.ref x2]) (rest := []) hk_x0_4 (MT_X3_readRoles l x hlt N _ _ _ _ _ ho) cv_X3_183 ⟨by omega, by omega⟩ rfl (Nat.le_of_ble_eq_true rfl) hl.1 (mfT_X3_readRoles _ _ _ _ ho) hRc rfl dX3_readRoleHead_64
def bT_X3_readRoleHead_46 (N : Nat) (x0 : Nat) (s0 : Nat) (K : Ka) (M : Cm) : Option ((Nat × Ka × Cm) ⊕ (Ka × Cm)) := gd (kd K x0 == 4) (tb (fT_X3_takeNewName N x0 K M) fun o48 => (bT_X3_readRoleHead_51 N) x0 s0 o48.1 o48.2.1 o48.2.2)
theorem mbT_X3_readRoleHead_46 {o : (Nat × Ka × Cm) ⊕ (Ka × Cm)} {N : Nat}  (x0 : Nat) (s0 : Nat) (K : Ka) (M : Cm) (hf : bT_X3_readRoleHead_46 N x0 s0 K M = some o) : KLe K (oK sT o) := by
  unfold bT_X3_readRoleHead_46 at hf
  obtain ⟨-, hf⟩ := gd_some hf
  rcases tb_some hf with ⟨o48, ho, hf⟩ | ⟨q, ho, rfl⟩
  · exact KLe.tr (mfT_X3_takeNewName _ _ _ ho) (mbT_X3_readRoleHead_51 _ _ _ _ _ hf)
  · exact (mfT_X3_takeNewName _ _ _ ho)
set_option maxRecDepth 100000 in
set_option maxHeartbeats 4000000 in
theorem wbT_X3_readRoleHead_46 {p : Program} {l : Launch} {e : Env} {R : Room} {s : State} {m : MethodId} {args : Array Value} {below : List Frame} {meth : Method} {c : Code} {x : Xc} {K0 : Ka} {o : (Nat × Ka × Cm) ⊕ (Ka × Cm)} {N : Nat} (CTX : CT p l s m args meth c x K0 RX3 "readRoleHead" cX3_readRoleHead 5 (some (.object "StationStarter$Unit"))) (hRm : 8 ≤ R.frames ∧ 142 ≤ R.locals) (hRc : nz sT K0 o ≤ R.cells ∧ nu sT K0 o ≤ R.slots) (x0 : Nat) (s0 : Nat) (K : Ka) (M : Cm) (H : Heap) (locs : List Loc) (ls : Array Slot) (hf : bT_X3_readRoleHead_46 N x0 s0 K M = some o) (hL : KLe K0 K) (hR : RC x K M H) (hS : va_S (AC K0) s.heap H locs) (hl : lv_has ls 5 [(0, .ref x0)]) : W p l e R s m args below meth c H locs (kz K - kz K0) (ku K - ku K0) (TQ sT (aQA x K0) (zQV K0) "java/lang/IllegalStateException" x K0 below args s o) (F0 m 46 ls [.ref s0]) := by
  obtain ⟨CX, hno, hlt, hmn⟩ := id CTX
  obtain ⟨hx, hb, hml, hown, hts, hE, hB, hr, hlk⟩ := id CX
  have hcs := nz_le (mbT_X3_readRoleHead_46  x0 s0 K M hf) hRc
  unfold bT_X3_readRoleHead_46 at hf
  refine lv_astore_n (lv' := [(2, .ref s0), (0, .ref x0)]) hx hb dX3_readRoleHead_46 rfl hl (by decide) rfl (fun ls hl => ?_)
  refine lv_aload_n hx hb dX3_readRoleHead_47 rfl (lv_at hl 1 rfl) ?_
  obtain ⟨hk_x0_4, hf⟩ := gd_some hf
  rcases tb_some hf with ⟨o48, ho, hf⟩ | ⟨q, ho, rfl⟩
  · have hm1 := mbT_X3_readRoleHead_51 _ _ _ _ _ hf
    have hb1 := nz_le hm1 hRc
    have hq1 := (mfT_X3_takeNewName _ _ _ ho)
    refine ta_callLv kc_3 CX hL hR hS (As := []) (rest := []) hk_x0_4 (MT_X3_takeNewName l x hlt N _ _ _ _ ho) cv_X3_115 ⟨by omega, by omega⟩ rfl (Nat.le_of_ble_eq_true rfl) hl.1 hq1 hb1 rfl dX3_readRoleHead_48 (fun H locs hR hS => ?_)
    exact (wbT_X3_readRoleHead_51 CTX hRm hRc) _ _ _ _ _ _ _ _ hf (hL.tr hq1) hR hS (lv_sub hl [1, 0] rfl)
  · exact tx_callv kc_3 CTX hL hR hS (As := []) (rest := []) hk_x0_4 (MT_X3_takeNewName l x hlt N _ _ _ _ ho) cv_X3_115 ⟨by omega, by omega⟩ rfl (Nat.le_of_ble_eq_true rfl) hl.1 (mfT_X3_takeNewName _ _ _ ho) hRc rfl dX3_readRoleHead_48
def bT_X3_readRoleHead_40 (N : Nat) (x0 : Nat) (x1 : Int32) (s0 : Nat) (K : Ka) (M : Cm) : Option ((Nat × Ka × Cm) ⊕ (Ka × Cm)) := ta (fT_X7_init N s0 0 x1 K M) fun o43 => (bT_X3_readRoleHead_46 N) x0 s0 o43.1 o43.2
theorem mbT_X3_readRoleHead_40 {o : (Nat × Ka × Cm) ⊕ (Ka × Cm)} {N : Nat}  (x0 : Nat) (x1 : Int32) (s0 : Nat) (K : Ka) (M : Cm) (hf : bT_X3_readRoleHead_40 N x0 x1 s0 K M = some o) : KLe K (oK sT o) := by
  unfold bT_X3_readRoleHead_40 at hf
  obtain ⟨o43, ho, hf⟩ := ta_some hf
  exact KLe.tr (mfT_X7_init _ _ _ _ _ ho) (mbT_X3_readRoleHead_46 _ _ _ _ hf)
set_option maxRecDepth 100000 in
set_option maxHeartbeats 4000000 in
theorem wbT_X3_readRoleHead_40 {p : Program} {l : Launch} {e : Env} {R : Room} {s : State} {m : MethodId} {args : Array Value} {below : List Frame} {meth : Method} {c : Code} {x : Xc} {K0 : Ka} {o : (Nat × Ka × Cm) ⊕ (Ka × Cm)} {N : Nat} (CTX : CT p l s m args meth c x K0 RX3 "readRoleHead" cX3_readRoleHead 5 (some (.object "StationStarter$Unit"))) (hRm : 8 ≤ R.frames ∧ 142 ≤ R.locals) (hRc : nz sT K0 o ≤ R.cells ∧ nu sT K0 o ≤ R.slots) (x0 : Nat) (x1 : Int32) (s0 : Nat) (K : Ka) (M : Cm) (H : Heap) (locs : List Loc) (ls : Array Slot) (hf : bT_X3_readRoleHead_40 N x0 x1 s0 K M = some o) (hL : KLe K0 K) (hR : RC x K M H) (hS : va_S (AC K0) s.heap H locs) (hl : lv_has ls 5 [(0, .ref x0), (1, .int x1)]) : W p l e R s m args below meth c H locs (kz K - kz K0) (ku K - ku K0) (TQ sT (aQA x K0) (zQV K0) "java/lang/IllegalStateException" x K0 below args s o) (F0 m 40 ls [.ref s0]) := by
  obtain ⟨CX, hno, hlt, hmn⟩ := id CTX
  obtain ⟨hx, hb, hml, hown, hts, hE, hB, hr, hlk⟩ := id CX
  have hcs := nz_le (mbT_X3_readRoleHead_40  x0 x1 s0 K M hf) hRc
  unfold bT_X3_readRoleHead_40 at hf
  refine lv_dup hx hb dX3_readRoleHead_40 rfl ?_
  refine lv_iconst (v := 0) hx hb dX3_readRoleHead_41 (by decide) ?_
  refine lv_iload_n hx hb dX3_readRoleHead_42 rfl (lv_at hl 1 rfl) ?_
  obtain ⟨o43, ho, hf⟩ := ta_some hf
  have hm1 := mbT_X3_readRoleHead_46 _ _ _ _ hf
  have hb1 := nz_le hm1 hRc
  have hq1 := (mfT_X7_init _ _ _ _ _ ho)
  refine ta_callVi CX hL hR hS (As := [.int 0, .int x1]) (rest := [.ref s0]) (MT_X7_init l x hlt N _ _ _ _ _ _ ho) cj_X3_180 ⟨by omega, by omega⟩ rfl (Nat.le_of_ble_eq_true rfl) hl.1 hq1 hb1 rfl dX3_readRoleHead_43 (fun H locs hR hS => ?_)
  exact (wbT_X3_readRoleHead_46 CTX hRm hRc) _ _ _ _ _ _ _ hf (hL.tr hq1) hR hS (lv_sub hl [0] rfl)
def bT_X3_readRoleHead_37 (N : Nat) (x0 : Nat) (x1 : Int32) (K : Ka) (M : Cm) : Option ((Nat × Ka × Cm) ⊕ (Ka × Cm)) := (bT_X3_readRoleHead_40 N) x0 x1 (kz K) (kNew K 8 0 (cN 7)) (mZ M (kz K))
theorem mbT_X3_readRoleHead_37 {o : (Nat × Ka × Cm) ⊕ (Ka × Cm)} {N : Nat}  (x0 : Nat) (x1 : Int32) (K : Ka) (M : Cm) (hf : bT_X3_readRoleHead_37 N x0 x1 K M = some o) : KLe K (oK sT o) := by
  unfold bT_X3_readRoleHead_37 at hf
  exact (kNew_le _ _ _ _).tr (mbT_X3_readRoleHead_40 _ _ _ _ _ hf)
set_option maxRecDepth 100000 in
set_option maxHeartbeats 4000000 in
theorem wbT_X3_readRoleHead_37 {p : Program} {l : Launch} {e : Env} {R : Room} {s : State} {m : MethodId} {args : Array Value} {below : List Frame} {meth : Method} {c : Code} {x : Xc} {K0 : Ka} {o : (Nat × Ka × Cm) ⊕ (Ka × Cm)} {N : Nat} (CTX : CT p l s m args meth c x K0 RX3 "readRoleHead" cX3_readRoleHead 5 (some (.object "StationStarter$Unit"))) (hRm : 8 ≤ R.frames ∧ 142 ≤ R.locals) (hRc : nz sT K0 o ≤ R.cells ∧ nu sT K0 o ≤ R.slots) (x0 : Nat) (x1 : Int32) (K : Ka) (M : Cm) (H : Heap) (locs : List Loc) (ls : Array Slot) (hf : bT_X3_readRoleHead_37 N x0 x1 K M = some o) (hL : KLe K0 K) (hR : RC x K M H) (hS : va_S (AC K0) s.heap H locs) (hl : lv_has ls 5 [(0, .ref x0), (1, .int x1)]) : W p l e R s m args below meth c H locs (kz K - kz K0) (ku K - ku K0) (TQ sT (aQA x K0) (zQV K0) "java/lang/IllegalStateException" x K0 below args s o) (F0 m 37 ls []) := by
  obtain ⟨CX, hno, hlt, hmn⟩ := id CTX
  obtain ⟨hx, hb, hml, hown, hts, hE, hB, hr, hlk⟩ := id CX
  have hcs := nz_le (mbT_X3_readRoleHead_37  x0 x1 K M hf) hRc
  unfold bT_X3_readRoleHead_37 at hf
  have hm1 := mbT_X3_readRoleHead_40 _ _ _ _ _ hf
  have hb1 := nz_le hm1 hRc
  refine tr_new kc_7 df_7 CX hL hR hS cn_X3_97 hb1 dX3_readRoleHead_37 (fun H hR hS => ?_)
  exact (wbT_X3_readRoleHead_40 CTX hRm hRc) _ _ _ _ _ _ _ _ hf (hL.tr (kNew_le _ _ _ _)) hR hS (lv_sub hl [0, 1] rfl)
def bT_X3_readRoleHead_30 (N : Nat) (x0 : Nat) (x1 : Int32) (K : Ka) (M : Cm) : Option ((Nat × Ka × Cm) ⊕ (Ka × Cm)) := gd (kd K x0 == 4) (tb (fT_X3_take N x0 133 K M) fun o34 => (bT_X3_readRoleHead_37 N) x0 x1 o34.1 o34.2)
theorem mbT_X3_readRoleHead_30 {o : (Nat × Ka × Cm) ⊕ (Ka × Cm)} {N : Nat}  (x0 : Nat) (x1 : Int32) (K : Ka) (M : Cm) (hf : bT_X3_readRoleHead_30 N x0 x1 K M = some o) : KLe K (oK sT o) := by
  unfold bT_X3_readRoleHead_30 at hf
  obtain ⟨-, hf⟩ := gd_some hf
  rcases tb_some hf with ⟨o34, ho, hf⟩ | ⟨q, ho, rfl⟩
  · exact KLe.tr (mfT_X3_take _ _ _ _ ho) (mbT_X3_readRoleHead_37 _ _ _ _ hf)
  · exact (mfT_X3_take _ _ _ _ ho)
set_option maxRecDepth 100000 in
set_option maxHeartbeats 4000000 in
theorem wbT_X3_readRoleHead_30 {p : Program} {l : Launch} {e : Env} {R : Room} {s : State} {m : MethodId} {args : Array Value} {below : List Frame} {meth : Method} {c : Code} {x : Xc} {K0 : Ka} {o : (Nat × Ka × Cm) ⊕ (Ka × Cm)} {N : Nat} (CTX : CT p l s m args meth c x K0 RX3 "readRoleHead" cX3_readRoleHead 5 (some (.object "StationStarter$Unit"))) (hRm : 8 ≤ R.frames ∧ 142 ≤ R.locals) (hRc : nz sT K0 o ≤ R.cells ∧ nu sT K0 o ≤ R.slots) (x0 : Nat) (x1 : Int32) (K : Ka) (M : Cm) (H : Heap) (locs : List Loc) (ls : Array Slot) (hf : bT_X3_readRoleHead_30 N x0 x1 K M = some o) (hL : KLe K0 K) (hR : RC x K M H) (hS : va_S (AC K0) s.heap H locs) (hl : lv_has ls 5 [(0, .ref x0), (1, .int x1)]) : W p l e R s m args below meth c H locs (kz K - kz K0) (ku K - ku K0) (TQ sT (aQA x K0) (zQV K0) "java/lang/IllegalStateException" x K0 below args s o) (F0 m 30 ls []) := by
  obtain ⟨CX, hno, hlt, hmn⟩ := id CTX
  obtain ⟨hx, hb, hml, hown, hts, hE, hB, hr, hlk⟩ := id CX
  have hcs := nz_le (mbT_X3_readRoleHead_30  x0 x1 K M hf) hRc
  unfold bT_X3_readRoleHead_30 at hf
  refine lv_aload_n hx hb dX3_readRoleHead_30 rfl (lv_at hl 0 rfl) ?_
  refine lv_sipush (v := 133) hx hb dX3_readRoleHead_31 (by decide) ?_
  obtain ⟨hk_x0_4, hf⟩ := gd_some hf
  rcases tb_some hf with ⟨o34, ho, hf⟩ | ⟨q, ho, rfl⟩
  · have hm1 := mbT_X3_readRoleHead_37 _ _ _ _ hf
    have hb1 := nz_le hm1 hRc
    have hq1 := (mfT_X3_take _ _ _ _ ho)
    refine ta_callVv kc_3 CX hL hR hS (As := [.int 133]) (rest := []) hk_x0_4 (MT_X3_take l x hlt N _ _ _ _ _ ho) cv_X3_119 ⟨by omega, by omega⟩ rfl (Nat.le_of_ble_eq_true rfl) hl.1 hq1 hb1 rfl dX3_readRoleHead_34 (fun H locs hR hS => ?_)
    exact (wbT_X3_readRoleHead_37 CTX hRm hRc) _ _ _ _ _ _ _ hf (hL.tr hq1) hR hS (lv_sub hl [0, 1] rfl)
  · exact tx_callv kc_3 CTX hL hR hS (As := [.int 133]) (rest := []) hk_x0_4 (MT_X3_take l x hlt N _ _ _ _ _ ho) cv_X3_119 ⟨by omega, by omega⟩ rfl (Nat.le_of_ble_eq_true rfl) hl.1 (mfT_X3_take _ _ _ _ ho) hRc rfl dX3_readRoleHead_34
def bT_X3_readRoleHead_15 (N : Nat) (x0 : Nat) (s0 : Int32) (K : Ka) (M : Cm) : Option ((Nat × Ka × Cm) ⊕ (Ka × Cm)) := if s0 = 0 then ((bT_X3_readRoleHead_30 N) x0 s0 K M) else (gd (kd K x0 == 4) ((fC_X3_moveTo N K x0 ((cI M x0 2) + 1) M).bind fun o27 => (bT_X3_readRoleHead_30 N) x0 s0 K o27))
theorem mbT_X3_readRoleHead_15 {o : (Nat × Ka × Cm) ⊕ (Ka × Cm)} {N : Nat}  (x0 : Nat) (s0 : Int32) (K : Ka) (M : Cm) (hf : bT_X3_readRoleHead_15 N x0 s0 K M = some o) : KLe K (oK sT o) := by
  unfold bT_X3_readRoleHead_15 at hf
  by_cases hc : s0 = 0
  · rw [if_pos hc] at hf
    exact mbT_X3_readRoleHead_30 _ _ _ _ hf
  · rw [if_neg hc] at hf
    obtain ⟨-, hf⟩ := gd_some hf
    obtain ⟨o27, -, hf⟩ := bnd_some hf
    exact mbT_X3_readRoleHead_30 _ _ _ _ hf
set_option maxRecDepth 100000 in
set_option maxHeartbeats 4000000 in
theorem wbT_X3_readRoleHead_15 {p : Program} {l : Launch} {e : Env} {R : Room} {s : State} {m : MethodId} {args : Array Value} {below : List Frame} {meth : Method} {c : Code} {x : Xc} {K0 : Ka} {o : (Nat × Ka × Cm) ⊕ (Ka × Cm)} {N : Nat} (CTX : CT p l s m args meth c x K0 RX3 "readRoleHead" cX3_readRoleHead 5 (some (.object "StationStarter$Unit"))) (hRm : 8 ≤ R.frames ∧ 142 ≤ R.locals) (hRc : nz sT K0 o ≤ R.cells ∧ nu sT K0 o ≤ R.slots) (x0 : Nat) (s0 : Int32) (K : Ka) (M : Cm) (H : Heap) (locs : List Loc) (ls : Array Slot) (hf : bT_X3_readRoleHead_15 N x0 s0 K M = some o) (hL : KLe K0 K) (hR : RC x K M H) (hS : va_S (AC K0) s.heap H locs) (hl : lv_has ls 5 [(0, .ref x0)]) : W p l e R s m args below meth c H locs (kz K - kz K0) (ku K - ku K0) (TQ sT (aQA x K0) (zQV K0) "java/lang/IllegalStateException" x K0 below args s o) (F0 m 15 ls [.int s0]) := by
  obtain ⟨CX, hno, hlt, hmn⟩ := id CTX
  obtain ⟨hx, hb, hml, hown, hts, hE, hB, hr, hlk⟩ := id CX
  have hcs := nz_le (mbT_X3_readRoleHead_15  x0 s0 K M hf) hRc
  unfold bT_X3_readRoleHead_15 at hf
  refine lv_istore_n (lv' := [(1, .int s0), (0, .ref x0)]) hx hb dX3_readRoleHead_15 rfl hl (by decide) rfl (fun ls hl => ?_)
  refine lv_iload_n hx hb dX3_readRoleHead_16 rfl (lv_at hl 0 rfl) ?_
  refine lv_if_eq (tgt := 30) hx hb dX3_readRoleHead_17 (by decide) (fun hc => ?_) (fun hc => ?_)
  · rw [if_pos hc] at hf
    exact (wbT_X3_readRoleHead_30 CTX hRm hRc) _ _ _ _ _ _ _ hf hL hR hS (lv_sub hl [1, 0] rfl)
  · rw [if_neg hc] at hf
    refine lv_aload_n hx hb dX3_readRoleHead_20 rfl (lv_at hl 1 rfl) ?_
    refine lv_aload_n hx hb dX3_readRoleHead_21 rfl (lv_at hl 1 rfl) ?_
    obtain ⟨hk_x0_4, hf⟩ := gd_some hf
    refine cr_getI kc_3 CX hR fa_X3_15 rfl hk_x0_4 dX3_readRoleHead_22 ?_
    refine lv_iconst (v := 1) hx hb dX3_readRoleHead_25 (by decide) ?_
    refine lv_iadd hx hb dX3_readRoleHead_26 ?_
    obtain ⟨o27, ho27, hf⟩ := bnd_some hf
    refine cr_callVv kc_3 CX hR hL hS (As := [.int ((cI M x0 2) + 1)]) (rest := []) hk_x0_4 (MC_X3_moveTo l x N K x0 ((cI M x0 2) + 1) M o27 ho27) cv_X3_42 ⟨by omega, by omega⟩ rfl rfl (Nat.le_of_ble_eq_true rfl) hl.1 dX3_readRoleHead_27 hcs (fun H locs hR hS => ?_)
    exact (wbT_X3_readRoleHead_30 CTX hRm hRc) _ _ _ _ _ _ _ hf hL hR hS (lv_sub hl [1, 0] rfl)
def fT_X3_readRoleHead (N : Nat) (x0 : Nat) (K : Ka) (M : Cm) : Option ((Nat × Ka × Cm) ⊕ (Ka × Cm)) := gd (kd K x0 == 4) (if (cI M x0 3) = 132 then ((bT_X3_readRoleHead_15 N) x0 1 K M) else ((bT_X3_readRoleHead_15 N) x0 0 K M))
theorem mfT_X3_readRoleHead {o : (Nat × Ka × Cm) ⊕ (Ka × Cm)} {N : Nat}  (x0 : Nat) (K : Ka) (M : Cm) (hf : fT_X3_readRoleHead N x0 K M = some o) : KLe K (oK sT o) := by
  unfold fT_X3_readRoleHead at hf
  obtain ⟨-, hf⟩ := gd_some hf
  by_cases hc : (cI M x0 3) = 132
  · rw [if_pos hc] at hf
    exact mbT_X3_readRoleHead_15 _ _ _ _ hf
  · rw [if_neg hc] at hf
    exact mbT_X3_readRoleHead_15 _ _ _ _ hf
set_option maxRecDepth 100000 in
set_option maxHeartbeats 4000000 in
theorem wfT_X3_readRoleHead {p : Program} {l : Launch} {e : Env} {R : Room} {s : State} {m : MethodId} {args : Array Value} {below : List Frame} {meth : Method} {c : Code} {x : Xc} {K0 : Ka} {o : (Nat × Ka × Cm) ⊕ (Ka × Cm)} {N : Nat} (CTX : CT p l s m args meth c x K0 RX3 "readRoleHead" cX3_readRoleHead 5 (some (.object "StationStarter$Unit"))) (hRm : 8 ≤ R.frames ∧ 142 ≤ R.locals) (hRc : nz sT K0 o ≤ R.cells ∧ nu sT K0 o ≤ R.slots) (x0 : Nat) (K : Ka) (M : Cm) (H : Heap) (locs : List Loc) (ls : Array Slot) (hf : fT_X3_readRoleHead N x0 K M = some o) (hL : KLe K0 K) (hR : RC x K M H) (hS : va_S (AC K0) s.heap H locs) (hl : lv_has ls 5 [(0, .ref x0)]) : W p l e R s m args below meth c H locs (kz K - kz K0) (ku K - ku K0) (TQ sT (aQA x K0) (zQV K0) "java/lang/IllegalStateException" x K0 below args s o) (F0 m 0 ls []) := by
  obtain ⟨CX, hno, hlt, hmn⟩ := id CTX
  obtain ⟨hx, hb, hml, hown, hts, hE, hB, hr, hlk⟩ := id CX
  have hcs := nz_le (mfT_X3_readRoleHead  x0 K M hf) hRc
  unfold fT_X3_readRoleHead at hf
  refine lv_aload_n hx hb dX3_readRoleHead_0 rfl (lv_at hl 0 rfl) ?_
  obtain ⟨hk_x0_4, hf⟩ := gd_some hf
  refine cr_getI kc_3 CX hR fa_X3_19 rfl hk_x0_4 dX3_readRoleHead_1 ?_
  refine lv_sipush (v := 132) hx hb dX3_readRoleHead_4 (by decide) ?_
  refine lv_icmp_ne (tgt := 14) hx hb dX3_readRoleHead_7 (by decide) (fun hc => ?_) (fun hc => ?_)
  · rw [if_neg hc] at hf
    refine lv_iconst (v := 0) hx hb dX3_readRoleHead_14 (by decide) ?_
    exact (wbT_X3_readRoleHead_15 CTX hRm hRc) _ _ _ _ _ _ _ hf hL hR hS (lv_sub hl [0] rfl)
  · rw [if_pos hc] at hf
    refine lv_iconst (v := 1) hx hb dX3_readRoleHead_10 (by decide) ?_
    refine lv_goto (tgt := 15) hx hb dX3_readRoleHead_11 (by decide) ?_
    exact (wbT_X3_readRoleHead_15 CTX hRm hRc) _ _ _ _ _ _ _ hf hL hR hS (lv_sub hl [0] rfl)
theorem MT_X3_readRoleHead (l : Launch) (x : Xc) (hlt : l.stackTraces = false) (N : Nat) (x0 : Nat) (K : Ka) (M : Cm) (o : (Nat × Ka × Cm) ⊕ (Ka × Cm)) (hf : fT_X3_readRoleHead N x0 K M = some o) : Tc sT (aQA x K) (zQV K) "java/lang/IllegalStateException" l x yX3_readRoleHead cX3_readRoleHead 5 (some (.object "StationStarter$Unit")) 8 142 [.ref x0] K M o :=
  tr_met RX3 "readRoleHead" hlt (by decide) rfl rfl (Nat.le_of_ble_eq_true rfl) (fun p e s m args below meth c ls CTX hR hl => wfT_X3_readRoleHead CTX ⟨Nat.le_refl _, Nat.le_refl _⟩ ⟨Nat.le_refl _, Nat.le_refl _⟩ x0 K M s.heap [] ls hf (KLe.rf K) hR va_S.rf hl)
def bT_X3_takeNewItemName_59 (N : Nat) (x0 : Nat) (x2 : Int64) (K : Ka) (M : Cm) : Option ((Int64 × Ka × Cm) ⊕ (Ka × Cm)) := gd (kd K x0 == 4) ((fC_X3_moveTo N K x0 ((cI M x0 2) + 1) M).bind fun o66 => some (.inl (x2, K, o66)))
theorem mbT_X3_takeNewItemName_59 {o : (Int64 × Ka × Cm) ⊕ (Ka × Cm)} {N : Nat}  (x0 : Nat) (x2 : Int64) (K : Ka) (M : Cm) (hf : bT_X3_takeNewItemName_59 N x0 x2 K M = some o) : KLe K (oK sT o) := by
  unfold bT_X3_takeNewItemName_59 at hf
  obtain ⟨-, hf⟩ := gd_some hf
  obtain ⟨o66, -, hf⟩ := bnd_some hf
  cases hf
  exact KLe.rf _
set_option maxRecDepth 100000 in
set_option maxHeartbeats 4000000 in
theorem wbT_X3_takeNewItemName_59 {p : Program} {l : Launch} {e : Env} {R : Room} {s : State} {m : MethodId} {args : Array Value} {below : List Frame} {meth : Method} {c : Code} {x : Xc} {K0 : Ka} {o : (Int64 × Ka × Cm) ⊕ (Ka × Cm)} {N : Nat} (CTX : CT p l s m args meth c x K0 RX3 "takeNewItemName" cX3_takeNewItemName 4 (some .long)) (hRm : 7 ≤ R.frames ∧ 116 ≤ R.locals) (hRc : nz sT K0 o ≤ R.cells ∧ nu sT K0 o ≤ R.slots) (x0 : Nat) (x2 : Int64) (K : Ka) (M : Cm) (H : Heap) (locs : List Loc) (ls : Array Slot) (hf : bT_X3_takeNewItemName_59 N x0 x2 K M = some o) (hL : KLe K0 K) (hR : RC x K M H) (hS : va_S (AC K0) s.heap H locs) (hl : lv_has ls 4 [(0, .ref x0), (2, .long x2)]) : W p l e R s m args below meth c H locs (kz K - kz K0) (ku K - ku K0) (TQ sT (aQL x K0) (zQV K0) "java/lang/IllegalStateException" x K0 below args s o) (F0 m 59 ls []) := by
  obtain ⟨CX, hno, hlt, hmn⟩ := id CTX
  obtain ⟨hx, hb, hml, hown, hts, hE, hB, hr, hlk⟩ := id CX
  have hcs := nz_le (mbT_X3_takeNewItemName_59  x0 x2 K M hf) hRc
  unfold bT_X3_takeNewItemName_59 at hf
  refine lv_aload_n hx hb dX3_takeNewItemName_59 rfl (lv_at hl 0 rfl) ?_
  refine lv_aload_n hx hb dX3_takeNewItemName_60 rfl (lv_at hl 0 rfl) ?_
  obtain ⟨hk_x0_4, hf⟩ := gd_some hf
  refine cr_getI kc_3 CX hR fa_X3_15 rfl hk_x0_4 dX3_takeNewItemName_61 ?_
  refine lv_iconst (v := 1) hx hb dX3_takeNewItemName_64 (by decide) ?_
  refine lv_iadd hx hb dX3_takeNewItemName_65 ?_
  obtain ⟨o66, ho66, hf⟩ := bnd_some hf
  refine cr_callVv kc_3 CX hR hL hS (As := [.int ((cI M x0 2) + 1)]) (rest := []) hk_x0_4 (MC_X3_moveTo l x N K x0 ((cI M x0 2) + 1) M o66 ho66) cv_X3_42 ⟨by omega, by omega⟩ rfl rfl (Nat.le_of_ble_eq_true rfl) hl.1 dX3_takeNewItemName_66 hcs (fun H locs hR hS => ?_)
  refine lv_lload_n hx hb dX3_takeNewItemName_69 rfl (lv_at hl 1 rfl) ?_
  exact tr_lret CX hR hS hf dX3_takeNewItemName_70
def bT_X3_takeNewItemName_45 (N : Nat) (x0 : Nat) (x1 : Nat) (x2 : Int64) (K : Ka) (M : Cm) : Option ((Int64 × Ka × Cm) ⊕ (Ka × Cm)) := gd (kd K x1 == 8) (if (cI M x1 8) < 8 then ((bT_X3_takeNewItemName_59 N) x0 x2 K M) else (gd (kd K x0 == 4) (tb (fT_X3_refuse N x0 5 K M) fun o56 => (bT_X3_takeNewItemName_59 N) x0 x2 o56.1 o56.2)))
theorem mbT_X3_takeNewItemName_45 {o : (Int64 × Ka × Cm) ⊕ (Ka × Cm)} {N : Nat}  (x0 : Nat) (x1 : Nat) (x2 : Int64) (K : Ka) (M : Cm) (hf : bT_X3_takeNewItemName_45 N x0 x1 x2 K M = some o) : KLe K (oK sT o) := by
  unfold bT_X3_takeNewItemName_45 at hf
  obtain ⟨-, hf⟩ := gd_some hf
  by_cases hc : (cI M x1 8) < 8
  · rw [if_pos hc] at hf
    exact mbT_X3_takeNewItemName_59 _ _ _ _ hf
  · rw [if_neg hc] at hf
    obtain ⟨-, hf⟩ := gd_some hf
    rcases tb_some hf with ⟨o56, ho, hf⟩ | ⟨q, ho, rfl⟩
    · exact KLe.tr (mfT_X3_refuse _ _ _ _ ho) (mbT_X3_takeNewItemName_59 _ _ _ _ hf)
    · exact (mfT_X3_refuse _ _ _ _ ho)
set_option maxRecDepth 100000 in
set_option maxHeartbeats 4000000 in
theorem wbT_X3_takeNewItemName_45 {p : Program} {l : Launch} {e : Env} {R : Room} {s : State} {m : MethodId} {args : Array Value} {below : List Frame} {meth : Method} {c : Code} {x : Xc} {K0 : Ka} {o : (Int64 × Ka × Cm) ⊕ (Ka × Cm)} {N : Nat} (CTX : CT p l s m args meth c x K0 RX3 "takeNewItemName" cX3_takeNewItemName 4 (some .long)) (hRm : 7 ≤ R.frames ∧ 116 ≤ R.locals) (hRc : nz sT K0 o ≤ R.cells ∧ nu sT K0 o ≤ R.slots) (x0 : Nat) (x1 : Nat) (x2 : Int64) (K : Ka) (M : Cm) (H : Heap) (locs : List Loc) (ls : Array Slot) (hf : bT_X3_takeNewItemName_45 N x0 x1 x2 K M = some o) (hL : KLe K0 K) (hR : RC x K M H) (hS : va_S (AC K0) s.heap H locs) (hl : lv_has ls 4 [(0, .ref x0), (1, .ref x1), (2, .long x2)]) : W p l e R s m args below meth c H locs (kz K - kz K0) (ku K - ku K0) (TQ sT (aQL x K0) (zQV K0) "java/lang/IllegalStateException" x K0 below args s o) (F0 m 45 ls []) := by
  obtain ⟨CX, hno, hlt, hmn⟩ := id CTX
  obtain ⟨hx, hb, hml, hown, hts, hE, hB, hr, hlk⟩ := id CX
  have hcs := nz_le (mbT_X3_takeNewItemName_45  x0 x1 x2 K M hf) hRc
  unfold bT_X3_takeNewItemName_45 at hf
  refine lv_aload_n hx hb dX3_takeNewItemName_45 rfl (lv_at hl 1 rfl) ?_
  obtain ⟨hk_x1_8, hf⟩ := gd_some hf
  refine cr_getI kc_7 CX hR fa_X3_102 rfl hk_x1_8 dX3_takeNewItemName_46 ?_
  refine lv_bipush (v := 8) hx hb dX3_takeNewItemName_49 (by decide) ?_
  refine lv_icmp_lt (tgt := 59) hx hb dX3_takeNewItemName_51 (by decide) (fun hc => ?_) (fun hc => ?_)
  · rw [if_pos hc] at hf
    exact (wbT_X3_takeNewItemName_59 CTX hRm hRc) _ _ _ _ _ _ _ hf hL hR hS (lv_sub hl [0, 2] rfl)
  · rw [if_neg hc] at hf
    refine lv_aload_n hx hb dX3_takeNewItemName_54 rfl (lv_at hl 0 rfl) ?_
    refine lv_iconst (v := 5) hx hb dX3_takeNewItemName_55 (by decide) ?_
    obtain ⟨hk_x0_4, hf⟩ := gd_some hf
    rcases tb_some hf with ⟨o56, ho, hf⟩ | ⟨q, ho, rfl⟩
    · have hm1 := mbT_X3_takeNewItemName_59 _ _ _ _ hf
      have hb1 := nz_le hm1 hRc
      have hq1 := (mfT_X3_refuse _ _ _ _ ho)
      refine ta_callVv kc_3 CX hL hR hS (As := [.int 5]) (rest := []) hk_x0_4 (MT_X3_refuse l x hlt N _ _ _ _ _ ho) cv_X3_54 ⟨by omega, by omega⟩ rfl (Nat.le_of_ble_eq_true rfl) hl.1 hq1 hb1 rfl dX3_takeNewItemName_56 (fun H locs hR hS => ?_)
      exact (wbT_X3_takeNewItemName_59 CTX hRm hRc) _ _ _ _ _ _ _ hf (hL.tr hq1) hR hS (lv_sub hl [0, 2] rfl)
    · exact tx_callv kc_3 CTX hL hR hS (As := [.int 5]) (rest := []) hk_x0_4 (MT_X3_refuse l x hlt N _ _ _ _ _ ho) cv_X3_54 ⟨by omega, by omega⟩ rfl (Nat.le_of_ble_eq_true rfl) hl.1 (mfT_X3_refuse _ _ _ _ ho) hRc rfl dX3_takeNewItemName_56
def bT_X3_takeNewItemName_13 (N : Nat) (x0 : Nat) (x1 : Nat) (K : Ka) (M : Cm) : Option ((Int64 × Ka × Cm) ⊕ (Ka × Cm)) := gd (kd K x0 == 4) (nn (cR M x0 0) fun a1 => gd (kd K a1 == 7) ((fC_X6_valueAt N K a1 (cI M x0 2) M).bind fun o21 => gd (kd K x1 == 8) (nn (cR o21.2 x1 3) fun a2 => (fC_X8_rankOf N K o21.1 a2 (cI o21.2 x1 8) o21.2).bind fun o34 => if o34.1 < 0 then ((bT_X3_takeNewItemName_45 N) x0 x1 o21.1 K o34.2) else (tb (fT_X3_refuse N x0 3 K o34.2) fun o42 => (bT_X3_takeNewItemName_45 N) x0 x1 o21.1 o42.1 o42.2))))
theorem mbT_X3_takeNewItemName_13 {o : (Int64 × Ka × Cm) ⊕ (Ka × Cm)} {N : Nat}  (x0 : Nat) (x1 : Nat) (K : Ka) (M : Cm) (hf : bT_X3_takeNewItemName_13 N x0 x1 K M = some o) : KLe K (oK sT o) := by
  unfold bT_X3_takeNewItemName_13 at hf
  obtain ⟨-, hf⟩ := gd_some hf
  obtain ⟨a1, -, hf⟩ := nn_some hf
  obtain ⟨-, hf⟩ := gd_some hf
  obtain ⟨o21, -, hf⟩ := bnd_some hf
  obtain ⟨-, hf⟩ := gd_some hf
  obtain ⟨a2, -, hf⟩ := nn_some hf
  obtain ⟨o34, -, hf⟩ := bnd_some hf
  by_cases hc : o34.1 < 0
  · rw [if_pos hc] at hf
    exact mbT_X3_takeNewItemName_45 _ _ _ _ _ hf
  · rw [if_neg hc] at hf
    rcases tb_some hf with ⟨o42, ho, hf⟩ | ⟨q, ho, rfl⟩
    · exact KLe.tr (mfT_X3_refuse _ _ _ _ ho) (mbT_X3_takeNewItemName_45 _ _ _ _ _ hf)
    · exact (mfT_X3_refuse _ _ _ _ ho)
set_option maxRecDepth 100000 in
set_option maxHeartbeats 4000000 in
theorem wbT_X3_takeNewItemName_13 {p : Program} {l : Launch} {e : Env} {R : Room} {s : State} {m : MethodId} {args : Array Value} {below : List Frame} {meth : Method} {c : Code} {x : Xc} {K0 : Ka} {o : (Int64 × Ka × Cm) ⊕ (Ka × Cm)} {N : Nat} (CTX : CT p l s m args meth c x K0 RX3 "takeNewItemName" cX3_takeNewItemName 4 (some .long)) (hRm : 7 ≤ R.frames ∧ 116 ≤ R.locals) (hRc : nz sT K0 o ≤ R.cells ∧ nu sT K0 o ≤ R.slots) (x0 : Nat) (x1 : Nat) (K : Ka) (M : Cm) (H : Heap) (locs : List Loc) (ls : Array Slot) (hf : bT_X3_takeNewItemName_13 N x0 x1 K M = some o) (hL : KLe K0 K) (hR : RC x K M H) (hS : va_S (AC K0) s.heap H locs) (hl : lv_has ls 4 [(0, .ref x0), (1, .ref x1)]) : W p l e R s m args below meth c H locs (kz K - kz K0) (ku K - ku K0) (TQ sT (aQL x K0) (zQV K0) "java/lang/IllegalStateException" x K0 below args s o) (F0 m 13 ls []) := by
  obtain ⟨CX, hno, hlt, hmn⟩ := id CTX
  obtain ⟨hx, hb, hml, hown, hts, hE, hB, hr, hlk⟩ := id CX
  have hcs := nz_le (mbT_X3_takeNewItemName_13  x0 x1 K M hf) hRc
  unfold bT_X3_takeNewItemName_13 at hf
  refine lv_aload_n hx hb dX3_takeNewItemName_13 rfl (lv_at hl 0 rfl) ?_
  obtain ⟨hk_x0_4, hf⟩ := gd_some hf
  refine cr_getR kc_3 CX hR fa_X3_28 rfl hk_x0_4 dX3_takeNewItemName_14 ?_
  refine lv_aload_n hx hb dX3_takeNewItemName_17 rfl (lv_at hl 0 rfl) ?_
  refine cr_getI kc_3 CX hR fa_X3_15 rfl hk_x0_4 dX3_takeNewItemName_18 ?_
  obtain ⟨a1, ha1, hf⟩ := nn_some hf
  refine rf_1 ha1 ?_
  obtain ⟨hk_a1_7, hf⟩ := gd_some hf
  obtain ⟨o21, ho21, hf⟩ := bnd_some hf
  refine cr_callLv kc_6 CX hR hL hS (As := [.int (cI M x0 2)]) (rest := []) hk_a1_7 (MC_X6_valueAt l x N K a1 (cI M x0 2) M o21 ho21) cv_X3_88 ⟨by omega, by omega⟩ rfl rfl (Nat.le_of_ble_eq_true rfl) hl.1 dX3_takeNewItemName_21 hcs (fun H locs hR hS => ?_)
  refine lv_lstore_n (lv' := [(2, .long o21.1), (0, .ref x0), (1, .ref x1)]) hx hb dX3_takeNewItemName_24 rfl hl (by decide) rfl (fun ls hl => ?_)
  refine lv_lload_n hx hb dX3_takeNewItemName_25 rfl (lv_at hl 0 rfl) ?_
  refine lv_aload_n hx hb dX3_takeNewItemName_26 rfl (lv_at hl 2 rfl) ?_
  obtain ⟨hk_x1_8, hf⟩ := gd_some hf
  refine cr_getR kc_7 CX hR fa_X3_96 rfl hk_x1_8 dX3_takeNewItemName_27 ?_
  refine lv_aload_n hx hb dX3_takeNewItemName_30 rfl (lv_at hl 2 rfl) ?_
  refine cr_getI kc_7 CX hR fa_X3_102 rfl hk_x1_8 dX3_takeNewItemName_31 ?_
  obtain ⟨a2, ha2, hf⟩ := nn_some hf
  refine rf_1 ha2 ?_
  obtain ⟨o34, ho34, hf⟩ := bnd_some hf
  refine cr_callIs CX hR hL hS (As := [.long o21.1, .ref a2, .int (cI o21.2 x1 8)]) (rest := []) (MC_X8_rankOf l x N K o21.1 a2 (cI o21.2 x1 8) o21.2 o34 ho34) cs_X3_105 ⟨by omega, by omega⟩ rfl rfl (Nat.le_of_ble_eq_true rfl) hl.1 dX3_takeNewItemName_34 hcs (fun H locs hR hS => ?_)
  refine lv_if_lt (tgt := 45) hx hb dX3_takeNewItemName_37 (by decide) (fun hc => ?_) (fun hc => ?_)
  · rw [if_pos hc] at hf
    exact (wbT_X3_takeNewItemName_45 CTX hRm hRc) _ _ _ _ _ _ _ _ hf hL hR hS (lv_sub hl [1, 2, 0] rfl)
  · rw [if_neg hc] at hf
    refine lv_aload_n hx hb dX3_takeNewItemName_40 rfl (lv_at hl 1 rfl) ?_
    refine lv_iconst (v := 3) hx hb dX3_takeNewItemName_41 (by decide) ?_
    rcases tb_some hf with ⟨o42, ho, hf⟩ | ⟨q, ho, rfl⟩
    · have hm1 := mbT_X3_takeNewItemName_45 _ _ _ _ _ hf
      have hb1 := nz_le hm1 hRc
      have hq1 := (mfT_X3_refuse _ _ _ _ ho)
      refine ta_callVv kc_3 CX hL hR hS (As := [.int 3]) (rest := []) hk_x0_4 (MT_X3_refuse l x hlt N _ _ _ _ _ ho) cv_X3_54 ⟨by omega, by omega⟩ rfl (Nat.le_of_ble_eq_true rfl) hl.1 hq1 hb1 rfl dX3_takeNewItemName_42 (fun H locs hR hS => ?_)
      exact (wbT_X3_takeNewItemName_45 CTX hRm hRc) _ _ _ _ _ _ _ _ hf (hL.tr hq1) hR hS (lv_sub hl [1, 2, 0] rfl)
    · exact tx_callv kc_3 CTX hL hR hS (As := [.int 3]) (rest := []) hk_x0_4 (MT_X3_refuse l x hlt N _ _ _ _ _ ho) cv_X3_54 ⟨by omega, by omega⟩ rfl (Nat.le_of_ble_eq_true rfl) hl.1 (mfT_X3_refuse _ _ _ _ ho) hRc rfl dX3_takeNewItemName_42
def fT_X3_takeNewItemName (N : Nat) (x0 : Nat) (x1 : Nat) (K : Ka) (M : Cm) : Option ((Int64 × Ka × Cm) ⊕ (Ka × Cm)) := gd (kd K x0 == 4) (if (cI M x0 3) = 2 then ((bT_X3_takeNewItemName_13 N) x0 x1 K M) else (tb (fT_X3_refuse N x0 1 K M) fun o10 => (bT_X3_takeNewItemName_13 N) x0 x1 o10.1 o10.2))
theorem mfT_X3_takeNewItemName {o : (Int64 × Ka × Cm) ⊕ (Ka × Cm)} {N : Nat}  (x0 : Nat) (x1 : Nat) (K : Ka) (M : Cm) (hf : fT_X3_takeNewItemName N x0 x1 K M = some o) : KLe K (oK sT o) := by
  unfold fT_X3_takeNewItemName at hf
  obtain ⟨-, hf⟩ := gd_some hf
  by_cases hc : (cI M x0 3) = 2
  · rw [if_pos hc] at hf
    exact mbT_X3_takeNewItemName_13 _ _ _ _ hf
  · rw [if_neg hc] at hf
    rcases tb_some hf with ⟨o10, ho, hf⟩ | ⟨q, ho, rfl⟩
    · exact KLe.tr (mfT_X3_refuse _ _ _ _ ho) (mbT_X3_takeNewItemName_13 _ _ _ _ hf)
    · exact (mfT_X3_refuse _ _ _ _ ho)
set_option maxRecDepth 100000 in
set_option maxHeartbeats 4000000 in
theorem wfT_X3_takeNewItemName {p : Program} {l : Launch} {e : Env} {R : Room} {s : State} {m : MethodId} {args : Array Value} {below : List Frame} {meth : Method} {c : Code} {x : Xc} {K0 : Ka} {o : (Int64 × Ka × Cm) ⊕ (Ka × Cm)} {N : Nat} (CTX : CT p l s m args meth c x K0 RX3 "takeNewItemName" cX3_takeNewItemName 4 (some .long)) (hRm : 7 ≤ R.frames ∧ 116 ≤ R.locals) (hRc : nz sT K0 o ≤ R.cells ∧ nu sT K0 o ≤ R.slots) (x0 : Nat) (x1 : Nat) (K : Ka) (M : Cm) (H : Heap) (locs : List Loc) (ls : Array Slot) (hf : fT_X3_takeNewItemName N x0 x1 K M = some o) (hL : KLe K0 K) (hR : RC x K M H) (hS : va_S (AC K0) s.heap H locs) (hl : lv_has ls 4 [(0, .ref x0), (1, .ref x1)]) : W p l e R s m args below meth c H locs (kz K - kz K0) (ku K - ku K0) (TQ sT (aQL x K0) (zQV K0) "java/lang/IllegalStateException" x K0 below args s o) (F0 m 0 ls []) := by
  obtain ⟨CX, hno, hlt, hmn⟩ := id CTX
  obtain ⟨hx, hb, hml, hown, hts, hE, hB, hr, hlk⟩ := id CX
  have hcs := nz_le (mfT_X3_takeNewItemName  x0 x1 K M hf) hRc
  unfold fT_X3_takeNewItemName at hf
  refine lv_aload_n hx hb dX3_takeNewItemName_0 rfl (lv_at hl 0 rfl) ?_
  obtain ⟨hk_x0_4, hf⟩ := gd_some hf
  refine cr_getI kc_3 CX hR fa_X3_19 rfl hk_x0_4 dX3_takeNewItemName_1 ?_
  refine lv_iconst (v := 2) hx hb dX3_takeNewItemName_4 (by decide) ?_
  refine lv_icmp_eq (tgt := 13) hx hb dX3_takeNewItemName_5 (by decide) (fun hc => ?_) (fun hc => ?_)
  · rw [if_pos hc] at hf
    exact (wbT_X3_takeNewItemName_13 CTX hRm hRc) _ _ _ _ _ _ _ hf hL hR hS (lv_sub hl [0, 1] rfl)
  · rw [if_neg hc] at hf
    refine lv_aload_n hx hb dX3_takeNewItemName_8 rfl (lv_at hl 0 rfl) ?_
    refine lv_iconst (v := 1) hx hb dX3_takeNewItemName_9 (by decide) ?_
    rcases tb_some hf with ⟨o10, ho, hf⟩ | ⟨q, ho, rfl⟩
    · have hm1 := mbT_X3_takeNewItemName_13 _ _ _ _ hf
      have hb1 := nz_le hm1 hRc
      have hq1 := (mfT_X3_refuse _ _ _ _ ho)
      refine ta_callVv kc_3 CX hL hR hS (As := [.int 1]) (rest := []) hk_x0_4 (MT_X3_refuse l x hlt N _ _ _ _ _ ho) cv_X3_54 ⟨by omega, by omega⟩ rfl (Nat.le_of_ble_eq_true rfl) hl.1 hq1 hb1 rfl dX3_takeNewItemName_10 (fun H locs hR hS => ?_)
      exact (wbT_X3_takeNewItemName_13 CTX hRm hRc) _ _ _ _ _ _ _ hf (hL.tr hq1) hR hS (lv_sub hl [0, 1] rfl)
    · exact tx_callv kc_3 CTX hL hR hS (As := [.int 1]) (rest := []) hk_x0_4 (MT_X3_refuse l x hlt N _ _ _ _ _ ho) cv_X3_54 ⟨by omega, by omega⟩ rfl (Nat.le_of_ble_eq_true rfl) hl.1 (mfT_X3_refuse _ _ _ _ ho) hRc rfl dX3_takeNewItemName_10
theorem MT_X3_takeNewItemName (l : Launch) (x : Xc) (hlt : l.stackTraces = false) (N : Nat) (x0 : Nat) (x1 : Nat) (K : Ka) (M : Cm) (o : (Int64 × Ka × Cm) ⊕ (Ka × Cm)) (hf : fT_X3_takeNewItemName N x0 x1 K M = some o) : Tc sT (aQL x K) (zQV K) "java/lang/IllegalStateException" l x yX3_takeNewItemName cX3_takeNewItemName 4 (some .long) 7 116 [.ref x0, .ref x1] K M o :=
  tr_met RX3 "takeNewItemName" hlt (by decide) rfl rfl (Nat.le_of_ble_eq_true rfl) (fun p e s m args below meth c ls CTX hR hl => wfT_X3_takeNewItemName CTX ⟨Nat.le_refl _, Nat.le_refl _⟩ ⟨Nat.le_refl _, Nat.le_refl _⟩ x0 x1 K M s.heap [] ls hf (KLe.rf K) hR va_S.rf hl)
def bT_X3_readSetting_83 (N : Nat) (x0 : Nat) (s0 : Nat) (s1 : Int64) (s2 : Int32) (K : Ka) (M : Cm) : Option ((Ka × Cm) ⊕ (Ka × Cm)) := gd (kd K s0 == 8) ((fC_X7_addSetting N K s0 s1 s2 M).bind fun o83 => some (.inl (K, o83)))
theorem mbT_X3_readSetting_83 {o : (Ka × Cm) ⊕ (Ka × Cm)} {N : Nat}  (x0 : Nat) (s0 : Nat) (s1 : Int64) (s2 : Int32) (K : Ka) (M : Cm) (hf : bT_X3_readSetting_83 N x0 s0 s1 s2 K M = some o) : KLe K (oK sV o) := by
  unfold bT_X3_readSetting_83 at hf
  obtain ⟨-, hf⟩ := gd_some hf
  obtain ⟨o83, -, hf⟩ := bnd_some hf
  cases hf
  exact KLe.rf _
set_option maxRecDepth 100000 in
set_option maxHeartbeats 4000000 in
theorem wbT_X3_readSetting_83 {p : Program} {l : Launch} {e : Env} {R : Room} {s : State} {m : MethodId} {args : Array Value} {below : List Frame} {meth : Method} {c : Code} {x : Xc} {K0 : Ka} {o : (Ka × Cm) ⊕ (Ka × Cm)} {N : Nat} (CTX : CT p l s m args meth c x K0 RX3 "readSetting" cX3_readSetting 6 none) (hRm : 8 ≤ R.frames ∧ 140 ≤ R.locals) (hRc : nz sV K0 o ≤ R.cells ∧ nu sV K0 o ≤ R.slots) (x0 : Nat) (s0 : Nat) (s1 : Int64) (s2 : Int32) (K : Ka) (M : Cm) (H : Heap) (locs : List Loc) (ls : Array Slot) (hf : bT_X3_readSetting_83 N x0 s0 s1 s2 K M = some o) (hL : KLe K0 K) (hR : RC x K M H) (hS : va_S (AC K0) s.heap H locs) (hl : lv_has ls 6 [(0, .ref x0)]) : W p l e R s m args below meth c H locs (kz K - kz K0) (ku K - ku K0) (TQ sV (aQV x K0) (zQV K0) "java/lang/IllegalStateException" x K0 below args s o) (F0 m 83 ls [.int s2, .long s1, .ref s0]) := by
  obtain ⟨CX, hno, hlt, hmn⟩ := id CTX
  obtain ⟨hx, hb, hml, hown, hts, hE, hB, hr, hlk⟩ := id CX
  have hcs := nz_le (mbT_X3_readSetting_83  x0 s0 s1 s2 K M hf) hRc
  unfold bT_X3_readSetting_83 at hf
  obtain ⟨hk_s0_8, hf⟩ := gd_some hf
  obtain ⟨o83, ho83, hf⟩ := bnd_some hf
  refine cr_callVv kc_7 CX hR hL hS (As := [.long s1, .int s2]) (rest := []) hk_s0_8 (MC_X7_addSetting l x N K s0 s1 s2 M o83 ho83) cv_X3_224 ⟨by omega, by omega⟩ rfl rfl (Nat.le_of_ble_eq_true rfl) hl.1 dX3_readSetting_83 hcs (fun H locs hR hS => ?_)
  exact tr_vret CX hR hS hf dX3_readSetting_86
def bT_X3_readSetting_68 (N : Nat) (x0 : Nat) (x1 : Nat) (x2 : Int64) (x4 : Int32) (x5 : Int32) (K : Ka) (M : Cm) : Option ((Ka × Cm) ⊕ (Ka × Cm)) := if x4 = 0 then ((bT_X3_readSetting_83 N) x0 x1 x2 x5 K M) else ((bT_X3_readSetting_83 N) x0 x1 x2 (-x5) K M)
theorem mbT_X3_readSetting_68 {o : (Ka × Cm) ⊕ (Ka × Cm)} {N : Nat}  (x0 : Nat) (x1 : Nat) (x2 : Int64) (x4 : Int32) (x5 : Int32) (K : Ka) (M : Cm) (hf : bT_X3_readSetting_68 N x0 x1 x2 x4 x5 K M = some o) : KLe K (oK sV o) := by
  unfold bT_X3_readSetting_68 at hf
  by_cases hc : x4 = 0
  · rw [if_pos hc] at hf
    exact mbT_X3_readSetting_83 _ _ _ _ _ _ hf
  · rw [if_neg hc] at hf
    exact mbT_X3_readSetting_83 _ _ _ _ _ _ hf
set_option maxRecDepth 100000 in
set_option maxHeartbeats 4000000 in
theorem wbT_X3_readSetting_68 {p : Program} {l : Launch} {e : Env} {R : Room} {s : State} {m : MethodId} {args : Array Value} {below : List Frame} {meth : Method} {c : Code} {x : Xc} {K0 : Ka} {o : (Ka × Cm) ⊕ (Ka × Cm)} {N : Nat} (CTX : CT p l s m args meth c x K0 RX3 "readSetting" cX3_readSetting 6 none) (hRm : 8 ≤ R.frames ∧ 140 ≤ R.locals) (hRc : nz sV K0 o ≤ R.cells ∧ nu sV K0 o ≤ R.slots) (x0 : Nat) (x1 : Nat) (x2 : Int64) (x4 : Int32) (x5 : Int32) (K : Ka) (M : Cm) (H : Heap) (locs : List Loc) (ls : Array Slot) (hf : bT_X3_readSetting_68 N x0 x1 x2 x4 x5 K M = some o) (hL : KLe K0 K) (hR : RC x K M H) (hS : va_S (AC K0) s.heap H locs) (hl : lv_has ls 6 [(0, .ref x0), (1, .ref x1), (2, .long x2), (4, .int x4), (5, .int x5)]) : W p l e R s m args below meth c H locs (kz K - kz K0) (ku K - ku K0) (TQ sV (aQV x K0) (zQV K0) "java/lang/IllegalStateException" x K0 below args s o) (F0 m 68 ls []) := by
  obtain ⟨CX, hno, hlt, hmn⟩ := id CTX
  obtain ⟨hx, hb, hml, hown, hts, hE, hB, hr, hlk⟩ := id CX
  have hcs := nz_le (mbT_X3_readSetting_68  x0 x1 x2 x4 x5 K M hf) hRc
  unfold bT_X3_readSetting_68 at hf
  refine lv_aload_n hx hb dX3_readSetting_68 rfl (lv_at hl 1 rfl) ?_
  refine lv_lload_n hx hb dX3_readSetting_69 rfl (lv_at hl 2 rfl) ?_
  refine lv_iload hx hb dX3_readSetting_70 (lv_at hl 3 rfl) ?_
  refine lv_if_eq (tgt := 81) hx hb dX3_readSetting_72 (by decide) (fun hc => ?_) (fun hc => ?_)
  · rw [if_pos hc] at hf
    refine lv_iload hx hb dX3_readSetting_81 (lv_at hl 4 rfl) ?_
    exact (wbT_X3_readSetting_83 CTX hRm hRc) _ _ _ _ _ _ _ _ _ hf hL hR hS (lv_sub hl [0] rfl)
  · rw [if_neg hc] at hf
    refine lv_iload hx hb dX3_readSetting_75 (lv_at hl 4 rfl) ?_
    refine lv_ineg hx hb dX3_readSetting_77 ?_
    refine lv_goto (tgt := 83) hx hb dX3_readSetting_78 (by decide) ?_
    exact (wbT_X3_readSetting_83 CTX hRm hRc) _ _ _ _ _ _ _ _ _ hf hL hR hS (lv_sub hl [0] rfl)
def bT_X3_readSetting_60 (N : Nat) (x0 : Nat) (x1 : Nat) (x2 : Int64) (x4 : Int32) (s0 : Int32) (K : Ka) (M : Cm) : Option ((Ka × Cm) ⊕ (Ka × Cm)) := gd (kd K x0 == 4) (tb (fT_X3_take N x0 59 K M) fun o65 => (bT_X3_readSetting_68 N) x0 x1 x2 x4 s0 o65.1 o65.2)
theorem mbT_X3_readSetting_60 {o : (Ka × Cm) ⊕ (Ka × Cm)} {N : Nat}  (x0 : Nat) (x1 : Nat) (x2 : Int64) (x4 : Int32) (s0 : Int32) (K : Ka) (M : Cm) (hf : bT_X3_readSetting_60 N x0 x1 x2 x4 s0 K M = some o) : KLe K (oK sV o) := by
  unfold bT_X3_readSetting_60 at hf
  obtain ⟨-, hf⟩ := gd_some hf
  rcases tb_some hf with ⟨o65, ho, hf⟩ | ⟨q, ho, rfl⟩
  · exact KLe.tr (mfT_X3_take _ _ _ _ ho) (mbT_X3_readSetting_68 _ _ _ _ _ _ _ hf)
  · exact (mfT_X3_take _ _ _ _ ho)
set_option maxRecDepth 100000 in
set_option maxHeartbeats 4000000 in
theorem wbT_X3_readSetting_60 {p : Program} {l : Launch} {e : Env} {R : Room} {s : State} {m : MethodId} {args : Array Value} {below : List Frame} {meth : Method} {c : Code} {x : Xc} {K0 : Ka} {o : (Ka × Cm) ⊕ (Ka × Cm)} {N : Nat} (CTX : CT p l s m args meth c x K0 RX3 "readSetting" cX3_readSetting 6 none) (hRm : 8 ≤ R.frames ∧ 140 ≤ R.locals) (hRc : nz sV K0 o ≤ R.cells ∧ nu sV K0 o ≤ R.slots) (x0 : Nat) (x1 : Nat) (x2 : Int64) (x4 : Int32) (s0 : Int32) (K : Ka) (M : Cm) (H : Heap) (locs : List Loc) (ls : Array Slot) (hf : bT_X3_readSetting_60 N x0 x1 x2 x4 s0 K M = some o) (hL : KLe K0 K) (hR : RC x K M H) (hS : va_S (AC K0) s.heap H locs) (hl : lv_has ls 6 [(0, .ref x0), (1, .ref x1), (2, .long x2), (4, .int x4)]) : W p l e R s m args below meth c H locs (kz K - kz K0) (ku K - ku K0) (TQ sV (aQV x K0) (zQV K0) "java/lang/IllegalStateException" x K0 below args s o) (F0 m 60 ls [.int s0]) := by
  obtain ⟨CX, hno, hlt, hmn⟩ := id CTX
  obtain ⟨hx, hb, hml, hown, hts, hE, hB, hr, hlk⟩ := id CX
  have hcs := nz_le (mbT_X3_readSetting_60  x0 x1 x2 x4 s0 K M hf) hRc
  unfold bT_X3_readSetting_60 at hf
  refine lv_istore (lv' := [(5, .int s0), (0, .ref x0), (1, .ref x1), (2, .long x2), (4, .int x4)]) hx hb dX3_readSetting_60 hl (by decide) rfl (fun ls hl => ?_)
  refine lv_aload_n hx hb dX3_readSetting_62 rfl (lv_at hl 1 rfl) ?_
  refine lv_bipush (v := 59) hx hb dX3_readSetting_63 (by decide) ?_
  obtain ⟨hk_x0_4, hf⟩ := gd_some hf
  rcases tb_some hf with ⟨o65, ho, hf⟩ | ⟨q, ho, rfl⟩
  · have hm1 := mbT_X3_readSetting_68 _ _ _ _ _ _ _ hf
    have hb1 := nz_le hm1 hRc
    have hq1 := (mfT_X3_take _ _ _ _ ho)
    refine ta_callVv kc_3 CX hL hR hS (As := [.int 59]) (rest := []) hk_x0_4 (MT_X3_take l x hlt N _ _ _ _ _ ho) cv_X3_119 ⟨by omega, by omega⟩ rfl (Nat.le_of_ble_eq_true rfl) hl.1 hq1 hb1 rfl dX3_readSetting_65 (fun H locs hR hS => ?_)
    exact (wbT_X3_readSetting_68 CTX hRm hRc) _ _ _ _ _ _ _ _ _ _ hf (hL.tr hq1) hR hS (lv_sub hl [1, 2, 3, 4, 0] rfl)
  · exact tx_callv kc_3 CTX hL hR hS (As := [.int 59]) (rest := []) hk_x0_4 (MT_X3_take l x hlt N _ _ _ _ _ ho) cv_X3_119 ⟨by omega, by omega⟩ rfl (Nat.le_of_ble_eq_true rfl) hl.1 (mfT_X3_take _ _ _ _ ho) hRc rfl dX3_readSetting_65
def bT_X3_readSetting_53 (N : Nat) (x0 : Nat) (x1 : Nat) (x2 : Int64) (x4 : Int32) (K : Ka) (M : Cm) : Option ((Ka × Cm) ⊕ (Ka × Cm)) := gd (kd K x0 == 4) (tb (fT_X3_takeNumber N x0 0 999999999 K M) fun o57 => (bT_X3_readSetting_60 N) x0 x1 x2 x4 o57.1 o57.2.1 o57.2.2)
theorem mbT_X3_readSetting_53 {o : (Ka × Cm) ⊕ (Ka × Cm)} {N : Nat}  (x0 : Nat) (x1 : Nat) (x2 : Int64) (x4 : Int32) (K : Ka) (M : Cm) (hf : bT_X3_readSetting_53 N x0 x1 x2 x4 K M = some o) : KLe K (oK sV o) := by
  unfold bT_X3_readSetting_53 at hf
  obtain ⟨-, hf⟩ := gd_some hf
  rcases tb_some hf with ⟨o57, ho, hf⟩ | ⟨q, ho, rfl⟩
  · exact KLe.tr (mfT_X3_takeNumber _ _ _ _ _ ho) (mbT_X3_readSetting_60 _ _ _ _ _ _ _ hf)
  · exact (mfT_X3_takeNumber _ _ _ _ _ ho)
set_option maxRecDepth 100000 in
set_option maxHeartbeats 4000000 in
theorem wbT_X3_readSetting_53 {p : Program} {l : Launch} {e : Env} {R : Room} {s : State} {m : MethodId} {args : Array Value} {below : List Frame} {meth : Method} {c : Code} {x : Xc} {K0 : Ka} {o : (Ka × Cm) ⊕ (Ka × Cm)} {N : Nat} (CTX : CT p l s m args meth c x K0 RX3 "readSetting" cX3_readSetting 6 none) (hRm : 8 ≤ R.frames ∧ 140 ≤ R.locals) (hRc : nz sV K0 o ≤ R.cells ∧ nu sV K0 o ≤ R.slots) (x0 : Nat) (x1 : Nat) (x2 : Int64) (x4 : Int32) (K : Ka) (M : Cm) (H : Heap) (locs : List Loc) (ls : Array Slot) (hf : bT_X3_readSetting_53 N x0 x1 x2 x4 K M = some o) (hL : KLe K0 K) (hR : RC x K M H) (hS : va_S (AC K0) s.heap H locs) (hl : lv_has ls 6 [(0, .ref x0), (1, .ref x1), (2, .long x2), (4, .int x4)]) : W p l e R s m args below meth c H locs (kz K - kz K0) (ku K - ku K0) (TQ sV (aQV x K0) (zQV K0) "java/lang/IllegalStateException" x K0 below args s o) (F0 m 53 ls []) := by
  obtain ⟨CX, hno, hlt, hmn⟩ := id CTX
  obtain ⟨hx, hb, hml, hown, hts, hE, hB, hr, hlk⟩ := id CX
  have hcs := nz_le (mbT_X3_readSetting_53  x0 x1 x2 x4 K M hf) hRc
  unfold bT_X3_readSetting_53 at hf
  refine lv_aload_n hx hb dX3_readSetting_53 rfl (lv_at hl 0 rfl) ?_
  refine lv_iconst (v := 0) hx hb dX3_readSetting_54 (by decide) ?_
  refine lv_ldc hx hb hown (hts _ wc_774) dX3_readSetting_55 ?_
  obtain ⟨hk_x0_4, hf⟩ := gd_some hf
  rcases tb_some hf with ⟨o57, ho, hf⟩ | ⟨q, ho, rfl⟩
  · have hm1 := mbT_X3_readSetting_60 _ _ _ _ _ _ _ hf
    have hb1 := nz_le hm1 hRc
    have hq1 := (mfT_X3_takeNumber _ _ _ _ _ ho)
    refine ta_callIv kc_3 CX hL hR hS (As := [.int 0, .int 999999999]) (rest := []) hk_x0_4 (MT_X3_takeNumber l x hlt N _ _ _ _ _ _ ho) cv_X3_123 ⟨by omega, by omega⟩ rfl (Nat.le_of_ble_eq_true rfl) hl.1 hq1 hb1 rfl dX3_readSetting_57 (fun H locs hR hS => ?_)
    exact (wbT_X3_readSetting_60 CTX hRm hRc) _ _ _ _ _ _ _ _ _ _ hf (hL.tr hq1) hR hS (lv_sub hl [0, 1, 2, 3] rfl)
  · exact tx_callv kc_3 CTX hL hR hS (As := [.int 0, .int 999999999]) (rest := []) hk_x0_4 (MT_X3_takeNumber l x hlt N _ _ _ _ _ _ ho) cv_X3_123 ⟨by omega, by omega⟩ rfl (Nat.le_of_ble_eq_true rfl) hl.1 (mfT_X3_takeNumber _ _ _ _ _ ho) hRc rfl dX3_readSetting_57
def bT_X3_readSetting_36 (N : Nat) (x0 : Nat) (x1 : Nat) (x2 : Int64) (s0 : Int32) (K : Ka) (M : Cm) : Option ((Ka × Cm) ⊕ (Ka × Cm)) := if s0 = 0 then ((bT_X3_readSetting_53 N) x0 x1 x2 s0 K M) else (gd (kd K x0 == 4) ((fC_X3_moveTo N K x0 ((cI M x0 2) + 1) M).bind fun o50 => (bT_X3_readSetting_53 N) x0 x1 x2 s0 K o50))
theorem mbT_X3_readSetting_36 {o : (Ka × Cm) ⊕ (Ka × Cm)} {N : Nat}  (x0 : Nat) (x1 : Nat) (x2 : Int64) (s0 : Int32) (K : Ka) (M : Cm) (hf : bT_X3_readSetting_36 N x0 x1 x2 s0 K M = some o) : KLe K (oK sV o) := by
  unfold bT_X3_readSetting_36 at hf
  by_cases hc : s0 = 0
  · rw [if_pos hc] at hf
    exact mbT_X3_readSetting_53 _ _ _ _ _ _ hf
  · rw [if_neg hc] at hf
    obtain ⟨-, hf⟩ := gd_some hf
    obtain ⟨o50, -, hf⟩ := bnd_some hf
    exact mbT_X3_readSetting_53 _ _ _ _ _ _ hf
set_option maxRecDepth 100000 in
set_option maxHeartbeats 4000000 in
theorem wbT_X3_readSetting_36 {p : Program} {l : Launch} {e : Env} {R : Room} {s : State} {m : MethodId} {args : Array Value} {below : List Frame} {meth : Method} {c : Code} {x : Xc} {K0 : Ka} {o : (Ka × Cm) ⊕ (Ka × Cm)} {N : Nat} (CTX : CT p l s m args meth c x K0 RX3 "readSetting" cX3_readSetting 6 none) (hRm : 8 ≤ R.frames ∧ 140 ≤ R.locals) (hRc : nz sV K0 o ≤ R.cells ∧ nu sV K0 o ≤ R.slots) (x0 : Nat) (x1 : Nat) (x2 : Int64) (s0 : Int32) (K : Ka) (M : Cm) (H : Heap) (locs : List Loc) (ls : Array Slot) (hf : bT_X3_readSetting_36 N x0 x1 x2 s0 K M = some o) (hL : KLe K0 K) (hR : RC x K M H) (hS : va_S (AC K0) s.heap H locs) (hl : lv_has ls 6 [(0, .ref x0), (1, .ref x1), (2, .long x2)]) : W p l e R s m args below meth c H locs (kz K - kz K0) (ku K - ku K0) (TQ sV (aQV x K0) (zQV K0) "java/lang/IllegalStateException" x K0 below args s o) (F0 m 36 ls [.int s0]) := by
  obtain ⟨CX, hno, hlt, hmn⟩ := id CTX
  obtain ⟨hx, hb, hml, hown, hts, hE, hB, hr, hlk⟩ := id CX
  have hcs := nz_le (mbT_X3_readSetting_36  x0 x1 x2 s0 K M hf) hRc
  unfold bT_X3_readSetting_36 at hf
  refine lv_istore (lv' := [(4, .int s0), (0, .ref x0), (1, .ref x1), (2, .long x2)]) hx hb dX3_readSetting_36 hl (by decide) rfl (fun ls hl => ?_)
  refine lv_iload hx hb dX3_readSetting_38 (lv_at hl 0 rfl) ?_
  refine lv_if_eq (tgt := 53) hx hb dX3_readSetting_40 (by decide) (fun hc => ?_) (fun hc => ?_)
  · rw [if_pos hc] at hf
    exact (wbT_X3_readSetting_53 CTX hRm hRc) _ _ _ _ _ _ _ _ _ hf hL hR hS (lv_sub hl [1, 2, 3, 0] rfl)
  · rw [if_neg hc] at hf
    refine lv_aload_n hx hb dX3_readSetting_43 rfl (lv_at hl 1 rfl) ?_
    refine lv_aload_n hx hb dX3_readSetting_44 rfl (lv_at hl 1 rfl) ?_
    obtain ⟨hk_x0_4, hf⟩ := gd_some hf
    refine cr_getI kc_3 CX hR fa_X3_15 rfl hk_x0_4 dX3_readSetting_45 ?_
    refine lv_iconst (v := 1) hx hb dX3_readSetting_48 (by decide) ?_
    refine lv_iadd hx hb dX3_readSetting_49 ?_
    obtain ⟨o50, ho50, hf⟩ := bnd_some hf
    refine cr_callVv kc_3 CX hR hL hS (As := [.int ((cI M x0 2) + 1)]) (rest := []) hk_x0_4 (MC_X3_moveTo l x N K x0 ((cI M x0 2) + 1) M o50 ho50) cv_X3_42 ⟨by omega, by omega⟩ rfl rfl (Nat.le_of_ble_eq_true rfl) hl.1 dX3_readSetting_50 hcs (fun H locs hR hS => ?_)
    exact (wbT_X3_readSetting_53 CTX hRm hRc) _ _ _ _ _ _ _ _ _ hf hL hR hS (lv_sub hl [1, 2, 3, 0] rfl)
def bT_X3_readSetting_22 (N : Nat) (x0 : Nat) (x1 : Nat) (x2 : Int64) (K : Ka) (M : Cm) : Option ((Ka × Cm) ⊕ (Ka × Cm)) := gd (kd K x0 == 4) (if (cI M x0 3) = 45 then ((bT_X3_readSetting_36 N) x0 x1 x2 1 K M) else ((bT_X3_readSetting_36 N) x0 x1 x2 0 K M))
theorem mbT_X3_readSetting_22 {o : (Ka × Cm) ⊕ (Ka × Cm)} {N : Nat}  (x0 : Nat) (x1 : Nat) (x2 : Int64) (K : Ka) (M : Cm) (hf : bT_X3_readSetting_22 N x0 x1 x2 K M = some o) : KLe K (oK sV o) := by
  unfold bT_X3_readSetting_22 at hf
  obtain ⟨-, hf⟩ := gd_some hf
  by_cases hc : (cI M x0 3) = 45
  · rw [if_pos hc] at hf
    exact mbT_X3_readSetting_36 _ _ _ _ _ _ hf
  · rw [if_neg hc] at hf
    exact mbT_X3_readSetting_36 _ _ _ _ _ _ hf
set_option maxRecDepth 100000 in
set_option maxHeartbeats 4000000 in
theorem wbT_X3_readSetting_22 {p : Program} {l : Launch} {e : Env} {R : Room} {s : State} {m : MethodId} {args : Array Value} {below : List Frame} {meth : Method} {c : Code} {x : Xc} {K0 : Ka} {o : (Ka × Cm) ⊕ (Ka × Cm)} {N : Nat} (CTX : CT p l s m args meth c x K0 RX3 "readSetting" cX3_readSetting 6 none) (hRm : 8 ≤ R.frames ∧ 140 ≤ R.locals) (hRc : nz sV K0 o ≤ R.cells ∧ nu sV K0 o ≤ R.slots) (x0 : Nat) (x1 : Nat) (x2 : Int64) (K : Ka) (M : Cm) (H : Heap) (locs : List Loc) (ls : Array Slot) (hf : bT_X3_readSetting_22 N x0 x1 x2 K M = some o) (hL : KLe K0 K) (hR : RC x K M H) (hS : va_S (AC K0) s.heap H locs) (hl : lv_has ls 6 [(0, .ref x0), (1, .ref x1), (2, .long x2)]) : W p l e R s m args below meth c H locs (kz K - kz K0) (ku K - ku K0) (TQ sV (aQV x K0) (zQV K0) "java/lang/IllegalStateException" x K0 below args s o) (F0 m 22 ls []) := by
  obtain ⟨CX, hno, hlt, hmn⟩ := id CTX
  obtain ⟨hx, hb, hml, hown, hts, hE, hB, hr, hlk⟩ := id CX
  have hcs := nz_le (mbT_X3_readSetting_22  x0 x1 x2 K M hf) hRc
  unfold bT_X3_readSetting_22 at hf
  refine lv_aload_n hx hb dX3_readSetting_22 rfl (lv_at hl 0 rfl) ?_
  obtain ⟨hk_x0_4, hf⟩ := gd_some hf
  refine cr_getI kc_3 CX hR fa_X3_19 rfl hk_x0_4 dX3_readSetting_23 ?_
  refine lv_bipush (v := 45) hx hb dX3_readSetting_26 (by decide) ?_
  refine lv_icmp_ne (tgt := 35) hx hb dX3_readSetting_28 (by decide) (fun hc => ?_) (fun hc => ?_)
  · rw [if_neg hc] at hf
    refine lv_iconst (v := 0) hx hb dX3_readSetting_35 (by decide) ?_
    exact (wbT_X3_readSetting_36 CTX hRm hRc) _ _ _ _ _ _ _ _ _ hf hL hR hS (lv_sub hl [0, 1, 2] rfl)
  · rw [if_pos hc] at hf
    refine lv_iconst (v := 1) hx hb dX3_readSetting_31 (by decide) ?_
    refine lv_goto (tgt := 36) hx hb dX3_readSetting_32 (by decide) ?_
    exact (wbT_X3_readSetting_36 CTX hRm hRc) _ _ _ _ _ _ _ _ _ hf hL hR hS (lv_sub hl [0, 1, 2] rfl)
def bT_X3_readSetting_15 (N : Nat) (x0 : Nat) (x1 : Nat) (s0 : Int64) (K : Ka) (M : Cm) : Option ((Ka × Cm) ⊕ (Ka × Cm)) := gd (kd K x0 == 4) (tb (fT_X3_take N x0 61 K M) fun o19 => (bT_X3_readSetting_22 N) x0 x1 s0 o19.1 o19.2)
theorem mbT_X3_readSetting_15 {o : (Ka × Cm) ⊕ (Ka × Cm)} {N : Nat}  (x0 : Nat) (x1 : Nat) (s0 : Int64) (K : Ka) (M : Cm) (hf : bT_X3_readSetting_15 N x0 x1 s0 K M = some o) : KLe K (oK sV o) := by
  unfold bT_X3_readSetting_15 at hf
  obtain ⟨-, hf⟩ := gd_some hf
  rcases tb_some hf with ⟨o19, ho, hf⟩ | ⟨q, ho, rfl⟩
  · exact KLe.tr (mfT_X3_take _ _ _ _ ho) (mbT_X3_readSetting_22 _ _ _ _ _ hf)
  · exact (mfT_X3_take _ _ _ _ ho)
set_option maxRecDepth 100000 in
set_option maxHeartbeats 4000000 in
theorem wbT_X3_readSetting_15 {p : Program} {l : Launch} {e : Env} {R : Room} {s : State} {m : MethodId} {args : Array Value} {below : List Frame} {meth : Method} {c : Code} {x : Xc} {K0 : Ka} {o : (Ka × Cm) ⊕ (Ka × Cm)} {N : Nat} (CTX : CT p l s m args meth c x K0 RX3 "readSetting" cX3_readSetting 6 none) (hRm : 8 ≤ R.frames ∧ 140 ≤ R.locals) (hRc : nz sV K0 o ≤ R.cells ∧ nu sV K0 o ≤ R.slots) (x0 : Nat) (x1 : Nat) (s0 : Int64) (K : Ka) (M : Cm) (H : Heap) (locs : List Loc) (ls : Array Slot) (hf : bT_X3_readSetting_15 N x0 x1 s0 K M = some o) (hL : KLe K0 K) (hR : RC x K M H) (hS : va_S (AC K0) s.heap H locs) (hl : lv_has ls 6 [(0, .ref x0), (1, .ref x1)]) : W p l e R s m args below meth c H locs (kz K - kz K0) (ku K - ku K0) (TQ sV (aQV x K0) (zQV K0) "java/lang/IllegalStateException" x K0 below args s o) (F0 m 15 ls [.long s0]) := by
  obtain ⟨CX, hno, hlt, hmn⟩ := id CTX
  obtain ⟨hx, hb, hml, hown, hts, hE, hB, hr, hlk⟩ := id CX
  have hcs := nz_le (mbT_X3_readSetting_15  x0 x1 s0 K M hf) hRc
  unfold bT_X3_readSetting_15 at hf
  refine lv_lstore_n (lv' := [(2, .long s0), (0, .ref x0), (1, .ref x1)]) hx hb dX3_readSetting_15 rfl hl (by decide) rfl (fun ls hl => ?_)
  refine lv_aload_n hx hb dX3_readSetting_16 rfl (lv_at hl 1 rfl) ?_
  refine lv_bipush (v := 61) hx hb dX3_readSetting_17 (by decide) ?_
  obtain ⟨hk_x0_4, hf⟩ := gd_some hf
  rcases tb_some hf with ⟨o19, ho, hf⟩ | ⟨q, ho, rfl⟩
  · have hm1 := mbT_X3_readSetting_22 _ _ _ _ _ hf
    have hb1 := nz_le hm1 hRc
    have hq1 := (mfT_X3_take _ _ _ _ ho)
    refine ta_callVv kc_3 CX hL hR hS (As := [.int 61]) (rest := []) hk_x0_4 (MT_X3_take l x hlt N _ _ _ _ _ ho) cv_X3_119 ⟨by omega, by omega⟩ rfl (Nat.le_of_ble_eq_true rfl) hl.1 hq1 hb1 rfl dX3_readSetting_19 (fun H locs hR hS => ?_)
    exact (wbT_X3_readSetting_22 CTX hRm hRc) _ _ _ _ _ _ _ _ hf (hL.tr hq1) hR hS (lv_sub hl [1, 2, 0] rfl)
  · exact tx_callv kc_3 CTX hL hR hS (As := [.int 61]) (rest := []) hk_x0_4 (MT_X3_take l x hlt N _ _ _ _ _ ho) cv_X3_119 ⟨by omega, by omega⟩ rfl (Nat.le_of_ble_eq_true rfl) hl.1 (mfT_X3_take _ _ _ _ ho) hRc rfl dX3_readSetting_19
def fT_X3_readSetting (N : Nat) (x0 : Nat) (x1 : Nat) (K : Ka) (M : Cm) : Option ((Ka × Cm) ⊕ (Ka × Cm)) := gd (kd K x0 == 4) ((fC_X3_moveTo N K x0 ((cI M x0 2) + 1) M).bind fun o7 => tb (fT_X3_takeNewItemName N x0 x1 K o7) fun o12 => (bT_X3_readSetting_15 N) x0 x1 o12.1 o12.2.1 o12.2.2)
theorem mfT_X3_readSetting {o : (Ka × Cm) ⊕ (Ka × Cm)} {N : Nat}  (x0 : Nat) (x1 : Nat) (K : Ka) (M : Cm) (hf : fT_X3_readSetting N x0 x1 K M = some o) : KLe K (oK sV o) := by
  unfold fT_X3_readSetting at hf
  obtain ⟨-, hf⟩ := gd_some hf
  obtain ⟨o7, -, hf⟩ := bnd_some hf
  rcases tb_some hf with ⟨o12, ho, hf⟩ | ⟨q, ho, rfl⟩
  · exact KLe.tr (mfT_X3_takeNewItemName _ _ _ _ ho) (mbT_X3_readSetting_15 _ _ _ _ _ hf)
  · exact (mfT_X3_takeNewItemName _ _ _ _ ho)
set_option maxRecDepth 100000 in
set_option maxHeartbeats 4000000 in
theorem wfT_X3_readSetting {p : Program} {l : Launch} {e : Env} {R : Room} {s : State} {m : MethodId} {args : Array Value} {below : List Frame} {meth : Method} {c : Code} {x : Xc} {K0 : Ka} {o : (Ka × Cm) ⊕ (Ka × Cm)} {N : Nat} (CTX : CT p l s m args meth c x K0 RX3 "readSetting" cX3_readSetting 6 none) (hRm : 8 ≤ R.frames ∧ 140 ≤ R.locals) (hRc : nz sV K0 o ≤ R.cells ∧ nu sV K0 o ≤ R.slots) (x0 : Nat) (x1 : Nat) (K : Ka) (M : Cm) (H : Heap) (locs : List Loc) (ls : Array Slot) (hf : fT_X3_readSetting N x0 x1 K M = some o) (hL : KLe K0 K) (hR : RC x K M H) (hS : va_S (AC K0) s.heap H locs) (hl : lv_has ls 6 [(0, .ref x0), (1, .ref x1)]) : W p l e R s m args below meth c H locs (kz K - kz K0) (ku K - ku K0) (TQ sV (aQV x K0) (zQV K0) "java/lang/IllegalStateException" x K0 below args s o) (F0 m 0 ls []) := by
  obtain ⟨CX, hno, hlt, hmn⟩ := id CTX
  obtain ⟨hx, hb, hml, hown, hts, hE, hB, hr, hlk⟩ := id CX
  have hcs := nz_le (mfT_X3_readSetting  x0 x1 K M hf) hRc
  unfold fT_X3_readSetting at hf
  refine lv_aload_n hx hb dX3_readSetting_0 rfl (lv_at hl 0 rfl) ?_
  refine lv_aload_n hx hb dX3_readSetting_1 rfl (lv_at hl 0 rfl) ?_
  obtain ⟨hk_x0_4, hf⟩ := gd_some hf
  refine cr_getI kc_3 CX hR fa_X3_15 rfl hk_x0_4 dX3_readSetting_2 ?_
  refine lv_iconst (v := 1) hx hb dX3_readSetting_5 (by decide) ?_
  refine lv_iadd hx hb dX3_readSetting_6 ?_
  obtain ⟨o7, ho7, hf⟩ := bnd_some hf
  refine cr_callVv kc_3 CX hR hL hS (As := [.int ((cI M x0 2) + 1)]) (rest := []) hk_x0_4 (MC_X3_moveTo l x N K x0 ((cI M x0 2) + 1) M o7 ho7) cv_X3_42 ⟨by omega, by omega⟩ rfl rfl (Nat.le_of_ble_eq_true rfl) hl.1 dX3_readSetting_7 hcs (fun H locs hR hS => ?_)
  refine lv_aload_n hx hb dX3_readSetting_10 rfl (lv_at hl 0 rfl) ?_
  refine lv_aload_n hx hb dX3_readSetting_11 rfl (lv_at hl 1 rfl) ?_
  rcases tb_some hf with ⟨o12, ho, hf⟩ | ⟨q, ho, rfl⟩
  · have hm1 := mbT_X3_readSetting_15 _ _ _ _ _ hf
    have hb1 := nz_le hm1 hRc
    have hq1 := (mfT_X3_takeNewItemName _ _ _ _ ho)
    refine ta_callLv kc_3 CX hL hR hS (As := [.ref x1]) (rest := []) hk_x0_4 (MT_X3_takeNewItemName l x hlt N _ _ _ _ _ ho) cv_X3_220 ⟨by omega, by omega⟩ rfl (Nat.le_of_ble_eq_true rfl) hl.1 hq1 hb1 rfl dX3_readSetting_12 (fun H locs hR hS => ?_)
    exact (wbT_X3_readSetting_15 CTX hRm hRc) _ _ _ _ _ _ _ _ hf (hL.tr hq1) hR hS (lv_sub hl [0, 1] rfl)
  · exact tx_callv kc_3 CTX hL hR hS (As := [.ref x1]) (rest := []) hk_x0_4 (MT_X3_takeNewItemName l x hlt N _ _ _ _ _ ho) cv_X3_220 ⟨by omega, by omega⟩ rfl (Nat.le_of_ble_eq_true rfl) hl.1 (mfT_X3_takeNewItemName _ _ _ _ ho) hRc rfl dX3_readSetting_12
theorem MT_X3_readSetting (l : Launch) (x : Xc) (hlt : l.stackTraces = false) (N : Nat) (x0 : Nat) (x1 : Nat) (K : Ka) (M : Cm) (o : (Ka × Cm) ⊕ (Ka × Cm)) (hf : fT_X3_readSetting N x0 x1 K M = some o) : Tc sV (aQV x K) (zQV K) "java/lang/IllegalStateException" l x yX3_readSetting cX3_readSetting 6 none 8 140 [.ref x0, .ref x1] K M o :=
  tr_met RX3 "readSetting" hlt (by decide) rfl rfl (Nat.le_of_ble_eq_true rfl) (fun p e s m args below meth c ls CTX hR hl => wfT_X3_readSetting CTX ⟨Nat.le_refl _, Nat.le_refl _⟩ ⟨Nat.le_refl _, Nat.le_refl _⟩ x0 x1 K M s.heap [] ls hf (KLe.rf K) hR va_S.rf hl)
def bT_X3_readStatic_56 (N : Nat) (x0 : Nat) (s0 : Int32) (K : Ka) (M : Cm) : Option ((Ka × Cm) ⊕ (Ka × Cm)) := some (.inl (K, M))
theorem mbT_X3_readStatic_56 {o : (Ka × Cm) ⊕ (Ka × Cm)} {N : Nat}  (x0 : Nat) (s0 : Int32) (K : Ka) (M : Cm) (hf : bT_X3_readStatic_56 N x0 s0 K M = some o) : KLe K (oK sV o) := by
  unfold bT_X3_readStatic_56 at hf
  cases hf
  exact KLe.rf _
set_option maxRecDepth 100000 in
set_option maxHeartbeats 4000000 in
theorem wbT_X3_readStatic_56 {p : Program} {l : Launch} {e : Env} {R : Room} {s : State} {m : MethodId} {args : Array Value} {below : List Frame} {meth : Method} {c : Code} {x : Xc} {K0 : Ka} {o : (Ka × Cm) ⊕ (Ka × Cm)} {N : Nat} (CTX : CT p l s m args meth c x K0 RX3 "readStatic" cX3_readStatic 4 none) (hRm : 161 ≤ R.frames ∧ 9208 ≤ R.locals) (hRc : nz sV K0 o ≤ R.cells ∧ nu sV K0 o ≤ R.slots) (x0 : Nat) (s0 : Int32) (K : Ka) (M : Cm) (H : Heap) (locs : List Loc) (ls : Array Slot) (hf : bT_X3_readStatic_56 N x0 s0 K M = some o) (hL : KLe K0 K) (hR : RC x K M H) (hS : va_S (AC K0) s.heap H locs) (hl : lv_has ls 4 [(0, .ref x0)]) : W p l e R s m args below meth c H locs (kz K - kz K0) (ku K - ku K0) (TQ sV (aQV x K0) (zQV K0) "java/lang/IllegalStateException" x K0 below args s o) (F0 m 56 ls [.int s0]) := by
  obtain ⟨CX, hno, hlt, hmn⟩ := id CTX
  obtain ⟨hx, hb, hml, hown, hts, hE, hB, hr, hlk⟩ := id CX
  have hcs := nz_le (mbT_X3_readStatic_56  x0 s0 K M hf) hRc
  unfold bT_X3_readStatic_56 at hf
  refine lv_pop hx hb dX3_readStatic_56 rfl ?_
  exact tr_vret CX hR hS hf dX3_readStatic_57
def bT_X3_readStatic_42 (N : Nat) (x0 : Nat) (x1 : Nat) (x2 : Int64) (K : Ka) (M : Cm) : Option ((Ka × Cm) ⊕ (Ka × Cm)) := gd (kd K x0 == 4) (gd (kd K x1 == 8) ((fC_X7_addStatic N K x1 x2 M).bind fun o50 => ta (fT_X3_emit N x0 5 (cI M x0 4) o50.1 K o50.2) fun o53 => (bT_X3_readStatic_56 N) x0 o53.1 o53.2.1 o53.2.2))
theorem mbT_X3_readStatic_42 {o : (Ka × Cm) ⊕ (Ka × Cm)} {N : Nat}  (x0 : Nat) (x1 : Nat) (x2 : Int64) (K : Ka) (M : Cm) (hf : bT_X3_readStatic_42 N x0 x1 x2 K M = some o) : KLe K (oK sV o) := by
  unfold bT_X3_readStatic_42 at hf
  obtain ⟨-, hf⟩ := gd_some hf
  obtain ⟨-, hf⟩ := gd_some hf
  obtain ⟨o50, -, hf⟩ := bnd_some hf
  obtain ⟨o53, ho, hf⟩ := ta_some hf
  exact KLe.tr (mfT_X3_emit _ _ _ _ _ _ ho) (mbT_X3_readStatic_56 _ _ _ _ hf)
set_option maxRecDepth 100000 in
set_option maxHeartbeats 4000000 in
theorem wbT_X3_readStatic_42 {p : Program} {l : Launch} {e : Env} {R : Room} {s : State} {m : MethodId} {args : Array Value} {below : List Frame} {meth : Method} {c : Code} {x : Xc} {K0 : Ka} {o : (Ka × Cm) ⊕ (Ka × Cm)} {N : Nat} (CTX : CT p l s m args meth c x K0 RX3 "readStatic" cX3_readStatic 4 none) (hRm : 161 ≤ R.frames ∧ 9208 ≤ R.locals) (hRc : nz sV K0 o ≤ R.cells ∧ nu sV K0 o ≤ R.slots) (x0 : Nat) (x1 : Nat) (x2 : Int64) (K : Ka) (M : Cm) (H : Heap) (locs : List Loc) (ls : Array Slot) (hf : bT_X3_readStatic_42 N x0 x1 x2 K M = some o) (hL : KLe K0 K) (hR : RC x K M H) (hS : va_S (AC K0) s.heap H locs) (hl : lv_has ls 4 [(0, .ref x0), (1, .ref x1), (2, .long x2)]) : W p l e R s m args below meth c H locs (kz K - kz K0) (ku K - ku K0) (TQ sV (aQV x K0) (zQV K0) "java/lang/IllegalStateException" x K0 below args s o) (F0 m 42 ls []) := by
  obtain ⟨CX, hno, hlt, hmn⟩ := id CTX
  obtain ⟨hx, hb, hml, hown, hts, hE, hB, hr, hlk⟩ := id CX
  have hcs := nz_le (mbT_X3_readStatic_42  x0 x1 x2 K M hf) hRc
  unfold bT_X3_readStatic_42 at hf
  refine lv_aload_n hx hb dX3_readStatic_42 rfl (lv_at hl 0 rfl) ?_
  refine lv_iconst (v := 5) hx hb dX3_readStatic_43 (by decide) ?_
  refine lv_aload_n hx hb dX3_readStatic_44 rfl (lv_at hl 0 rfl) ?_
  obtain ⟨hk_x0_4, hf⟩ := gd_some hf
  refine cr_getI kc_3 CX hR fa_X3_22 rfl hk_x0_4 dX3_readStatic_45 ?_
  refine lv_aload_n hx hb dX3_readStatic_48 rfl (lv_at hl 1 rfl) ?_
  refine lv_lload_n hx hb dX3_readStatic_49 rfl (lv_at hl 2 rfl) ?_
  obtain ⟨hk_x1_8, hf⟩ := gd_some hf
  obtain ⟨o50, ho50, hf⟩ := bnd_some hf
  refine cr_callIv kc_7 CX hR hL hS (As := [.long x2]) (rest := [.int (cI M x0 4), .int 5, .ref x0]) hk_x1_8 (MC_X7_addStatic l x N K x1 x2 M o50 ho50) cv_X3_231 ⟨by omega, by omega⟩ rfl rfl (Nat.le_of_ble_eq_true rfl) hl.1 dX3_readStatic_50 hcs (fun H locs hR hS => ?_)
  obtain ⟨o53, ho, hf⟩ := ta_some hf
  have hm1 := mbT_X3_readStatic_56 _ _ _ _ hf
  have hb1 := nz_le hm1 hRc
  have hq1 := (mfT_X3_emit _ _ _ _ _ _ ho)
  refine ta_callIv kc_3 CX hL hR hS (As := [.int 5, .int (cI M x0 4), .int o50.1]) (rest := []) hk_x0_4 (MT_X3_emit l x hlt N _ _ _ _ _ _ _ ho) cv_X3_144 ⟨by omega, by omega⟩ rfl (Nat.le_of_ble_eq_true rfl) hl.1 hq1 hb1 rfl dX3_readStatic_53 (fun H locs hR hS => ?_)
  exact (wbT_X3_readStatic_56 CTX hRm hRc) _ _ _ _ _ _ _ hf (hL.tr hq1) hR hS (lv_sub hl [0] rfl)
def bT_X3_readStatic_36 (N : Nat) (x0 : Nat) (x1 : Nat) (x2 : Int64) (K : Ka) (M : Cm) : Option ((Ka × Cm) ⊕ (Ka × Cm)) := gd (kd K x0 == 4) (tb (fT_X3_take N x0 59 K M) fun o39 => (bT_X3_readStatic_42 N) x0 x1 x2 o39.1 o39.2)
theorem mbT_X3_readStatic_36 {o : (Ka × Cm) ⊕ (Ka × Cm)} {N : Nat}  (x0 : Nat) (x1 : Nat) (x2 : Int64) (K : Ka) (M : Cm) (hf : bT_X3_readStatic_36 N x0 x1 x2 K M = some o) : KLe K (oK sV o) := by
  unfold bT_X3_readStatic_36 at hf
  obtain ⟨-, hf⟩ := gd_some hf
  rcases tb_some hf with ⟨o39, ho, hf⟩ | ⟨q, ho, rfl⟩
  · exact KLe.tr (mfT_X3_take _ _ _ _ ho) (mbT_X3_readStatic_42 _ _ _ _ _ hf)
  · exact (mfT_X3_take _ _ _ _ ho)
set_option maxRecDepth 100000 in
set_option maxHeartbeats 4000000 in
theorem wbT_X3_readStatic_36 {p : Program} {l : Launch} {e : Env} {R : Room} {s : State} {m : MethodId} {args : Array Value} {below : List Frame} {meth : Method} {c : Code} {x : Xc} {K0 : Ka} {o : (Ka × Cm) ⊕ (Ka × Cm)} {N : Nat} (CTX : CT p l s m args meth c x K0 RX3 "readStatic" cX3_readStatic 4 none) (hRm : 161 ≤ R.frames ∧ 9208 ≤ R.locals) (hRc : nz sV K0 o ≤ R.cells ∧ nu sV K0 o ≤ R.slots) (x0 : Nat) (x1 : Nat) (x2 : Int64) (K : Ka) (M : Cm) (H : Heap) (locs : List Loc) (ls : Array Slot) (hf : bT_X3_readStatic_36 N x0 x1 x2 K M = some o) (hL : KLe K0 K) (hR : RC x K M H) (hS : va_S (AC K0) s.heap H locs) (hl : lv_has ls 4 [(0, .ref x0), (1, .ref x1), (2, .long x2)]) : W p l e R s m args below meth c H locs (kz K - kz K0) (ku K - ku K0) (TQ sV (aQV x K0) (zQV K0) "java/lang/IllegalStateException" x K0 below args s o) (F0 m 36 ls []) := by
  obtain ⟨CX, hno, hlt, hmn⟩ := id CTX
  obtain ⟨hx, hb, hml, hown, hts, hE, hB, hr, hlk⟩ := id CX
  have hcs := nz_le (mbT_X3_readStatic_36  x0 x1 x2 K M hf) hRc
  unfold bT_X3_readStatic_36 at hf
  refine lv_aload_n hx hb dX3_readStatic_36 rfl (lv_at hl 0 rfl) ?_
  refine lv_bipush (v := 59) hx hb dX3_readStatic_37 (by decide) ?_
  obtain ⟨hk_x0_4, hf⟩ := gd_some hf
  rcases tb_some hf with ⟨o39, ho, hf⟩ | ⟨q, ho, rfl⟩
  · have hm1 := mbT_X3_readStatic_42 _ _ _ _ _ hf
    have hb1 := nz_le hm1 hRc
    have hq1 := (mfT_X3_take _ _ _ _ ho)
    refine ta_callVv kc_3 CX hL hR hS (As := [.int 59]) (rest := []) hk_x0_4 (MT_X3_take l x hlt N _ _ _ _ _ ho) cv_X3_119 ⟨by omega, by omega⟩ rfl (Nat.le_of_ble_eq_true rfl) hl.1 hq1 hb1 rfl dX3_readStatic_39 (fun H locs hR hS => ?_)
    exact (wbT_X3_readStatic_42 CTX hRm hRc) _ _ _ _ _ _ _ _ hf (hL.tr hq1) hR hS (lv_sub hl [0, 1, 2] rfl)
  · exact tx_callv kc_3 CTX hL hR hS (As := [.int 59]) (rest := []) hk_x0_4 (MT_X3_take l x hlt N _ _ _ _ _ ho) cv_X3_119 ⟨by omega, by omega⟩ rfl (Nat.le_of_ble_eq_true rfl) hl.1 (mfT_X3_take _ _ _ _ ho) hRc rfl dX3_readStatic_39
def bT_X3_readStatic_30 (N : Nat) (x0 : Nat) (x1 : Nat) (x2 : Int64) (K : Ka) (M : Cm) : Option ((Ka × Cm) ⊕ (Ka × Cm)) := gd (kd K x0 == 4) (tb (fGT_X3_readExpression N x0 0 0 K M) fun o33 => (bT_X3_readStatic_36 N) x0 x1 x2 o33.1 o33.2)
theorem mbT_X3_readStatic_30 {o : (Ka × Cm) ⊕ (Ka × Cm)} {N : Nat}  (x0 : Nat) (x1 : Nat) (x2 : Int64) (K : Ka) (M : Cm) (hf : bT_X3_readStatic_30 N x0 x1 x2 K M = some o) : KLe K (oK sV o) := by
  unfold bT_X3_readStatic_30 at hf
  obtain ⟨-, hf⟩ := gd_some hf
  rcases tb_some hf with ⟨o33, ho, hf⟩ | ⟨q, ho, rfl⟩
  · exact KLe.tr (mGT_X3_readExpression ho) (mbT_X3_readStatic_36 _ _ _ _ _ hf)
  · exact (mGT_X3_readExpression ho)
set_option maxRecDepth 100000 in
set_option maxHeartbeats 4000000 in
theorem wbT_X3_readStatic_30 {p : Program} {l : Launch} {e : Env} {R : Room} {s : State} {m : MethodId} {args : Array Value} {below : List Frame} {meth : Method} {c : Code} {x : Xc} {K0 : Ka} {o : (Ka × Cm) ⊕ (Ka × Cm)} {N : Nat} (CTX : CT p l s m args meth c x K0 RX3 "readStatic" cX3_readStatic 4 none) (hRm : 161 ≤ R.frames ∧ 9208 ≤ R.locals) (hRc : nz sV K0 o ≤ R.cells ∧ nu sV K0 o ≤ R.slots) (x0 : Nat) (x1 : Nat) (x2 : Int64) (K : Ka) (M : Cm) (H : Heap) (locs : List Loc) (ls : Array Slot) (hf : bT_X3_readStatic_30 N x0 x1 x2 K M = some o) (hL : KLe K0 K) (hR : RC x K M H) (hS : va_S (AC K0) s.heap H locs) (hl : lv_has ls 4 [(0, .ref x0), (1, .ref x1), (2, .long x2)]) : W p l e R s m args below meth c H locs (kz K - kz K0) (ku K - ku K0) (TQ sV (aQV x K0) (zQV K0) "java/lang/IllegalStateException" x K0 below args s o) (F0 m 30 ls []) := by
  obtain ⟨CX, hno, hlt, hmn⟩ := id CTX
  obtain ⟨hx, hb, hml, hown, hts, hE, hB, hr, hlk⟩ := id CX
  have hcs := nz_le (mbT_X3_readStatic_30  x0 x1 x2 K M hf) hRc
  unfold bT_X3_readStatic_30 at hf
  refine lv_aload_n hx hb dX3_readStatic_30 rfl (lv_at hl 0 rfl) ?_
  refine lv_iconst (v := 0) hx hb dX3_readStatic_31 (by decide) ?_
  refine lv_iconst (v := 0) hx hb dX3_readStatic_32 (by decide) ?_
  obtain ⟨hk_x0_4, hf⟩ := gd_some hf
  rcases tb_some hf with ⟨o33, ho, hf⟩ | ⟨q, ho, rfl⟩
  · have hm1 := mbT_X3_readStatic_36 _ _ _ _ _ hf
    have hb1 := nz_le hm1 hRc
    have hq1 := (mGT_X3_readExpression ho)
    refine ta_callVv kc_3 CX hL hR hS (As := [.int 0, .int 0]) (rest := []) hk_x0_4 (MGT_X3_readExpression l x hlt N _ _ _ _ _ _ ho) cv_X3_227 ⟨by omega, by omega⟩ rfl (Nat.le_of_ble_eq_true rfl) hl.1 hq1 hb1 rfl dX3_readStatic_33 (fun H locs hR hS => ?_)
    exact (wbT_X3_readStatic_36 CTX hRm hRc) _ _ _ _ _ _ _ _ hf (hL.tr hq1) hR hS (lv_sub hl [0, 1, 2] rfl)
  · exact tx_callv kc_3 CTX hL hR hS (As := [.int 0, .int 0]) (rest := []) hk_x0_4 (MGT_X3_readExpression l x hlt N _ _ _ _ _ _ ho) cv_X3_227 ⟨by omega, by omega⟩ rfl (Nat.le_of_ble_eq_true rfl) hl.1 (mGT_X3_readExpression ho) hRc rfl dX3_readStatic_33
def bT_X3_readStatic_23 (N : Nat) (x0 : Nat) (x1 : Nat) (s0 : Int64) (K : Ka) (M : Cm) : Option ((Ka × Cm) ⊕ (Ka × Cm)) := gd (kd K x0 == 4) (tb (fT_X3_take N x0 61 K M) fun o27 => (bT_X3_readStatic_30 N) x0 x1 s0 o27.1 o27.2)
theorem mbT_X3_readStatic_23 {o : (Ka × Cm) ⊕ (Ka × Cm)} {N : Nat}  (x0 : Nat) (x1 : Nat) (s0 : Int64) (K : Ka) (M : Cm) (hf : bT_X3_readStatic_23 N x0 x1 s0 K M = some o) : KLe K (oK sV o) := by
  unfold bT_X3_readStatic_23 at hf
  obtain ⟨-, hf⟩ := gd_some hf
  rcases tb_some hf with ⟨o27, ho, hf⟩ | ⟨q, ho, rfl⟩
  · exact KLe.tr (mfT_X3_take _ _ _ _ ho) (mbT_X3_readStatic_30 _ _ _ _ _ hf)
  · exact (mfT_X3_take _ _ _ _ ho)
set_option maxRecDepth 100000 in
set_option maxHeartbeats 4000000 in
theorem wbT_X3_readStatic_23 {p : Program} {l : Launch} {e : Env} {R : Room} {s : State} {m : MethodId} {args : Array Value} {below : List Frame} {meth : Method} {c : Code} {x : Xc} {K0 : Ka} {o : (Ka × Cm) ⊕ (Ka × Cm)} {N : Nat} (CTX : CT p l s m args meth c x K0 RX3 "readStatic" cX3_readStatic 4 none) (hRm : 161 ≤ R.frames ∧ 9208 ≤ R.locals) (hRc : nz sV K0 o ≤ R.cells ∧ nu sV K0 o ≤ R.slots) (x0 : Nat) (x1 : Nat) (s0 : Int64) (K : Ka) (M : Cm) (H : Heap) (locs : List Loc) (ls : Array Slot) (hf : bT_X3_readStatic_23 N x0 x1 s0 K M = some o) (hL : KLe K0 K) (hR : RC x K M H) (hS : va_S (AC K0) s.heap H locs) (hl : lv_has ls 4 [(0, .ref x0), (1, .ref x1)]) : W p l e R s m args below meth c H locs (kz K - kz K0) (ku K - ku K0) (TQ sV (aQV x K0) (zQV K0) "java/lang/IllegalStateException" x K0 below args s o) (F0 m 23 ls [.long s0]) := by
  obtain ⟨CX, hno, hlt, hmn⟩ := id CTX
  obtain ⟨hx, hb, hml, hown, hts, hE, hB, hr, hlk⟩ := id CX
  have hcs := nz_le (mbT_X3_readStatic_23  x0 x1 s0 K M hf) hRc
  unfold bT_X3_readStatic_23 at hf
  refine lv_lstore_n (lv' := [(2, .long s0), (0, .ref x0), (1, .ref x1)]) hx hb dX3_readStatic_23 rfl hl (by decide) rfl (fun ls hl => ?_)
  refine lv_aload_n hx hb dX3_readStatic_24 rfl (lv_at hl 1 rfl) ?_
  refine lv_bipush (v := 61) hx hb dX3_readStatic_25 (by decide) ?_
  obtain ⟨hk_x0_4, hf⟩ := gd_some hf
  rcases tb_some hf with ⟨o27, ho, hf⟩ | ⟨q, ho, rfl⟩
  · have hm1 := mbT_X3_readStatic_30 _ _ _ _ _ hf
    have hb1 := nz_le hm1 hRc
    have hq1 := (mfT_X3_take _ _ _ _ ho)
    refine ta_callVv kc_3 CX hL hR hS (As := [.int 61]) (rest := []) hk_x0_4 (MT_X3_take l x hlt N _ _ _ _ _ ho) cv_X3_119 ⟨by omega, by omega⟩ rfl (Nat.le_of_ble_eq_true rfl) hl.1 hq1 hb1 rfl dX3_readStatic_27 (fun H locs hR hS => ?_)
    exact (wbT_X3_readStatic_30 CTX hRm hRc) _ _ _ _ _ _ _ _ hf (hL.tr hq1) hR hS (lv_sub hl [1, 2, 0] rfl)
  · exact tx_callv kc_3 CTX hL hR hS (As := [.int 61]) (rest := []) hk_x0_4 (MT_X3_take l x hlt N _ _ _ _ _ ho) cv_X3_119 ⟨by omega, by omega⟩ rfl (Nat.le_of_ble_eq_true rfl) hl.1 (mfT_X3_take _ _ _ _ ho) hRc rfl dX3_readStatic_27
def bT_X3_readStatic_17 (N : Nat) (x0 : Nat) (x1 : Nat) (s0 : Int32) (K : Ka) (M : Cm) : Option ((Ka × Cm) ⊕ (Ka × Cm)) := gd (kd K x0 == 4) (tb (fT_X3_takeNewItemName N x0 x1 K M) fun o20 => (bT_X3_readStatic_23 N) x0 x1 o20.1 o20.2.1 o20.2.2)
theorem mbT_X3_readStatic_17 {o : (Ka × Cm) ⊕ (Ka × Cm)} {N : Nat}  (x0 : Nat) (x1 : Nat) (s0 : Int32) (K : Ka) (M : Cm) (hf : bT_X3_readStatic_17 N x0 x1 s0 K M = some o) : KLe K (oK sV o) := by
  unfold bT_X3_readStatic_17 at hf
  obtain ⟨-, hf⟩ := gd_some hf
  rcases tb_some hf with ⟨o20, ho, hf⟩ | ⟨q, ho, rfl⟩
  · exact KLe.tr (mfT_X3_takeNewItemName _ _ _ _ ho) (mbT_X3_readStatic_23 _ _ _ _ _ hf)
  · exact (mfT_X3_takeNewItemName _ _ _ _ ho)
set_option maxRecDepth 100000 in
set_option maxHeartbeats 4000000 in
theorem wbT_X3_readStatic_17 {p : Program} {l : Launch} {e : Env} {R : Room} {s : State} {m : MethodId} {args : Array Value} {below : List Frame} {meth : Method} {c : Code} {x : Xc} {K0 : Ka} {o : (Ka × Cm) ⊕ (Ka × Cm)} {N : Nat} (CTX : CT p l s m args meth c x K0 RX3 "readStatic" cX3_readStatic 4 none) (hRm : 161 ≤ R.frames ∧ 9208 ≤ R.locals) (hRc : nz sV K0 o ≤ R.cells ∧ nu sV K0 o ≤ R.slots) (x0 : Nat) (x1 : Nat) (s0 : Int32) (K : Ka) (M : Cm) (H : Heap) (locs : List Loc) (ls : Array Slot) (hf : bT_X3_readStatic_17 N x0 x1 s0 K M = some o) (hL : KLe K0 K) (hR : RC x K M H) (hS : va_S (AC K0) s.heap H locs) (hl : lv_has ls 4 [(0, .ref x0), (1, .ref x1)]) : W p l e R s m args below meth c H locs (kz K - kz K0) (ku K - ku K0) (TQ sV (aQV x K0) (zQV K0) "java/lang/IllegalStateException" x K0 below args s o) (F0 m 17 ls [.int s0]) := by
  obtain ⟨CX, hno, hlt, hmn⟩ := id CTX
  obtain ⟨hx, hb, hml, hown, hts, hE, hB, hr, hlk⟩ := id CX
  have hcs := nz_le (mbT_X3_readStatic_17  x0 x1 s0 K M hf) hRc
  unfold bT_X3_readStatic_17 at hf
  refine lv_pop hx hb dX3_readStatic_17 rfl ?_
  refine lv_aload_n hx hb dX3_readStatic_18 rfl (lv_at hl 0 rfl) ?_
  refine lv_aload_n hx hb dX3_readStatic_19 rfl (lv_at hl 1 rfl) ?_
  obtain ⟨hk_x0_4, hf⟩ := gd_some hf
  rcases tb_some hf with ⟨o20, ho, hf⟩ | ⟨q, ho, rfl⟩
  · have hm1 := mbT_X3_readStatic_23 _ _ _ _ _ hf
    have hb1 := nz_le hm1 hRc
    have hq1 := (mfT_X3_takeNewItemName _ _ _ _ ho)
    refine ta_callLv kc_3 CX hL hR hS (As := [.ref x1]) (rest := []) hk_x0_4 (MT_X3_takeNewItemName l x hlt N _ _ _ _ _ ho) cv_X3_220 ⟨by omega, by omega⟩ rfl (Nat.le_of_ble_eq_true rfl) hl.1 hq1 hb1 rfl dX3_readStatic_20 (fun H locs hR hS => ?_)
    exact (wbT_X3_readStatic_23 CTX hRm hRc) _ _ _ _ _ _ _ _ hf (hL.tr hq1) hR hS (lv_sub hl [0, 1] rfl)
  · exact tx_callv kc_3 CTX hL hR hS (As := [.ref x1]) (rest := []) hk_x0_4 (MT_X3_takeNewItemName l x hlt N _ _ _ _ _ ho) cv_X3_220 ⟨by omega, by omega⟩ rfl (Nat.le_of_ble_eq_true rfl) hl.1 (mfT_X3_takeNewItemName _ _ _ _ ho) hRc rfl dX3_readStatic_20
def fT_X3_readStatic (N : Nat) (x0 : Nat) (x1 : Nat) (K : Ka) (M : Cm) : Option ((Ka × Cm) ⊕ (Ka × Cm)) := gd (kd K x0 == 4) ((fC_X3_moveTo N K x0 ((cI M x0 2) + 1) M).bind fun o7 => ta (fT_X3_emit N x0 1 0 0 K o7) fun o14 => (bT_X3_readStatic_17 N) x0 x1 o14.1 o14.2.1 o14.2.2)
theorem mfT_X3_readStatic {o : (Ka × Cm) ⊕ (Ka × Cm)} {N : Nat}  (x0 : Nat) (x1 : Nat) (K : Ka) (M : Cm) (hf : fT_X3_readStatic N x0 x1 K M = some o) : KLe K (oK sV o) := by
  unfold fT_X3_readStatic at hf
  obtain ⟨-, hf⟩ := gd_some hf
  obtain ⟨o7, -, hf⟩ := bnd_some hf
  obtain ⟨o14, ho, hf⟩ := ta_some hf
  exact KLe.tr (mfT_X3_emit _ _ _ _ _ _ ho) (mbT_X3_readStatic_17 _ _ _ _ _ hf)
set_option maxRecDepth 100000 in
set_option maxHeartbeats 4000000 in
theorem wfT_X3_readStatic {p : Program} {l : Launch} {e : Env} {R : Room} {s : State} {m : MethodId} {args : Array Value} {below : List Frame} {meth : Method} {c : Code} {x : Xc} {K0 : Ka} {o : (Ka × Cm) ⊕ (Ka × Cm)} {N : Nat} (CTX : CT p l s m args meth c x K0 RX3 "readStatic" cX3_readStatic 4 none) (hRm : 161 ≤ R.frames ∧ 9208 ≤ R.locals) (hRc : nz sV K0 o ≤ R.cells ∧ nu sV K0 o ≤ R.slots) (x0 : Nat) (x1 : Nat) (K : Ka) (M : Cm) (H : Heap) (locs : List Loc) (ls : Array Slot) (hf : fT_X3_readStatic N x0 x1 K M = some o) (hL : KLe K0 K) (hR : RC x K M H) (hS : va_S (AC K0) s.heap H locs) (hl : lv_has ls 4 [(0, .ref x0), (1, .ref x1)]) : W p l e R s m args below meth c H locs (kz K - kz K0) (ku K - ku K0) (TQ sV (aQV x K0) (zQV K0) "java/lang/IllegalStateException" x K0 below args s o) (F0 m 0 ls []) := by
  obtain ⟨CX, hno, hlt, hmn⟩ := id CTX
  obtain ⟨hx, hb, hml, hown, hts, hE, hB, hr, hlk⟩ := id CX
  have hcs := nz_le (mfT_X3_readStatic  x0 x1 K M hf) hRc
  unfold fT_X3_readStatic at hf
  refine lv_aload_n hx hb dX3_readStatic_0 rfl (lv_at hl 0 rfl) ?_
  refine lv_aload_n hx hb dX3_readStatic_1 rfl (lv_at hl 0 rfl) ?_
  obtain ⟨hk_x0_4, hf⟩ := gd_some hf
  refine cr_getI kc_3 CX hR fa_X3_15 rfl hk_x0_4 dX3_readStatic_2 ?_
  refine lv_iconst (v := 1) hx hb dX3_readStatic_5 (by decide) ?_
  refine lv_iadd hx hb dX3_readStatic_6 ?_
  obtain ⟨o7, ho7, hf⟩ := bnd_some hf
  refine cr_callVv kc_3 CX hR hL hS (As := [.int ((cI M x0 2) + 1)]) (rest := []) hk_x0_4 (MC_X3_moveTo l x N K x0 ((cI M x0 2) + 1) M o7 ho7) cv_X3_42 ⟨by omega, by omega⟩ rfl rfl (Nat.le_of_ble_eq_true rfl) hl.1 dX3_readStatic_7 hcs (fun H locs hR hS => ?_)
  refine lv_aload_n hx hb dX3_readStatic_10 rfl (lv_at hl 0 rfl) ?_
  refine lv_iconst (v := 1) hx hb dX3_readStatic_11 (by decide) ?_
  refine lv_iconst (v := 0) hx hb dX3_readStatic_12 (by decide) ?_
  refine lv_iconst (v := 0) hx hb dX3_readStatic_13 (by decide) ?_
  obtain ⟨o14, ho, hf⟩ := ta_some hf
  have hm1 := mbT_X3_readStatic_17 _ _ _ _ _ hf
  have hb1 := nz_le hm1 hRc
  have hq1 := (mfT_X3_emit _ _ _ _ _ _ ho)
  refine ta_callIv kc_3 CX hL hR hS (As := [.int 1, .int 0, .int 0]) (rest := []) hk_x0_4 (MT_X3_emit l x hlt N _ _ _ _ _ _ _ ho) cv_X3_144 ⟨by omega, by omega⟩ rfl (Nat.le_of_ble_eq_true rfl) hl.1 hq1 hb1 rfl dX3_readStatic_14 (fun H locs hR hS => ?_)
  exact (wbT_X3_readStatic_17 CTX hRm hRc) _ _ _ _ _ _ _ _ hf (hL.tr hq1) hR hS (lv_sub hl [0, 1] rfl)
theorem MT_X3_readStatic (l : Launch) (x : Xc) (hlt : l.stackTraces = false) (N : Nat) (x0 : Nat) (x1 : Nat) (K : Ka) (M : Cm) (o : (Ka × Cm) ⊕ (Ka × Cm)) (hf : fT_X3_readStatic N x0 x1 K M = some o) : Tc sV (aQV x K) (zQV K) "java/lang/IllegalStateException" l x yX3_readStatic cX3_readStatic 4 none 161 9208 [.ref x0, .ref x1] K M o :=
  tr_met RX3 "readStatic" hlt (by decide) rfl rfl (Nat.le_of_ble_eq_true rfl) (fun p e s m args below meth c ls CTX hR hl => wfT_X3_readStatic CTX ⟨Nat.le_refl _, Nat.le_refl _⟩ ⟨Nat.le_refl _, Nat.le_refl _⟩ x0 x1 K M s.heap [] ls hf (KLe.rf K) hR va_S.rf hl)
