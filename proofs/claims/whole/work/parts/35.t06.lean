def bT_X4_init_83 (N : Nat) (x0 : Nat) (s0 : Nat) (s1 : Nat) (K : Ka) (M : Cm) : Option ((Ka × Cm) ⊕ (Ka × Cm)) := gd (kd K s0 == 5) (gd (kd K x0 == 5) (some (.inl (K, wI (wI (wR M s0 9 (some s1)) x0 10 0) x0 11 0))))
theorem mbT_X4_init_83 {o : (Ka × Cm) ⊕ (Ka × Cm)} {N : Nat}  (x0 : Nat) (s0 : Nat) (s1 : Nat) (K : Ka) (M : Cm) (hf : bT_X4_init_83 N x0 s0 s1 K M = some o) : KLe K (oK sV o) := by
  unfold bT_X4_init_83 at hf
  obtain ⟨-, hf⟩ := gd_some hf
  obtain ⟨-, hf⟩ := gd_some hf
  cases hf
  exact KLe.rf _
set_option maxRecDepth 100000 in
set_option maxHeartbeats 4000000 in
theorem wbT_X4_init_83 {p : Program} {l : Launch} {e : Env} {R : Room} {s : State} {m : MethodId} {args : Array Value} {below : List Frame} {meth : Method} {c : Code} {x : Xc} {K0 : Ka} {o : (Ka × Cm) ⊕ (Ka × Cm)} {N : Nat} (CTX : CT p l s m args meth c x K0 RX4 "<init>" cX4_init 1 none) (hRm : 6 ≤ R.frames ∧ 95 ≤ R.locals) (hRc : nz sV K0 o ≤ R.cells ∧ nu sV K0 o ≤ R.slots) (x0 : Nat) (s0 : Nat) (s1 : Nat) (K : Ka) (M : Cm) (H : Heap) (locs : List Loc) (ls : Array Slot) (hf : bT_X4_init_83 N x0 s0 s1 K M = some o) (hL : KLe K0 K) (hR : RC x K M H) (hS : va_S (AC K0) s.heap H locs) (hl : lv_has ls 1 [(0, .ref x0)]) : W p l e R s m args below meth c H locs (kz K - kz K0) (ku K - ku K0) (TQ sV (aQV x K0) (zQV K0) "java/lang/IllegalStateException" x K0 below args s o) (F0 m 83 ls [.ref s1, .ref s0]) := by
  obtain ⟨CX, hno, hlt, hmn⟩ := id CTX
  obtain ⟨hx, hb, hml, hown, hts, hE, hB, hr, hlk⟩ := id CX
  have hcs := nz_le (mbT_X4_init_83  x0 s0 s1 K M hf) hRc
  unfold bT_X4_init_83 at hf
  obtain ⟨hk_s0_5, hf⟩ := gd_some hf
  refine tr_putFR kc_4 CX hmn hR hL hS (v := some s1) ff_X4_39 ⟨rfl, rfl, .inr ⟨_, rfl⟩⟩ hk_s0_5 dX4_init_83 (fun H locs hR hS => ?_)
  refine lv_aload_n hx hb dX4_init_86 rfl (lv_at hl 0 rfl) ?_
  refine lv_iconst (v := 0) hx hb dX4_init_87 (by decide) ?_
  obtain ⟨hk_x0_5, hf⟩ := gd_some hf
  refine cr_putI kc_4 CX hR hL hS fa_X4_42 ⟨rfl, rfl, rfl⟩ hk_x0_5 dX4_init_88 (fun H locs hR hS => ?_)
  refine lv_aload_n hx hb dX4_init_91 rfl (lv_at hl 0 rfl) ?_
  refine lv_iconst (v := 0) hx hb dX4_init_92 (by decide) ?_
  refine cr_putI kc_4 CX hR hL hS fa_X4_46 ⟨rfl, rfl, rfl⟩ hk_x0_5 dX4_init_93 (fun H locs hR hS => ?_)
  exact tr_vret CX hR hS hf dX4_init_96
def bT_X4_init_75 (N : Nat) (x0 : Nat) (s0 : Nat) (s1 : Nat) (K : Ka) (M : Cm) : Option ((Ka × Cm) ⊕ (Ka × Cm)) := gd (kd K s0 == 5) (gd (decide (¬ (24 : Int32) < 0 ∧ (24 : Int32).toNatClampNeg ≤ 1000000)) ((bT_X4_init_83 N) x0 x0 (kz K) (kNew K 22 (24 : Int32).toNatClampNeg (24 : Int32).toNatClampNeg) (mZ (wR M s0 8 (some s1)) (kz K))))
theorem mbT_X4_init_75 {o : (Ka × Cm) ⊕ (Ka × Cm)} {N : Nat}  (x0 : Nat) (s0 : Nat) (s1 : Nat) (K : Ka) (M : Cm) (hf : bT_X4_init_75 N x0 s0 s1 K M = some o) : KLe K (oK sV o) := by
  unfold bT_X4_init_75 at hf
  obtain ⟨-, hf⟩ := gd_some hf
  obtain ⟨-, hf⟩ := gd_some hf
  exact (kNew_le _ _ _ _).tr (mbT_X4_init_83 _ _ _ _ _ hf)
set_option maxRecDepth 100000 in
set_option maxHeartbeats 4000000 in
theorem wbT_X4_init_75 {p : Program} {l : Launch} {e : Env} {R : Room} {s : State} {m : MethodId} {args : Array Value} {below : List Frame} {meth : Method} {c : Code} {x : Xc} {K0 : Ka} {o : (Ka × Cm) ⊕ (Ka × Cm)} {N : Nat} (CTX : CT p l s m args meth c x K0 RX4 "<init>" cX4_init 1 none) (hRm : 6 ≤ R.frames ∧ 95 ≤ R.locals) (hRc : nz sV K0 o ≤ R.cells ∧ nu sV K0 o ≤ R.slots) (x0 : Nat) (s0 : Nat) (s1 : Nat) (K : Ka) (M : Cm) (H : Heap) (locs : List Loc) (ls : Array Slot) (hf : bT_X4_init_75 N x0 s0 s1 K M = some o) (hL : KLe K0 K) (hR : RC x K M H) (hS : va_S (AC K0) s.heap H locs) (hl : lv_has ls 1 [(0, .ref x0)]) : W p l e R s m args below meth c H locs (kz K - kz K0) (ku K - ku K0) (TQ sV (aQV x K0) (zQV K0) "java/lang/IllegalStateException" x K0 below args s o) (F0 m 75 ls [.ref s1, .ref s0]) := by
  obtain ⟨CX, hno, hlt, hmn⟩ := id CTX
  obtain ⟨hx, hb, hml, hown, hts, hE, hB, hr, hlk⟩ := id CX
  have hcs := nz_le (mbT_X4_init_75  x0 s0 s1 K M hf) hRc
  unfold bT_X4_init_75 at hf
  obtain ⟨hk_s0_5, hf⟩ := gd_some hf
  refine tr_putFR kc_4 CX hmn hR hL hS (v := some s1) ff_X4_36 ⟨rfl, rfl, .inr ⟨_, rfl⟩⟩ hk_s0_5 dX4_init_75 (fun H locs hR hS => ?_)
  refine lv_aload_n hx hb dX4_init_78 rfl (lv_at hl 0 rfl) ?_
  refine lv_bipush (v := 24) hx hb dX4_init_79 (by decide) ?_
  obtain ⟨hq, hf⟩ := gd_some hf
  have hm1 := mbT_X4_init_83 _ _ _ _ _ hf
  have hb1 := nz_le hm1 hRc
  refine tr_newai CX hL hR hS hq hb1 dX4_init_81 (fun H hR hS => ?_)
  exact (wbT_X4_init_83 CTX hRm hRc) _ _ _ _ _ _ _ _ hf (hL.tr (kNew_le _ _ _ _)) hR hS (lv_sub hl [0] rfl)
def bT_X4_init_67 (N : Nat) (x0 : Nat) (s0 : Nat) (s1 : Nat) (K : Ka) (M : Cm) : Option ((Ka × Cm) ⊕ (Ka × Cm)) := gd (kd K s0 == 5) (gd (decide (¬ (24 : Int32) < 0 ∧ (24 : Int32).toNatClampNeg ≤ 1000000)) ((bT_X4_init_75 N) x0 x0 (kz K) (kNew K 22 (24 : Int32).toNatClampNeg (24 : Int32).toNatClampNeg) (mZ (wR M s0 7 (some s1)) (kz K))))
theorem mbT_X4_init_67 {o : (Ka × Cm) ⊕ (Ka × Cm)} {N : Nat}  (x0 : Nat) (s0 : Nat) (s1 : Nat) (K : Ka) (M : Cm) (hf : bT_X4_init_67 N x0 s0 s1 K M = some o) : KLe K (oK sV o) := by
  unfold bT_X4_init_67 at hf
  obtain ⟨-, hf⟩ := gd_some hf
  obtain ⟨-, hf⟩ := gd_some hf
  exact (kNew_le _ _ _ _).tr (mbT_X4_init_75 _ _ _ _ _ hf)
set_option maxRecDepth 100000 in
set_option maxHeartbeats 4000000 in
theorem wbT_X4_init_67 {p : Program} {l : Launch} {e : Env} {R : Room} {s : State} {m : MethodId} {args : Array Value} {below : List Frame} {meth : Method} {c : Code} {x : Xc} {K0 : Ka} {o : (Ka × Cm) ⊕ (Ka × Cm)} {N : Nat} (CTX : CT p l s m args meth c x K0 RX4 "<init>" cX4_init 1 none) (hRm : 6 ≤ R.frames ∧ 95 ≤ R.locals) (hRc : nz sV K0 o ≤ R.cells ∧ nu sV K0 o ≤ R.slots) (x0 : Nat) (s0 : Nat) (s1 : Nat) (K : Ka) (M : Cm) (H : Heap) (locs : List Loc) (ls : Array Slot) (hf : bT_X4_init_67 N x0 s0 s1 K M = some o) (hL : KLe K0 K) (hR : RC x K M H) (hS : va_S (AC K0) s.heap H locs) (hl : lv_has ls 1 [(0, .ref x0)]) : W p l e R s m args below meth c H locs (kz K - kz K0) (ku K - ku K0) (TQ sV (aQV x K0) (zQV K0) "java/lang/IllegalStateException" x K0 below args s o) (F0 m 67 ls [.ref s1, .ref s0]) := by
  obtain ⟨CX, hno, hlt, hmn⟩ := id CTX
  obtain ⟨hx, hb, hml, hown, hts, hE, hB, hr, hlk⟩ := id CX
  have hcs := nz_le (mbT_X4_init_67  x0 s0 s1 K M hf) hRc
  unfold bT_X4_init_67 at hf
  obtain ⟨hk_s0_5, hf⟩ := gd_some hf
  refine tr_putFR kc_4 CX hmn hR hL hS (v := some s1) ff_X4_33 ⟨rfl, rfl, .inr ⟨_, rfl⟩⟩ hk_s0_5 dX4_init_67 (fun H locs hR hS => ?_)
  refine lv_aload_n hx hb dX4_init_70 rfl (lv_at hl 0 rfl) ?_
  refine lv_bipush (v := 24) hx hb dX4_init_71 (by decide) ?_
  obtain ⟨hq, hf⟩ := gd_some hf
  have hm1 := mbT_X4_init_75 _ _ _ _ _ hf
  have hb1 := nz_le hm1 hRc
  refine tr_newai CX hL hR hS hq hb1 dX4_init_73 (fun H hR hS => ?_)
  exact (wbT_X4_init_75 CTX hRm hRc) _ _ _ _ _ _ _ _ hf (hL.tr (kNew_le _ _ _ _)) hR hS (lv_sub hl [0] rfl)
def bT_X4_init_59 (N : Nat) (x0 : Nat) (s0 : Nat) (s1 : Nat) (K : Ka) (M : Cm) : Option ((Ka × Cm) ⊕ (Ka × Cm)) := gd (kd K s0 == 5) (gd (decide (¬ (24 : Int32) < 0 ∧ (24 : Int32).toNatClampNeg ≤ 1000000)) ((bT_X4_init_67 N) x0 x0 (kz K) (kNew K 22 (24 : Int32).toNatClampNeg (24 : Int32).toNatClampNeg) (mZ (wR M s0 6 (some s1)) (kz K))))
theorem mbT_X4_init_59 {o : (Ka × Cm) ⊕ (Ka × Cm)} {N : Nat}  (x0 : Nat) (s0 : Nat) (s1 : Nat) (K : Ka) (M : Cm) (hf : bT_X4_init_59 N x0 s0 s1 K M = some o) : KLe K (oK sV o) := by
  unfold bT_X4_init_59 at hf
  obtain ⟨-, hf⟩ := gd_some hf
  obtain ⟨-, hf⟩ := gd_some hf
  exact (kNew_le _ _ _ _).tr (mbT_X4_init_67 _ _ _ _ _ hf)
set_option maxRecDepth 100000 in
set_option maxHeartbeats 4000000 in
theorem wbT_X4_init_59 {p : Program} {l : Launch} {e : Env} {R : Room} {s : State} {m : MethodId} {args : Array Value} {below : List Frame} {meth : Method} {c : Code} {x : Xc} {K0 : Ka} {o : (Ka × Cm) ⊕ (Ka × Cm)} {N : Nat} (CTX : CT p l s m args meth c x K0 RX4 "<init>" cX4_init 1 none) (hRm : 6 ≤ R.frames ∧ 95 ≤ R.locals) (hRc : nz sV K0 o ≤ R.cells ∧ nu sV K0 o ≤ R.slots) (x0 : Nat) (s0 : Nat) (s1 : Nat) (K : Ka) (M : Cm) (H : Heap) (locs : List Loc) (ls : Array Slot) (hf : bT_X4_init_59 N x0 s0 s1 K M = some o) (hL : KLe K0 K) (hR : RC x K M H) (hS : va_S (AC K0) s.heap H locs) (hl : lv_has ls 1 [(0, .ref x0)]) : W p l e R s m args below meth c H locs (kz K - kz K0) (ku K - ku K0) (TQ sV (aQV x K0) (zQV K0) "java/lang/IllegalStateException" x K0 below args s o) (F0 m 59 ls [.ref s1, .ref s0]) := by
  obtain ⟨CX, hno, hlt, hmn⟩ := id CTX
  obtain ⟨hx, hb, hml, hown, hts, hE, hB, hr, hlk⟩ := id CX
  have hcs := nz_le (mbT_X4_init_59  x0 s0 s1 K M hf) hRc
  unfold bT_X4_init_59 at hf
  obtain ⟨hk_s0_5, hf⟩ := gd_some hf
  refine tr_putFR kc_4 CX hmn hR hL hS (v := some s1) ff_X4_30 ⟨rfl, rfl, .inr ⟨_, rfl⟩⟩ hk_s0_5 dX4_init_59 (fun H locs hR hS => ?_)
  refine lv_aload_n hx hb dX4_init_62 rfl (lv_at hl 0 rfl) ?_
  refine lv_bipush (v := 24) hx hb dX4_init_63 (by decide) ?_
  obtain ⟨hq, hf⟩ := gd_some hf
  have hm1 := mbT_X4_init_67 _ _ _ _ _ hf
  have hb1 := nz_le hm1 hRc
  refine tr_newai CX hL hR hS hq hb1 dX4_init_65 (fun H hR hS => ?_)
  exact (wbT_X4_init_67 CTX hRm hRc) _ _ _ _ _ _ _ _ hf (hL.tr (kNew_le _ _ _ _)) hR hS (lv_sub hl [0] rfl)
def bT_X4_init_51 (N : Nat) (x0 : Nat) (s0 : Nat) (s1 : Nat) (K : Ka) (M : Cm) : Option ((Ka × Cm) ⊕ (Ka × Cm)) := gd (kd K s0 == 5) (gd (decide (¬ (24 : Int32) < 0 ∧ (24 : Int32).toNatClampNeg ≤ 1000000)) ((bT_X4_init_59 N) x0 x0 (kz K) (kNew K 22 (24 : Int32).toNatClampNeg (24 : Int32).toNatClampNeg) (mZ (wR M s0 5 (some s1)) (kz K))))
theorem mbT_X4_init_51 {o : (Ka × Cm) ⊕ (Ka × Cm)} {N : Nat}  (x0 : Nat) (s0 : Nat) (s1 : Nat) (K : Ka) (M : Cm) (hf : bT_X4_init_51 N x0 s0 s1 K M = some o) : KLe K (oK sV o) := by
  unfold bT_X4_init_51 at hf
  obtain ⟨-, hf⟩ := gd_some hf
  obtain ⟨-, hf⟩ := gd_some hf
  exact (kNew_le _ _ _ _).tr (mbT_X4_init_59 _ _ _ _ _ hf)
set_option maxRecDepth 100000 in
set_option maxHeartbeats 4000000 in
theorem wbT_X4_init_51 {p : Program} {l : Launch} {e : Env} {R : Room} {s : State} {m : MethodId} {args : Array Value} {below : List Frame} {meth : Method} {c : Code} {x : Xc} {K0 : Ka} {o : (Ka × Cm) ⊕ (Ka × Cm)} {N : Nat} (CTX : CT p l s m args meth c x K0 RX4 "<init>" cX4_init 1 none) (hRm : 6 ≤ R.frames ∧ 95 ≤ R.locals) (hRc : nz sV K0 o ≤ R.cells ∧ nu sV K0 o ≤ R.slots) (x0 : Nat) (s0 : Nat) (s1 : Nat) (K : Ka) (M : Cm) (H : Heap) (locs : List Loc) (ls : Array Slot) (hf : bT_X4_init_51 N x0 s0 s1 K M = some o) (hL : KLe K0 K) (hR : RC x K M H) (hS : va_S (AC K0) s.heap H locs) (hl : lv_has ls 1 [(0, .ref x0)]) : W p l e R s m args below meth c H locs (kz K - kz K0) (ku K - ku K0) (TQ sV (aQV x K0) (zQV K0) "java/lang/IllegalStateException" x K0 below args s o) (F0 m 51 ls [.ref s1, .ref s0]) := by
  obtain ⟨CX, hno, hlt, hmn⟩ := id CTX
  obtain ⟨hx, hb, hml, hown, hts, hE, hB, hr, hlk⟩ := id CX
  have hcs := nz_le (mbT_X4_init_51  x0 s0 s1 K M hf) hRc
  unfold bT_X4_init_51 at hf
  obtain ⟨hk_s0_5, hf⟩ := gd_some hf
  refine tr_putFR kc_4 CX hmn hR hL hS (v := some s1) ff_X4_27 ⟨rfl, rfl, .inr ⟨_, rfl⟩⟩ hk_s0_5 dX4_init_51 (fun H locs hR hS => ?_)
  refine lv_aload_n hx hb dX4_init_54 rfl (lv_at hl 0 rfl) ?_
  refine lv_bipush (v := 24) hx hb dX4_init_55 (by decide) ?_
  obtain ⟨hq, hf⟩ := gd_some hf
  have hm1 := mbT_X4_init_59 _ _ _ _ _ hf
  have hb1 := nz_le hm1 hRc
  refine tr_newai CX hL hR hS hq hb1 dX4_init_57 (fun H hR hS => ?_)
  exact (wbT_X4_init_59 CTX hRm hRc) _ _ _ _ _ _ _ _ hf (hL.tr (kNew_le _ _ _ _)) hR hS (lv_sub hl [0] rfl)
def bT_X4_init_42 (N : Nat) (x0 : Nat) (s0 : Nat) (s1 : Nat) (K : Ka) (M : Cm) : Option ((Ka × Cm) ⊕ (Ka × Cm)) := gd (kd K s0 == 5) (gd (decide (¬ (576 : Int32) < 0 ∧ (576 : Int32).toNatClampNeg ≤ 1000000)) ((bT_X4_init_51 N) x0 x0 (kz K) (kNew K 22 (576 : Int32).toNatClampNeg (576 : Int32).toNatClampNeg) (mZ (wR M s0 4 (some s1)) (kz K))))
theorem mbT_X4_init_42 {o : (Ka × Cm) ⊕ (Ka × Cm)} {N : Nat}  (x0 : Nat) (s0 : Nat) (s1 : Nat) (K : Ka) (M : Cm) (hf : bT_X4_init_42 N x0 s0 s1 K M = some o) : KLe K (oK sV o) := by
  unfold bT_X4_init_42 at hf
  obtain ⟨-, hf⟩ := gd_some hf
  obtain ⟨-, hf⟩ := gd_some hf
  exact (kNew_le _ _ _ _).tr (mbT_X4_init_51 _ _ _ _ _ hf)
set_option maxRecDepth 100000 in
set_option maxHeartbeats 4000000 in
theorem wbT_X4_init_42 {p : Program} {l : Launch} {e : Env} {R : Room} {s : State} {m : MethodId} {args : Array Value} {below : List Frame} {meth : Method} {c : Code} {x : Xc} {K0 : Ka} {o : (Ka × Cm) ⊕ (Ka × Cm)} {N : Nat} (CTX : CT p l s m args meth c x K0 RX4 "<init>" cX4_init 1 none) (hRm : 6 ≤ R.frames ∧ 95 ≤ R.locals) (hRc : nz sV K0 o ≤ R.cells ∧ nu sV K0 o ≤ R.slots) (x0 : Nat) (s0 : Nat) (s1 : Nat) (K : Ka) (M : Cm) (H : Heap) (locs : List Loc) (ls : Array Slot) (hf : bT_X4_init_42 N x0 s0 s1 K M = some o) (hL : KLe K0 K) (hR : RC x K M H) (hS : va_S (AC K0) s.heap H locs) (hl : lv_has ls 1 [(0, .ref x0)]) : W p l e R s m args below meth c H locs (kz K - kz K0) (ku K - ku K0) (TQ sV (aQV x K0) (zQV K0) "java/lang/IllegalStateException" x K0 below args s o) (F0 m 42 ls [.ref s1, .ref s0]) := by
  obtain ⟨CX, hno, hlt, hmn⟩ := id CTX
  obtain ⟨hx, hb, hml, hown, hts, hE, hB, hr, hlk⟩ := id CX
  have hcs := nz_le (mbT_X4_init_42  x0 s0 s1 K M hf) hRc
  unfold bT_X4_init_42 at hf
  obtain ⟨hk_s0_5, hf⟩ := gd_some hf
  refine tr_putFR kc_4 CX hmn hR hL hS (v := some s1) ff_X4_24 ⟨rfl, rfl, .inr ⟨_, rfl⟩⟩ hk_s0_5 dX4_init_42 (fun H locs hR hS => ?_)
  refine lv_aload_n hx hb dX4_init_45 rfl (lv_at hl 0 rfl) ?_
  refine lv_sipush (v := 576) hx hb dX4_init_46 (by decide) ?_
  obtain ⟨hq, hf⟩ := gd_some hf
  have hm1 := mbT_X4_init_51 _ _ _ _ _ hf
  have hb1 := nz_le hm1 hRc
  refine tr_newai CX hL hR hS hq hb1 dX4_init_49 (fun H hR hS => ?_)
  exact (wbT_X4_init_51 CTX hRm hRc) _ _ _ _ _ _ _ _ hf (hL.tr (kNew_le _ _ _ _)) hR hS (lv_sub hl [0] rfl)
def bT_X4_init_34 (N : Nat) (x0 : Nat) (s0 : Nat) (s1 : Nat) (K : Ka) (M : Cm) : Option ((Ka × Cm) ⊕ (Ka × Cm)) := gd (kd K s0 == 5) (gd (decide (¬ (24 : Int32) < 0 ∧ (24 : Int32).toNatClampNeg ≤ 1000000)) ((bT_X4_init_42 N) x0 x0 (kz K) (kNew K 22 (24 : Int32).toNatClampNeg (24 : Int32).toNatClampNeg) (mZ (wR M s0 3 (some s1)) (kz K))))
theorem mbT_X4_init_34 {o : (Ka × Cm) ⊕ (Ka × Cm)} {N : Nat}  (x0 : Nat) (s0 : Nat) (s1 : Nat) (K : Ka) (M : Cm) (hf : bT_X4_init_34 N x0 s0 s1 K M = some o) : KLe K (oK sV o) := by
  unfold bT_X4_init_34 at hf
  obtain ⟨-, hf⟩ := gd_some hf
  obtain ⟨-, hf⟩ := gd_some hf
  exact (kNew_le _ _ _ _).tr (mbT_X4_init_42 _ _ _ _ _ hf)
set_option maxRecDepth 100000 in
set_option maxHeartbeats 4000000 in
theorem wbT_X4_init_34 {p : Program} {l : Launch} {e : Env} {R : Room} {s : State} {m : MethodId} {args : Array Value} {below : List Frame} {meth : Method} {c : Code} {x : Xc} {K0 : Ka} {o : (Ka × Cm) ⊕ (Ka × Cm)} {N : Nat} (CTX : CT p l s m args meth c x K0 RX4 "<init>" cX4_init 1 none) (hRm : 6 ≤ R.frames ∧ 95 ≤ R.locals) (hRc : nz sV K0 o ≤ R.cells ∧ nu sV K0 o ≤ R.slots) (x0 : Nat) (s0 : Nat) (s1 : Nat) (K : Ka) (M : Cm) (H : Heap) (locs : List Loc) (ls : Array Slot) (hf : bT_X4_init_34 N x0 s0 s1 K M = some o) (hL : KLe K0 K) (hR : RC x K M H) (hS : va_S (AC K0) s.heap H locs) (hl : lv_has ls 1 [(0, .ref x0)]) : W p l e R s m args below meth c H locs (kz K - kz K0) (ku K - ku K0) (TQ sV (aQV x K0) (zQV K0) "java/lang/IllegalStateException" x K0 below args s o) (F0 m 34 ls [.ref s1, .ref s0]) := by
  obtain ⟨CX, hno, hlt, hmn⟩ := id CTX
  obtain ⟨hx, hb, hml, hown, hts, hE, hB, hr, hlk⟩ := id CX
  have hcs := nz_le (mbT_X4_init_34  x0 s0 s1 K M hf) hRc
  unfold bT_X4_init_34 at hf
  obtain ⟨hk_s0_5, hf⟩ := gd_some hf
  refine tr_putFR kc_4 CX hmn hR hL hS (v := some s1) ff_X4_21 ⟨rfl, rfl, .inr ⟨_, rfl⟩⟩ hk_s0_5 dX4_init_34 (fun H locs hR hS => ?_)
  refine lv_aload_n hx hb dX4_init_37 rfl (lv_at hl 0 rfl) ?_
  refine lv_bipush (v := 24) hx hb dX4_init_38 (by decide) ?_
  obtain ⟨hq, hf⟩ := gd_some hf
  have hm1 := mbT_X4_init_42 _ _ _ _ _ hf
  have hb1 := nz_le hm1 hRc
  refine tr_newai CX hL hR hS hq hb1 dX4_init_40 (fun H hR hS => ?_)
  exact (wbT_X4_init_42 CTX hRm hRc) _ _ _ _ _ _ _ _ hf (hL.tr (kNew_le _ _ _ _)) hR hS (lv_sub hl [0] rfl)
def bT_X4_init_26 (N : Nat) (x0 : Nat) (s0 : Nat) (s1 : Nat) (K : Ka) (M : Cm) : Option ((Ka × Cm) ⊕ (Ka × Cm)) := gd (kd K s0 == 5) (gd (decide (¬ (24 : Int32) < 0 ∧ (24 : Int32).toNatClampNeg ≤ 1000000)) ((bT_X4_init_34 N) x0 x0 (kz K) (kNew K 22 (24 : Int32).toNatClampNeg (24 : Int32).toNatClampNeg) (mZ (wR M s0 2 (some s1)) (kz K))))
theorem mbT_X4_init_26 {o : (Ka × Cm) ⊕ (Ka × Cm)} {N : Nat}  (x0 : Nat) (s0 : Nat) (s1 : Nat) (K : Ka) (M : Cm) (hf : bT_X4_init_26 N x0 s0 s1 K M = some o) : KLe K (oK sV o) := by
  unfold bT_X4_init_26 at hf
  obtain ⟨-, hf⟩ := gd_some hf
  obtain ⟨-, hf⟩ := gd_some hf
  exact (kNew_le _ _ _ _).tr (mbT_X4_init_34 _ _ _ _ _ hf)
set_option maxRecDepth 100000 in
set_option maxHeartbeats 4000000 in
theorem wbT_X4_init_26 {p : Program} {l : Launch} {e : Env} {R : Room} {s : State} {m : MethodId} {args : Array Value} {below : List Frame} {meth : Method} {c : Code} {x : Xc} {K0 : Ka} {o : (Ka × Cm) ⊕ (Ka × Cm)} {N : Nat} (CTX : CT p l s m args meth c x K0 RX4 "<init>" cX4_init 1 none) (hRm : 6 ≤ R.frames ∧ 95 ≤ R.locals) (hRc : nz sV K0 o ≤ R.cells ∧ nu sV K0 o ≤ R.slots) (x0 : Nat) (s0 : Nat) (s1 : Nat) (K : Ka) (M : Cm) (H : Heap) (locs : List Loc) (ls : Array Slot) (hf : bT_X4_init_26 N x0 s0 s1 K M = some o) (hL : KLe K0 K) (hR : RC x K M H) (hS : va_S (AC K0) s.heap H locs) (hl : lv_has ls 1 [(0, .ref x0)]) : W p l e R s m args below meth c H locs (kz K - kz K0) (ku K - ku K0) (TQ sV (aQV x K0) (zQV K0) "java/lang/IllegalStateException" x K0 below args s o) (F0 m 26 ls [.ref s1, .ref s0]) := by
  obtain ⟨CX, hno, hlt, hmn⟩ := id CTX
  obtain ⟨hx, hb, hml, hown, hts, hE, hB, hr, hlk⟩ := id CX
  have hcs := nz_le (mbT_X4_init_26  x0 s0 s1 K M hf) hRc
  unfold bT_X4_init_26 at hf
  obtain ⟨hk_s0_5, hf⟩ := gd_some hf
  refine tr_putFR kc_4 CX hmn hR hL hS (v := some s1) ff_X4_18 ⟨rfl, rfl, .inr ⟨_, rfl⟩⟩ hk_s0_5 dX4_init_26 (fun H locs hR hS => ?_)
  refine lv_aload_n hx hb dX4_init_29 rfl (lv_at hl 0 rfl) ?_
  refine lv_bipush (v := 24) hx hb dX4_init_30 (by decide) ?_
  obtain ⟨hq, hf⟩ := gd_some hf
  have hm1 := mbT_X4_init_34 _ _ _ _ _ hf
  have hb1 := nz_le hm1 hRc
  refine tr_newai CX hL hR hS hq hb1 dX4_init_32 (fun H hR hS => ?_)
  exact (wbT_X4_init_34 CTX hRm hRc) _ _ _ _ _ _ _ _ hf (hL.tr (kNew_le _ _ _ _)) hR hS (lv_sub hl [0] rfl)
def bT_X4_init_17 (N : Nat) (x0 : Nat) (s0 : Nat) (s1 : Nat) (K : Ka) (M : Cm) : Option ((Ka × Cm) ⊕ (Ka × Cm)) := gd (kd K s0 == 5) (gd (decide (¬ (192 : Int32) < 0 ∧ (192 : Int32).toNatClampNeg ≤ 1000000)) ((bT_X4_init_26 N) x0 x0 (kz K) (kNew K 22 (192 : Int32).toNatClampNeg (192 : Int32).toNatClampNeg) (mZ (wR M s0 1 (some s1)) (kz K))))
theorem mbT_X4_init_17 {o : (Ka × Cm) ⊕ (Ka × Cm)} {N : Nat}  (x0 : Nat) (s0 : Nat) (s1 : Nat) (K : Ka) (M : Cm) (hf : bT_X4_init_17 N x0 s0 s1 K M = some o) : KLe K (oK sV o) := by
  unfold bT_X4_init_17 at hf
  obtain ⟨-, hf⟩ := gd_some hf
  obtain ⟨-, hf⟩ := gd_some hf
  exact (kNew_le _ _ _ _).tr (mbT_X4_init_26 _ _ _ _ _ hf)
set_option maxRecDepth 100000 in
set_option maxHeartbeats 4000000 in
theorem wbT_X4_init_17 {p : Program} {l : Launch} {e : Env} {R : Room} {s : State} {m : MethodId} {args : Array Value} {below : List Frame} {meth : Method} {c : Code} {x : Xc} {K0 : Ka} {o : (Ka × Cm) ⊕ (Ka × Cm)} {N : Nat} (CTX : CT p l s m args meth c x K0 RX4 "<init>" cX4_init 1 none) (hRm : 6 ≤ R.frames ∧ 95 ≤ R.locals) (hRc : nz sV K0 o ≤ R.cells ∧ nu sV K0 o ≤ R.slots) (x0 : Nat) (s0 : Nat) (s1 : Nat) (K : Ka) (M : Cm) (H : Heap) (locs : List Loc) (ls : Array Slot) (hf : bT_X4_init_17 N x0 s0 s1 K M = some o) (hL : KLe K0 K) (hR : RC x K M H) (hS : va_S (AC K0) s.heap H locs) (hl : lv_has ls 1 [(0, .ref x0)]) : W p l e R s m args below meth c H locs (kz K - kz K0) (ku K - ku K0) (TQ sV (aQV x K0) (zQV K0) "java/lang/IllegalStateException" x K0 below args s o) (F0 m 17 ls [.ref s1, .ref s0]) := by
  obtain ⟨CX, hno, hlt, hmn⟩ := id CTX
  obtain ⟨hx, hb, hml, hown, hts, hE, hB, hr, hlk⟩ := id CX
  have hcs := nz_le (mbT_X4_init_17  x0 s0 s1 K M hf) hRc
  unfold bT_X4_init_17 at hf
  obtain ⟨hk_s0_5, hf⟩ := gd_some hf
  refine tr_putFR kc_4 CX hmn hR hL hS (v := some s1) ff_X4_15 ⟨rfl, rfl, .inr ⟨_, rfl⟩⟩ hk_s0_5 dX4_init_17 (fun H locs hR hS => ?_)
  refine lv_aload_n hx hb dX4_init_20 rfl (lv_at hl 0 rfl) ?_
  refine lv_sipush (v := 192) hx hb dX4_init_21 (by decide) ?_
  obtain ⟨hq, hf⟩ := gd_some hf
  have hm1 := mbT_X4_init_26 _ _ _ _ _ hf
  have hb1 := nz_le hm1 hRc
  refine tr_newai CX hL hR hS hq hb1 dX4_init_24 (fun H hR hS => ?_)
  exact (wbT_X4_init_26 CTX hRm hRc) _ _ _ _ _ _ _ _ hf (hL.tr (kNew_le _ _ _ _)) hR hS (lv_sub hl [0] rfl)
def bT_X4_init_9 (N : Nat) (x0 : Nat) (s0 : Nat) (s1 : Nat) (K : Ka) (M : Cm) : Option ((Ka × Cm) ⊕ (Ka × Cm)) := gd (kd K s0 == 5) (gd (decide (¬ (24 : Int32) < 0 ∧ (24 : Int32).toNatClampNeg ≤ 1000000)) ((bT_X4_init_17 N) x0 x0 (kz K) (kNew K 22 (24 : Int32).toNatClampNeg (24 : Int32).toNatClampNeg) (mZ (wR M s0 0 (some s1)) (kz K))))
theorem mbT_X4_init_9 {o : (Ka × Cm) ⊕ (Ka × Cm)} {N : Nat}  (x0 : Nat) (s0 : Nat) (s1 : Nat) (K : Ka) (M : Cm) (hf : bT_X4_init_9 N x0 s0 s1 K M = some o) : KLe K (oK sV o) := by
  unfold bT_X4_init_9 at hf
  obtain ⟨-, hf⟩ := gd_some hf
  obtain ⟨-, hf⟩ := gd_some hf
  exact (kNew_le _ _ _ _).tr (mbT_X4_init_17 _ _ _ _ _ hf)
set_option maxRecDepth 100000 in
set_option maxHeartbeats 4000000 in
theorem wbT_X4_init_9 {p : Program} {l : Launch} {e : Env} {R : Room} {s : State} {m : MethodId} {args : Array Value} {below : List Frame} {meth : Method} {c : Code} {x : Xc} {K0 : Ka} {o : (Ka × Cm) ⊕ (Ka × Cm)} {N : Nat} (CTX : CT p l s m args meth c x K0 RX4 "<init>" cX4_init 1 none) (hRm : 6 ≤ R.frames ∧ 95 ≤ R.locals) (hRc : nz sV K0 o ≤ R.cells ∧ nu sV K0 o ≤ R.slots) (x0 : Nat) (s0 : Nat) (s1 : Nat) (K : Ka) (M : Cm) (H : Heap) (locs : List Loc) (ls : Array Slot) (hf : bT_X4_init_9 N x0 s0 s1 K M = some o) (hL : KLe K0 K) (hR : RC x K M H) (hS : va_S (AC K0) s.heap H locs) (hl : lv_has ls 1 [(0, .ref x0)]) : W p l e R s m args below meth c H locs (kz K - kz K0) (ku K - ku K0) (TQ sV (aQV x K0) (zQV K0) "java/lang/IllegalStateException" x K0 below args s o) (F0 m 9 ls [.ref s1, .ref s0]) := by
  obtain ⟨CX, hno, hlt, hmn⟩ := id CTX
  obtain ⟨hx, hb, hml, hown, hts, hE, hB, hr, hlk⟩ := id CX
  have hcs := nz_le (mbT_X4_init_9  x0 s0 s1 K M hf) hRc
  unfold bT_X4_init_9 at hf
  obtain ⟨hk_s0_5, hf⟩ := gd_some hf
  refine tr_putFR kc_4 CX hmn hR hL hS (v := some s1) ff_X4_9 ⟨rfl, rfl, .inr ⟨_, rfl⟩⟩ hk_s0_5 dX4_init_9 (fun H locs hR hS => ?_)
  refine lv_aload_n hx hb dX4_init_12 rfl (lv_at hl 0 rfl) ?_
  refine lv_bipush (v := 24) hx hb dX4_init_13 (by decide) ?_
  obtain ⟨hq, hf⟩ := gd_some hf
  have hm1 := mbT_X4_init_17 _ _ _ _ _ hf
  have hb1 := nz_le hm1 hRc
  refine tr_newai CX hL hR hS hq hb1 dX4_init_15 (fun H hR hS => ?_)
  exact (wbT_X4_init_17 CTX hRm hRc) _ _ _ _ _ _ _ _ hf (hL.tr (kNew_le _ _ _ _)) hR hS (lv_sub hl [0] rfl)
def fT_X4_init (N : Nat) (x0 : Nat) (K : Ka) (M : Cm) : Option ((Ka × Cm) ⊕ (Ka × Cm)) := gd (decide (¬ (24 : Int32) < 0 ∧ (24 : Int32).toNatClampNeg ≤ 1000000)) ((bT_X4_init_9 N) x0 x0 (kz K) (kNew K 22 (24 : Int32).toNatClampNeg (24 : Int32).toNatClampNeg) (mZ M (kz K)))
theorem mfT_X4_init {o : (Ka × Cm) ⊕ (Ka × Cm)} {N : Nat}  (x0 : Nat) (K : Ka) (M : Cm) (hf : fT_X4_init N x0 K M = some o) : KLe K (oK sV o) := by
  unfold fT_X4_init at hf
  obtain ⟨-, hf⟩ := gd_some hf
  exact (kNew_le _ _ _ _).tr (mbT_X4_init_9 _ _ _ _ _ hf)
set_option maxRecDepth 100000 in
set_option maxHeartbeats 4000000 in
theorem wfT_X4_init {p : Program} {l : Launch} {e : Env} {R : Room} {s : State} {m : MethodId} {args : Array Value} {below : List Frame} {meth : Method} {c : Code} {x : Xc} {K0 : Ka} {o : (Ka × Cm) ⊕ (Ka × Cm)} {N : Nat} (CTX : CT p l s m args meth c x K0 RX4 "<init>" cX4_init 1 none) (hRm : 6 ≤ R.frames ∧ 95 ≤ R.locals) (hRc : nz sV K0 o ≤ R.cells ∧ nu sV K0 o ≤ R.slots) (x0 : Nat) (K : Ka) (M : Cm) (H : Heap) (locs : List Loc) (ls : Array Slot) (hf : fT_X4_init N x0 K M = some o) (hL : KLe K0 K) (hR : RC x K M H) (hS : va_S (AC K0) s.heap H locs) (hl : lv_has ls 1 [(0, .ref x0)]) : W p l e R s m args below meth c H locs (kz K - kz K0) (ku K - ku K0) (TQ sV (aQV x K0) (zQV K0) "java/lang/IllegalStateException" x K0 below args s o) (F0 m 0 ls []) := by
  obtain ⟨CX, hno, hlt, hmn⟩ := id CTX
  obtain ⟨hx, hb, hml, hown, hts, hE, hB, hr, hlk⟩ := id CX
  have hcs := nz_le (mfT_X4_init  x0 K M hf) hRc
  unfold fT_X4_init at hf
  refine lv_aload_n hx hb dX4_init_0 rfl (lv_at hl 0 rfl) ?_
  refine tr_objInit CX wi_X4_3 hl.1 (by omega) (by omega) (Nat.le_of_ble_eq_true rfl) dX4_init_1 ?_
  refine lv_aload_n hx hb dX4_init_4 rfl (lv_at hl 0 rfl) ?_
  refine lv_bipush (v := 24) hx hb dX4_init_5 (by decide) ?_
  obtain ⟨hq, hf⟩ := gd_some hf
  have hm1 := mbT_X4_init_9 _ _ _ _ _ hf
  have hb1 := nz_le hm1 hRc
  refine tr_newai CX hL hR hS hq hb1 dX4_init_7 (fun H hR hS => ?_)
  exact (wbT_X4_init_9 CTX hRm hRc) _ _ _ _ _ _ _ _ hf (hL.tr (kNew_le _ _ _ _)) hR hS (lv_sub hl [0] rfl)
theorem MT_X4_init (l : Launch) (x : Xc) (hlt : l.stackTraces = false) (N : Nat) (x0 : Nat) (K : Ka) (M : Cm) (o : (Ka × Cm) ⊕ (Ka × Cm)) (hf : fT_X4_init N x0 K M = some o) : Tc sV (aQV x K) (zQV K) "java/lang/IllegalStateException" l x yX4_init cX4_init 1 none 6 95 [.ref x0] K M o :=
  tr_met RX4 "<init>" hlt (by decide) rfl rfl (Nat.le_of_ble_eq_true rfl) (fun p e s m args below meth c ls CTX hR hl => wfT_X4_init CTX ⟨Nat.le_refl _, Nat.le_refl _⟩ ⟨Nat.le_refl _, Nat.le_refl _⟩ x0 K M s.heap [] ls hf (KLe.rf K) hR va_S.rf hl)
def bT_X6_init_125 (N : Nat) (r65 : Nat → Int32 → Int64 → Int32 → Ka → Cm → Option ((Ka × Cm) ⊕ (Ka × Cm))) (k131 : Nat → Ka → Cm → Option ((Ka × Cm) ⊕ (Ka × Cm))) (x0 : Nat) (x1 : Int32) (x2 : Int64) (x4 : Int32) (K : Ka) (M : Cm) : Option ((Ka × Cm) ⊕ (Ka × Cm)) := r65 x0 x1 x2 (x4 + 1) K M
theorem mbT_X6_init_125 {o : (Ka × Cm) ⊕ (Ka × Cm)} {N : Nat} {r65 : Nat → Int32 → Int64 → Int32 → Ka → Cm → Option ((Ka × Cm) ⊕ (Ka × Cm))} {k131 : Nat → Ka → Cm → Option ((Ka × Cm) ⊕ (Ka × Cm))} (mr65 : ∀ (x0 : Nat) (x1 : Int32) (x2 : Int64) (x4 : Int32) (K : Ka) (M : Cm) , r65 x0 x1 x2 x4 K M = some o → KLe K (oK sV o)) (mk131 : ∀ (x0 : Nat) (K : Ka) (M : Cm) , k131 x0 K M = some o → KLe K (oK sV o)) (x0 : Nat) (x1 : Int32) (x2 : Int64) (x4 : Int32) (K : Ka) (M : Cm) (hf : bT_X6_init_125 N r65 k131 x0 x1 x2 x4 K M = some o) : KLe K (oK sV o) := by
  unfold bT_X6_init_125 at hf
  exact mr65 _ _ _ _ _ _ hf
set_option maxRecDepth 100000 in
set_option maxHeartbeats 4000000 in
theorem wbT_X6_init_125 {p : Program} {l : Launch} {e : Env} {R : Room} {s : State} {m : MethodId} {args : Array Value} {below : List Frame} {meth : Method} {c : Code} {x : Xc} {K0 : Ka} {o : (Ka × Cm) ⊕ (Ka × Cm)} {N : Nat} {r65 : Nat → Int32 → Int64 → Int32 → Ka → Cm → Option ((Ka × Cm) ⊕ (Ka × Cm))} {k131 : Nat → Ka → Cm → Option ((Ka × Cm) ⊕ (Ka × Cm))} (CTX : CT p l s m args meth c x K0 RX6 "<init>" cX6_init 6 none) (hRm : 6 ≤ R.frames ∧ 95 ≤ R.locals) (hRc : nz sV K0 o ≤ R.cells ∧ nu sV K0 o ≤ R.slots) (mr65 : ∀ (x0 : Nat) (x1 : Int32) (x2 : Int64) (x4 : Int32) (K : Ka) (M : Cm) , r65 x0 x1 x2 x4 K M = some o → KLe K (oK sV o)) (mk131 : ∀ (x0 : Nat) (K : Ka) (M : Cm) , k131 x0 K M = some o → KLe K (oK sV o)) (hr65 : ∀ (x0 : Nat) (x1 : Int32) (x2 : Int64) (x4 : Int32) (K : Ka) (M : Cm) (H : Heap) (locs : List Loc) (ls : Array Slot), r65 x0 x1 x2 x4 K M = some o → KLe K0 K → RC x K M H → va_S (AC K0) s.heap H locs → lv_has ls 6 [(0, .ref x0), (1, .int x1), (2, .long x2), (4, .int x4)] → W p l e R s m args below meth c H locs (kz K - kz K0) (ku K - ku K0) (TQ sV (aQV x K0) (zQV K0) "java/lang/IllegalStateException" x K0 below args s o) (F0 m 65 ls [])) (hk131 : ∀ (x0 : Nat) (K : Ka) (M : Cm) (H : Heap) (locs : List Loc) (ls : Array Slot), k131 x0 K M = some o → KLe K0 K → RC x K M H → va_S (AC K0) s.heap H locs → lv_has ls 6 [(0, .ref x0)] → W p l e R s m args below meth c H locs (kz K - kz K0) (ku K - ku K0) (TQ sV (aQV x K0) (zQV K0) "java/lang/IllegalStateException" x K0 below args s o) (F0 m 131 ls [])) (x0 : Nat) (x1 : Int32) (x2 : Int64) (x4 : Int32) (K : Ka) (M : Cm) (H : Heap) (locs : List Loc) (ls : Array Slot) (hf : bT_X6_init_125 N r65 k131 x0 x1 x2 x4 K M = some o) (hL : KLe K0 K) (hR : RC x K M H) (hS : va_S (AC K0) s.heap H locs) (hl : lv_has ls 6 [(0, .ref x0), (1, .int x1), (2, .long x2), (4, .int x4)]) : W p l e R s m args below meth c H locs (kz K - kz K0) (ku K - ku K0) (TQ sV (aQV x K0) (zQV K0) "java/lang/IllegalStateException" x K0 below args s o) (F0 m 125 ls []) := by
  obtain ⟨CX, hno, hlt, hmn⟩ := id CTX
  obtain ⟨hx, hb, hml, hown, hts, hE, hB, hr, hlk⟩ := id CX
  have hcs := nz_le (mbT_X6_init_125 mr65 mk131 x0 x1 x2 x4 K M hf) hRc
  unfold bT_X6_init_125 at hf
  refine lv_iinc (v := x4 + 1) (lv' := [(4, .int (x4 + 1)), (0, .ref x0), (1, .int x1), (2, .long x2)]) hx hb dX6_init_125 hl (k := 3) rfl rfl (by decide) rfl (fun ls hl => ?_)
  refine lv_goto (tgt := 65) hx hb dX6_init_128 (by decide) ?_
  exact hr65 _ _ _ _ _ _ _ _ _ hf hL hR hS (lv_sub hl [1, 2, 3, 0] rfl)
def lT_X6_init_65 (N : Nat) (k131 : Nat → Ka → Cm → Option ((Ka × Cm) ⊕ (Ka × Cm))) : Nat → Nat → Int32 → Int64 → Int32 → Ka → Cm → Option ((Ka × Cm) ⊕ (Ka × Cm))
  | 0, _, _, _, _, _, _ => none
  | n + 1, x0, x1, x2, x4, K, M => gd (decide (0 < strN)) ((fC_J0_length_8abf5 N K 0 M).bind fun o69 => if o69.1 ≤ x4 then (k131 x0 K o69.2) else ((fC_J0_charAt_5068e N K 0 x4 o69.2).bind fun o79 => if o79.1 = 32 then (if 25 ≤ x1 then ((bT_X6_init_125 N (lT_X6_init_65 N k131 n) k131) x0 x1 x2 x4 K o79.2) else (gd (kd K x0 == 7) (nn (cR o79.2 x0 4) fun a1 => gd (kd K a1 == 23) (ck x1 (le K a1) ((bT_X6_init_125 N (lT_X6_init_65 N k131 n) k131) x0 (x1 + 1) 0 x4 K (wL o79.2 a1 (x1 : Int32).toNatClampNeg x2)))))) else ((fC_X6_wordSign N K o79.1 o79.2).bind fun o98 => (bT_X6_init_125 N (lT_X6_init_65 N k131 n) k131) x0 x1 ((x2 * 37) + ((o98.1 : Int32).toInt64)) x4 K o98.2)))
theorem mlT_X6_init_65 {o : (Ka × Cm) ⊕ (Ka × Cm)} {N : Nat} {k131 : Nat → Ka → Cm → Option ((Ka × Cm) ⊕ (Ka × Cm))} (mk131 : ∀ (x0 : Nat) (K : Ka) (M : Cm) , k131 x0 K M = some o → KLe K (oK sV o)) : ∀ (n : Nat) (x0 : Nat) (x1 : Int32) (x2 : Int64) (x4 : Int32) (K : Ka) (M : Cm), lT_X6_init_65 N k131 n x0 x1 x2 x4 K M = some o → KLe K (oK sV o) := by
  intro n
  induction n with
  | zero => intro x0 x1 x2 x4 K M hf; cases hf
  | succ n ih =>
    intro x0 x1 x2 x4 K M hf
    rw [lT_X6_init_65] at hf
    obtain ⟨-, hf⟩ := gd_some hf
    obtain ⟨o69, -, hf⟩ := bnd_some hf
    by_cases hc : o69.1 ≤ x4
    · rw [if_pos hc] at hf
      exact mk131 _ _ _ hf
    · rw [if_neg hc] at hf
      obtain ⟨o79, -, hf⟩ := bnd_some hf
      by_cases hc : o79.1 = 32
      · rw [if_pos hc] at hf
        by_cases hc : 25 ≤ x1
        · rw [if_pos hc] at hf
          exact (mbT_X6_init_125 ih mk131) _ _ _ _ _ _ hf
        · rw [if_neg hc] at hf
          obtain ⟨-, hf⟩ := gd_some hf
          obtain ⟨a1, -, hf⟩ := nn_some hf
          obtain ⟨-, hf⟩ := gd_some hf
          obtain ⟨-, hf⟩ := ck_some hf
          exact (mbT_X6_init_125 ih mk131) _ _ _ _ _ _ hf
      · rw [if_neg hc] at hf
        obtain ⟨o98, -, hf⟩ := bnd_some hf
        exact (mbT_X6_init_125 ih mk131) _ _ _ _ _ _ hf
set_option maxRecDepth 100000 in
set_option maxHeartbeats 4000000 in
theorem wlT_X6_init_65 {p : Program} {l : Launch} {e : Env} {R : Room} {s : State} {m : MethodId} {args : Array Value} {below : List Frame} {meth : Method} {c : Code} {x : Xc} {K0 : Ka} {o : (Ka × Cm) ⊕ (Ka × Cm)} {N : Nat} {k131 : Nat → Ka → Cm → Option ((Ka × Cm) ⊕ (Ka × Cm))} (CTX : CT p l s m args meth c x K0 RX6 "<init>" cX6_init 6 none) (hRm : 6 ≤ R.frames ∧ 95 ≤ R.locals) (hRc : nz sV K0 o ≤ R.cells ∧ nu sV K0 o ≤ R.slots) (mk131 : ∀ (x0 : Nat) (K : Ka) (M : Cm) , k131 x0 K M = some o → KLe K (oK sV o)) (hk131 : ∀ (x0 : Nat) (K : Ka) (M : Cm) (H : Heap) (locs : List Loc) (ls : Array Slot), k131 x0 K M = some o → KLe K0 K → RC x K M H → va_S (AC K0) s.heap H locs → lv_has ls 6 [(0, .ref x0)] → W p l e R s m args below meth c H locs (kz K - kz K0) (ku K - ku K0) (TQ sV (aQV x K0) (zQV K0) "java/lang/IllegalStateException" x K0 below args s o) (F0 m 131 ls [])) : ∀ (n : Nat) (x0 : Nat) (x1 : Int32) (x2 : Int64) (x4 : Int32) (K : Ka) (M : Cm) (H : Heap) (locs : List Loc) (ls : Array Slot), lT_X6_init_65 N k131 n x0 x1 x2 x4 K M = some o → KLe K0 K → RC x K M H → va_S (AC K0) s.heap H locs → lv_has ls 6 [(0, .ref x0), (1, .int x1), (2, .long x2), (4, .int x4)] → W p l e R s m args below meth c H locs (kz K - kz K0) (ku K - ku K0) (TQ sV (aQV x K0) (zQV K0) "java/lang/IllegalStateException" x K0 below args s o) (F0 m 65 ls []) := by
  obtain ⟨CX, hno, hlt, hmn⟩ := id CTX
  obtain ⟨hx, hb, hml, hown, hts, hE, hB, hr, hlk⟩ := id CX
  intro n
  induction n with
  | zero => intro x0 x1 x2 x4 K M H locs ls hf; cases hf
  | succ n ih =>
    intro x0 x1 x2 x4 K M H locs ls hf hL hR hS hl
    have hcs := nz_le (mlT_X6_init_65 mk131 (n + 1) x0 x1 x2 x4 K M hf) hRc
    rw [lT_X6_init_65] at hf
    refine lv_iload hx hb dX6_init_65 (lv_at hl 3 rfl) ?_
    refine ss_ldc (i := 0) CX (by decide) dX6_init_67 ?_
    obtain ⟨hs_0, hf⟩ := gd_some hf
    obtain ⟨o69, ho69, hf⟩ := bnd_some hf
    refine cr_callIvS CX hR hL hS (As := []) (rest := [.int x4]) hs_0 (MC_J0_length_8abf5 l x N K 0 M o69 ho69) cv_X6_38 ⟨by omega, by omega⟩ rfl rfl (Nat.le_of_ble_eq_true rfl) hl.1 dX6_init_69 hcs (fun H locs hR hS => ?_)
    refine lv_icmp_ge (tgt := 131) hx hb dX6_init_72 (by decide) (fun hc => ?_) (fun hc => ?_)
    · rw [if_pos hc] at hf
      exact hk131 _ _ _ _ _ _ hf hL hR hS (lv_sub hl [0] rfl)
    · rw [if_neg hc] at hf
      refine ss_ldc (i := 0) CX (by decide) dX6_init_75 ?_
      refine lv_iload hx hb dX6_init_77 (lv_at hl 3 rfl) ?_
      obtain ⟨o79, ho79, hf⟩ := bnd_some hf
      refine cr_callIvS CX hR hL hS (As := [.int x4]) (rest := []) hs_0 (MC_J0_charAt_5068e l x N K 0 x4 o69.2 o79 ho79) cv_X6_44 ⟨by omega, by omega⟩ rfl rfl (Nat.le_of_ble_eq_true rfl) hl.1 dX6_init_79 hcs (fun H locs hR hS => ?_)
      refine lv_istore (lv' := [(5, .int o79.1), (0, .ref x0), (1, .int x1), (2, .long x2), (4, .int x4)]) hx hb dX6_init_82 hl (by decide) rfl (fun ls hl => ?_)
      refine lv_iload hx hb dX6_init_84 (lv_at hl 0 rfl) ?_
      refine lv_bipush (v := 32) hx hb dX6_init_86 (by decide) ?_
      refine lv_icmp_eq (tgt := 107) hx hb dX6_init_88 (by decide) (fun hc => ?_) (fun hc => ?_)
      · rw [if_pos hc] at hf
        refine lv_iload_n hx hb dX6_init_107 rfl (lv_at hl 2 rfl) ?_
        refine lv_bipush (v := 25) hx hb dX6_init_108 (by decide) ?_
        refine lv_icmp_ge (tgt := 125) hx hb dX6_init_110 (by decide) (fun hc => ?_) (fun hc => ?_)
        · rw [if_pos hc] at hf
          exact (wbT_X6_init_125 CTX hRm hRc (mlT_X6_init_65 mk131 n) mk131 ih hk131) _ _ _ _ _ _ _ _ _ hf hL hR hS (lv_sub hl [1, 2, 3, 4] rfl)
        · rw [if_neg hc] at hf
          refine lv_aload_n hx hb dX6_init_113 rfl (lv_at hl 1 rfl) ?_
          obtain ⟨hk_x0_7, hf⟩ := gd_some hf
          refine cr_getR kc_6 CX hR fa_X6_26 rfl hk_x0_7 dX6_init_114 ?_
          refine lv_iload_n hx hb dX6_init_117 rfl (lv_at hl 2 rfl) ?_
          refine lv_lload_n hx hb dX6_init_118 rfl (lv_at hl 3 rfl) ?_
          obtain ⟨a1, ha1, hf⟩ := nn_some hf
          refine rf_2 ha1 ?_
          obtain ⟨hk_a1_23, hf⟩ := gd_some hf
          obtain ⟨hi, hf⟩ := ck_some hf
          refine cr_last CX hR hL hS hk_a1_23 hi dX6_init_119 (fun H locs hR hS => ?_)
          refine lv_iinc (v := x1 + 1) (lv' := [(1, .int (x1 + 1)), (5, .int o79.1), (0, .ref x0), (2, .long x2), (4, .int x4)]) hx hb dX6_init_120 hl (k := 2) rfl rfl (by decide) rfl (fun ls hl => ?_)
          refine lv_lconst (v := 0) hx hb dX6_init_123 (by decide) ?_
          refine lv_lstore_n (lv' := [(2, .long 0), (1, .int (x1 + 1)), (5, .int o79.1), (0, .ref x0), (4, .int x4)]) hx hb dX6_init_124 rfl hl (by decide) rfl (fun ls hl => ?_)
          exact (wbT_X6_init_125 CTX hRm hRc (mlT_X6_init_65 mk131 n) mk131 ih hk131) _ _ _ _ _ _ _ _ _ hf hL hR hS (lv_sub hl [3, 1, 0, 4] rfl)
      · rw [if_neg hc] at hf
        refine lv_lload_n hx hb dX6_init_91 rfl (lv_at hl 3 rfl) ?_
        refine lv_ldc2 hx hb hown (hts _ wc_207) dX6_init_92 ?_
        refine lv_lmul hx hb dX6_init_95 ?_
        refine lv_iload hx hb dX6_init_96 (lv_at hl 0 rfl) ?_
        obtain ⟨o98, ho98, hf⟩ := bnd_some hf
        refine cr_callIs CX hR hL hS (As := [.int o79.1]) (rest := [.long (x2 * 37)]) (MC_X6_wordSign l x N K o79.1 o79.2 o98 ho98) cs_X6_50 ⟨by omega, by omega⟩ rfl rfl (Nat.le_of_ble_eq_true rfl) hl.1 dX6_init_98 hcs (fun H locs hR hS => ?_)
        refine lv_i2l (v := (o98.1 : Int32).toInt64) hx hb dX6_init_101 rfl ?_
        refine lv_ladd hx hb dX6_init_102 ?_
        refine lv_lstore_n (lv' := [(2, .long ((x2 * 37) + ((o98.1 : Int32).toInt64))), (5, .int o79.1), (0, .ref x0), (1, .int x1), (4, .int x4)]) hx hb dX6_init_103 rfl hl (by decide) rfl (fun ls hl => ?_)
        refine lv_goto (tgt := 125) hx hb dX6_init_104 (by decide) ?_
        exact (wbT_X6_init_125 CTX hRm hRc (mlT_X6_init_65 mk131 n) mk131 ih hk131) _ _ _ _ _ _ _ _ _ hf hL hR hS (lv_sub hl [2, 3, 0, 4] rfl)
def bT_X6_init_131 (N : Nat) (x0 : Nat) (K : Ka) (M : Cm) : Option ((Ka × Cm) ⊕ (Ka × Cm)) := some (.inl (K, M))
theorem mbT_X6_init_131 {o : (Ka × Cm) ⊕ (Ka × Cm)} {N : Nat}  (x0 : Nat) (K : Ka) (M : Cm) (hf : bT_X6_init_131 N x0 K M = some o) : KLe K (oK sV o) := by
  unfold bT_X6_init_131 at hf
  cases hf
  exact KLe.rf _
set_option maxRecDepth 100000 in
set_option maxHeartbeats 4000000 in
theorem wbT_X6_init_131 {p : Program} {l : Launch} {e : Env} {R : Room} {s : State} {m : MethodId} {args : Array Value} {below : List Frame} {meth : Method} {c : Code} {x : Xc} {K0 : Ka} {o : (Ka × Cm) ⊕ (Ka × Cm)} {N : Nat} (CTX : CT p l s m args meth c x K0 RX6 "<init>" cX6_init 6 none) (hRm : 6 ≤ R.frames ∧ 95 ≤ R.locals) (hRc : nz sV K0 o ≤ R.cells ∧ nu sV K0 o ≤ R.slots) (x0 : Nat) (K : Ka) (M : Cm) (H : Heap) (locs : List Loc) (ls : Array Slot) (hf : bT_X6_init_131 N x0 K M = some o) (hL : KLe K0 K) (hR : RC x K M H) (hS : va_S (AC K0) s.heap H locs) (hl : lv_has ls 6 [(0, .ref x0)]) : W p l e R s m args below meth c H locs (kz K - kz K0) (ku K - ku K0) (TQ sV (aQV x K0) (zQV K0) "java/lang/IllegalStateException" x K0 below args s o) (F0 m 131 ls []) := by
  obtain ⟨CX, hno, hlt, hmn⟩ := id CTX
  obtain ⟨hx, hb, hml, hown, hts, hE, hB, hr, hlk⟩ := id CX
  have hcs := nz_le (mbT_X6_init_131  x0 K M hf) hRc
  unfold bT_X6_init_131 at hf
  exact tr_vret CX hR hS hf dX6_init_131
def bT_X6_init_45 (N : Nat) (x0 : Nat) (s0 : Nat) (s1 : Nat) (K : Ka) (M : Cm) : Option ((Ka × Cm) ⊕ (Ka × Cm)) := gd (kd K s0 == 7) (gd (kd K x0 == 7) ((lT_X6_init_65 N (bT_X6_init_131 N) N) x0 0 0 0 K (wI (wI (wR M s0 4 (some s1)) x0 5 0) x0 6 0)))
theorem mbT_X6_init_45 {o : (Ka × Cm) ⊕ (Ka × Cm)} {N : Nat}  (x0 : Nat) (s0 : Nat) (s1 : Nat) (K : Ka) (M : Cm) (hf : bT_X6_init_45 N x0 s0 s1 K M = some o) : KLe K (oK sV o) := by
  unfold bT_X6_init_45 at hf
  obtain ⟨-, hf⟩ := gd_some hf
  obtain ⟨-, hf⟩ := gd_some hf
  exact (mlT_X6_init_65 mbT_X6_init_131 N) _ _ _ _ _ _ hf
set_option maxRecDepth 100000 in
set_option maxHeartbeats 4000000 in
theorem wbT_X6_init_45 {p : Program} {l : Launch} {e : Env} {R : Room} {s : State} {m : MethodId} {args : Array Value} {below : List Frame} {meth : Method} {c : Code} {x : Xc} {K0 : Ka} {o : (Ka × Cm) ⊕ (Ka × Cm)} {N : Nat} (CTX : CT p l s m args meth c x K0 RX6 "<init>" cX6_init 6 none) (hRm : 6 ≤ R.frames ∧ 95 ≤ R.locals) (hRc : nz sV K0 o ≤ R.cells ∧ nu sV K0 o ≤ R.slots) (x0 : Nat) (s0 : Nat) (s1 : Nat) (K : Ka) (M : Cm) (H : Heap) (locs : List Loc) (ls : Array Slot) (hf : bT_X6_init_45 N x0 s0 s1 K M = some o) (hL : KLe K0 K) (hR : RC x K M H) (hS : va_S (AC K0) s.heap H locs) (hl : lv_has ls 6 [(0, .ref x0)]) : W p l e R s m args below meth c H locs (kz K - kz K0) (ku K - ku K0) (TQ sV (aQV x K0) (zQV K0) "java/lang/IllegalStateException" x K0 below args s o) (F0 m 45 ls [.ref s1, .ref s0]) := by
  obtain ⟨CX, hno, hlt, hmn⟩ := id CTX
  obtain ⟨hx, hb, hml, hown, hts, hE, hB, hr, hlk⟩ := id CX
  have hcs := nz_le (mbT_X6_init_45  x0 s0 s1 K M hf) hRc
  unfold bT_X6_init_45 at hf
  obtain ⟨hk_s0_7, hf⟩ := gd_some hf
  refine tr_putFR kc_6 CX hmn hR hL hS (v := some s1) ff_X6_26 ⟨rfl, rfl, .inr ⟨_, rfl⟩⟩ hk_s0_7 dX6_init_45 (fun H locs hR hS => ?_)
  refine lv_aload_n hx hb dX6_init_48 rfl (lv_at hl 0 rfl) ?_
  refine lv_iconst (v := 0) hx hb dX6_init_49 (by decide) ?_
  obtain ⟨hk_x0_7, hf⟩ := gd_some hf
  refine cr_putI kc_6 CX hR hL hS fa_X6_29 ⟨rfl, rfl, rfl⟩ hk_x0_7 dX6_init_50 (fun H locs hR hS => ?_)
  refine lv_aload_n hx hb dX6_init_53 rfl (lv_at hl 0 rfl) ?_
  refine lv_iconst (v := 0) hx hb dX6_init_54 (by decide) ?_
  refine cr_putI kc_6 CX hR hL hS fa_X6_33 ⟨rfl, rfl, rfl⟩ hk_x0_7 dX6_init_55 (fun H locs hR hS => ?_)
  refine lv_iconst (v := 0) hx hb dX6_init_58 (by decide) ?_
  refine lv_istore_n (lv' := [(1, .int 0), (0, .ref x0)]) hx hb dX6_init_59 rfl hl (by decide) rfl (fun ls hl => ?_)
  refine lv_lconst (v := 0) hx hb dX6_init_60 (by decide) ?_
  refine lv_lstore_n (lv' := [(2, .long 0), (1, .int 0), (0, .ref x0)]) hx hb dX6_init_61 rfl hl (by decide) rfl (fun ls hl => ?_)
  refine lv_iconst (v := 0) hx hb dX6_init_62 (by decide) ?_
  refine lv_istore (lv' := [(4, .int 0), (2, .long 0), (1, .int 0), (0, .ref x0)]) hx hb dX6_init_63 hl (by decide) rfl (fun ls hl => ?_)
  exact (wlT_X6_init_65 CTX hRm hRc mbT_X6_init_131 (wbT_X6_init_131 CTX hRm hRc) N) _ _ _ _ _ _ _ _ _ hf hL hR hS (lv_sub hl [3, 2, 1, 0] rfl)
def bT_X6_init_37 (N : Nat) (x0 : Nat) (s0 : Nat) (s1 : Nat) (K : Ka) (M : Cm) : Option ((Ka × Cm) ⊕ (Ka × Cm)) := gd (kd K s0 == 7) (gd (decide (¬ (25 : Int32) < 0 ∧ (25 : Int32).toNatClampNeg ≤ 1000000)) ((bT_X6_init_45 N) x0 x0 (kz K) (kNew K 23 (25 : Int32).toNatClampNeg (25 : Int32).toNatClampNeg) (mZ (wR M s0 3 (some s1)) (kz K))))
theorem mbT_X6_init_37 {o : (Ka × Cm) ⊕ (Ka × Cm)} {N : Nat}  (x0 : Nat) (s0 : Nat) (s1 : Nat) (K : Ka) (M : Cm) (hf : bT_X6_init_37 N x0 s0 s1 K M = some o) : KLe K (oK sV o) := by
  unfold bT_X6_init_37 at hf
  obtain ⟨-, hf⟩ := gd_some hf
  obtain ⟨-, hf⟩ := gd_some hf
  exact (kNew_le _ _ _ _).tr (mbT_X6_init_45 _ _ _ _ _ hf)
set_option maxRecDepth 100000 in
set_option maxHeartbeats 4000000 in
theorem wbT_X6_init_37 {p : Program} {l : Launch} {e : Env} {R : Room} {s : State} {m : MethodId} {args : Array Value} {below : List Frame} {meth : Method} {c : Code} {x : Xc} {K0 : Ka} {o : (Ka × Cm) ⊕ (Ka × Cm)} {N : Nat} (CTX : CT p l s m args meth c x K0 RX6 "<init>" cX6_init 6 none) (hRm : 6 ≤ R.frames ∧ 95 ≤ R.locals) (hRc : nz sV K0 o ≤ R.cells ∧ nu sV K0 o ≤ R.slots) (x0 : Nat) (s0 : Nat) (s1 : Nat) (K : Ka) (M : Cm) (H : Heap) (locs : List Loc) (ls : Array Slot) (hf : bT_X6_init_37 N x0 s0 s1 K M = some o) (hL : KLe K0 K) (hR : RC x K M H) (hS : va_S (AC K0) s.heap H locs) (hl : lv_has ls 6 [(0, .ref x0)]) : W p l e R s m args below meth c H locs (kz K - kz K0) (ku K - ku K0) (TQ sV (aQV x K0) (zQV K0) "java/lang/IllegalStateException" x K0 below args s o) (F0 m 37 ls [.ref s1, .ref s0]) := by
  obtain ⟨CX, hno, hlt, hmn⟩ := id CTX
  obtain ⟨hx, hb, hml, hown, hts, hE, hB, hr, hlk⟩ := id CX
  have hcs := nz_le (mbT_X6_init_37  x0 s0 s1 K M hf) hRc
  unfold bT_X6_init_37 at hf
  obtain ⟨hk_s0_7, hf⟩ := gd_some hf
  refine tr_putFR kc_6 CX hmn hR hL hS (v := some s1) ff_X6_22 ⟨rfl, rfl, .inr ⟨_, rfl⟩⟩ hk_s0_7 dX6_init_37 (fun H locs hR hS => ?_)
  refine lv_aload_n hx hb dX6_init_40 rfl (lv_at hl 0 rfl) ?_
  refine lv_bipush (v := 25) hx hb dX6_init_41 (by decide) ?_
  obtain ⟨hq, hf⟩ := gd_some hf
  have hm1 := mbT_X6_init_45 _ _ _ _ _ hf
  have hb1 := nz_le hm1 hRc
  refine tr_newal CX hL hR hS hq hb1 dX6_init_43 (fun H hR hS => ?_)
  exact (wbT_X6_init_45 CTX hRm hRc) _ _ _ _ _ _ _ _ hf (hL.tr (kNew_le _ _ _ _)) hR hS (lv_sub hl [0] rfl)
def bT_X6_init_28 (N : Nat) (x0 : Nat) (s0 : Nat) (s1 : Nat) (K : Ka) (M : Cm) : Option ((Ka × Cm) ⊕ (Ka × Cm)) := gd (kd K s0 == 7) (gd (decide (¬ (4001 : Int32) < 0 ∧ (4001 : Int32).toNatClampNeg ≤ 1000000)) ((bT_X6_init_37 N) x0 x0 (kz K) (kNew K 23 (4001 : Int32).toNatClampNeg (4001 : Int32).toNatClampNeg) (mZ (wR M s0 2 (some s1)) (kz K))))
theorem mbT_X6_init_28 {o : (Ka × Cm) ⊕ (Ka × Cm)} {N : Nat}  (x0 : Nat) (s0 : Nat) (s1 : Nat) (K : Ka) (M : Cm) (hf : bT_X6_init_28 N x0 s0 s1 K M = some o) : KLe K (oK sV o) := by
  unfold bT_X6_init_28 at hf
  obtain ⟨-, hf⟩ := gd_some hf
  obtain ⟨-, hf⟩ := gd_some hf
  exact (kNew_le _ _ _ _).tr (mbT_X6_init_37 _ _ _ _ _ hf)
set_option maxRecDepth 100000 in
set_option maxHeartbeats 4000000 in
theorem wbT_X6_init_28 {p : Program} {l : Launch} {e : Env} {R : Room} {s : State} {m : MethodId} {args : Array Value} {below : List Frame} {meth : Method} {c : Code} {x : Xc} {K0 : Ka} {o : (Ka × Cm) ⊕ (Ka × Cm)} {N : Nat} (CTX : CT p l s m args meth c x K0 RX6 "<init>" cX6_init 6 none) (hRm : 6 ≤ R.frames ∧ 95 ≤ R.locals) (hRc : nz sV K0 o ≤ R.cells ∧ nu sV K0 o ≤ R.slots) (x0 : Nat) (s0 : Nat) (s1 : Nat) (K : Ka) (M : Cm) (H : Heap) (locs : List Loc) (ls : Array Slot) (hf : bT_X6_init_28 N x0 s0 s1 K M = some o) (hL : KLe K0 K) (hR : RC x K M H) (hS : va_S (AC K0) s.heap H locs) (hl : lv_has ls 6 [(0, .ref x0)]) : W p l e R s m args below meth c H locs (kz K - kz K0) (ku K - ku K0) (TQ sV (aQV x K0) (zQV K0) "java/lang/IllegalStateException" x K0 below args s o) (F0 m 28 ls [.ref s1, .ref s0]) := by
  obtain ⟨CX, hno, hlt, hmn⟩ := id CTX
  obtain ⟨hx, hb, hml, hown, hts, hE, hB, hr, hlk⟩ := id CX
  have hcs := nz_le (mbT_X6_init_28  x0 s0 s1 K M hf) hRc
  unfold bT_X6_init_28 at hf
  obtain ⟨hk_s0_7, hf⟩ := gd_some hf
  refine tr_putFR kc_6 CX hmn hR hL hS (v := some s1) ff_X6_19 ⟨rfl, rfl, .inr ⟨_, rfl⟩⟩ hk_s0_7 dX6_init_28 (fun H locs hR hS => ?_)
  refine lv_aload_n hx hb dX6_init_31 rfl (lv_at hl 0 rfl) ?_
  refine lv_sipush (v := 4001) hx hb dX6_init_32 (by decide) ?_
  obtain ⟨hq, hf⟩ := gd_some hf
  have hm1 := mbT_X6_init_37 _ _ _ _ _ hf
  have hb1 := nz_le hm1 hRc
  refine tr_newal CX hL hR hS hq hb1 dX6_init_35 (fun H hR hS => ?_)
  exact (wbT_X6_init_37 CTX hRm hRc) _ _ _ _ _ _ _ _ hf (hL.tr (kNew_le _ _ _ _)) hR hS (lv_sub hl [0] rfl)
def bT_X6_init_19 (N : Nat) (x0 : Nat) (s0 : Nat) (s1 : Nat) (K : Ka) (M : Cm) : Option ((Ka × Cm) ⊕ (Ka × Cm)) := gd (kd K s0 == 7) (gd (decide (¬ (4001 : Int32) < 0 ∧ (4001 : Int32).toNatClampNeg ≤ 1000000)) ((bT_X6_init_28 N) x0 x0 (kz K) (kNew K 22 (4001 : Int32).toNatClampNeg (4001 : Int32).toNatClampNeg) (mZ (wR M s0 1 (some s1)) (kz K))))
theorem mbT_X6_init_19 {o : (Ka × Cm) ⊕ (Ka × Cm)} {N : Nat}  (x0 : Nat) (s0 : Nat) (s1 : Nat) (K : Ka) (M : Cm) (hf : bT_X6_init_19 N x0 s0 s1 K M = some o) : KLe K (oK sV o) := by
  unfold bT_X6_init_19 at hf
  obtain ⟨-, hf⟩ := gd_some hf
  obtain ⟨-, hf⟩ := gd_some hf
  exact (kNew_le _ _ _ _).tr (mbT_X6_init_28 _ _ _ _ _ hf)
set_option maxRecDepth 100000 in
set_option maxHeartbeats 4000000 in
theorem wbT_X6_init_19 {p : Program} {l : Launch} {e : Env} {R : Room} {s : State} {m : MethodId} {args : Array Value} {below : List Frame} {meth : Method} {c : Code} {x : Xc} {K0 : Ka} {o : (Ka × Cm) ⊕ (Ka × Cm)} {N : Nat} (CTX : CT p l s m args meth c x K0 RX6 "<init>" cX6_init 6 none) (hRm : 6 ≤ R.frames ∧ 95 ≤ R.locals) (hRc : nz sV K0 o ≤ R.cells ∧ nu sV K0 o ≤ R.slots) (x0 : Nat) (s0 : Nat) (s1 : Nat) (K : Ka) (M : Cm) (H : Heap) (locs : List Loc) (ls : Array Slot) (hf : bT_X6_init_19 N x0 s0 s1 K M = some o) (hL : KLe K0 K) (hR : RC x K M H) (hS : va_S (AC K0) s.heap H locs) (hl : lv_has ls 6 [(0, .ref x0)]) : W p l e R s m args below meth c H locs (kz K - kz K0) (ku K - ku K0) (TQ sV (aQV x K0) (zQV K0) "java/lang/IllegalStateException" x K0 below args s o) (F0 m 19 ls [.ref s1, .ref s0]) := by
  obtain ⟨CX, hno, hlt, hmn⟩ := id CTX
  obtain ⟨hx, hb, hml, hown, hts, hE, hB, hr, hlk⟩ := id CX
  have hcs := nz_le (mbT_X6_init_19  x0 s0 s1 K M hf) hRc
  unfold bT_X6_init_19 at hf
  obtain ⟨hk_s0_7, hf⟩ := gd_some hf
  refine tr_putFR kc_6 CX hmn hR hL hS (v := some s1) ff_X6_15 ⟨rfl, rfl, .inr ⟨_, rfl⟩⟩ hk_s0_7 dX6_init_19 (fun H locs hR hS => ?_)
  refine lv_aload_n hx hb dX6_init_22 rfl (lv_at hl 0 rfl) ?_
  refine lv_sipush (v := 4001) hx hb dX6_init_23 (by decide) ?_
  obtain ⟨hq, hf⟩ := gd_some hf
  have hm1 := mbT_X6_init_28 _ _ _ _ _ hf
  have hb1 := nz_le hm1 hRc
  refine tr_newai CX hL hR hS hq hb1 dX6_init_26 (fun H hR hS => ?_)
  exact (wbT_X6_init_28 CTX hRm hRc) _ _ _ _ _ _ _ _ hf (hL.tr (kNew_le _ _ _ _)) hR hS (lv_sub hl [0] rfl)
def bT_X6_init_10 (N : Nat) (x0 : Nat) (s0 : Nat) (s1 : Nat) (K : Ka) (M : Cm) : Option ((Ka × Cm) ⊕ (Ka × Cm)) := gd (kd K s0 == 7) (gd (decide (¬ (4001 : Int32) < 0 ∧ (4001 : Int32).toNatClampNeg ≤ 1000000)) ((bT_X6_init_19 N) x0 x0 (kz K) (kNew K 22 (4001 : Int32).toNatClampNeg (4001 : Int32).toNatClampNeg) (mZ (wR M s0 0 (some s1)) (kz K))))
theorem mbT_X6_init_10 {o : (Ka × Cm) ⊕ (Ka × Cm)} {N : Nat}  (x0 : Nat) (s0 : Nat) (s1 : Nat) (K : Ka) (M : Cm) (hf : bT_X6_init_10 N x0 s0 s1 K M = some o) : KLe K (oK sV o) := by
  unfold bT_X6_init_10 at hf
  obtain ⟨-, hf⟩ := gd_some hf
  obtain ⟨-, hf⟩ := gd_some hf
  exact (kNew_le _ _ _ _).tr (mbT_X6_init_19 _ _ _ _ _ hf)
set_option maxRecDepth 100000 in
set_option maxHeartbeats 4000000 in
theorem wbT_X6_init_10 {p : Program} {l : Launch} {e : Env} {R : Room} {s : State} {m : MethodId} {args : Array Value} {below : List Frame} {meth : Method} {c : Code} {x : Xc} {K0 : Ka} {o : (Ka × Cm) ⊕ (Ka × Cm)} {N : Nat} (CTX : CT p l s m args meth c x K0 RX6 "<init>" cX6_init 6 none) (hRm : 6 ≤ R.frames ∧ 95 ≤ R.locals) (hRc : nz sV K0 o ≤ R.cells ∧ nu sV K0 o ≤ R.slots) (x0 : Nat) (s0 : Nat) (s1 : Nat) (K : Ka) (M : Cm) (H : Heap) (locs : List Loc) (ls : Array Slot) (hf : bT_X6_init_10 N x0 s0 s1 K M = some o) (hL : KLe K0 K) (hR : RC x K M H) (hS : va_S (AC K0) s.heap H locs) (hl : lv_has ls 6 [(0, .ref x0)]) : W p l e R s m args below meth c H locs (kz K - kz K0) (ku K - ku K0) (TQ sV (aQV x K0) (zQV K0) "java/lang/IllegalStateException" x K0 below args s o) (F0 m 10 ls [.ref s1, .ref s0]) := by
  obtain ⟨CX, hno, hlt, hmn⟩ := id CTX
  obtain ⟨hx, hb, hml, hown, hts, hE, hB, hr, hlk⟩ := id CX
  have hcs := nz_le (mbT_X6_init_10  x0 s0 s1 K M hf) hRc
  unfold bT_X6_init_10 at hf
  obtain ⟨hk_s0_7, hf⟩ := gd_some hf
  refine tr_putFR kc_6 CX hmn hR hL hS (v := some s1) ff_X6_9 ⟨rfl, rfl, .inr ⟨_, rfl⟩⟩ hk_s0_7 dX6_init_10 (fun H locs hR hS => ?_)
  refine lv_aload_n hx hb dX6_init_13 rfl (lv_at hl 0 rfl) ?_
  refine lv_sipush (v := 4001) hx hb dX6_init_14 (by decide) ?_
  obtain ⟨hq, hf⟩ := gd_some hf
  have hm1 := mbT_X6_init_19 _ _ _ _ _ hf
  have hb1 := nz_le hm1 hRc
  refine tr_newai CX hL hR hS hq hb1 dX6_init_17 (fun H hR hS => ?_)
  exact (wbT_X6_init_19 CTX hRm hRc) _ _ _ _ _ _ _ _ hf (hL.tr (kNew_le _ _ _ _)) hR hS (lv_sub hl [0] rfl)
def fT_X6_init (N : Nat) (x0 : Nat) (K : Ka) (M : Cm) : Option ((Ka × Cm) ⊕ (Ka × Cm)) := gd (decide (¬ (4000 : Int32) < 0 ∧ (4000 : Int32).toNatClampNeg ≤ 1000000)) ((bT_X6_init_10 N) x0 x0 (kz K) (kNew K 21 (4000 : Int32).toNatClampNeg (4000 : Int32).toNatClampNeg) (mZ M (kz K)))
theorem mfT_X6_init {o : (Ka × Cm) ⊕ (Ka × Cm)} {N : Nat}  (x0 : Nat) (K : Ka) (M : Cm) (hf : fT_X6_init N x0 K M = some o) : KLe K (oK sV o) := by
  unfold fT_X6_init at hf
  obtain ⟨-, hf⟩ := gd_some hf
  exact (kNew_le _ _ _ _).tr (mbT_X6_init_10 _ _ _ _ _ hf)
set_option maxRecDepth 100000 in
set_option maxHeartbeats 4000000 in
theorem wfT_X6_init {p : Program} {l : Launch} {e : Env} {R : Room} {s : State} {m : MethodId} {args : Array Value} {below : List Frame} {meth : Method} {c : Code} {x : Xc} {K0 : Ka} {o : (Ka × Cm) ⊕ (Ka × Cm)} {N : Nat} (CTX : CT p l s m args meth c x K0 RX6 "<init>" cX6_init 6 none) (hRm : 6 ≤ R.frames ∧ 95 ≤ R.locals) (hRc : nz sV K0 o ≤ R.cells ∧ nu sV K0 o ≤ R.slots) (x0 : Nat) (K : Ka) (M : Cm) (H : Heap) (locs : List Loc) (ls : Array Slot) (hf : fT_X6_init N x0 K M = some o) (hL : KLe K0 K) (hR : RC x K M H) (hS : va_S (AC K0) s.heap H locs) (hl : lv_has ls 6 [(0, .ref x0)]) : W p l e R s m args below meth c H locs (kz K - kz K0) (ku K - ku K0) (TQ sV (aQV x K0) (zQV K0) "java/lang/IllegalStateException" x K0 below args s o) (F0 m 0 ls []) := by
  obtain ⟨CX, hno, hlt, hmn⟩ := id CTX
  obtain ⟨hx, hb, hml, hown, hts, hE, hB, hr, hlk⟩ := id CX
  have hcs := nz_le (mfT_X6_init  x0 K M hf) hRc
  unfold fT_X6_init at hf
  refine lv_aload_n hx hb dX6_init_0 rfl (lv_at hl 0 rfl) ?_
  refine tr_objInit CX wi_X6_3 hl.1 (by omega) (by omega) (Nat.le_of_ble_eq_true rfl) dX6_init_1 ?_
  refine lv_aload_n hx hb dX6_init_4 rfl (lv_at hl 0 rfl) ?_
  refine lv_sipush (v := 4000) hx hb dX6_init_5 (by decide) ?_
  obtain ⟨hq, hf⟩ := gd_some hf
  have hm1 := mbT_X6_init_10 _ _ _ _ _ hf
  have hb1 := nz_le hm1 hRc
  refine tr_newac CX hL hR hS hq hb1 dX6_init_8 (fun H hR hS => ?_)
  exact (wbT_X6_init_10 CTX hRm hRc) _ _ _ _ _ _ _ _ hf (hL.tr (kNew_le _ _ _ _)) hR hS (lv_sub hl [0] rfl)
theorem MT_X6_init (l : Launch) (x : Xc) (hlt : l.stackTraces = false) (N : Nat) (x0 : Nat) (K : Ka) (M : Cm) (o : (Ka × Cm) ⊕ (Ka × Cm)) (hf : fT_X6_init N x0 K M = some o) : Tc sV (aQV x K) (zQV K) "java/lang/IllegalStateException" l x yX6_init cX6_init 6 none 6 95 [.ref x0] K M o :=
  tr_met RX6 "<init>" hlt (by decide) rfl rfl (Nat.le_of_ble_eq_true rfl) (fun p e s m args below meth c ls CTX hR hl => wfT_X6_init CTX ⟨Nat.le_refl _, Nat.le_refl _⟩ ⟨Nat.le_refl _, Nat.le_refl _⟩ x0 K M s.heap [] ls hf (KLe.rf K) hR va_S.rf hl)
def bT_X8_device_15 (N : Nat) (x0 : Nat) (K : Ka) (M : Cm) : Option ((Int32 × Ka × Cm) ⊕ (Ka × Cm)) := some (.inr (K, M))
theorem mbT_X8_device_15 {o : (Int32 × Ka × Cm) ⊕ (Ka × Cm)} {N : Nat}  (x0 : Nat) (K : Ka) (M : Cm) (hf : bT_X8_device_15 N x0 K M = some o) : KLe K (oK sT o) := by
  unfold bT_X8_device_15 at hf
  cases hf
  exact KLe.rf _
set_option maxRecDepth 100000 in
set_option maxHeartbeats 4000000 in
theorem wbT_X8_device_15 {p : Program} {l : Launch} {e : Env} {R : Room} {s : State} {m : MethodId} {args : Array Value} {below : List Frame} {meth : Method} {c : Code} {x : Xc} {K0 : Ka} {o : (Int32 × Ka × Cm) ⊕ (Ka × Cm)} {N : Nat} (CTX : CT p l s m args meth c x K0 RX8 "device" cX8_device 3 (some .int)) (hRm : 6 ≤ R.frames ∧ 95 ≤ R.locals) (hRc : nz sT K0 o ≤ R.cells ∧ nu sT K0 o ≤ R.slots) (x0 : Nat) (K : Ka) (M : Cm) (H : Heap) (locs : List Loc) (ls : Array Slot) (hf : bT_X8_device_15 N x0 K M = some o) (hL : KLe K0 K) (hR : RC x K M H) (hS : va_S (AC K0) s.heap H locs) (hl : lv_has ls 3 [(0, .ref x0)]) : W p l e R s m args below meth c H locs (kz K - kz K0) (ku K - ku K0) (TQ sT (aQI x K0) (zQV K0) "java/util/NoSuchElementException" x K0 below args s o) (F0 m 15 ls []) := by
  obtain ⟨CX, hno, hlt, hmn⟩ := id CTX
  obtain ⟨hx, hb, hml, hown, hts, hE, hB, hr, hlk⟩ := id CX
  have hcs := nz_le (mbT_X8_device_15  x0 K M hf) hRc
  unfold bT_X8_device_15 at hf
  cases hf
  exact tr_throwN (k := 7) CTX hL hR hS tw_X8_240 (i := 6) (by decide) hl.1 (by omega) (by omega) (Nat.le_of_ble_eq_true rfl) hRc dX8_device_15 dX8_device_18 (Or.inr ⟨dX8_device_19, rfl⟩) dX8_device_22 dX8_device_25 rfl
def fT_X8_device (N : Nat) (x0 : Nat) (x1 : Int32) (x2 : Int32) (K : Ka) (M : Cm) : Option ((Int32 × Ka × Cm) ⊕ (Ka × Cm)) := if x1 < 0 then ((bT_X8_device_15 N) x0 K M) else (gd (kd K x0 == 9) (nn (cR M x0 7) fun a1 => gd (kd K a1 == 6) (if x1 < (cI M a1 10) then (if x2 = 0 then (nn (cR M x0 2) fun a2 => gd (kd K a2 == 5) (nn (cR M a2 8) fun a3 => gd (kd K a3 == 22) (ck x1 (le K a3) (some (.inl (cI M a3 (x1 : Int32).toNatClampNeg, K, M)))))) else if x2 = 1 then (nn (cR M x0 2) fun a4 => gd (kd K a4 == 5) (nn (cR M a4 9) fun a5 => gd (kd K a5 == 22) (ck x1 (le K a5) (some (.inl (cI M a5 (x1 : Int32).toNatClampNeg, K, M)))))) else (some (.inr (K, M)))) else ((bT_X8_device_15 N) x0 K M))))
theorem mfT_X8_device {o : (Int32 × Ka × Cm) ⊕ (Ka × Cm)} {N : Nat}  (x0 : Nat) (x1 : Int32) (x2 : Int32) (K : Ka) (M : Cm) (hf : fT_X8_device N x0 x1 x2 K M = some o) : KLe K (oK sT o) := by
  unfold fT_X8_device at hf
  by_cases hc : x1 < 0
  · rw [if_pos hc] at hf
    exact mbT_X8_device_15 _ _ _ hf
  · rw [if_neg hc] at hf
    obtain ⟨-, hf⟩ := gd_some hf
    obtain ⟨a1, -, hf⟩ := nn_some hf
    obtain ⟨-, hf⟩ := gd_some hf
    by_cases hc : x1 < (cI M a1 10)
    · rw [if_pos hc] at hf
      by_cases hc0 : x2 = 0
      · rw [if_pos hc0] at hf
        obtain ⟨a2, -, hf⟩ := nn_some hf
        obtain ⟨-, hf⟩ := gd_some hf
        obtain ⟨a3, -, hf⟩ := nn_some hf
        obtain ⟨-, hf⟩ := gd_some hf
        obtain ⟨-, hf⟩ := ck_some hf
        cases hf
        exact KLe.rf _
      · rw [if_neg hc0] at hf
        by_cases hc1 : x2 = 1
        · rw [if_pos hc1] at hf
          obtain ⟨a4, -, hf⟩ := nn_some hf
          obtain ⟨-, hf⟩ := gd_some hf
          obtain ⟨a5, -, hf⟩ := nn_some hf
          obtain ⟨-, hf⟩ := gd_some hf
          obtain ⟨-, hf⟩ := ck_some hf
          cases hf
          exact KLe.rf _
        · rw [if_neg hc1] at hf
          cases hf
          exact KLe.rf _
    · rw [if_neg hc] at hf
      exact mbT_X8_device_15 _ _ _ hf
set_option maxRecDepth 100000 in
set_option maxHeartbeats 4000000 in
theorem wfT_X8_device {p : Program} {l : Launch} {e : Env} {R : Room} {s : State} {m : MethodId} {args : Array Value} {below : List Frame} {meth : Method} {c : Code} {x : Xc} {K0 : Ka} {o : (Int32 × Ka × Cm) ⊕ (Ka × Cm)} {N : Nat} (CTX : CT p l s m args meth c x K0 RX8 "device" cX8_device 3 (some .int)) (hRm : 6 ≤ R.frames ∧ 95 ≤ R.locals) (hRc : nz sT K0 o ≤ R.cells ∧ nu sT K0 o ≤ R.slots) (x0 : Nat) (x1 : Int32) (x2 : Int32) (K : Ka) (M : Cm) (H : Heap) (locs : List Loc) (ls : Array Slot) (hf : fT_X8_device N x0 x1 x2 K M = some o) (hL : KLe K0 K) (hR : RC x K M H) (hS : va_S (AC K0) s.heap H locs) (hl : lv_has ls 3 [(0, .ref x0), (1, .int x1), (2, .int x2)]) : W p l e R s m args below meth c H locs (kz K - kz K0) (ku K - ku K0) (TQ sT (aQI x K0) (zQV K0) "java/util/NoSuchElementException" x K0 below args s o) (F0 m 0 ls []) := by
  obtain ⟨CX, hno, hlt, hmn⟩ := id CTX
  obtain ⟨hx, hb, hml, hown, hts, hE, hB, hr, hlk⟩ := id CX
  have hcs := nz_le (mfT_X8_device  x0 x1 x2 K M hf) hRc
  unfold fT_X8_device at hf
  refine lv_iload_n hx hb dX8_device_0 rfl (lv_at hl 1 rfl) ?_
  refine lv_if_lt (tgt := 15) hx hb dX8_device_1 (by decide) (fun hc => ?_) (fun hc => ?_)
  · rw [if_pos hc] at hf
    exact (wbT_X8_device_15 CTX hRm hRc) _ _ _ _ _ _ hf hL hR hS (lv_sub hl [0] rfl)
  · rw [if_neg hc] at hf
    refine lv_iload_n hx hb dX8_device_4 rfl (lv_at hl 1 rfl) ?_
    refine lv_aload_n hx hb dX8_device_5 rfl (lv_at hl 0 rfl) ?_
    obtain ⟨hk_x0_9, hf⟩ := gd_some hf
    refine cr_getR kc_8 CX hR fa_X8_60 rfl hk_x0_9 dX8_device_6 ?_
    obtain ⟨a1, ha1, hf⟩ := nn_some hf
    refine rf_0 ha1 ?_
    obtain ⟨hk_a1_6, hf⟩ := gd_some hf
    refine cr_getI kc_5 CX hR fa_X8_123 rfl hk_a1_6 dX8_device_9 ?_
    refine lv_icmp_lt (tgt := 26) hx hb dX8_device_12 (by decide) (fun hc => ?_) (fun hc => ?_)
    · rw [if_pos hc] at hf
      refine lv_iload_n hx hb dX8_device_26 rfl (lv_at hl 2 rfl) ?_
      by_cases hc0 : x2 = 0
      · rw [if_pos hc0] at hf
        refine lv_lookup (off := 25) (tgt := 52) hx hb dX8_device_27 (by decide) (by rw [hc0]; decide) (by decide) ?_
        refine lv_aload_n hx hb dX8_device_52 rfl (lv_at hl 0 rfl) ?_
        refine cr_getR kc_8 CX hR fa_X8_28 rfl hk_x0_9 dX8_device_53 ?_
        obtain ⟨a2, ha2, hf⟩ := nn_some hf
        refine rf_0 ha2 ?_
        obtain ⟨hk_a2_5, hf⟩ := gd_some hf
        refine cr_getR kc_4 CX hR fa_X8_208 rfl hk_a2_5 dX8_device_56 ?_
        refine lv_iload_n hx hb dX8_device_59 rfl (lv_at hl 1 rfl) ?_
        obtain ⟨a3, ha3, hf⟩ := nn_some hf
        refine rf_1 ha3 ?_
        obtain ⟨hk_a3_22, hf⟩ := gd_some hf
        obtain ⟨hi, hf⟩ := ck_some hf
        refine cr_iald CX hR hk_a3_22 hi dX8_device_60 ?_
        exact tr_iret CX hR hS hf dX8_device_61
      · rw [if_neg hc0] at hf
        by_cases hc1 : x2 = 1
        · rw [if_pos hc1] at hf
          refine lv_lookup (off := 35) (tgt := 62) hx hb dX8_device_27 (by decide) (by rw [hc1]; decide) (by decide) ?_
          refine lv_aload_n hx hb dX8_device_62 rfl (lv_at hl 0 rfl) ?_
          refine cr_getR kc_8 CX hR fa_X8_28 rfl hk_x0_9 dX8_device_63 ?_
          obtain ⟨a4, ha4, hf⟩ := nn_some hf
          refine rf_0 ha4 ?_
          obtain ⟨hk_a4_5, hf⟩ := gd_some hf
          refine cr_getR kc_4 CX hR fa_X8_205 rfl hk_a4_5 dX8_device_66 ?_
          refine lv_iload_n hx hb dX8_device_69 rfl (lv_at hl 1 rfl) ?_
          obtain ⟨a5, ha5, hf⟩ := nn_some hf
          refine rf_1 ha5 ?_
          obtain ⟨hk_a5_22, hf⟩ := gd_some hf
          obtain ⟨hi, hf⟩ := ck_some hf
          refine cr_iald CX hR hk_a5_22 hi dX8_device_70 ?_
          exact tr_iret CX hR hS hf dX8_device_71
        · rw [if_neg hc1] at hf
          have hn0 := tsw_ne (k := 0) rfl hc0
          have hn1 := tsw_ne (k := 1) rfl hc1
          refine lv_lookup (off := 45) (tgt := 72) hx hb dX8_device_27 (by decide) (by simp only [Op.lookupswitch.offset, List.toList_toArray, Ne.symm hn0, Ne.symm hn1, if_false]) (by decide) ?_
          cases hf
          exact tr_throwN (k := 7) CTX hL hR hS tw_X8_240 (i := 7) (by decide) hl.1 (by omega) (by omega) (Nat.le_of_ble_eq_true rfl) hRc dX8_device_72 dX8_device_75 (Or.inr ⟨dX8_device_76, rfl⟩) dX8_device_79 dX8_device_82 rfl
    · rw [if_neg hc] at hf
      exact (wbT_X8_device_15 CTX hRm hRc) _ _ _ _ _ _ hf hL hR hS (lv_sub hl [0] rfl)
theorem MT_X8_device (l : Launch) (x : Xc) (hlt : l.stackTraces = false) (N : Nat) (x0 : Nat) (x1 : Int32) (x2 : Int32) (K : Ka) (M : Cm) (o : (Int32 × Ka × Cm) ⊕ (Ka × Cm)) (hf : fT_X8_device N x0 x1 x2 K M = some o) : Tc sT (aQI x K) (zQV K) "java/util/NoSuchElementException" l x yX8_device cX8_device 3 (some .int) 6 95 [.ref x0, .int x1, .int x2] K M o :=
  tr_met RX8 "device" hlt (by decide) rfl rfl (Nat.le_of_ble_eq_true rfl) (fun p e s m args below meth c ls CTX hR hl => wfT_X8_device CTX ⟨Nat.le_refl _, Nat.le_refl _⟩ ⟨Nat.le_refl _, Nat.le_refl _⟩ x0 x1 x2 K M s.heap [] ls hf (KLe.rf K) hR va_S.rf hl)
def bT_X8_init_99 (N : Nat) (x0 : Nat) (s0 : Nat) (s1 : Nat) (K : Ka) (M : Cm) : Option ((Ka × Cm) ⊕ (Ka × Cm)) := gd (kd K s0 == 9) (gd (kd K x0 == 9) (gd (is01 0) (some (.inl (K, wI (wI (wI (wI (wI (wR M s0 7 (some s1)) x0 8 0) x0 9 0) x0 10 0) x0 11 0) x0 12 0)))))
theorem mbT_X8_init_99 {o : (Ka × Cm) ⊕ (Ka × Cm)} {N : Nat}  (x0 : Nat) (s0 : Nat) (s1 : Nat) (K : Ka) (M : Cm) (hf : bT_X8_init_99 N x0 s0 s1 K M = some o) : KLe K (oK sV o) := by
  unfold bT_X8_init_99 at hf
  obtain ⟨-, hf⟩ := gd_some hf
  obtain ⟨-, hf⟩ := gd_some hf
  obtain ⟨-, hf⟩ := gd_some hf
  cases hf
  exact KLe.rf _
set_option maxRecDepth 100000 in
set_option maxHeartbeats 4000000 in
theorem wbT_X8_init_99 {p : Program} {l : Launch} {e : Env} {R : Room} {s : State} {m : MethodId} {args : Array Value} {below : List Frame} {meth : Method} {c : Code} {x : Xc} {K0 : Ka} {o : (Ka × Cm) ⊕ (Ka × Cm)} {N : Nat} (CTX : CT p l s m args meth c x K0 RX8 "<init>" cX8_init 1 none) (hRm : 8 ≤ R.frames ∧ 138 ≤ R.locals) (hRc : nz sV K0 o ≤ R.cells ∧ nu sV K0 o ≤ R.slots) (x0 : Nat) (s0 : Nat) (s1 : Nat) (K : Ka) (M : Cm) (H : Heap) (locs : List Loc) (ls : Array Slot) (hf : bT_X8_init_99 N x0 s0 s1 K M = some o) (hL : KLe K0 K) (hR : RC x K M H) (hS : va_S (AC K0) s.heap H locs) (hl : lv_has ls 1 [(0, .ref x0)]) : W p l e R s m args below meth c H locs (kz K - kz K0) (ku K - ku K0) (TQ sV (aQV x K0) (zQV K0) "java/util/NoSuchElementException" x K0 below args s o) (F0 m 99 ls [.ref s1, .ref s0]) := by
  obtain ⟨CX, hno, hlt, hmn⟩ := id CTX
  obtain ⟨hx, hb, hml, hown, hts, hE, hB, hr, hlk⟩ := id CX
  have hcs := nz_le (mbT_X8_init_99  x0 s0 s1 K M hf) hRc
  unfold bT_X8_init_99 at hf
  obtain ⟨hk_s0_9, hf⟩ := gd_some hf
  refine cr_putR kc_8 CX hR hL hS (v := some s1) fa_X8_60 ⟨rfl, rfl, .inl ⟨_, rfl⟩⟩ hk_s0_9 dX8_init_99 (fun H locs hR hS => ?_)
  refine lv_aload_n hx hb dX8_init_102 rfl (lv_at hl 0 rfl) ?_
  refine lv_iconst (v := 0) hx hb dX8_init_103 (by decide) ?_
  obtain ⟨hk_x0_9, hf⟩ := gd_some hf
  refine cr_putI kc_8 CX hR hL hS fa_X8_64 ⟨rfl, rfl, rfl⟩ hk_x0_9 dX8_init_104 (fun H locs hR hS => ?_)
  refine lv_aload_n hx hb dX8_init_107 rfl (lv_at hl 0 rfl) ?_
  refine lv_iconst (v := 0) hx hb dX8_init_108 (by decide) ?_
  refine cr_putI kc_8 CX hR hL hS fa_X8_68 ⟨rfl, rfl, rfl⟩ hk_x0_9 dX8_init_109 (fun H locs hR hS => ?_)
  refine lv_aload_n hx hb dX8_init_112 rfl (lv_at hl 0 rfl) ?_
  refine lv_iconst (v := 0) hx hb dX8_init_113 (by decide) ?_
  refine cr_putI kc_8 CX hR hL hS fa_X8_71 ⟨rfl, rfl, rfl⟩ hk_x0_9 dX8_init_114 (fun H locs hR hS => ?_)
  refine lv_aload_n hx hb dX8_init_117 rfl (lv_at hl 0 rfl) ?_
  refine lv_iconst (v := 0) hx hb dX8_init_118 (by decide) ?_
  refine cr_putI kc_8 CX hR hL hS fa_X8_74 ⟨rfl, rfl, rfl⟩ hk_x0_9 dX8_init_119 (fun H locs hR hS => ?_)
  refine lv_aload_n hx hb dX8_init_122 rfl (lv_at hl 0 rfl) ?_
  refine lv_iconst (v := 0) hx hb dX8_init_123 (by decide) ?_
  obtain ⟨hq, hf⟩ := gd_some hf
  refine cr_putZ kc_8 CX hR hL hS fa_X8_77 ⟨rfl, rfl, rfl⟩ hk_x0_9 hq dX8_init_124 (fun H locs hR hS => ?_)
  exact tr_vret CX hR hS hf dX8_init_127
def bT_X8_init_94 (N : Nat) (x0 : Nat) (s0 : Nat) (s1 : Nat) (K : Ka) (M : Cm) : Option ((Ka × Cm) ⊕ (Ka × Cm)) := ta (fT_X5_init N s1 0 K M) fun o96 => (bT_X8_init_99 N) x0 s0 s1 o96.1 o96.2
theorem mbT_X8_init_94 {o : (Ka × Cm) ⊕ (Ka × Cm)} {N : Nat}  (x0 : Nat) (s0 : Nat) (s1 : Nat) (K : Ka) (M : Cm) (hf : bT_X8_init_94 N x0 s0 s1 K M = some o) : KLe K (oK sV o) := by
  unfold bT_X8_init_94 at hf
  obtain ⟨o96, ho, hf⟩ := ta_some hf
  exact KLe.tr (mfT_X5_init _ _ _ _ ho) (mbT_X8_init_99 _ _ _ _ _ hf)
set_option maxRecDepth 100000 in
set_option maxHeartbeats 4000000 in
theorem wbT_X8_init_94 {p : Program} {l : Launch} {e : Env} {R : Room} {s : State} {m : MethodId} {args : Array Value} {below : List Frame} {meth : Method} {c : Code} {x : Xc} {K0 : Ka} {o : (Ka × Cm) ⊕ (Ka × Cm)} {N : Nat} (CTX : CT p l s m args meth c x K0 RX8 "<init>" cX8_init 1 none) (hRm : 8 ≤ R.frames ∧ 138 ≤ R.locals) (hRc : nz sV K0 o ≤ R.cells ∧ nu sV K0 o ≤ R.slots) (x0 : Nat) (s0 : Nat) (s1 : Nat) (K : Ka) (M : Cm) (H : Heap) (locs : List Loc) (ls : Array Slot) (hf : bT_X8_init_94 N x0 s0 s1 K M = some o) (hL : KLe K0 K) (hR : RC x K M H) (hS : va_S (AC K0) s.heap H locs) (hl : lv_has ls 1 [(0, .ref x0)]) : W p l e R s m args below meth c H locs (kz K - kz K0) (ku K - ku K0) (TQ sV (aQV x K0) (zQV K0) "java/util/NoSuchElementException" x K0 below args s o) (F0 m 94 ls [.ref s1, .ref s0]) := by
  obtain ⟨CX, hno, hlt, hmn⟩ := id CTX
  obtain ⟨hx, hb, hml, hown, hts, hE, hB, hr, hlk⟩ := id CX
  have hcs := nz_le (mbT_X8_init_94  x0 s0 s1 K M hf) hRc
  unfold bT_X8_init_94 at hf
  refine lv_dup hx hb dX8_init_94 rfl ?_
  refine lv_iconst (v := 0) hx hb dX8_init_95 (by decide) ?_
  obtain ⟨o96, ho, hf⟩ := ta_some hf
  have hm1 := mbT_X8_init_99 _ _ _ _ _ hf
  have hb1 := nz_le hm1 hRc
  have hq1 := (mfT_X5_init _ _ _ _ ho)
  refine ta_callVi CX hL hR hS (As := [.int 0]) (rest := [.ref s1, .ref s0]) (MT_X5_init l x hlt N _ _ _ _ _ ho) cj_X8_57 ⟨by omega, by omega⟩ rfl (Nat.le_of_ble_eq_true rfl) hl.1 hq1 hb1 rfl dX8_init_96 (fun H locs hR hS => ?_)
  exact (wbT_X8_init_99 CTX hRm hRc) _ _ _ _ _ _ _ _ hf (hL.tr hq1) hR hS (lv_sub hl [0] rfl)
def bT_X8_init_87 (N : Nat) (x0 : Nat) (s0 : Nat) (s1 : Nat) (K : Ka) (M : Cm) : Option ((Ka × Cm) ⊕ (Ka × Cm)) := gd (kd K s0 == 9) ((bT_X8_init_94 N) x0 x0 (kz K) (kNew K 6 0 (cN 5)) (mZ (wR M s0 6 (some s1)) (kz K)))
theorem mbT_X8_init_87 {o : (Ka × Cm) ⊕ (Ka × Cm)} {N : Nat}  (x0 : Nat) (s0 : Nat) (s1 : Nat) (K : Ka) (M : Cm) (hf : bT_X8_init_87 N x0 s0 s1 K M = some o) : KLe K (oK sV o) := by
  unfold bT_X8_init_87 at hf
  obtain ⟨-, hf⟩ := gd_some hf
  exact (kNew_le _ _ _ _).tr (mbT_X8_init_94 _ _ _ _ _ hf)
set_option maxRecDepth 100000 in
set_option maxHeartbeats 4000000 in
theorem wbT_X8_init_87 {p : Program} {l : Launch} {e : Env} {R : Room} {s : State} {m : MethodId} {args : Array Value} {below : List Frame} {meth : Method} {c : Code} {x : Xc} {K0 : Ka} {o : (Ka × Cm) ⊕ (Ka × Cm)} {N : Nat} (CTX : CT p l s m args meth c x K0 RX8 "<init>" cX8_init 1 none) (hRm : 8 ≤ R.frames ∧ 138 ≤ R.locals) (hRc : nz sV K0 o ≤ R.cells ∧ nu sV K0 o ≤ R.slots) (x0 : Nat) (s0 : Nat) (s1 : Nat) (K : Ka) (M : Cm) (H : Heap) (locs : List Loc) (ls : Array Slot) (hf : bT_X8_init_87 N x0 s0 s1 K M = some o) (hL : KLe K0 K) (hR : RC x K M H) (hS : va_S (AC K0) s.heap H locs) (hl : lv_has ls 1 [(0, .ref x0)]) : W p l e R s m args below meth c H locs (kz K - kz K0) (ku K - ku K0) (TQ sV (aQV x K0) (zQV K0) "java/util/NoSuchElementException" x K0 below args s o) (F0 m 87 ls [.ref s1, .ref s0]) := by
  obtain ⟨CX, hno, hlt, hmn⟩ := id CTX
  obtain ⟨hx, hb, hml, hown, hts, hE, hB, hr, hlk⟩ := id CX
  have hcs := nz_le (mbT_X8_init_87  x0 s0 s1 K M hf) hRc
  unfold bT_X8_init_87 at hf
  obtain ⟨hk_s0_9, hf⟩ := gd_some hf
  refine tr_putFR kc_8 CX hmn hR hL hS (v := some s1) ff_X8_51 ⟨rfl, rfl, .inr ⟨_, rfl⟩⟩ hk_s0_9 dX8_init_87 (fun H locs hR hS => ?_)
  refine lv_aload_n hx hb dX8_init_90 rfl (lv_at hl 0 rfl) ?_
  have hm1 := mbT_X8_init_94 _ _ _ _ _ hf
  have hb1 := nz_le hm1 hRc
  refine tr_new kc_5 df_5 CX hL hR hS cn_X8_55 hb1 dX8_init_91 (fun H hR hS => ?_)
  exact (wbT_X8_init_94 CTX hRm hRc) _ _ _ _ _ _ _ _ hf (hL.tr (kNew_le _ _ _ _)) hR hS (lv_sub hl [0] rfl)
def bT_X8_init_79 (N : Nat) (x0 : Nat) (s0 : Nat) (s1 : Nat) (K : Ka) (M : Cm) : Option ((Ka × Cm) ⊕ (Ka × Cm)) := gd (kd K s0 == 9) (gd (decide (¬ (24 : Int32) < 0 ∧ (24 : Int32).toNatClampNeg ≤ 1000000)) ((bT_X8_init_87 N) x0 x0 (kz K) (kNew K 22 (24 : Int32).toNatClampNeg (24 : Int32).toNatClampNeg) (mZ (wR M s0 5 (some s1)) (kz K))))
theorem mbT_X8_init_79 {o : (Ka × Cm) ⊕ (Ka × Cm)} {N : Nat}  (x0 : Nat) (s0 : Nat) (s1 : Nat) (K : Ka) (M : Cm) (hf : bT_X8_init_79 N x0 s0 s1 K M = some o) : KLe K (oK sV o) := by
  unfold bT_X8_init_79 at hf
  obtain ⟨-, hf⟩ := gd_some hf
  obtain ⟨-, hf⟩ := gd_some hf
  exact (kNew_le _ _ _ _).tr (mbT_X8_init_87 _ _ _ _ _ hf)
set_option maxRecDepth 100000 in
set_option maxHeartbeats 4000000 in
theorem wbT_X8_init_79 {p : Program} {l : Launch} {e : Env} {R : Room} {s : State} {m : MethodId} {args : Array Value} {below : List Frame} {meth : Method} {c : Code} {x : Xc} {K0 : Ka} {o : (Ka × Cm) ⊕ (Ka × Cm)} {N : Nat} (CTX : CT p l s m args meth c x K0 RX8 "<init>" cX8_init 1 none) (hRm : 8 ≤ R.frames ∧ 138 ≤ R.locals) (hRc : nz sV K0 o ≤ R.cells ∧ nu sV K0 o ≤ R.slots) (x0 : Nat) (s0 : Nat) (s1 : Nat) (K : Ka) (M : Cm) (H : Heap) (locs : List Loc) (ls : Array Slot) (hf : bT_X8_init_79 N x0 s0 s1 K M = some o) (hL : KLe K0 K) (hR : RC x K M H) (hS : va_S (AC K0) s.heap H locs) (hl : lv_has ls 1 [(0, .ref x0)]) : W p l e R s m args below meth c H locs (kz K - kz K0) (ku K - ku K0) (TQ sV (aQV x K0) (zQV K0) "java/util/NoSuchElementException" x K0 below args s o) (F0 m 79 ls [.ref s1, .ref s0]) := by
  obtain ⟨CX, hno, hlt, hmn⟩ := id CTX
  obtain ⟨hx, hb, hml, hown, hts, hE, hB, hr, hlk⟩ := id CX
  have hcs := nz_le (mbT_X8_init_79  x0 s0 s1 K M hf) hRc
  unfold bT_X8_init_79 at hf
  obtain ⟨hk_s0_9, hf⟩ := gd_some hf
  refine tr_putFR kc_8 CX hmn hR hL hS (v := some s1) ff_X8_47 ⟨rfl, rfl, .inl ⟨_, rfl⟩⟩ hk_s0_9 dX8_init_79 (fun H locs hR hS => ?_)
  refine lv_aload_n hx hb dX8_init_82 rfl (lv_at hl 0 rfl) ?_
  refine lv_bipush (v := 24) hx hb dX8_init_83 (by decide) ?_
  obtain ⟨hq, hf⟩ := gd_some hf
  have hm1 := mbT_X8_init_87 _ _ _ _ _ hf
  have hb1 := nz_le hm1 hRc
  refine tr_newai CX hL hR hS hq hb1 dX8_init_85 (fun H hR hS => ?_)
  exact (wbT_X8_init_87 CTX hRm hRc) _ _ _ _ _ _ _ _ hf (hL.tr (kNew_le _ _ _ _)) hR hS (lv_sub hl [0] rfl)
def bT_X8_init_67 (N : Nat) (x0 : Nat) (s0 : Nat) (s1 : Nat) (K : Ka) (M : Cm) : Option ((Ka × Cm) ⊕ (Ka × Cm)) := gd (kd K x0 == 9) (nn (cR M x0 4) fun a1 => nn (cR M x0 2) fun a2 => ta (fT_X2_init N s1 a2 a1 K M) fun o76 => (bT_X8_init_79 N) x0 s0 s1 o76.1 o76.2)
theorem mbT_X8_init_67 {o : (Ka × Cm) ⊕ (Ka × Cm)} {N : Nat}  (x0 : Nat) (s0 : Nat) (s1 : Nat) (K : Ka) (M : Cm) (hf : bT_X8_init_67 N x0 s0 s1 K M = some o) : KLe K (oK sV o) := by
  unfold bT_X8_init_67 at hf
  obtain ⟨-, hf⟩ := gd_some hf
  obtain ⟨a1, -, hf⟩ := nn_some hf
  obtain ⟨a2, -, hf⟩ := nn_some hf
  obtain ⟨o76, ho, hf⟩ := ta_some hf
  exact KLe.tr (mfT_X2_init _ _ _ _ _ ho) (mbT_X8_init_79 _ _ _ _ _ hf)
set_option maxRecDepth 100000 in
set_option maxHeartbeats 4000000 in
theorem wbT_X8_init_67 {p : Program} {l : Launch} {e : Env} {R : Room} {s : State} {m : MethodId} {args : Array Value} {below : List Frame} {meth : Method} {c : Code} {x : Xc} {K0 : Ka} {o : (Ka × Cm) ⊕ (Ka × Cm)} {N : Nat} (CTX : CT p l s m args meth c x K0 RX8 "<init>" cX8_init 1 none) (hRm : 8 ≤ R.frames ∧ 138 ≤ R.locals) (hRc : nz sV K0 o ≤ R.cells ∧ nu sV K0 o ≤ R.slots) (x0 : Nat) (s0 : Nat) (s1 : Nat) (K : Ka) (M : Cm) (H : Heap) (locs : List Loc) (ls : Array Slot) (hf : bT_X8_init_67 N x0 s0 s1 K M = some o) (hL : KLe K0 K) (hR : RC x K M H) (hS : va_S (AC K0) s.heap H locs) (hl : lv_has ls 1 [(0, .ref x0)]) : W p l e R s m args below meth c H locs (kz K - kz K0) (ku K - ku K0) (TQ sV (aQV x K0) (zQV K0) "java/util/NoSuchElementException" x K0 below args s o) (F0 m 67 ls [.ref s1, .ref s0]) := by
  obtain ⟨CX, hno, hlt, hmn⟩ := id CTX
  obtain ⟨hx, hb, hml, hown, hts, hE, hB, hr, hlk⟩ := id CX
  have hcs := nz_le (mbT_X8_init_67  x0 s0 s1 K M hf) hRc
  unfold bT_X8_init_67 at hf
  refine lv_dup hx hb dX8_init_67 rfl ?_
  refine lv_aload_n hx hb dX8_init_68 rfl (lv_at hl 0 rfl) ?_
  obtain ⟨hk_x0_9, hf⟩ := gd_some hf
  refine cr_getR kc_8 CX hR fa_X8_28 rfl hk_x0_9 dX8_init_69 ?_
  refine lv_aload_n hx hb dX8_init_72 rfl (lv_at hl 0 rfl) ?_
  refine cr_getR kc_8 CX hR fa_X8_38 rfl hk_x0_9 dX8_init_73 ?_
  obtain ⟨a1, ha1, hf⟩ := nn_some hf
  refine rf_0 ha1 ?_
  obtain ⟨a2, ha2, hf⟩ := nn_some hf
  refine rf_1 ha2 ?_
  obtain ⟨o76, ho, hf⟩ := ta_some hf
  have hm1 := mbT_X8_init_79 _ _ _ _ _ hf
  have hb1 := nz_le hm1 hRc
  have hq1 := (mfT_X2_init _ _ _ _ _ ho)
  refine ta_callVi CX hL hR hS (As := [.ref a2, .ref a1]) (rest := [.ref s1, .ref s0]) (MT_X2_init l x hlt N _ _ _ _ _ _ ho) cj_X8_44 ⟨by omega, by omega⟩ rfl (Nat.le_of_ble_eq_true rfl) hl.1 hq1 hb1 rfl dX8_init_76 (fun H locs hR hS => ?_)
  exact (wbT_X8_init_79 CTX hRm hRc) _ _ _ _ _ _ _ _ hf (hL.tr hq1) hR hS (lv_sub hl [0] rfl)
def bT_X8_init_60 (N : Nat) (x0 : Nat) (s0 : Nat) (s1 : Nat) (K : Ka) (M : Cm) : Option ((Ka × Cm) ⊕ (Ka × Cm)) := gd (kd K s0 == 9) ((bT_X8_init_67 N) x0 x0 (kz K) (kNew K 3 0 (cN 2)) (mZ (wR M s0 4 (some s1)) (kz K)))
theorem mbT_X8_init_60 {o : (Ka × Cm) ⊕ (Ka × Cm)} {N : Nat}  (x0 : Nat) (s0 : Nat) (s1 : Nat) (K : Ka) (M : Cm) (hf : bT_X8_init_60 N x0 s0 s1 K M = some o) : KLe K (oK sV o) := by
  unfold bT_X8_init_60 at hf
  obtain ⟨-, hf⟩ := gd_some hf
  exact (kNew_le _ _ _ _).tr (mbT_X8_init_67 _ _ _ _ _ hf)
set_option maxRecDepth 100000 in
set_option maxHeartbeats 4000000 in
theorem wbT_X8_init_60 {p : Program} {l : Launch} {e : Env} {R : Room} {s : State} {m : MethodId} {args : Array Value} {below : List Frame} {meth : Method} {c : Code} {x : Xc} {K0 : Ka} {o : (Ka × Cm) ⊕ (Ka × Cm)} {N : Nat} (CTX : CT p l s m args meth c x K0 RX8 "<init>" cX8_init 1 none) (hRm : 8 ≤ R.frames ∧ 138 ≤ R.locals) (hRc : nz sV K0 o ≤ R.cells ∧ nu sV K0 o ≤ R.slots) (x0 : Nat) (s0 : Nat) (s1 : Nat) (K : Ka) (M : Cm) (H : Heap) (locs : List Loc) (ls : Array Slot) (hf : bT_X8_init_60 N x0 s0 s1 K M = some o) (hL : KLe K0 K) (hR : RC x K M H) (hS : va_S (AC K0) s.heap H locs) (hl : lv_has ls 1 [(0, .ref x0)]) : W p l e R s m args below meth c H locs (kz K - kz K0) (ku K - ku K0) (TQ sV (aQV x K0) (zQV K0) "java/util/NoSuchElementException" x K0 below args s o) (F0 m 60 ls [.ref s1, .ref s0]) := by
  obtain ⟨CX, hno, hlt, hmn⟩ := id CTX
  obtain ⟨hx, hb, hml, hown, hts, hE, hB, hr, hlk⟩ := id CX
  have hcs := nz_le (mbT_X8_init_60  x0 s0 s1 K M hf) hRc
  unfold bT_X8_init_60 at hf
  obtain ⟨hk_s0_9, hf⟩ := gd_some hf
  refine tr_putFR kc_8 CX hmn hR hL hS (v := some s1) ff_X8_38 ⟨rfl, rfl, .inl ⟨_, rfl⟩⟩ hk_s0_9 dX8_init_60 (fun H locs hR hS => ?_)
  refine lv_aload_n hx hb dX8_init_63 rfl (lv_at hl 0 rfl) ?_
  have hm1 := mbT_X8_init_67 _ _ _ _ _ hf
  have hb1 := nz_le hm1 hRc
  refine tr_new kc_2 df_2 CX hL hR hS cn_X8_42 hb1 dX8_init_64 (fun H hR hS => ?_)
  exact (wbT_X8_init_67 CTX hRm hRc) _ _ _ _ _ _ _ _ hf (hL.tr (kNew_le _ _ _ _)) hR hS (lv_sub hl [0] rfl)
def bT_X8_init_56 (N : Nat) (x0 : Nat) (s0 : Nat) (s1 : Nat) (K : Ka) (M : Cm) : Option ((Ka × Cm) ⊕ (Ka × Cm)) := ta (fT_X0_init N s1 K M) fun o57 => (bT_X8_init_60 N) x0 s0 s1 o57.1 o57.2
theorem mbT_X8_init_56 {o : (Ka × Cm) ⊕ (Ka × Cm)} {N : Nat}  (x0 : Nat) (s0 : Nat) (s1 : Nat) (K : Ka) (M : Cm) (hf : bT_X8_init_56 N x0 s0 s1 K M = some o) : KLe K (oK sV o) := by
  unfold bT_X8_init_56 at hf
  obtain ⟨o57, ho, hf⟩ := ta_some hf
  exact KLe.tr (mfT_X0_init _ _ _ ho) (mbT_X8_init_60 _ _ _ _ _ hf)
set_option maxRecDepth 100000 in
set_option maxHeartbeats 4000000 in
theorem wbT_X8_init_56 {p : Program} {l : Launch} {e : Env} {R : Room} {s : State} {m : MethodId} {args : Array Value} {below : List Frame} {meth : Method} {c : Code} {x : Xc} {K0 : Ka} {o : (Ka × Cm) ⊕ (Ka × Cm)} {N : Nat} (CTX : CT p l s m args meth c x K0 RX8 "<init>" cX8_init 1 none) (hRm : 8 ≤ R.frames ∧ 138 ≤ R.locals) (hRc : nz sV K0 o ≤ R.cells ∧ nu sV K0 o ≤ R.slots) (x0 : Nat) (s0 : Nat) (s1 : Nat) (K : Ka) (M : Cm) (H : Heap) (locs : List Loc) (ls : Array Slot) (hf : bT_X8_init_56 N x0 s0 s1 K M = some o) (hL : KLe K0 K) (hR : RC x K M H) (hS : va_S (AC K0) s.heap H locs) (hl : lv_has ls 1 [(0, .ref x0)]) : W p l e R s m args below meth c H locs (kz K - kz K0) (ku K - ku K0) (TQ sV (aQV x K0) (zQV K0) "java/util/NoSuchElementException" x K0 below args s o) (F0 m 56 ls [.ref s1, .ref s0]) := by
  obtain ⟨CX, hno, hlt, hmn⟩ := id CTX
  obtain ⟨hx, hb, hml, hown, hts, hE, hB, hr, hlk⟩ := id CX
  have hcs := nz_le (mbT_X8_init_56  x0 s0 s1 K M hf) hRc
  unfold bT_X8_init_56 at hf
  refine lv_dup hx hb dX8_init_56 rfl ?_
  obtain ⟨o57, ho, hf⟩ := ta_some hf
  have hm1 := mbT_X8_init_60 _ _ _ _ _ hf
  have hb1 := nz_le hm1 hRc
  have hq1 := (mfT_X0_init _ _ _ ho)
  refine ta_callVi CX hL hR hS (As := []) (rest := [.ref s1, .ref s0]) (MT_X0_init l x hlt N _ _ _ _ ho) cj_X8_37 ⟨by omega, by omega⟩ rfl (Nat.le_of_ble_eq_true rfl) hl.1 hq1 hb1 rfl dX8_init_57 (fun H locs hR hS => ?_)
  exact (wbT_X8_init_60 CTX hRm hRc) _ _ _ _ _ _ _ _ hf (hL.tr hq1) hR hS (lv_sub hl [0] rfl)
def bT_X8_init_49 (N : Nat) (x0 : Nat) (s0 : Nat) (s1 : Nat) (K : Ka) (M : Cm) : Option ((Ka × Cm) ⊕ (Ka × Cm)) := gd (kd K s0 == 9) ((bT_X8_init_56 N) x0 x0 (kz K) (kNew K 1 0 (cN 0)) (mZ (wR M s0 3 (some s1)) (kz K)))
theorem mbT_X8_init_49 {o : (Ka × Cm) ⊕ (Ka × Cm)} {N : Nat}  (x0 : Nat) (s0 : Nat) (s1 : Nat) (K : Ka) (M : Cm) (hf : bT_X8_init_49 N x0 s0 s1 K M = some o) : KLe K (oK sV o) := by
  unfold bT_X8_init_49 at hf
  obtain ⟨-, hf⟩ := gd_some hf
  exact (kNew_le _ _ _ _).tr (mbT_X8_init_56 _ _ _ _ _ hf)
set_option maxRecDepth 100000 in
set_option maxHeartbeats 4000000 in
theorem wbT_X8_init_49 {p : Program} {l : Launch} {e : Env} {R : Room} {s : State} {m : MethodId} {args : Array Value} {below : List Frame} {meth : Method} {c : Code} {x : Xc} {K0 : Ka} {o : (Ka × Cm) ⊕ (Ka × Cm)} {N : Nat} (CTX : CT p l s m args meth c x K0 RX8 "<init>" cX8_init 1 none) (hRm : 8 ≤ R.frames ∧ 138 ≤ R.locals) (hRc : nz sV K0 o ≤ R.cells ∧ nu sV K0 o ≤ R.slots) (x0 : Nat) (s0 : Nat) (s1 : Nat) (K : Ka) (M : Cm) (H : Heap) (locs : List Loc) (ls : Array Slot) (hf : bT_X8_init_49 N x0 s0 s1 K M = some o) (hL : KLe K0 K) (hR : RC x K M H) (hS : va_S (AC K0) s.heap H locs) (hl : lv_has ls 1 [(0, .ref x0)]) : W p l e R s m args below meth c H locs (kz K - kz K0) (ku K - ku K0) (TQ sV (aQV x K0) (zQV K0) "java/util/NoSuchElementException" x K0 below args s o) (F0 m 49 ls [.ref s1, .ref s0]) := by
  obtain ⟨CX, hno, hlt, hmn⟩ := id CTX
  obtain ⟨hx, hb, hml, hown, hts, hE, hB, hr, hlk⟩ := id CX
  have hcs := nz_le (mbT_X8_init_49  x0 s0 s1 K M hf) hRc
  unfold bT_X8_init_49 at hf
  obtain ⟨hk_s0_9, hf⟩ := gd_some hf
  refine tr_putFR kc_8 CX hmn hR hL hS (v := some s1) ff_X8_32 ⟨rfl, rfl, .inl ⟨_, rfl⟩⟩ hk_s0_9 dX8_init_49 (fun H locs hR hS => ?_)
  refine lv_aload_n hx hb dX8_init_52 rfl (lv_at hl 0 rfl) ?_
  have hm1 := mbT_X8_init_56 _ _ _ _ _ hf
  have hb1 := nz_le hm1 hRc
  refine tr_new kc_0 df_0 CX hL hR hS cn_X8_35 hb1 dX8_init_53 (fun H hR hS => ?_)
  exact (wbT_X8_init_56 CTX hRm hRc) _ _ _ _ _ _ _ _ hf (hL.tr (kNew_le _ _ _ _)) hR hS (lv_sub hl [0] rfl)
def bT_X8_init_45 (N : Nat) (x0 : Nat) (s0 : Nat) (s1 : Nat) (K : Ka) (M : Cm) : Option ((Ka × Cm) ⊕ (Ka × Cm)) := ta (fT_X4_init N s1 K M) fun o46 => (bT_X8_init_49 N) x0 s0 s1 o46.1 o46.2
theorem mbT_X8_init_45 {o : (Ka × Cm) ⊕ (Ka × Cm)} {N : Nat}  (x0 : Nat) (s0 : Nat) (s1 : Nat) (K : Ka) (M : Cm) (hf : bT_X8_init_45 N x0 s0 s1 K M = some o) : KLe K (oK sV o) := by
  unfold bT_X8_init_45 at hf
  obtain ⟨o46, ho, hf⟩ := ta_some hf
  exact KLe.tr (mfT_X4_init _ _ _ ho) (mbT_X8_init_49 _ _ _ _ _ hf)
set_option maxRecDepth 100000 in
set_option maxHeartbeats 4000000 in
theorem wbT_X8_init_45 {p : Program} {l : Launch} {e : Env} {R : Room} {s : State} {m : MethodId} {args : Array Value} {below : List Frame} {meth : Method} {c : Code} {x : Xc} {K0 : Ka} {o : (Ka × Cm) ⊕ (Ka × Cm)} {N : Nat} (CTX : CT p l s m args meth c x K0 RX8 "<init>" cX8_init 1 none) (hRm : 8 ≤ R.frames ∧ 138 ≤ R.locals) (hRc : nz sV K0 o ≤ R.cells ∧ nu sV K0 o ≤ R.slots) (x0 : Nat) (s0 : Nat) (s1 : Nat) (K : Ka) (M : Cm) (H : Heap) (locs : List Loc) (ls : Array Slot) (hf : bT_X8_init_45 N x0 s0 s1 K M = some o) (hL : KLe K0 K) (hR : RC x K M H) (hS : va_S (AC K0) s.heap H locs) (hl : lv_has ls 1 [(0, .ref x0)]) : W p l e R s m args below meth c H locs (kz K - kz K0) (ku K - ku K0) (TQ sV (aQV x K0) (zQV K0) "java/util/NoSuchElementException" x K0 below args s o) (F0 m 45 ls [.ref s1, .ref s0]) := by
  obtain ⟨CX, hno, hlt, hmn⟩ := id CTX
  obtain ⟨hx, hb, hml, hown, hts, hE, hB, hr, hlk⟩ := id CX
  have hcs := nz_le (mbT_X8_init_45  x0 s0 s1 K M hf) hRc
  unfold bT_X8_init_45 at hf
  refine lv_dup hx hb dX8_init_45 rfl ?_
  obtain ⟨o46, ho, hf⟩ := ta_some hf
  have hm1 := mbT_X8_init_49 _ _ _ _ _ hf
  have hb1 := nz_le hm1 hRc
  have hq1 := (mfT_X4_init _ _ _ ho)
  refine ta_callVi CX hL hR hS (As := []) (rest := [.ref s1, .ref s0]) (MT_X4_init l x hlt N _ _ _ _ ho) cj_X8_27 ⟨by omega, by omega⟩ rfl (Nat.le_of_ble_eq_true rfl) hl.1 hq1 hb1 rfl dX8_init_46 (fun H locs hR hS => ?_)
  exact (wbT_X8_init_49 CTX hRm hRc) _ _ _ _ _ _ _ _ hf (hL.tr hq1) hR hS (lv_sub hl [0] rfl)
def bT_X8_init_38 (N : Nat) (x0 : Nat) (s0 : Nat) (s1 : Nat) (K : Ka) (M : Cm) : Option ((Ka × Cm) ⊕ (Ka × Cm)) := gd (kd K s0 == 9) ((bT_X8_init_45 N) x0 x0 (kz K) (kNew K 5 0 (cN 4)) (mZ (wR M s0 2 (some s1)) (kz K)))
theorem mbT_X8_init_38 {o : (Ka × Cm) ⊕ (Ka × Cm)} {N : Nat}  (x0 : Nat) (s0 : Nat) (s1 : Nat) (K : Ka) (M : Cm) (hf : bT_X8_init_38 N x0 s0 s1 K M = some o) : KLe K (oK sV o) := by
  unfold bT_X8_init_38 at hf
  obtain ⟨-, hf⟩ := gd_some hf
  exact (kNew_le _ _ _ _).tr (mbT_X8_init_45 _ _ _ _ _ hf)
set_option maxRecDepth 100000 in
set_option maxHeartbeats 4000000 in
theorem wbT_X8_init_38 {p : Program} {l : Launch} {e : Env} {R : Room} {s : State} {m : MethodId} {args : Array Value} {below : List Frame} {meth : Method} {c : Code} {x : Xc} {K0 : Ka} {o : (Ka × Cm) ⊕ (Ka × Cm)} {N : Nat} (CTX : CT p l s m args meth c x K0 RX8 "<init>" cX8_init 1 none) (hRm : 8 ≤ R.frames ∧ 138 ≤ R.locals) (hRc : nz sV K0 o ≤ R.cells ∧ nu sV K0 o ≤ R.slots) (x0 : Nat) (s0 : Nat) (s1 : Nat) (K : Ka) (M : Cm) (H : Heap) (locs : List Loc) (ls : Array Slot) (hf : bT_X8_init_38 N x0 s0 s1 K M = some o) (hL : KLe K0 K) (hR : RC x K M H) (hS : va_S (AC K0) s.heap H locs) (hl : lv_has ls 1 [(0, .ref x0)]) : W p l e R s m args below meth c H locs (kz K - kz K0) (ku K - ku K0) (TQ sV (aQV x K0) (zQV K0) "java/util/NoSuchElementException" x K0 below args s o) (F0 m 38 ls [.ref s1, .ref s0]) := by
  obtain ⟨CX, hno, hlt, hmn⟩ := id CTX
  obtain ⟨hx, hb, hml, hown, hts, hE, hB, hr, hlk⟩ := id CX
  have hcs := nz_le (mbT_X8_init_38  x0 s0 s1 K M hf) hRc
  unfold bT_X8_init_38 at hf
  obtain ⟨hk_s0_9, hf⟩ := gd_some hf
  refine tr_putFR kc_8 CX hmn hR hL hS (v := some s1) ff_X8_28 ⟨rfl, rfl, .inl ⟨_, rfl⟩⟩ hk_s0_9 dX8_init_38 (fun H locs hR hS => ?_)
  refine lv_aload_n hx hb dX8_init_41 rfl (lv_at hl 0 rfl) ?_
  have hm1 := mbT_X8_init_45 _ _ _ _ _ hf
  have hb1 := nz_le hm1 hRc
  refine tr_new kc_4 df_4 CX hL hR hS cn_X8_25 hb1 dX8_init_42 (fun H hR hS => ?_)
  exact (wbT_X8_init_45 CTX hRm hRc) _ _ _ _ _ _ _ _ hf (hL.tr (kNew_le _ _ _ _)) hR hS (lv_sub hl [0] rfl)
def bT_X8_init_34 (N : Nat) (x0 : Nat) (s0 : Nat) (s1 : Nat) (K : Ka) (M : Cm) : Option ((Ka × Cm) ⊕ (Ka × Cm)) := ta (fT_X4_init N s1 K M) fun o35 => (bT_X8_init_38 N) x0 s0 s1 o35.1 o35.2
theorem mbT_X8_init_34 {o : (Ka × Cm) ⊕ (Ka × Cm)} {N : Nat}  (x0 : Nat) (s0 : Nat) (s1 : Nat) (K : Ka) (M : Cm) (hf : bT_X8_init_34 N x0 s0 s1 K M = some o) : KLe K (oK sV o) := by
  unfold bT_X8_init_34 at hf
  obtain ⟨o35, ho, hf⟩ := ta_some hf
  exact KLe.tr (mfT_X4_init _ _ _ ho) (mbT_X8_init_38 _ _ _ _ _ hf)
set_option maxRecDepth 100000 in
set_option maxHeartbeats 4000000 in
theorem wbT_X8_init_34 {p : Program} {l : Launch} {e : Env} {R : Room} {s : State} {m : MethodId} {args : Array Value} {below : List Frame} {meth : Method} {c : Code} {x : Xc} {K0 : Ka} {o : (Ka × Cm) ⊕ (Ka × Cm)} {N : Nat} (CTX : CT p l s m args meth c x K0 RX8 "<init>" cX8_init 1 none) (hRm : 8 ≤ R.frames ∧ 138 ≤ R.locals) (hRc : nz sV K0 o ≤ R.cells ∧ nu sV K0 o ≤ R.slots) (x0 : Nat) (s0 : Nat) (s1 : Nat) (K : Ka) (M : Cm) (H : Heap) (locs : List Loc) (ls : Array Slot) (hf : bT_X8_init_34 N x0 s0 s1 K M = some o) (hL : KLe K0 K) (hR : RC x K M H) (hS : va_S (AC K0) s.heap H locs) (hl : lv_has ls 1 [(0, .ref x0)]) : W p l e R s m args below meth c H locs (kz K - kz K0) (ku K - ku K0) (TQ sV (aQV x K0) (zQV K0) "java/util/NoSuchElementException" x K0 below args s o) (F0 m 34 ls [.ref s1, .ref s0]) := by
  obtain ⟨CX, hno, hlt, hmn⟩ := id CTX
  obtain ⟨hx, hb, hml, hown, hts, hE, hB, hr, hlk⟩ := id CX
  have hcs := nz_le (mbT_X8_init_34  x0 s0 s1 K M hf) hRc
  unfold bT_X8_init_34 at hf
  refine lv_dup hx hb dX8_init_34 rfl ?_
  obtain ⟨o35, ho, hf⟩ := ta_some hf
  have hm1 := mbT_X8_init_38 _ _ _ _ _ hf
  have hb1 := nz_le hm1 hRc
  have hq1 := (mfT_X4_init _ _ _ ho)
  refine ta_callVi CX hL hR hS (As := []) (rest := [.ref s1, .ref s0]) (MT_X4_init l x hlt N _ _ _ _ ho) cj_X8_27 ⟨by omega, by omega⟩ rfl (Nat.le_of_ble_eq_true rfl) hl.1 hq1 hb1 rfl dX8_init_35 (fun H locs hR hS => ?_)
  exact (wbT_X8_init_38 CTX hRm hRc) _ _ _ _ _ _ _ _ hf (hL.tr hq1) hR hS (lv_sub hl [0] rfl)
def bT_X8_init_27 (N : Nat) (x0 : Nat) (s0 : Nat) (s1 : Nat) (K : Ka) (M : Cm) : Option ((Ka × Cm) ⊕ (Ka × Cm)) := gd (kd K s0 == 9) ((bT_X8_init_34 N) x0 x0 (kz K) (kNew K 5 0 (cN 4)) (mZ (wR M s0 1 (some s1)) (kz K)))
theorem mbT_X8_init_27 {o : (Ka × Cm) ⊕ (Ka × Cm)} {N : Nat}  (x0 : Nat) (s0 : Nat) (s1 : Nat) (K : Ka) (M : Cm) (hf : bT_X8_init_27 N x0 s0 s1 K M = some o) : KLe K (oK sV o) := by
  unfold bT_X8_init_27 at hf
  obtain ⟨-, hf⟩ := gd_some hf
  exact (kNew_le _ _ _ _).tr (mbT_X8_init_34 _ _ _ _ _ hf)
set_option maxRecDepth 100000 in
set_option maxHeartbeats 4000000 in
theorem wbT_X8_init_27 {p : Program} {l : Launch} {e : Env} {R : Room} {s : State} {m : MethodId} {args : Array Value} {below : List Frame} {meth : Method} {c : Code} {x : Xc} {K0 : Ka} {o : (Ka × Cm) ⊕ (Ka × Cm)} {N : Nat} (CTX : CT p l s m args meth c x K0 RX8 "<init>" cX8_init 1 none) (hRm : 8 ≤ R.frames ∧ 138 ≤ R.locals) (hRc : nz sV K0 o ≤ R.cells ∧ nu sV K0 o ≤ R.slots) (x0 : Nat) (s0 : Nat) (s1 : Nat) (K : Ka) (M : Cm) (H : Heap) (locs : List Loc) (ls : Array Slot) (hf : bT_X8_init_27 N x0 s0 s1 K M = some o) (hL : KLe K0 K) (hR : RC x K M H) (hS : va_S (AC K0) s.heap H locs) (hl : lv_has ls 1 [(0, .ref x0)]) : W p l e R s m args below meth c H locs (kz K - kz K0) (ku K - ku K0) (TQ sV (aQV x K0) (zQV K0) "java/util/NoSuchElementException" x K0 below args s o) (F0 m 27 ls [.ref s1, .ref s0]) := by
  obtain ⟨CX, hno, hlt, hmn⟩ := id CTX
  obtain ⟨hx, hb, hml, hown, hts, hE, hB, hr, hlk⟩ := id CX
  have hcs := nz_le (mbT_X8_init_27  x0 s0 s1 K M hf) hRc
  unfold bT_X8_init_27 at hf
  obtain ⟨hk_s0_9, hf⟩ := gd_some hf
  refine tr_putFR kc_8 CX hmn hR hL hS (v := some s1) ff_X8_21 ⟨rfl, rfl, .inl ⟨_, rfl⟩⟩ hk_s0_9 dX8_init_27 (fun H locs hR hS => ?_)
  refine lv_aload_n hx hb dX8_init_30 rfl (lv_at hl 0 rfl) ?_
  have hm1 := mbT_X8_init_34 _ _ _ _ _ hf
  have hb1 := nz_le hm1 hRc
  refine tr_new kc_4 df_4 CX hL hR hS cn_X8_25 hb1 dX8_init_31 (fun H hR hS => ?_)
  exact (wbT_X8_init_34 CTX hRm hRc) _ _ _ _ _ _ _ _ hf (hL.tr (kNew_le _ _ _ _)) hR hS (lv_sub hl [0] rfl)
def bT_X8_init_19 (N : Nat) (x0 : Nat) (s0 : Nat) (s1 : Nat) (K : Ka) (M : Cm) : Option ((Ka × Cm) ⊕ (Ka × Cm)) := gd (kd K x0 == 9) (nn (cR M x0 0) fun a1 => ta (fT_X3_init N s1 a1 K M) fun o24 => (bT_X8_init_27 N) x0 s0 s1 o24.1 o24.2)
theorem mbT_X8_init_19 {o : (Ka × Cm) ⊕ (Ka × Cm)} {N : Nat}  (x0 : Nat) (s0 : Nat) (s1 : Nat) (K : Ka) (M : Cm) (hf : bT_X8_init_19 N x0 s0 s1 K M = some o) : KLe K (oK sV o) := by
  unfold bT_X8_init_19 at hf
  obtain ⟨-, hf⟩ := gd_some hf
  obtain ⟨a1, -, hf⟩ := nn_some hf
  obtain ⟨o24, ho, hf⟩ := ta_some hf
  exact KLe.tr (mfT_X3_init _ _ _ _ ho) (mbT_X8_init_27 _ _ _ _ _ hf)
set_option maxRecDepth 100000 in
set_option maxHeartbeats 4000000 in
theorem wbT_X8_init_19 {p : Program} {l : Launch} {e : Env} {R : Room} {s : State} {m : MethodId} {args : Array Value} {below : List Frame} {meth : Method} {c : Code} {x : Xc} {K0 : Ka} {o : (Ka × Cm) ⊕ (Ka × Cm)} {N : Nat} (CTX : CT p l s m args meth c x K0 RX8 "<init>" cX8_init 1 none) (hRm : 8 ≤ R.frames ∧ 138 ≤ R.locals) (hRc : nz sV K0 o ≤ R.cells ∧ nu sV K0 o ≤ R.slots) (x0 : Nat) (s0 : Nat) (s1 : Nat) (K : Ka) (M : Cm) (H : Heap) (locs : List Loc) (ls : Array Slot) (hf : bT_X8_init_19 N x0 s0 s1 K M = some o) (hL : KLe K0 K) (hR : RC x K M H) (hS : va_S (AC K0) s.heap H locs) (hl : lv_has ls 1 [(0, .ref x0)]) : W p l e R s m args below meth c H locs (kz K - kz K0) (ku K - ku K0) (TQ sV (aQV x K0) (zQV K0) "java/util/NoSuchElementException" x K0 below args s o) (F0 m 19 ls [.ref s1, .ref s0]) := by
  obtain ⟨CX, hno, hlt, hmn⟩ := id CTX
  obtain ⟨hx, hb, hml, hown, hts, hE, hB, hr, hlk⟩ := id CX
  have hcs := nz_le (mbT_X8_init_19  x0 s0 s1 K M hf) hRc
  unfold bT_X8_init_19 at hf
  refine lv_dup hx hb dX8_init_19 rfl ?_
  refine lv_aload_n hx hb dX8_init_20 rfl (lv_at hl 0 rfl) ?_
  obtain ⟨hk_x0_9, hf⟩ := gd_some hf
  refine cr_getR kc_8 CX hR fa_X8_12 rfl hk_x0_9 dX8_init_21 ?_
  obtain ⟨a1, ha1, hf⟩ := nn_some hf
  refine rf_0 ha1 ?_
  obtain ⟨o24, ho, hf⟩ := ta_some hf
  have hm1 := mbT_X8_init_27 _ _ _ _ _ hf
  have hb1 := nz_le hm1 hRc
  have hq1 := (mfT_X3_init _ _ _ _ ho)
  refine ta_callVi CX hL hR hS (As := [.ref a1]) (rest := [.ref s1, .ref s0]) (MT_X3_init l x hlt N _ _ _ _ _ ho) cj_X8_18 ⟨by omega, by omega⟩ rfl (Nat.le_of_ble_eq_true rfl) hl.1 hq1 hb1 rfl dX8_init_24 (fun H locs hR hS => ?_)
  exact (wbT_X8_init_27 CTX hRm hRc) _ _ _ _ _ _ _ _ hf (hL.tr hq1) hR hS (lv_sub hl [0] rfl)
def bT_X8_init_12 (N : Nat) (x0 : Nat) (s0 : Nat) (s1 : Nat) (K : Ka) (M : Cm) : Option ((Ka × Cm) ⊕ (Ka × Cm)) := gd (kd K s0 == 9) ((bT_X8_init_19 N) x0 x0 (kz K) (kNew K 4 0 (cN 3)) (mZ (wR M s0 0 (some s1)) (kz K)))
theorem mbT_X8_init_12 {o : (Ka × Cm) ⊕ (Ka × Cm)} {N : Nat}  (x0 : Nat) (s0 : Nat) (s1 : Nat) (K : Ka) (M : Cm) (hf : bT_X8_init_12 N x0 s0 s1 K M = some o) : KLe K (oK sV o) := by
  unfold bT_X8_init_12 at hf
  obtain ⟨-, hf⟩ := gd_some hf
  exact (kNew_le _ _ _ _).tr (mbT_X8_init_19 _ _ _ _ _ hf)
set_option maxRecDepth 100000 in
set_option maxHeartbeats 4000000 in
theorem wbT_X8_init_12 {p : Program} {l : Launch} {e : Env} {R : Room} {s : State} {m : MethodId} {args : Array Value} {below : List Frame} {meth : Method} {c : Code} {x : Xc} {K0 : Ka} {o : (Ka × Cm) ⊕ (Ka × Cm)} {N : Nat} (CTX : CT p l s m args meth c x K0 RX8 "<init>" cX8_init 1 none) (hRm : 8 ≤ R.frames ∧ 138 ≤ R.locals) (hRc : nz sV K0 o ≤ R.cells ∧ nu sV K0 o ≤ R.slots) (x0 : Nat) (s0 : Nat) (s1 : Nat) (K : Ka) (M : Cm) (H : Heap) (locs : List Loc) (ls : Array Slot) (hf : bT_X8_init_12 N x0 s0 s1 K M = some o) (hL : KLe K0 K) (hR : RC x K M H) (hS : va_S (AC K0) s.heap H locs) (hl : lv_has ls 1 [(0, .ref x0)]) : W p l e R s m args below meth c H locs (kz K - kz K0) (ku K - ku K0) (TQ sV (aQV x K0) (zQV K0) "java/util/NoSuchElementException" x K0 below args s o) (F0 m 12 ls [.ref s1, .ref s0]) := by
  obtain ⟨CX, hno, hlt, hmn⟩ := id CTX
  obtain ⟨hx, hb, hml, hown, hts, hE, hB, hr, hlk⟩ := id CX
  have hcs := nz_le (mbT_X8_init_12  x0 s0 s1 K M hf) hRc
  unfold bT_X8_init_12 at hf
  obtain ⟨hk_s0_9, hf⟩ := gd_some hf
  refine tr_putFR kc_8 CX hmn hR hL hS (v := some s1) ff_X8_12 ⟨rfl, rfl, .inl ⟨_, rfl⟩⟩ hk_s0_9 dX8_init_12 (fun H locs hR hS => ?_)
  refine lv_aload_n hx hb dX8_init_15 rfl (lv_at hl 0 rfl) ?_
  have hm1 := mbT_X8_init_19 _ _ _ _ _ hf
  have hb1 := nz_le hm1 hRc
  refine tr_new kc_3 df_3 CX hL hR hS cn_X8_16 hb1 dX8_init_16 (fun H hR hS => ?_)
  exact (wbT_X8_init_19 CTX hRm hRc) _ _ _ _ _ _ _ _ hf (hL.tr (kNew_le _ _ _ _)) hR hS (lv_sub hl [0] rfl)
def bT_X8_init_8 (N : Nat) (x0 : Nat) (s0 : Nat) (s1 : Nat) (K : Ka) (M : Cm) : Option ((Ka × Cm) ⊕ (Ka × Cm)) := ta (fT_X6_init N s1 K M) fun o9 => (bT_X8_init_12 N) x0 s0 s1 o9.1 o9.2
theorem mbT_X8_init_8 {o : (Ka × Cm) ⊕ (Ka × Cm)} {N : Nat}  (x0 : Nat) (s0 : Nat) (s1 : Nat) (K : Ka) (M : Cm) (hf : bT_X8_init_8 N x0 s0 s1 K M = some o) : KLe K (oK sV o) := by
  unfold bT_X8_init_8 at hf
  obtain ⟨o9, ho, hf⟩ := ta_some hf
  exact KLe.tr (mfT_X6_init _ _ _ ho) (mbT_X8_init_12 _ _ _ _ _ hf)
set_option maxRecDepth 100000 in
set_option maxHeartbeats 4000000 in
theorem wbT_X8_init_8 {p : Program} {l : Launch} {e : Env} {R : Room} {s : State} {m : MethodId} {args : Array Value} {below : List Frame} {meth : Method} {c : Code} {x : Xc} {K0 : Ka} {o : (Ka × Cm) ⊕ (Ka × Cm)} {N : Nat} (CTX : CT p l s m args meth c x K0 RX8 "<init>" cX8_init 1 none) (hRm : 8 ≤ R.frames ∧ 138 ≤ R.locals) (hRc : nz sV K0 o ≤ R.cells ∧ nu sV K0 o ≤ R.slots) (x0 : Nat) (s0 : Nat) (s1 : Nat) (K : Ka) (M : Cm) (H : Heap) (locs : List Loc) (ls : Array Slot) (hf : bT_X8_init_8 N x0 s0 s1 K M = some o) (hL : KLe K0 K) (hR : RC x K M H) (hS : va_S (AC K0) s.heap H locs) (hl : lv_has ls 1 [(0, .ref x0)]) : W p l e R s m args below meth c H locs (kz K - kz K0) (ku K - ku K0) (TQ sV (aQV x K0) (zQV K0) "java/util/NoSuchElementException" x K0 below args s o) (F0 m 8 ls [.ref s1, .ref s0]) := by
  obtain ⟨CX, hno, hlt, hmn⟩ := id CTX
  obtain ⟨hx, hb, hml, hown, hts, hE, hB, hr, hlk⟩ := id CX
  have hcs := nz_le (mbT_X8_init_8  x0 s0 s1 K M hf) hRc
  unfold bT_X8_init_8 at hf
  refine lv_dup hx hb dX8_init_8 rfl ?_
  obtain ⟨o9, ho, hf⟩ := ta_some hf
  have hm1 := mbT_X8_init_12 _ _ _ _ _ hf
  have hb1 := nz_le hm1 hRc
  have hq1 := (mfT_X6_init _ _ _ ho)
  refine ta_callVi CX hL hR hS (As := []) (rest := [.ref s1, .ref s0]) (MT_X6_init l x hlt N _ _ _ _ ho) cj_X8_11 ⟨by omega, by omega⟩ rfl (Nat.le_of_ble_eq_true rfl) hl.1 hq1 hb1 rfl dX8_init_9 (fun H locs hR hS => ?_)
  exact (wbT_X8_init_12 CTX hRm hRc) _ _ _ _ _ _ _ _ hf (hL.tr hq1) hR hS (lv_sub hl [0] rfl)
def fT_X8_init (N : Nat) (x0 : Nat) (K : Ka) (M : Cm) : Option ((Ka × Cm) ⊕ (Ka × Cm)) := (bT_X8_init_8 N) x0 x0 (kz K) (kNew K 7 0 (cN 6)) (mZ M (kz K))
theorem mfT_X8_init {o : (Ka × Cm) ⊕ (Ka × Cm)} {N : Nat}  (x0 : Nat) (K : Ka) (M : Cm) (hf : fT_X8_init N x0 K M = some o) : KLe K (oK sV o) := by
  unfold fT_X8_init at hf
  exact (kNew_le _ _ _ _).tr (mbT_X8_init_8 _ _ _ _ _ hf)
set_option maxRecDepth 100000 in
set_option maxHeartbeats 4000000 in
theorem wfT_X8_init {p : Program} {l : Launch} {e : Env} {R : Room} {s : State} {m : MethodId} {args : Array Value} {below : List Frame} {meth : Method} {c : Code} {x : Xc} {K0 : Ka} {o : (Ka × Cm) ⊕ (Ka × Cm)} {N : Nat} (CTX : CT p l s m args meth c x K0 RX8 "<init>" cX8_init 1 none) (hRm : 8 ≤ R.frames ∧ 138 ≤ R.locals) (hRc : nz sV K0 o ≤ R.cells ∧ nu sV K0 o ≤ R.slots) (x0 : Nat) (K : Ka) (M : Cm) (H : Heap) (locs : List Loc) (ls : Array Slot) (hf : fT_X8_init N x0 K M = some o) (hL : KLe K0 K) (hR : RC x K M H) (hS : va_S (AC K0) s.heap H locs) (hl : lv_has ls 1 [(0, .ref x0)]) : W p l e R s m args below meth c H locs (kz K - kz K0) (ku K - ku K0) (TQ sV (aQV x K0) (zQV K0) "java/util/NoSuchElementException" x K0 below args s o) (F0 m 0 ls []) := by
  obtain ⟨CX, hno, hlt, hmn⟩ := id CTX
  obtain ⟨hx, hb, hml, hown, hts, hE, hB, hr, hlk⟩ := id CX
  have hcs := nz_le (mfT_X8_init  x0 K M hf) hRc
  unfold fT_X8_init at hf
  refine lv_aload_n hx hb dX8_init_0 rfl (lv_at hl 0 rfl) ?_
  refine tr_objInit CX wi_X8_3 hl.1 (by omega) (by omega) (Nat.le_of_ble_eq_true rfl) dX8_init_1 ?_
  refine lv_aload_n hx hb dX8_init_4 rfl (lv_at hl 0 rfl) ?_
  have hm1 := mbT_X8_init_8 _ _ _ _ _ hf
  have hb1 := nz_le hm1 hRc
  refine tr_new kc_6 df_6 CX hL hR hS cn_X8_9 hb1 dX8_init_5 (fun H hR hS => ?_)
  exact (wbT_X8_init_8 CTX hRm hRc) _ _ _ _ _ _ _ _ hf (hL.tr (kNew_le _ _ _ _)) hR hS (lv_sub hl [0] rfl)
theorem MT_X8_init (l : Launch) (x : Xc) (hlt : l.stackTraces = false) (N : Nat) (x0 : Nat) (K : Ka) (M : Cm) (o : (Ka × Cm) ⊕ (Ka × Cm)) (hf : fT_X8_init N x0 K M = some o) : Tc sV (aQV x K) (zQV K) "java/util/NoSuchElementException" l x yX8_init cX8_init 1 none 8 138 [.ref x0] K M o :=
  tr_met RX8 "<init>" hlt (by decide) rfl rfl (Nat.le_of_ble_eq_true rfl) (fun p e s m args below meth c ls CTX hR hl => wfT_X8_init CTX ⟨Nat.le_refl _, Nat.le_refl _⟩ ⟨Nat.le_refl _, Nat.le_refl _⟩ x0 K M s.heap [] ls hf (KLe.rf K) hR va_S.rf hl)
def bT_X8_read_38 (N : Nat) (x0 : Nat) (K : Ka) (M : Cm) : Option ((Int32 × Ka × Cm) ⊕ (Ka × Cm)) := some (.inr (K, M))
theorem mbT_X8_read_38 {o : (Int32 × Ka × Cm) ⊕ (Ka × Cm)} {N : Nat}  (x0 : Nat) (K : Ka) (M : Cm) (hf : bT_X8_read_38 N x0 K M = some o) : KLe K (oK sT o) := by
  unfold bT_X8_read_38 at hf
  cases hf
  exact KLe.rf _
set_option maxRecDepth 100000 in
set_option maxHeartbeats 4000000 in
theorem wbT_X8_read_38 {p : Program} {l : Launch} {e : Env} {R : Room} {s : State} {m : MethodId} {args : Array Value} {below : List Frame} {meth : Method} {c : Code} {x : Xc} {K0 : Ka} {o : (Int32 × Ka × Cm) ⊕ (Ka × Cm)} {N : Nat} (CTX : CT p l s m args meth c x K0 RX8 "read" cX8_read 3 (some .int)) (hRm : 6 ≤ R.frames ∧ 95 ≤ R.locals) (hRc : nz sT K0 o ≤ R.cells ∧ nu sT K0 o ≤ R.slots) (x0 : Nat) (K : Ka) (M : Cm) (H : Heap) (locs : List Loc) (ls : Array Slot) (hf : bT_X8_read_38 N x0 K M = some o) (hL : KLe K0 K) (hR : RC x K M H) (hS : va_S (AC K0) s.heap H locs) (hl : lv_has ls 3 [(0, .ref x0)]) : W p l e R s m args below meth c H locs (kz K - kz K0) (ku K - ku K0) (TQ sT (aQI x K0) (zQV K0) "java/util/NoSuchElementException" x K0 below args s o) (F0 m 38 ls []) := by
  obtain ⟨CX, hno, hlt, hmn⟩ := id CTX
  obtain ⟨hx, hb, hml, hown, hts, hE, hB, hr, hlk⟩ := id CX
  have hcs := nz_le (mbT_X8_read_38  x0 K M hf) hRc
  unfold bT_X8_read_38 at hf
  cases hf
  exact tr_throwN (k := 7) CTX hL hR hS tw_X8_240 (i := 5) (by decide) hl.1 (by omega) (by omega) (Nat.le_of_ble_eq_true rfl) hRc dX8_read_38 dX8_read_41 (Or.inr ⟨dX8_read_42, rfl⟩) dX8_read_45 dX8_read_48 rfl
def bT_X8_read_79 (N : Nat) (x0 : Nat) (s0 : Int32) (K : Ka) (M : Cm) : Option ((Int32 × Ka × Cm) ⊕ (Ka × Cm)) := some (.inl (s0, K, M))
theorem mbT_X8_read_79 {o : (Int32 × Ka × Cm) ⊕ (Ka × Cm)} {N : Nat}  (x0 : Nat) (s0 : Int32) (K : Ka) (M : Cm) (hf : bT_X8_read_79 N x0 s0 K M = some o) : KLe K (oK sT o) := by
  unfold bT_X8_read_79 at hf
  cases hf
  exact KLe.rf _
set_option maxRecDepth 100000 in
set_option maxHeartbeats 4000000 in
theorem wbT_X8_read_79 {p : Program} {l : Launch} {e : Env} {R : Room} {s : State} {m : MethodId} {args : Array Value} {below : List Frame} {meth : Method} {c : Code} {x : Xc} {K0 : Ka} {o : (Int32 × Ka × Cm) ⊕ (Ka × Cm)} {N : Nat} (CTX : CT p l s m args meth c x K0 RX8 "read" cX8_read 3 (some .int)) (hRm : 6 ≤ R.frames ∧ 95 ≤ R.locals) (hRc : nz sT K0 o ≤ R.cells ∧ nu sT K0 o ≤ R.slots) (x0 : Nat) (s0 : Int32) (K : Ka) (M : Cm) (H : Heap) (locs : List Loc) (ls : Array Slot) (hf : bT_X8_read_79 N x0 s0 K M = some o) (hL : KLe K0 K) (hR : RC x K M H) (hS : va_S (AC K0) s.heap H locs) (hl : lv_has ls 3 [(0, .ref x0)]) : W p l e R s m args below meth c H locs (kz K - kz K0) (ku K - ku K0) (TQ sT (aQI x K0) (zQV K0) "java/util/NoSuchElementException" x K0 below args s o) (F0 m 79 ls [.int s0]) := by
  obtain ⟨CX, hno, hlt, hmn⟩ := id CTX
  obtain ⟨hx, hb, hml, hown, hts, hE, hB, hr, hlk⟩ := id CX
  have hcs := nz_le (mbT_X8_read_79  x0 s0 K M hf) hRc
  unfold bT_X8_read_79 at hf
  exact tr_iret CX hR hS hf dX8_read_79
def fT_X8_read (N : Nat) (x0 : Nat) (x1 : Int32) (x2 : Int32) (K : Ka) (M : Cm) : Option ((Int32 × Ka × Cm) ⊕ (Ka × Cm)) := gd (kd K x0 == 9) ((fC_X8_isUnit N K x0 x1 M).bind fun o2 => if o2.1 = 0 then (some (.inr (K, o2.2))) else (if x2 < 0 then ((bT_X8_read_38 N) x0 K o2.2) else (nn (cR o2.2 x0 7) fun a1 => gd (kd K a1 == 6) (nn (cR o2.2 a1 5) fun a2 => gd (kd K a2 == 26) (ck x1 (le K a2) (nn (cR o2.2 a2 (x1 : Int32).toNatClampNeg) fun a3 => gd (kd K a3 == 8) (if x2 < (cI o2.2 a3 9) then (nn (cR o2.2 x0 2) fun a4 => gd (kd K a4 == 5) (nn (cR o2.2 a4 0) fun a5 => gd (kd K a5 == 22) (ck x1 (le K a5) (if (cI o2.2 a5 (x1 : Int32).toNatClampNeg) = 0 then ((bT_X8_read_79 N) x0 0 K o2.2) else (nn (cR o2.2 x0 2) fun a6 => gd (kd K a6 == 5) (nn (cR o2.2 a6 2) fun a7 => gd (kd K a7 == 22) (ck ((x1 * 8) + x2) (le K a7) ((bT_X8_read_79 N) x0 (cI o2.2 a7 ((x1 * 8) + x2 : Int32).toNatClampNeg) K o2.2)))))))) else ((bT_X8_read_38 N) x0 K o2.2))))))))
theorem mfT_X8_read {o : (Int32 × Ka × Cm) ⊕ (Ka × Cm)} {N : Nat}  (x0 : Nat) (x1 : Int32) (x2 : Int32) (K : Ka) (M : Cm) (hf : fT_X8_read N x0 x1 x2 K M = some o) : KLe K (oK sT o) := by
  unfold fT_X8_read at hf
  obtain ⟨-, hf⟩ := gd_some hf
  obtain ⟨o2, -, hf⟩ := bnd_some hf
  by_cases hc : o2.1 = 0
  · rw [if_pos hc] at hf
    cases hf
    exact KLe.rf _
  · rw [if_neg hc] at hf
    by_cases hc : x2 < 0
    · rw [if_pos hc] at hf
      exact mbT_X8_read_38 _ _ _ hf
    · rw [if_neg hc] at hf
      obtain ⟨a1, -, hf⟩ := nn_some hf
      obtain ⟨-, hf⟩ := gd_some hf
      obtain ⟨a2, -, hf⟩ := nn_some hf
      obtain ⟨-, hf⟩ := gd_some hf
      obtain ⟨-, hf⟩ := ck_some hf
      obtain ⟨a3, -, hf⟩ := nn_some hf
      obtain ⟨-, hf⟩ := gd_some hf
      by_cases hc : x2 < (cI o2.2 a3 9)
      · rw [if_pos hc] at hf
        obtain ⟨a4, -, hf⟩ := nn_some hf
        obtain ⟨-, hf⟩ := gd_some hf
        obtain ⟨a5, -, hf⟩ := nn_some hf
        obtain ⟨-, hf⟩ := gd_some hf
        obtain ⟨-, hf⟩ := ck_some hf
        by_cases hc : (cI o2.2 a5 (x1 : Int32).toNatClampNeg) = 0
        · rw [if_pos hc] at hf
          exact mbT_X8_read_79 _ _ _ _ hf
        · rw [if_neg hc] at hf
          obtain ⟨a6, -, hf⟩ := nn_some hf
          obtain ⟨-, hf⟩ := gd_some hf
          obtain ⟨a7, -, hf⟩ := nn_some hf
          obtain ⟨-, hf⟩ := gd_some hf
          obtain ⟨-, hf⟩ := ck_some hf
          exact mbT_X8_read_79 _ _ _ _ hf
      · rw [if_neg hc] at hf
        exact mbT_X8_read_38 _ _ _ hf
set_option maxRecDepth 100000 in
set_option maxHeartbeats 4000000 in
theorem wfT_X8_read {p : Program} {l : Launch} {e : Env} {R : Room} {s : State} {m : MethodId} {args : Array Value} {below : List Frame} {meth : Method} {c : Code} {x : Xc} {K0 : Ka} {o : (Int32 × Ka × Cm) ⊕ (Ka × Cm)} {N : Nat} (CTX : CT p l s m args meth c x K0 RX8 "read" cX8_read 3 (some .int)) (hRm : 6 ≤ R.frames ∧ 95 ≤ R.locals) (hRc : nz sT K0 o ≤ R.cells ∧ nu sT K0 o ≤ R.slots) (x0 : Nat) (x1 : Int32) (x2 : Int32) (K : Ka) (M : Cm) (H : Heap) (locs : List Loc) (ls : Array Slot) (hf : fT_X8_read N x0 x1 x2 K M = some o) (hL : KLe K0 K) (hR : RC x K M H) (hS : va_S (AC K0) s.heap H locs) (hl : lv_has ls 3 [(0, .ref x0), (1, .int x1), (2, .int x2)]) : W p l e R s m args below meth c H locs (kz K - kz K0) (ku K - ku K0) (TQ sT (aQI x K0) (zQV K0) "java/util/NoSuchElementException" x K0 below args s o) (F0 m 0 ls []) := by
  obtain ⟨CX, hno, hlt, hmn⟩ := id CTX
  obtain ⟨hx, hb, hml, hown, hts, hE, hB, hr, hlk⟩ := id CX
  have hcs := nz_le (mfT_X8_read  x0 x1 x2 K M hf) hRc
  unfold fT_X8_read at hf
  refine lv_aload_n hx hb dX8_read_0 rfl (lv_at hl 0 rfl) ?_
  refine lv_iload_n hx hb dX8_read_1 rfl (lv_at hl 1 rfl) ?_
  obtain ⟨hk_x0_9, hf⟩ := gd_some hf
  obtain ⟨o2, ho2, hf⟩ := bnd_some hf
  refine cr_callIv kc_8 CX hR hL hS (As := [.int x1]) (rest := []) hk_x0_9 (MC_X8_isUnit l x N K x0 x1 M o2 ho2) cv_X8_162 ⟨by omega, by omega⟩ rfl rfl (Nat.le_of_ble_eq_true rfl) hl.1 dX8_read_2 hcs (fun H locs hR hS => ?_)
  refine lv_if_ne (tgt := 18) hx hb dX8_read_5 (by decide) (fun hc => ?_) (fun hc => ?_)
  · rw [if_neg hc] at hf
    refine lv_iload_n hx hb dX8_read_18 rfl (lv_at hl 2 rfl) ?_
    refine lv_if_lt (tgt := 38) hx hb dX8_read_19 (by decide) (fun hc => ?_) (fun hc => ?_)
    · rw [if_pos hc] at hf
      exact (wbT_X8_read_38 CTX hRm hRc) _ _ _ _ _ _ hf hL hR hS (lv_sub hl [0] rfl)
    · rw [if_neg hc] at hf
      refine lv_iload_n hx hb dX8_read_22 rfl (lv_at hl 2 rfl) ?_
      refine lv_aload_n hx hb dX8_read_23 rfl (lv_at hl 0 rfl) ?_
      refine cr_getR kc_8 CX hR fa_X8_60 rfl hk_x0_9 dX8_read_24 ?_
      obtain ⟨a1, ha1, hf⟩ := nn_some hf
      refine rf_0 ha1 ?_
      obtain ⟨hk_a1_6, hf⟩ := gd_some hf
      refine cr_getR kc_5 CX hR fa_X8_247 rfl hk_a1_6 dX8_read_27 ?_
      refine lv_iload_n hx hb dX8_read_30 rfl (lv_at hl 1 rfl) ?_
      obtain ⟨a2, ha2, hf⟩ := nn_some hf
      refine rf_1 ha2 ?_
      obtain ⟨hk_a2_26, hf⟩ := gd_some hf
      obtain ⟨hi, hf⟩ := ck_some hf
      refine cr_uald CX hR hk_a2_26 hi dX8_read_31 ?_
      obtain ⟨a3, ha3, hf⟩ := nn_some hf
      refine rf_0 ha3 ?_
      obtain ⟨hk_a3_8, hf⟩ := gd_some hf
      refine cr_getI kc_7 CX hR fa_X8_265 rfl hk_a3_8 dX8_read_32 ?_
      refine lv_icmp_lt (tgt := 49) hx hb dX8_read_35 (by decide) (fun hc => ?_) (fun hc => ?_)
      · rw [if_pos hc] at hf
        refine lv_aload_n hx hb dX8_read_49 rfl (lv_at hl 0 rfl) ?_
        refine cr_getR kc_8 CX hR fa_X8_28 rfl hk_x0_9 dX8_read_50 ?_
        obtain ⟨a4, ha4, hf⟩ := nn_some hf
        refine rf_0 ha4 ?_
        obtain ⟨hk_a4_5, hf⟩ := gd_some hf
        refine cr_getR kc_4 CX hR fa_X8_195 rfl hk_a4_5 dX8_read_53 ?_
        refine lv_iload_n hx hb dX8_read_56 rfl (lv_at hl 1 rfl) ?_
        obtain ⟨a5, ha5, hf⟩ := nn_some hf
        refine rf_1 ha5 ?_
        obtain ⟨hk_a5_22, hf⟩ := gd_some hf
        obtain ⟨hi, hf⟩ := ck_some hf
        refine cr_iald CX hR hk_a5_22 hi dX8_read_57 ?_
        refine lv_if_ne (tgt := 65) hx hb dX8_read_58 (by decide) (fun hc => ?_) (fun hc => ?_)
        · rw [if_neg hc] at hf
          refine lv_aload_n hx hb dX8_read_65 rfl (lv_at hl 0 rfl) ?_
          refine cr_getR kc_8 CX hR fa_X8_28 rfl hk_x0_9 dX8_read_66 ?_
          obtain ⟨a6, ha6, hf⟩ := nn_some hf
          refine rf_0 ha6 ?_
          obtain ⟨hk_a6_5, hf⟩ := gd_some hf
          refine cr_getR kc_4 CX hR fa_X8_275 rfl hk_a6_5 dX8_read_69 ?_
          refine lv_iload_n hx hb dX8_read_72 rfl (lv_at hl 1 rfl) ?_
          refine lv_bipush (v := 8) hx hb dX8_read_73 (by decide) ?_
          refine lv_imul hx hb dX8_read_75 ?_
          refine lv_iload_n hx hb dX8_read_76 rfl (lv_at hl 2 rfl) ?_
          refine lv_iadd hx hb dX8_read_77 ?_
          obtain ⟨a7, ha7, hf⟩ := nn_some hf
          refine rf_1 ha7 ?_
          obtain ⟨hk_a7_22, hf⟩ := gd_some hf
          obtain ⟨hi, hf⟩ := ck_some hf
          refine cr_iald CX hR hk_a7_22 hi dX8_read_78 ?_
          exact (wbT_X8_read_79 CTX hRm hRc) _ _ _ _ _ _ _ hf hL hR hS (lv_sub hl [0] rfl)
        · rw [if_pos hc] at hf
          refine lv_iconst (v := 0) hx hb dX8_read_61 (by decide) ?_
          refine lv_goto (tgt := 79) hx hb dX8_read_62 (by decide) ?_
          exact (wbT_X8_read_79 CTX hRm hRc) _ _ _ _ _ _ _ hf hL hR hS (lv_sub hl [0] rfl)
      · rw [if_neg hc] at hf
        exact (wbT_X8_read_38 CTX hRm hRc) _ _ _ _ _ _ hf hL hR hS (lv_sub hl [0] rfl)
  · rw [if_pos hc] at hf
    cases hf
    exact tr_throwN (k := 6) CTX hL hR hS tw_X8_240 (i := 3) (by decide) hl.1 (by omega) (by omega) (Nat.le_of_ble_eq_true rfl) hRc dX8_read_8 dX8_read_11 (Or.inl ⟨dX8_read_12, rfl⟩) dX8_read_14 dX8_read_17 rfl
theorem MT_X8_read (l : Launch) (x : Xc) (hlt : l.stackTraces = false) (N : Nat) (x0 : Nat) (x1 : Int32) (x2 : Int32) (K : Ka) (M : Cm) (o : (Int32 × Ka × Cm) ⊕ (Ka × Cm)) (hf : fT_X8_read N x0 x1 x2 K M = some o) : Tc sT (aQI x K) (zQV K) "java/util/NoSuchElementException" l x yX8_read cX8_read 3 (some .int) 6 95 [.ref x0, .int x1, .int x2] K M o :=
  tr_met RX8 "read" hlt (by decide) rfl rfl (Nat.le_of_ble_eq_true rfl) (fun p e s m args below meth c ls CTX hR hl => wfT_X8_read CTX ⟨Nat.le_refl _, Nat.le_refl _⟩ ⟨Nat.le_refl _, Nat.le_refl _⟩ x0 x1 x2 K M s.heap [] ls hf (KLe.rf K) hR va_S.rf hl)
def bT_X8_unit_108 (N : Nat) (x0 : Nat) (s0 : Int32) (K : Ka) (M : Cm) : Option ((Int32 × Ka × Cm) ⊕ (Ka × Cm)) := some (.inl (s0, K, M))
theorem mbT_X8_unit_108 {o : (Int32 × Ka × Cm) ⊕ (Ka × Cm)} {N : Nat}  (x0 : Nat) (s0 : Int32) (K : Ka) (M : Cm) (hf : bT_X8_unit_108 N x0 s0 K M = some o) : KLe K (oK sT o) := by
  unfold bT_X8_unit_108 at hf
  cases hf
  exact KLe.rf _
set_option maxRecDepth 100000 in
set_option maxHeartbeats 4000000 in
theorem wbT_X8_unit_108 {p : Program} {l : Launch} {e : Env} {R : Room} {s : State} {m : MethodId} {args : Array Value} {below : List Frame} {meth : Method} {c : Code} {x : Xc} {K0 : Ka} {o : (Int32 × Ka × Cm) ⊕ (Ka × Cm)} {N : Nat} (CTX : CT p l s m args meth c x K0 RX8 "unit" cX8_unit 4 (some .int)) (hRm : 6 ≤ R.frames ∧ 95 ≤ R.locals) (hRc : nz sT K0 o ≤ R.cells ∧ nu sT K0 o ≤ R.slots) (x0 : Nat) (s0 : Int32) (K : Ka) (M : Cm) (H : Heap) (locs : List Loc) (ls : Array Slot) (hf : bT_X8_unit_108 N x0 s0 K M = some o) (hL : KLe K0 K) (hR : RC x K M H) (hS : va_S (AC K0) s.heap H locs) (hl : lv_has ls 4 [(0, .ref x0)]) : W p l e R s m args below meth c H locs (kz K - kz K0) (ku K - ku K0) (TQ sT (aQI x K0) (zQV K0) "java/util/NoSuchElementException" x K0 below args s o) (F0 m 108 ls [.int s0]) := by
  obtain ⟨CX, hno, hlt, hmn⟩ := id CTX
  obtain ⟨hx, hb, hml, hown, hts, hE, hB, hr, hlk⟩ := id CX
  have hcs := nz_le (mbT_X8_unit_108  x0 s0 K M hf) hRc
  unfold bT_X8_unit_108 at hf
  exact tr_iret CX hR hS hf dX8_unit_108
def bT_X8_unit_121 (N : Nat) (x0 : Nat) (s0 : Int32) (K : Ka) (M : Cm) : Option ((Int32 × Ka × Cm) ⊕ (Ka × Cm)) := some (.inl (s0, K, M))
theorem mbT_X8_unit_121 {o : (Int32 × Ka × Cm) ⊕ (Ka × Cm)} {N : Nat}  (x0 : Nat) (s0 : Int32) (K : Ka) (M : Cm) (hf : bT_X8_unit_121 N x0 s0 K M = some o) : KLe K (oK sT o) := by
  unfold bT_X8_unit_121 at hf
  cases hf
  exact KLe.rf _
set_option maxRecDepth 100000 in
set_option maxHeartbeats 4000000 in
theorem wbT_X8_unit_121 {p : Program} {l : Launch} {e : Env} {R : Room} {s : State} {m : MethodId} {args : Array Value} {below : List Frame} {meth : Method} {c : Code} {x : Xc} {K0 : Ka} {o : (Int32 × Ka × Cm) ⊕ (Ka × Cm)} {N : Nat} (CTX : CT p l s m args meth c x K0 RX8 "unit" cX8_unit 4 (some .int)) (hRm : 6 ≤ R.frames ∧ 95 ≤ R.locals) (hRc : nz sT K0 o ≤ R.cells ∧ nu sT K0 o ≤ R.slots) (x0 : Nat) (s0 : Int32) (K : Ka) (M : Cm) (H : Heap) (locs : List Loc) (ls : Array Slot) (hf : bT_X8_unit_121 N x0 s0 K M = some o) (hL : KLe K0 K) (hR : RC x K M H) (hS : va_S (AC K0) s.heap H locs) (hl : lv_has ls 4 [(0, .ref x0)]) : W p l e R s m args below meth c H locs (kz K - kz K0) (ku K - ku K0) (TQ sT (aQI x K0) (zQV K0) "java/util/NoSuchElementException" x K0 below args s o) (F0 m 121 ls [.int s0]) := by
  obtain ⟨CX, hno, hlt, hmn⟩ := id CTX
  obtain ⟨hx, hb, hml, hown, hts, hE, hB, hr, hlk⟩ := id CX
  have hcs := nz_le (mbT_X8_unit_121  x0 s0 K M hf) hRc
  unfold bT_X8_unit_121 at hf
  exact tr_iret CX hR hS hf dX8_unit_121
def fT_X8_unit (N : Nat) (x0 : Nat) (x1 : Int32) (x2 : Int32) (K : Ka) (M : Cm) : Option ((Int32 × Ka × Cm) ⊕ (Ka × Cm)) := gd (kd K x0 == 9) ((fC_X8_isUnit N K x0 x1 M).bind fun o2 => if o2.1 = 0 then (some (.inr (K, o2.2))) else (nn (cR o2.2 x0 7) fun a1 => gd (kd K a1 == 6) (nn (cR o2.2 a1 5) fun a2 => gd (kd K a2 == 26) (ck x1 (le K a2) (nn (cR o2.2 a2 (x1 : Int32).toNatClampNeg) fun a3 => if x2 = 0 then (nn (cR o2.2 x0 2) fun a4 => gd (kd K a4 == 5) (nn (cR o2.2 a4 0) fun a5 => gd (kd K a5 == 22) (ck x1 (le K a5) (some (.inl (cI o2.2 a5 (x1 : Int32).toNatClampNeg, K, o2.2)))))) else if x2 = 1 then (nn (cR o2.2 x0 2) fun a6 => gd (kd K a6 == 5) (nn (cR o2.2 a6 1) fun a7 => gd (kd K a7 == 22) (ck x1 (le K a7) (some (.inl (cI o2.2 a7 (x1 : Int32).toNatClampNeg, K, o2.2)))))) else if x2 = 2 then (gd (kd K a3 == 8) (if (cI o2.2 a3 0) = 0 then ((bT_X8_unit_108 N) x0 0 K o2.2) else ((bT_X8_unit_108 N) x0 1 K o2.2))) else if x2 = 3 then (gd (kd K a3 == 8) (if (cI o2.2 a3 1) = 0 then ((bT_X8_unit_121 N) x0 0 K o2.2) else ((bT_X8_unit_121 N) x0 1 K o2.2))) else if x2 = 4 then (gd (kd K a3 == 8) (some (.inl (cI o2.2 a3 6, K, o2.2)))) else if x2 = 5 then (gd (kd K a3 == 8) (some (.inl (cI o2.2 a3 7, K, o2.2)))) else if x2 = 6 then (gd (kd K a3 == 8) (some (.inl (cI o2.2 a3 9, K, o2.2)))) else if x2 = 7 then (gd (kd K a3 == 8) (some (.inl ((cI o2.2 a3 8) - (cI o2.2 a3 9), K, o2.2)))) else (some (.inr (K, o2.2))))))))
theorem mfT_X8_unit {o : (Int32 × Ka × Cm) ⊕ (Ka × Cm)} {N : Nat}  (x0 : Nat) (x1 : Int32) (x2 : Int32) (K : Ka) (M : Cm) (hf : fT_X8_unit N x0 x1 x2 K M = some o) : KLe K (oK sT o) := by
  unfold fT_X8_unit at hf
  obtain ⟨-, hf⟩ := gd_some hf
  obtain ⟨o2, -, hf⟩ := bnd_some hf
  by_cases hc : o2.1 = 0
  · rw [if_pos hc] at hf
    cases hf
    exact KLe.rf _
  · rw [if_neg hc] at hf
    obtain ⟨a1, -, hf⟩ := nn_some hf
    obtain ⟨-, hf⟩ := gd_some hf
    obtain ⟨a2, -, hf⟩ := nn_some hf
    obtain ⟨-, hf⟩ := gd_some hf
    obtain ⟨-, hf⟩ := ck_some hf
    obtain ⟨a3, -, hf⟩ := nn_some hf
    by_cases hc0 : x2 = 0
    · rw [if_pos hc0] at hf
      obtain ⟨a4, -, hf⟩ := nn_some hf
      obtain ⟨-, hf⟩ := gd_some hf
      obtain ⟨a5, -, hf⟩ := nn_some hf
      obtain ⟨-, hf⟩ := gd_some hf
      obtain ⟨-, hf⟩ := ck_some hf
      cases hf
      exact KLe.rf _
    · rw [if_neg hc0] at hf
      by_cases hc1 : x2 = 1
      · rw [if_pos hc1] at hf
        obtain ⟨a6, -, hf⟩ := nn_some hf
        obtain ⟨-, hf⟩ := gd_some hf
        obtain ⟨a7, -, hf⟩ := nn_some hf
        obtain ⟨-, hf⟩ := gd_some hf
        obtain ⟨-, hf⟩ := ck_some hf
        cases hf
        exact KLe.rf _
      · rw [if_neg hc1] at hf
        by_cases hc2 : x2 = 2
        · rw [if_pos hc2] at hf
          obtain ⟨-, hf⟩ := gd_some hf
          by_cases hc : (cI o2.2 a3 0) = 0
          · rw [if_pos hc] at hf
            exact mbT_X8_unit_108 _ _ _ _ hf
          · rw [if_neg hc] at hf
            exact mbT_X8_unit_108 _ _ _ _ hf
        · rw [if_neg hc2] at hf
          by_cases hc3 : x2 = 3
          · rw [if_pos hc3] at hf
            obtain ⟨-, hf⟩ := gd_some hf
            by_cases hc : (cI o2.2 a3 1) = 0
            · rw [if_pos hc] at hf
              exact mbT_X8_unit_121 _ _ _ _ hf
            · rw [if_neg hc] at hf
              exact mbT_X8_unit_121 _ _ _ _ hf
          · rw [if_neg hc3] at hf
            by_cases hc4 : x2 = 4
            · rw [if_pos hc4] at hf
              obtain ⟨-, hf⟩ := gd_some hf
              cases hf
              exact KLe.rf _
            · rw [if_neg hc4] at hf
              by_cases hc5 : x2 = 5
              · rw [if_pos hc5] at hf
                obtain ⟨-, hf⟩ := gd_some hf
                cases hf
                exact KLe.rf _
              · rw [if_neg hc5] at hf
                by_cases hc6 : x2 = 6
                · rw [if_pos hc6] at hf
                  obtain ⟨-, hf⟩ := gd_some hf
                  cases hf
                  exact KLe.rf _
                · rw [if_neg hc6] at hf
                  by_cases hc7 : x2 = 7
                  · rw [if_pos hc7] at hf
                    obtain ⟨-, hf⟩ := gd_some hf
                    cases hf
                    exact KLe.rf _
                  · rw [if_neg hc7] at hf
                    cases hf
                    exact KLe.rf _
set_option maxRecDepth 100000 in
set_option maxHeartbeats 4000000 in
theorem wfT_X8_unit {p : Program} {l : Launch} {e : Env} {R : Room} {s : State} {m : MethodId} {args : Array Value} {below : List Frame} {meth : Method} {c : Code} {x : Xc} {K0 : Ka} {o : (Int32 × Ka × Cm) ⊕ (Ka × Cm)} {N : Nat} (CTX : CT p l s m args meth c x K0 RX8 "unit" cX8_unit 4 (some .int)) (hRm : 6 ≤ R.frames ∧ 95 ≤ R.locals) (hRc : nz sT K0 o ≤ R.cells ∧ nu sT K0 o ≤ R.slots) (x0 : Nat) (x1 : Int32) (x2 : Int32) (K : Ka) (M : Cm) (H : Heap) (locs : List Loc) (ls : Array Slot) (hf : fT_X8_unit N x0 x1 x2 K M = some o) (hL : KLe K0 K) (hR : RC x K M H) (hS : va_S (AC K0) s.heap H locs) (hl : lv_has ls 4 [(0, .ref x0), (1, .int x1), (2, .int x2)]) : W p l e R s m args below meth c H locs (kz K - kz K0) (ku K - ku K0) (TQ sT (aQI x K0) (zQV K0) "java/util/NoSuchElementException" x K0 below args s o) (F0 m 0 ls []) := by
  obtain ⟨CX, hno, hlt, hmn⟩ := id CTX
  obtain ⟨hx, hb, hml, hown, hts, hE, hB, hr, hlk⟩ := id CX
  have hcs := nz_le (mfT_X8_unit  x0 x1 x2 K M hf) hRc
  unfold fT_X8_unit at hf
  refine lv_aload_n hx hb dX8_unit_0 rfl (lv_at hl 0 rfl) ?_
  refine lv_iload_n hx hb dX8_unit_1 rfl (lv_at hl 1 rfl) ?_
  obtain ⟨hk_x0_9, hf⟩ := gd_some hf
  obtain ⟨o2, ho2, hf⟩ := bnd_some hf
  refine cr_callIv kc_8 CX hR hL hS (As := [.int x1]) (rest := []) hk_x0_9 (MC_X8_isUnit l x N K x0 x1 M o2 ho2) cv_X8_162 ⟨by omega, by omega⟩ rfl rfl (Nat.le_of_ble_eq_true rfl) hl.1 dX8_unit_2 hcs (fun H locs hR hS => ?_)
  refine lv_if_ne (tgt := 18) hx hb dX8_unit_5 (by decide) (fun hc => ?_) (fun hc => ?_)
  · rw [if_neg hc] at hf
    refine lv_aload_n hx hb dX8_unit_18 rfl (lv_at hl 0 rfl) ?_
    refine cr_getR kc_8 CX hR fa_X8_60 rfl hk_x0_9 dX8_unit_19 ?_
    obtain ⟨a1, ha1, hf⟩ := nn_some hf
    refine rf_0 ha1 ?_
    obtain ⟨hk_a1_6, hf⟩ := gd_some hf
    refine cr_getR kc_5 CX hR fa_X8_247 rfl hk_a1_6 dX8_unit_22 ?_
    refine lv_iload_n hx hb dX8_unit_25 rfl (lv_at hl 1 rfl) ?_
    obtain ⟨a2, ha2, hf⟩ := nn_some hf
    refine rf_1 ha2 ?_
    obtain ⟨hk_a2_26, hf⟩ := gd_some hf
    obtain ⟨hi, hf⟩ := ck_some hf
    refine cr_uald CX hR hk_a2_26 hi dX8_unit_26 ?_
    obtain ⟨a3, ha3, hf⟩ := nn_some hf
    refine rf_0 ha3 ?_
    refine lv_astore_n (lv' := [(3, .ref a3), (0, .ref x0), (1, .int x1), (2, .int x2)]) hx hb dX8_unit_27 rfl hl (by decide) rfl (fun ls hl => ?_)
    refine lv_iload_n hx hb dX8_unit_28 rfl (lv_at hl 3 rfl) ?_
    by_cases hc0 : x2 = 0
    · rw [if_pos hc0] at hf
      refine lv_tableIn (off := 47) (tgt := 76) hx hb dX8_unit_29 (by rw [hc0]; decide) (by rw [hc0]; decide) (by rw [hc0]; decide) (by decide) ?_
      refine lv_aload_n hx hb dX8_unit_76 rfl (lv_at hl 1 rfl) ?_
      refine cr_getR kc_8 CX hR fa_X8_28 rfl hk_x0_9 dX8_unit_77 ?_
      obtain ⟨a4, ha4, hf⟩ := nn_some hf
      refine rf_0 ha4 ?_
      obtain ⟨hk_a4_5, hf⟩ := gd_some hf
      refine cr_getR kc_4 CX hR fa_X8_195 rfl hk_a4_5 dX8_unit_80 ?_
      refine lv_iload_n hx hb dX8_unit_83 rfl (lv_at hl 2 rfl) ?_
      obtain ⟨a5, ha5, hf⟩ := nn_some hf
      refine rf_1 ha5 ?_
      obtain ⟨hk_a5_22, hf⟩ := gd_some hf
      obtain ⟨hi, hf⟩ := ck_some hf
      refine cr_iald CX hR hk_a5_22 hi dX8_unit_84 ?_
      exact tr_iret CX hR hS hf dX8_unit_85
    · rw [if_neg hc0] at hf
      by_cases hc1 : x2 = 1
      · rw [if_pos hc1] at hf
        refine lv_tableIn (off := 57) (tgt := 86) hx hb dX8_unit_29 (by rw [hc1]; decide) (by rw [hc1]; decide) (by rw [hc1]; decide) (by decide) ?_
        refine lv_aload_n hx hb dX8_unit_86 rfl (lv_at hl 1 rfl) ?_
        refine cr_getR kc_8 CX hR fa_X8_28 rfl hk_x0_9 dX8_unit_87 ?_
        obtain ⟨a6, ha6, hf⟩ := nn_some hf
        refine rf_0 ha6 ?_
        obtain ⟨hk_a6_5, hf⟩ := gd_some hf
        refine cr_getR kc_4 CX hR fa_X8_182 rfl hk_a6_5 dX8_unit_90 ?_
        refine lv_iload_n hx hb dX8_unit_93 rfl (lv_at hl 2 rfl) ?_
        obtain ⟨a7, ha7, hf⟩ := nn_some hf
        refine rf_1 ha7 ?_
        obtain ⟨hk_a7_22, hf⟩ := gd_some hf
        obtain ⟨hi, hf⟩ := ck_some hf
        refine cr_iald CX hR hk_a7_22 hi dX8_unit_94 ?_
        exact tr_iret CX hR hS hf dX8_unit_95
      · rw [if_neg hc1] at hf
        by_cases hc2 : x2 = 2
        · rw [if_pos hc2] at hf
          refine lv_tableIn (off := 67) (tgt := 96) hx hb dX8_unit_29 (by rw [hc2]; decide) (by rw [hc2]; decide) (by rw [hc2]; decide) (by decide) ?_
          refine lv_aload_n hx hb dX8_unit_96 rfl (lv_at hl 0 rfl) ?_
          obtain ⟨hk_a3_8, hf⟩ := gd_some hf
          refine cr_getI kc_7 CX hR fa_X8_251 rfl hk_a3_8 dX8_unit_97 ?_
          refine lv_if_eq (tgt := 107) hx hb dX8_unit_100 (by decide) (fun hc => ?_) (fun hc => ?_)
          · rw [if_pos hc] at hf
            refine lv_iconst (v := 0) hx hb dX8_unit_107 (by decide) ?_
            exact (wbT_X8_unit_108 CTX hRm hRc) _ _ _ _ _ _ _ hf hL hR hS (lv_sub hl [1] rfl)
          · rw [if_neg hc] at hf
            refine lv_iconst (v := 1) hx hb dX8_unit_103 (by decide) ?_
            refine lv_goto (tgt := 108) hx hb dX8_unit_104 (by decide) ?_
            exact (wbT_X8_unit_108 CTX hRm hRc) _ _ _ _ _ _ _ hf hL hR hS (lv_sub hl [1] rfl)
        · rw [if_neg hc2] at hf
          by_cases hc3 : x2 = 3
          · rw [if_pos hc3] at hf
            refine lv_tableIn (off := 80) (tgt := 109) hx hb dX8_unit_29 (by rw [hc3]; decide) (by rw [hc3]; decide) (by rw [hc3]; decide) (by decide) ?_
            refine lv_aload_n hx hb dX8_unit_109 rfl (lv_at hl 0 rfl) ?_
            obtain ⟨hk_a3_8, hf⟩ := gd_some hf
            refine cr_getI kc_7 CX hR fa_X8_256 rfl hk_a3_8 dX8_unit_110 ?_
            refine lv_if_eq (tgt := 120) hx hb dX8_unit_113 (by decide) (fun hc => ?_) (fun hc => ?_)
            · rw [if_pos hc] at hf
              refine lv_iconst (v := 0) hx hb dX8_unit_120 (by decide) ?_
              exact (wbT_X8_unit_121 CTX hRm hRc) _ _ _ _ _ _ _ hf hL hR hS (lv_sub hl [1] rfl)
            · rw [if_neg hc] at hf
              refine lv_iconst (v := 1) hx hb dX8_unit_116 (by decide) ?_
              refine lv_goto (tgt := 121) hx hb dX8_unit_117 (by decide) ?_
              exact (wbT_X8_unit_121 CTX hRm hRc) _ _ _ _ _ _ _ hf hL hR hS (lv_sub hl [1] rfl)
          · rw [if_neg hc3] at hf
            by_cases hc4 : x2 = 4
            · rw [if_pos hc4] at hf
              refine lv_tableIn (off := 93) (tgt := 122) hx hb dX8_unit_29 (by rw [hc4]; decide) (by rw [hc4]; decide) (by rw [hc4]; decide) (by decide) ?_
              refine lv_aload_n hx hb dX8_unit_122 rfl (lv_at hl 0 rfl) ?_
              obtain ⟨hk_a3_8, hf⟩ := gd_some hf
              refine cr_getI kc_7 CX hR fa_X8_259 rfl hk_a3_8 dX8_unit_123 ?_
              exact tr_iret CX hR hS hf dX8_unit_126
            · rw [if_neg hc4] at hf
              by_cases hc5 : x2 = 5
              · rw [if_pos hc5] at hf
                refine lv_tableIn (off := 98) (tgt := 127) hx hb dX8_unit_29 (by rw [hc5]; decide) (by rw [hc5]; decide) (by rw [hc5]; decide) (by decide) ?_
                refine lv_aload_n hx hb dX8_unit_127 rfl (lv_at hl 0 rfl) ?_
                obtain ⟨hk_a3_8, hf⟩ := gd_some hf
                refine cr_getI kc_7 CX hR fa_X8_262 rfl hk_a3_8 dX8_unit_128 ?_
                exact tr_iret CX hR hS hf dX8_unit_131
              · rw [if_neg hc5] at hf
                by_cases hc6 : x2 = 6
                · rw [if_pos hc6] at hf
                  refine lv_tableIn (off := 103) (tgt := 132) hx hb dX8_unit_29 (by rw [hc6]; decide) (by rw [hc6]; decide) (by rw [hc6]; decide) (by decide) ?_
                  refine lv_aload_n hx hb dX8_unit_132 rfl (lv_at hl 0 rfl) ?_
                  obtain ⟨hk_a3_8, hf⟩ := gd_some hf
                  refine cr_getI kc_7 CX hR fa_X8_265 rfl hk_a3_8 dX8_unit_133 ?_
                  exact tr_iret CX hR hS hf dX8_unit_136
                · rw [if_neg hc6] at hf
                  by_cases hc7 : x2 = 7
                  · rw [if_pos hc7] at hf
                    refine lv_tableIn (off := 108) (tgt := 137) hx hb dX8_unit_29 (by rw [hc7]; decide) (by rw [hc7]; decide) (by rw [hc7]; decide) (by decide) ?_
                    refine lv_aload_n hx hb dX8_unit_137 rfl (lv_at hl 0 rfl) ?_
                    obtain ⟨hk_a3_8, hf⟩ := gd_some hf
                    refine cr_getI kc_7 CX hR fa_X8_268 rfl hk_a3_8 dX8_unit_138 ?_
                    refine lv_aload_n hx hb dX8_unit_141 rfl (lv_at hl 0 rfl) ?_
                    refine cr_getI kc_7 CX hR fa_X8_265 rfl hk_a3_8 dX8_unit_142 ?_
                    refine lv_isub hx hb dX8_unit_145 ?_
                    exact tr_iret CX hR hS hf dX8_unit_146
                  · rw [if_neg hc7] at hf
                    have hn0 := tsw_ne (k := 0) rfl hc0
                    have hn1 := tsw_ne (k := 1) rfl hc1
                    have hn2 := tsw_ne (k := 2) rfl hc2
                    have hn3 := tsw_ne (k := 3) rfl hc3
                    have hn4 := tsw_ne (k := 4) rfl hc4
                    have hn5 := tsw_ne (k := 5) rfl hc5
                    have hn6 := tsw_ne (k := 6) rfl hc6
                    have hn7 := tsw_ne (k := 7) rfl hc7
                    refine lv_tableOut (tgt := 147) hx hb dX8_unit_29 (by omega) (by decide) ?_
                    cases hf
                    exact tr_throwN (k := 7) CTX hL hR hS tw_X8_240 (i := 4) (by decide) hl.1 (by omega) (by omega) (Nat.le_of_ble_eq_true rfl) hRc dX8_unit_147 dX8_unit_150 (Or.inr ⟨dX8_unit_151, rfl⟩) dX8_unit_154 dX8_unit_157 rfl
  · rw [if_pos hc] at hf
    cases hf
    exact tr_throwN (k := 6) CTX hL hR hS tw_X8_240 (i := 3) (by decide) hl.1 (by omega) (by omega) (Nat.le_of_ble_eq_true rfl) hRc dX8_unit_8 dX8_unit_11 (Or.inl ⟨dX8_unit_12, rfl⟩) dX8_unit_14 dX8_unit_17 rfl
theorem MT_X8_unit (l : Launch) (x : Xc) (hlt : l.stackTraces = false) (N : Nat) (x0 : Nat) (x1 : Int32) (x2 : Int32) (K : Ka) (M : Cm) (o : (Int32 × Ka × Cm) ⊕ (Ka × Cm)) (hf : fT_X8_unit N x0 x1 x2 K M = some o) : Tc sT (aQI x K) (zQV K) "java/util/NoSuchElementException" l x yX8_unit cX8_unit 4 (some .int) 6 95 [.ref x0, .int x1, .int x2] K M o :=
  tr_met RX8 "unit" hlt (by decide) rfl rfl (Nat.le_of_ble_eq_true rfl) (fun p e s m args below meth c ls CTX hR hl => wfT_X8_unit CTX ⟨Nat.le_refl _, Nat.le_refl _⟩ ⟨Nat.le_refl _, Nat.le_refl _⟩ x0 x1 x2 K M s.heap [] ls hf (KLe.rf K) hR va_S.rf hl)
