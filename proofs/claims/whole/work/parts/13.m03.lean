def bM_item_344 (N : Nat) (x1 : Int32) (s1 : Int32) (s2 : Int32) (s3 : Int32) (S : Ms) : Option (Ms) := ck s1 48 (ck x1 48 (ck x1 48 (some (pA (pA S 31 (s1 : Int32).toNatClampNeg (s2 + s3)) 25 (x1 : Int32).toNatClampNeg ((mA (pA S 31 (s1 : Int32).toNatClampNeg (s2 + s3)) 25 (x1 : Int32).toNatClampNeg) + 1)))))
set_option maxRecDepth 100000 in
set_option maxHeartbeats 4000000 in
theorem wbM_item_344 {p : Program} {l : Launch} {e : Env} {R : Room} {s : State} {m : MethodId} {args : Array Value} {below : List Frame} {meth : Method} {c : Code} {d : Dd} {g : Gm} {o : Ms} {N : Nat} (C : CM p s m args meth c d g cX9_item 9 none) (hRm : 151 ≤ R.frames ∧ 8882 ≤ R.locals) (x1 : Int32) (s1 : Int32) (s2 : Int32) (s3 : Int32) (S : Ms) (H : Heap) (locs : List Loc) (ls : Array Slot) (hf : bM_item_344 N x1 s1 s2 s3 S = some o) (hR : RM d g S H) (hS : va_S (AM g) s.heap H locs) (hl : lv_has ls 9 [(0, .ref g.1), (1, .int x1)]) : W p l e R s m args below meth c H locs 0 0 (MQ below (QV d g o) args s 0 0 (AM g)) (F0 m 344 ls [.int s3, .int s2, .int s1, .ref (g.2 31)]) := by
  obtain ⟨hx, hb, hml, hown, hts, hK, hg, hr, hlk⟩ := id C
  unfold bM_item_344 at hf
  refine lv_iadd hx hb dX9_item_344 ?_
  obtain ⟨hi, hf⟩ := ck_some hf
  refine mr_iast C hR hS (k := 31) rfl hi dX9_item_345 (fun H locs hR hS => ?_)
  refine lv_aload_n hx hb dX9_item_346 rfl (lv_at hl 0 rfl) ?_
  refine mr_getR C hR fl_80 (by decide) dX9_item_347 ?_
  refine lv_iload_n hx hb dX9_item_350 rfl (lv_at hl 1 rfl) ?_
  refine lv_dup2_11 hx hb dX9_item_351 rfl rfl ?_
  obtain ⟨hi, hf⟩ := ck_some hf
  refine mr_iald C hR (k := 25) rfl hi dX9_item_352 ?_
  refine lv_iconst (v := 1) hx hb dX9_item_353 (by decide) ?_
  refine lv_iadd hx hb dX9_item_354 ?_
  obtain ⟨hi, hf⟩ := ck_some hf
  refine mr_iast C hR hS (k := 25) rfl hi dX9_item_355 (fun H locs hR hS => ?_)
  exact mr_vret C hR hS hf dX9_item_356
def bM_item_326 (N : Nat) (x1 : Int32) (x2 : Int32) (s1 : Int32) (s2 : Int32) (s3 : Int32) (S : Ms) : Option (Ms) := ck s1 48 (ck x1 48 (if x2 = 0 then ((bM_item_344 N) x1 x1 (mA (pA S 30 (s1 : Int32).toNatClampNeg (s2 + s3)) 31 (x1 : Int32).toNatClampNeg) 1 (pA S 30 (s1 : Int32).toNatClampNeg (s2 + s3))) else ((bM_item_344 N) x1 x1 (mA (pA S 30 (s1 : Int32).toNatClampNeg (s2 + s3)) 31 (x1 : Int32).toNatClampNeg) 0 (pA S 30 (s1 : Int32).toNatClampNeg (s2 + s3)))))
set_option maxRecDepth 100000 in
set_option maxHeartbeats 4000000 in
theorem wbM_item_326 {p : Program} {l : Launch} {e : Env} {R : Room} {s : State} {m : MethodId} {args : Array Value} {below : List Frame} {meth : Method} {c : Code} {d : Dd} {g : Gm} {o : Ms} {N : Nat} (C : CM p s m args meth c d g cX9_item 9 none) (hRm : 151 ≤ R.frames ∧ 8882 ≤ R.locals) (x1 : Int32) (x2 : Int32) (s1 : Int32) (s2 : Int32) (s3 : Int32) (S : Ms) (H : Heap) (locs : List Loc) (ls : Array Slot) (hf : bM_item_326 N x1 x2 s1 s2 s3 S = some o) (hR : RM d g S H) (hS : va_S (AM g) s.heap H locs) (hl : lv_has ls 9 [(0, .ref g.1), (1, .int x1), (2, .int x2)]) : W p l e R s m args below meth c H locs 0 0 (MQ below (QV d g o) args s 0 0 (AM g)) (F0 m 326 ls [.int s3, .int s2, .int s1, .ref (g.2 30)]) := by
  obtain ⟨hx, hb, hml, hown, hts, hK, hg, hr, hlk⟩ := id C
  unfold bM_item_326 at hf
  refine lv_iadd hx hb dX9_item_326 ?_
  obtain ⟨hi, hf⟩ := ck_some hf
  refine mr_iast C hR hS (k := 30) rfl hi dX9_item_327 (fun H locs hR hS => ?_)
  refine lv_aload_n hx hb dX9_item_328 rfl (lv_at hl 0 rfl) ?_
  refine mr_getR C hR fl_98 (by decide) dX9_item_329 ?_
  refine lv_iload_n hx hb dX9_item_332 rfl (lv_at hl 1 rfl) ?_
  refine lv_dup2_11 hx hb dX9_item_333 rfl rfl ?_
  obtain ⟨hi, hf⟩ := ck_some hf
  refine mr_iald C hR (k := 31) rfl hi dX9_item_334 ?_
  refine lv_iload_n hx hb dX9_item_335 rfl (lv_at hl 2 rfl) ?_
  refine lv_if_eq (tgt := 343) hx hb dX9_item_336 (by decide) (fun hc => ?_) (fun hc => ?_)
  · rw [if_pos hc] at hf
    refine lv_iconst (v := 1) hx hb dX9_item_343 (by decide) ?_
    exact (wbM_item_344 C hRm) _ _ _ _ _ _ _ _ hf hR hS (lv_sub hl [0, 1] rfl)
  · rw [if_neg hc] at hf
    refine lv_iconst (v := 0) hx hb dX9_item_339 (by decide) ?_
    refine lv_goto (tgt := 344) hx hb dX9_item_340 (by decide) ?_
    exact (wbM_item_344 C hRm) _ _ _ _ _ _ _ _ hf hR hS (lv_sub hl [0, 1] rfl)
def bM_item_309 (N : Nat) (x1 : Int32) (x2 : Int32) (s1 : Int32) (s2 : Int32) (S : Ms) : Option (Ms) := ck s1 384 (ck x1 48 (if x2 = 0 then ((bM_item_326 N) x1 x2 x1 (mA (pA S 29 (s1 : Int32).toNatClampNeg s2) 30 (x1 : Int32).toNatClampNeg) 0 (pA S 29 (s1 : Int32).toNatClampNeg s2)) else ((bM_item_326 N) x1 x2 x1 (mA (pA S 29 (s1 : Int32).toNatClampNeg s2) 30 (x1 : Int32).toNatClampNeg) 1 (pA S 29 (s1 : Int32).toNatClampNeg s2))))
set_option maxRecDepth 100000 in
set_option maxHeartbeats 4000000 in
theorem wbM_item_309 {p : Program} {l : Launch} {e : Env} {R : Room} {s : State} {m : MethodId} {args : Array Value} {below : List Frame} {meth : Method} {c : Code} {d : Dd} {g : Gm} {o : Ms} {N : Nat} (C : CM p s m args meth c d g cX9_item 9 none) (hRm : 151 ≤ R.frames ∧ 8882 ≤ R.locals) (x1 : Int32) (x2 : Int32) (s1 : Int32) (s2 : Int32) (S : Ms) (H : Heap) (locs : List Loc) (ls : Array Slot) (hf : bM_item_309 N x1 x2 s1 s2 S = some o) (hR : RM d g S H) (hS : va_S (AM g) s.heap H locs) (hl : lv_has ls 9 [(0, .ref g.1), (1, .int x1), (2, .int x2)]) : W p l e R s m args below meth c H locs 0 0 (MQ below (QV d g o) args s 0 0 (AM g)) (F0 m 309 ls [.int s2, .int s1, .ref (g.2 29)]) := by
  obtain ⟨hx, hb, hml, hown, hts, hK, hg, hr, hlk⟩ := id C
  unfold bM_item_309 at hf
  obtain ⟨hi, hf⟩ := ck_some hf
  refine mr_iast C hR hS (k := 29) rfl hi dX9_item_309 (fun H locs hR hS => ?_)
  refine lv_aload_n hx hb dX9_item_310 rfl (lv_at hl 0 rfl) ?_
  refine mr_getR C hR fl_95 (by decide) dX9_item_311 ?_
  refine lv_iload_n hx hb dX9_item_314 rfl (lv_at hl 1 rfl) ?_
  refine lv_dup2_11 hx hb dX9_item_315 rfl rfl ?_
  obtain ⟨hi, hf⟩ := ck_some hf
  refine mr_iald C hR (k := 30) rfl hi dX9_item_316 ?_
  refine lv_iload_n hx hb dX9_item_317 rfl (lv_at hl 2 rfl) ?_
  refine lv_if_eq (tgt := 325) hx hb dX9_item_318 (by decide) (fun hc => ?_) (fun hc => ?_)
  · rw [if_pos hc] at hf
    refine lv_iconst (v := 0) hx hb dX9_item_325 (by decide) ?_
    exact (wbM_item_326 C hRm) _ _ _ _ _ _ _ _ _ hf hR hS (lv_sub hl [0, 1, 2] rfl)
  · rw [if_neg hc] at hf
    refine lv_iconst (v := 1) hx hb dX9_item_321 (by decide) ?_
    refine lv_goto (tgt := 326) hx hb dX9_item_322 (by decide) ?_
    exact (wbM_item_326 C hRm) _ _ _ _ _ _ _ _ _ hf hR hS (lv_sub hl [0, 1, 2] rfl)
def bM_item_244 (N : Nat) (x1 : Int32) (x2 : Int32) (x4 : Int64) (x6 : Int32) (x7 : Int32) (S : Ms) : Option (Ms) := (fM_takeSign N 59 S).bind fun o247 => if (mF o247 8) ≤ 0 then (ck x6 384 (ck x6 384 (ck x6 384 (if x2 = 0 then (ck x1 48 ((bM_item_309 N) x1 x2 x6 (mA (pA (pA (pL o247 26 (x6 : Int32).toNatClampNeg x4) 27 (x6 : Int32).toNatClampNeg (vp_nar .boolean x2)) 28 (x6 : Int32).toNatClampNeg x7) 31 (x1 : Int32).toNatClampNeg) (pA (pA (pL o247 26 (x6 : Int32).toNatClampNeg x4) 27 (x6 : Int32).toNatClampNeg (vp_nar .boolean x2)) 28 (x6 : Int32).toNatClampNeg x7))) else (ck x1 48 ((bM_item_309 N) x1 x2 x6 (mA (pA (pA (pL o247 26 (x6 : Int32).toNatClampNeg x4) 27 (x6 : Int32).toNatClampNeg (vp_nar .boolean x2)) 28 (x6 : Int32).toNatClampNeg x7) 30 (x1 : Int32).toNatClampNeg) (pA (pA (pL o247 26 (x6 : Int32).toNatClampNeg x4) 27 (x6 : Int32).toNatClampNeg (vp_nar .boolean x2)) 28 (x6 : Int32).toNatClampNeg x7))))))) else (some o247)
set_option maxRecDepth 100000 in
set_option maxHeartbeats 4000000 in
theorem wbM_item_244 {p : Program} {l : Launch} {e : Env} {R : Room} {s : State} {m : MethodId} {args : Array Value} {below : List Frame} {meth : Method} {c : Code} {d : Dd} {g : Gm} {o : Ms} {N : Nat} (C : CM p s m args meth c d g cX9_item 9 none) (hRm : 151 ≤ R.frames ∧ 8882 ≤ R.locals) (x1 : Int32) (x2 : Int32) (x4 : Int64) (x6 : Int32) (x7 : Int32) (S : Ms) (H : Heap) (locs : List Loc) (ls : Array Slot) (hf : bM_item_244 N x1 x2 x4 x6 x7 S = some o) (hR : RM d g S H) (hS : va_S (AM g) s.heap H locs) (hl : lv_has ls 9 [(0, .ref g.1), (1, .int x1), (2, .int x2), (4, .long x4), (6, .int x6), (7, .int x7)]) : W p l e R s m args below meth c H locs 0 0 (MQ below (QV d g o) args s 0 0 (AM g)) (F0 m 244 ls []) := by
  obtain ⟨hx, hb, hml, hown, hts, hK, hg, hr, hlk⟩ := id C
  unfold bM_item_244 at hf
  refine lv_aload_n hx hb dX9_item_244 rfl (lv_at hl 0 rfl) ?_
  refine lv_bipush (v := 59) hx hb dX9_item_245 (by decide) ?_
  obtain ⟨o247, ho247, hf⟩ := bnd_some hf
  refine mr_callVv C hR hS (As := [.int 59]) (rest := []) (MM_takeSign l d g N 59 S o247 ho247) wv_357 ⟨by omega, by omega⟩ rfl rfl (Nat.le_of_ble_eq_true rfl) hl.1 dX9_item_247 ⟨Nat.zero_le _, Nat.zero_le _⟩ (fun H locs hR hS => ?_)
  refine lv_aload_n hx hb dX9_item_250 rfl (lv_at hl 0 rfl) ?_
  refine mr_getI C hR fl_281 rfl dX9_item_251 ?_
  refine lv_if_le (tgt := 258) hx hb dX9_item_254 (by decide) (fun hc => ?_) (fun hc => ?_)
  · rw [if_pos hc] at hf
    refine lv_aload_n hx hb dX9_item_258 rfl (lv_at hl 0 rfl) ?_
    refine mr_getR C hR fl_83 (by decide) dX9_item_259 ?_
    refine lv_iload hx hb dX9_item_262 (lv_at hl 4 rfl) ?_
    refine lv_lload hx hb dX9_item_264 (lv_at hl 3 rfl) ?_
    obtain ⟨hi, hf⟩ := ck_some hf
    refine mr_last C hR hS (k := 26) rfl hi dX9_item_266 (fun H locs hR hS => ?_)
    refine lv_aload_n hx hb dX9_item_267 rfl (lv_at hl 0 rfl) ?_
    refine mr_getR C hR fl_86 (by decide) dX9_item_268 ?_
    refine lv_iload hx hb dX9_item_271 (lv_at hl 4 rfl) ?_
    refine lv_iload_n hx hb dX9_item_273 rfl (lv_at hl 2 rfl) ?_
    obtain ⟨hi, hf⟩ := ck_some hf
    refine mr_zast C hR hS (k := 27) rfl hi dX9_item_274 (fun H locs hR hS => ?_)
    refine lv_aload_n hx hb dX9_item_275 rfl (lv_at hl 0 rfl) ?_
    refine mr_getR C hR fl_89 (by decide) dX9_item_276 ?_
    refine lv_iload hx hb dX9_item_279 (lv_at hl 4 rfl) ?_
    refine lv_iload hx hb dX9_item_281 (lv_at hl 5 rfl) ?_
    obtain ⟨hi, hf⟩ := ck_some hf
    refine mr_iast C hR hS (k := 28) rfl hi dX9_item_283 (fun H locs hR hS => ?_)
    refine lv_aload_n hx hb dX9_item_284 rfl (lv_at hl 0 rfl) ?_
    refine mr_getR C hR fl_92 (by decide) dX9_item_285 ?_
    refine lv_iload hx hb dX9_item_288 (lv_at hl 4 rfl) ?_
    refine lv_iload_n hx hb dX9_item_290 rfl (lv_at hl 2 rfl) ?_
    refine lv_if_eq (tgt := 303) hx hb dX9_item_291 (by decide) (fun hc => ?_) (fun hc => ?_)
    · rw [if_pos hc] at hf
      refine lv_aload_n hx hb dX9_item_303 rfl (lv_at hl 0 rfl) ?_
      refine mr_getR C hR fl_98 (by decide) dX9_item_304 ?_
      refine lv_iload_n hx hb dX9_item_307 rfl (lv_at hl 1 rfl) ?_
      obtain ⟨hi, hf⟩ := ck_some hf
      refine mr_iald C hR (k := 31) rfl hi dX9_item_308 ?_
      exact (wbM_item_309 C hRm) _ _ _ _ _ _ _ _ hf hR hS (lv_sub hl [0, 1, 2] rfl)
    · rw [if_neg hc] at hf
      refine lv_aload_n hx hb dX9_item_294 rfl (lv_at hl 0 rfl) ?_
      refine mr_getR C hR fl_95 (by decide) dX9_item_295 ?_
      refine lv_iload_n hx hb dX9_item_298 rfl (lv_at hl 1 rfl) ?_
      obtain ⟨hi, hf⟩ := ck_some hf
      refine mr_iald C hR (k := 30) rfl hi dX9_item_299 ?_
      refine lv_goto (tgt := 309) hx hb dX9_item_300 (by decide) ?_
      exact (wbM_item_309 C hRm) _ _ _ _ _ _ _ _ hf hR hS (lv_sub hl [0, 1, 2] rfl)
  · rw [if_neg hc] at hf
    exact mr_vret C hR hS hf dX9_item_257
def bM_item_219 (N : Nat) (x1 : Int32) (x2 : Int32) (x4 : Int64) (x6 : Int32) (s0 : Int32) (S : Ms) : Option (Ms) := (bM_item_244 N) x1 x2 x4 x6 s0 S
set_option maxRecDepth 100000 in
set_option maxHeartbeats 4000000 in
theorem wbM_item_219 {p : Program} {l : Launch} {e : Env} {R : Room} {s : State} {m : MethodId} {args : Array Value} {below : List Frame} {meth : Method} {c : Code} {d : Dd} {g : Gm} {o : Ms} {N : Nat} (C : CM p s m args meth c d g cX9_item 9 none) (hRm : 151 ≤ R.frames ∧ 8882 ≤ R.locals) (x1 : Int32) (x2 : Int32) (x4 : Int64) (x6 : Int32) (s0 : Int32) (S : Ms) (H : Heap) (locs : List Loc) (ls : Array Slot) (hf : bM_item_219 N x1 x2 x4 x6 s0 S = some o) (hR : RM d g S H) (hS : va_S (AM g) s.heap H locs) (hl : lv_has ls 9 [(0, .ref g.1), (1, .int x1), (2, .int x2), (4, .long x4), (6, .int x6)]) : W p l e R s m args below meth c H locs 0 0 (MQ below (QV d g o) args s 0 0 (AM g)) (F0 m 219 ls [.int s0]) := by
  obtain ⟨hx, hb, hml, hown, hts, hK, hg, hr, hlk⟩ := id C
  unfold bM_item_219 at hf
  refine lv_istore (lv' := [(7, .int s0), (0, .ref g.1), (1, .int x1), (2, .int x2), (4, .long x4), (6, .int x6)]) hx hb dX9_item_219 hl (by decide) rfl (fun ls hl => ?_)
  refine lv_goto (tgt := 244) hx hb dX9_item_221 (by decide) ?_
  exact (wbM_item_244 C hRm) _ _ _ _ _ _ _ _ _ hf hR hS (lv_sub hl [1, 2, 3, 4, 5, 0] rfl)
def bM_item_141 (N : Nat) (x1 : Int32) (x2 : Int32) (S : Ms) : Option (Ms) := ck (mF S 7) 4002 ((fM_takeSign N 61 (pF S 7 ((mF S 7) + 1))).bind fun o165 => ck x1 48 (if x2 = 0 then ((fG_expression N  o165).bind fun o225 => ck x1 48 ((fM_emit N 5 (mF o225 49) (mA o225 25 (x1 : Int32).toNatClampNeg) o225).bind fun o240 => (bM_item_244 N) x1 x2 (mL S 6 (mF S 7 : Int32).toNatClampNeg) ((8 * x1) + (mA o165 25 (x1 : Int32).toNatClampNeg)) 0 o240.2)) else ((fM_hasSign N 45 o165).bind fun o191 => (fM_takeNumber N 0 999999999 o191.2).bind fun o201 => if o191.1 = 0 then ((bM_item_219 N) x1 x2 (mL S 6 (mF S 7 : Int32).toNatClampNeg) ((8 * x1) + (mA o165 25 (x1 : Int32).toNatClampNeg)) o201.1 o201.2) else ((bM_item_219 N) x1 x2 (mL S 6 (mF S 7 : Int32).toNatClampNeg) ((8 * x1) + (mA o165 25 (x1 : Int32).toNatClampNeg)) (-o201.1) o201.2))))
set_option maxRecDepth 100000 in
set_option maxHeartbeats 4000000 in
theorem wbM_item_141 {p : Program} {l : Launch} {e : Env} {R : Room} {s : State} {m : MethodId} {args : Array Value} {below : List Frame} {meth : Method} {c : Code} {d : Dd} {g : Gm} {o : Ms} {N : Nat} (C : CM p s m args meth c d g cX9_item 9 none) (hRm : 151 ≤ R.frames ∧ 8882 ≤ R.locals) (x1 : Int32) (x2 : Int32) (S : Ms) (H : Heap) (locs : List Loc) (ls : Array Slot) (hf : bM_item_141 N x1 x2 S = some o) (hR : RM d g S H) (hS : va_S (AM g) s.heap H locs) (hl : lv_has ls 9 [(0, .ref g.1), (1, .int x1), (2, .int x2)]) : W p l e R s m args below meth c H locs 0 0 (MQ below (QV d g o) args s 0 0 (AM g)) (F0 m 141 ls []) := by
  obtain ⟨hx, hb, hml, hown, hts, hK, hg, hr, hlk⟩ := id C
  unfold bM_item_141 at hf
  refine lv_aload_n hx hb dX9_item_141 rfl (lv_at hl 0 rfl) ?_
  refine mr_getR C hR fl_30 (by decide) dX9_item_142 ?_
  refine lv_aload_n hx hb dX9_item_145 rfl (lv_at hl 0 rfl) ?_
  refine mr_getI C hR fl_278 rfl dX9_item_146 ?_
  obtain ⟨hi, hf⟩ := ck_some hf
  refine mr_lald C hR (k := 6) rfl hi dX9_item_149 ?_
  refine lv_lstore (lv' := [(4, .long (mL S 6 (mF S 7 : Int32).toNatClampNeg)), (0, .ref g.1), (1, .int x1), (2, .int x2)]) hx hb dX9_item_150 hl (by decide) rfl (fun ls hl => ?_)
  refine lv_aload_n hx hb dX9_item_152 rfl (lv_at hl 1 rfl) ?_
  refine lv_dup hx hb dX9_item_153 rfl ?_
  refine mr_getI C hR fl_278 rfl dX9_item_154 ?_
  refine lv_iconst (v := 1) hx hb dX9_item_157 (by decide) ?_
  refine lv_iadd hx hb dX9_item_158 ?_
  refine mr_putI C hR hS fl_278 ⟨rfl, rfl, rfl⟩ dX9_item_159 (fun H locs hR hS => ?_)
  refine lv_aload_n hx hb dX9_item_162 rfl (lv_at hl 1 rfl) ?_
  refine lv_bipush (v := 61) hx hb dX9_item_163 (by decide) ?_
  obtain ⟨o165, ho165, hf⟩ := bnd_some hf
  refine mr_callVv C hR hS (As := [.int 61]) (rest := []) (MM_takeSign l d g N 61 (pF S 7 ((mF S 7) + 1)) o165 ho165) wv_357 ⟨by omega, by omega⟩ rfl rfl (Nat.le_of_ble_eq_true rfl) hl.1 dX9_item_165 ⟨Nat.zero_le _, Nat.zero_le _⟩ (fun H locs hR hS => ?_)
  refine lv_bipush (v := 8) hx hb dX9_item_168 (by decide) ?_
  refine lv_iload_n hx hb dX9_item_170 rfl (lv_at hl 2 rfl) ?_
  refine lv_imul hx hb dX9_item_171 ?_
  refine lv_aload_n hx hb dX9_item_172 rfl (lv_at hl 1 rfl) ?_
  refine mr_getR C hR fl_80 (by decide) dX9_item_173 ?_
  refine lv_iload_n hx hb dX9_item_176 rfl (lv_at hl 2 rfl) ?_
  obtain ⟨hi, hf⟩ := ck_some hf
  refine mr_iald C hR (k := 25) rfl hi dX9_item_177 ?_
  refine lv_iadd hx hb dX9_item_178 ?_
  refine lv_istore (lv' := [(6, .int ((8 * x1) + (mA o165 25 (x1 : Int32).toNatClampNeg))), (4, .long (mL S 6 (mF S 7 : Int32).toNatClampNeg)), (0, .ref g.1), (1, .int x1), (2, .int x2)]) hx hb dX9_item_179 hl (by decide) rfl (fun ls hl => ?_)
  refine lv_iconst (v := 0) hx hb dX9_item_181 (by decide) ?_
  refine lv_istore (lv' := [(7, .int 0), (6, .int ((8 * x1) + (mA o165 25 (x1 : Int32).toNatClampNeg))), (4, .long (mL S 6 (mF S 7 : Int32).toNatClampNeg)), (0, .ref g.1), (1, .int x1), (2, .int x2)]) hx hb dX9_item_182 hl (by decide) rfl (fun ls hl => ?_)
  refine lv_iload_n hx hb dX9_item_184 rfl (lv_at hl 5 rfl) ?_
  refine lv_if_eq (tgt := 224) hx hb dX9_item_185 (by decide) (fun hc => ?_) (fun hc => ?_)
  · rw [if_pos hc] at hf
    refine lv_aload_n hx hb dX9_item_224 rfl (lv_at hl 3 rfl) ?_
    obtain ⟨o225, ho225, hf⟩ := bnd_some hf
    refine mr_callVv C hR hS (As := []) (rest := []) (MG_expression l d g N  o165 o225 ho225) wv_389 ⟨by omega, by omega⟩ rfl rfl (Nat.le_of_ble_eq_true rfl) hl.1 dX9_item_225 ⟨Nat.zero_le _, Nat.zero_le _⟩ (fun H locs hR hS => ?_)
    refine lv_aload_n hx hb dX9_item_228 rfl (lv_at hl 3 rfl) ?_
    refine lv_iconst (v := 5) hx hb dX9_item_229 (by decide) ?_
    refine lv_aload_n hx hb dX9_item_230 rfl (lv_at hl 3 rfl) ?_
    refine mr_getI C hR fl_370 rfl dX9_item_231 ?_
    refine lv_aload_n hx hb dX9_item_234 rfl (lv_at hl 3 rfl) ?_
    refine mr_getR C hR fl_80 (by decide) dX9_item_235 ?_
    refine lv_iload_n hx hb dX9_item_238 rfl (lv_at hl 4 rfl) ?_
    obtain ⟨hi, hf⟩ := ck_some hf
    refine mr_iald C hR (k := 25) rfl hi dX9_item_239 ?_
    obtain ⟨o240, ho240, hf⟩ := bnd_some hf
    refine mr_callIv C hR hS (As := [.int 5, .int (mF o225 49), .int (mA o225 25 (x1 : Int32).toNatClampNeg)]) (rest := []) (MM_emit l d g N 5 (mF o225 49) (mA o225 25 (x1 : Int32).toNatClampNeg) o225 o240 ho240) wv_379 ⟨by omega, by omega⟩ rfl rfl (Nat.le_of_ble_eq_true rfl) hl.1 dX9_item_240 ⟨Nat.zero_le _, Nat.zero_le _⟩ (fun H locs hR hS => ?_)
    refine lv_pop hx hb dX9_item_243 rfl ?_
    exact (wbM_item_244 C hRm) _ _ _ _ _ _ _ _ _ hf hR hS (lv_sub hl [3, 4, 5, 2, 1, 0] rfl)
  · rw [if_neg hc] at hf
    refine lv_aload_n hx hb dX9_item_188 rfl (lv_at hl 3 rfl) ?_
    refine lv_bipush (v := 45) hx hb dX9_item_189 (by decide) ?_
    obtain ⟨o191, ho191, hf⟩ := bnd_some hf
    refine mr_callIv C hR hS (As := [.int 45]) (rest := []) (MM_hasSign l d g N 45 o165 o191 ho191) wv_364 ⟨by omega, by omega⟩ rfl rfl (Nat.le_of_ble_eq_true rfl) hl.1 dX9_item_191 ⟨Nat.zero_le _, Nat.zero_le _⟩ (fun H locs hR hS => ?_)
    refine lv_istore (lv' := [(8, .int o191.1), (7, .int 0), (6, .int ((8 * x1) + (mA o165 25 (x1 : Int32).toNatClampNeg))), (4, .long (mL S 6 (mF S 7 : Int32).toNatClampNeg)), (0, .ref g.1), (1, .int x1), (2, .int x2)]) hx hb dX9_item_194 hl (by decide) rfl (fun ls hl => ?_)
    refine lv_aload_n hx hb dX9_item_196 rfl (lv_at hl 4 rfl) ?_
    refine lv_iconst (v := 0) hx hb dX9_item_197 (by decide) ?_
    refine lv_ldcw hx hb hown (hts _ wd_1786) dX9_item_198 ?_
    obtain ⟨o201, ho201, hf⟩ := bnd_some hf
    refine mr_callIv C hR hS (As := [.int 0, .int 999999999]) (rest := []) (MM_takeNumber l d g N 0 999999999 o191.2 o201 ho201) wv_353 ⟨by omega, by omega⟩ rfl rfl (Nat.le_of_ble_eq_true rfl) hl.1 dX9_item_201 ⟨Nat.zero_le _, Nat.zero_le _⟩ (fun H locs hR hS => ?_)
    refine lv_istore (lv' := [(7, .int o201.1), (8, .int o191.1), (6, .int ((8 * x1) + (mA o165 25 (x1 : Int32).toNatClampNeg))), (4, .long (mL S 6 (mF S 7 : Int32).toNatClampNeg)), (0, .ref g.1), (1, .int x1), (2, .int x2)]) hx hb dX9_item_204 hl (by decide) rfl (fun ls hl => ?_)
    refine lv_iload hx hb dX9_item_206 (lv_at hl 1 rfl) ?_
    refine lv_if_eq (tgt := 217) hx hb dX9_item_208 (by decide) (fun hc => ?_) (fun hc => ?_)
    · rw [if_pos hc] at hf
      refine lv_iload hx hb dX9_item_217 (lv_at hl 0 rfl) ?_
      exact (wbM_item_219 C hRm) _ _ _ _ _ _ _ _ _ hf hR hS (lv_sub hl [4, 5, 6, 3, 2] rfl)
    · rw [if_neg hc] at hf
      refine lv_iload hx hb dX9_item_211 (lv_at hl 0 rfl) ?_
      refine lv_ineg hx hb dX9_item_213 ?_
      refine lv_goto (tgt := 219) hx hb dX9_item_214 (by decide) ?_
      exact (wbM_item_219 C hRm) _ _ _ _ _ _ _ _ _ hf hR hS (lv_sub hl [4, 5, 6, 3, 2] rfl)
def bM_item_118 (N : Nat) (x1 : Int32) (x2 : Int32) (S : Ms) : Option (Ms) := if (mF S 8) = 0 then (ck x1 48 (if (mA S 25 (x1 : Int32).toNatClampNeg) = 8 then ((fM_wrong N 5 S).bind fun o138 => (bM_item_141 N) x1 x2 o138) else ((bM_item_141 N) x1 x2 S))) else ((bM_item_141 N) x1 x2 S)
set_option maxRecDepth 100000 in
set_option maxHeartbeats 4000000 in
theorem wbM_item_118 {p : Program} {l : Launch} {e : Env} {R : Room} {s : State} {m : MethodId} {args : Array Value} {below : List Frame} {meth : Method} {c : Code} {d : Dd} {g : Gm} {o : Ms} {N : Nat} (C : CM p s m args meth c d g cX9_item 9 none) (hRm : 151 ≤ R.frames ∧ 8882 ≤ R.locals) (x1 : Int32) (x2 : Int32) (S : Ms) (H : Heap) (locs : List Loc) (ls : Array Slot) (hf : bM_item_118 N x1 x2 S = some o) (hR : RM d g S H) (hS : va_S (AM g) s.heap H locs) (hl : lv_has ls 9 [(0, .ref g.1), (1, .int x1), (2, .int x2)]) : W p l e R s m args below meth c H locs 0 0 (MQ below (QV d g o) args s 0 0 (AM g)) (F0 m 118 ls []) := by
  obtain ⟨hx, hb, hml, hown, hts, hK, hg, hr, hlk⟩ := id C
  unfold bM_item_118 at hf
  refine lv_aload_n hx hb dX9_item_118 rfl (lv_at hl 0 rfl) ?_
  refine mr_getI C hR fl_281 rfl dX9_item_119 ?_
  refine lv_if_ne (tgt := 141) hx hb dX9_item_122 (by decide) (fun hc => ?_) (fun hc => ?_)
  · rw [if_neg hc] at hf
    exact (wbM_item_141 C hRm) _ _ _ _ _ _ hf hR hS (lv_sub hl [0, 1, 2] rfl)
  · rw [if_pos hc] at hf
    refine lv_aload_n hx hb dX9_item_125 rfl (lv_at hl 0 rfl) ?_
    refine mr_getR C hR fl_80 (by decide) dX9_item_126 ?_
    refine lv_iload_n hx hb dX9_item_129 rfl (lv_at hl 1 rfl) ?_
    obtain ⟨hi, hf⟩ := ck_some hf
    refine mr_iald C hR (k := 25) rfl hi dX9_item_130 ?_
    refine lv_bipush (v := 8) hx hb dX9_item_131 (by decide) ?_
    refine lv_icmp_ne (tgt := 141) hx hb dX9_item_133 (by decide) (fun hc => ?_) (fun hc => ?_)
    · rw [if_neg hc] at hf
      exact (wbM_item_141 C hRm) _ _ _ _ _ _ hf hR hS (lv_sub hl [0, 1, 2] rfl)
    · rw [if_pos hc] at hf
      refine lv_aload_n hx hb dX9_item_136 rfl (lv_at hl 0 rfl) ?_
      refine lv_iconst (v := 5) hx hb dX9_item_137 (by decide) ?_
      obtain ⟨o138, ho138, hf⟩ := bnd_some hf
      refine mr_callVv C hR hS (As := [.int 5]) (rest := []) (MM_wrong l d g N 5 S o138 ho138) wv_287 ⟨by omega, by omega⟩ rfl rfl (Nat.le_of_ble_eq_true rfl) hl.1 dX9_item_138 ⟨Nat.zero_le _, Nat.zero_le _⟩ (fun H locs hR hS => ?_)
      exact (wbM_item_141 C hRm) _ _ _ _ _ _ hf hR hS (lv_sub hl [0, 1, 2] rfl)
def bM_item_73 (N : Nat) (x1 : Int32) (x2 : Int32) (S : Ms) : Option (Ms) := if (mF S 8) = 0 then (ck x1 48 (ck (mF S 7) 4002 ((fM_find N 26 (8 * x1) (mA S 25 (x1 : Int32).toNatClampNeg) (mL S 6 (mF S 7 : Int32).toNatClampNeg) S).bind fun o104 => if o104.1 < 0 then ((bM_item_118 N) x1 x2 o104.2) else ((fM_wrong N 3 o104.2).bind fun o112 => (bM_item_141 N) x1 x2 o112)))) else ((bM_item_118 N) x1 x2 S)
set_option maxRecDepth 100000 in
set_option maxHeartbeats 4000000 in
theorem wbM_item_73 {p : Program} {l : Launch} {e : Env} {R : Room} {s : State} {m : MethodId} {args : Array Value} {below : List Frame} {meth : Method} {c : Code} {d : Dd} {g : Gm} {o : Ms} {N : Nat} (C : CM p s m args meth c d g cX9_item 9 none) (hRm : 151 ≤ R.frames ∧ 8882 ≤ R.locals) (x1 : Int32) (x2 : Int32) (S : Ms) (H : Heap) (locs : List Loc) (ls : Array Slot) (hf : bM_item_73 N x1 x2 S = some o) (hR : RM d g S H) (hS : va_S (AM g) s.heap H locs) (hl : lv_has ls 9 [(0, .ref g.1), (1, .int x1), (2, .int x2)]) : W p l e R s m args below meth c H locs 0 0 (MQ below (QV d g o) args s 0 0 (AM g)) (F0 m 73 ls []) := by
  obtain ⟨hx, hb, hml, hown, hts, hK, hg, hr, hlk⟩ := id C
  unfold bM_item_73 at hf
  refine lv_aload_n hx hb dX9_item_73 rfl (lv_at hl 0 rfl) ?_
  refine mr_getI C hR fl_281 rfl dX9_item_74 ?_
  refine lv_if_ne (tgt := 118) hx hb dX9_item_77 (by decide) (fun hc => ?_) (fun hc => ?_)
  · rw [if_neg hc] at hf
    exact (wbM_item_118 C hRm) _ _ _ _ _ _ hf hR hS (lv_sub hl [0, 1, 2] rfl)
  · rw [if_pos hc] at hf
    refine lv_aload_n hx hb dX9_item_80 rfl (lv_at hl 0 rfl) ?_
    refine lv_aload_n hx hb dX9_item_81 rfl (lv_at hl 0 rfl) ?_
    refine mr_getR C hR fl_83 (by decide) dX9_item_82 ?_
    refine lv_bipush (v := 8) hx hb dX9_item_85 (by decide) ?_
    refine lv_iload_n hx hb dX9_item_87 rfl (lv_at hl 1 rfl) ?_
    refine lv_imul hx hb dX9_item_88 ?_
    refine lv_aload_n hx hb dX9_item_89 rfl (lv_at hl 0 rfl) ?_
    refine mr_getR C hR fl_80 (by decide) dX9_item_90 ?_
    refine lv_iload_n hx hb dX9_item_93 rfl (lv_at hl 1 rfl) ?_
    obtain ⟨hi, hf⟩ := ck_some hf
    refine mr_iald C hR (k := 25) rfl hi dX9_item_94 ?_
    refine lv_aload_n hx hb dX9_item_95 rfl (lv_at hl 0 rfl) ?_
    refine mr_getR C hR fl_30 (by decide) dX9_item_96 ?_
    refine lv_aload_n hx hb dX9_item_99 rfl (lv_at hl 0 rfl) ?_
    refine mr_getI C hR fl_278 rfl dX9_item_100 ?_
    obtain ⟨hi, hf⟩ := ck_some hf
    refine mr_lald C hR (k := 6) rfl hi dX9_item_103 ?_
    obtain ⟨o104, ho104, hf⟩ := bnd_some hf
    refine mr_callIv C hR hS (As := [.ref (g.2 26), .int (8 * x1), .int (mA S 25 (x1 : Int32).toNatClampNeg), .long (mL S 6 (mF S 7 : Int32).toNatClampNeg)]) (rest := []) (MM_find l d g N 26 (8 * x1) (mA S 25 (x1 : Int32).toNatClampNeg) (mL S 6 (mF S 7 : Int32).toNatClampNeg) S o104 ho104) wv_300 ⟨by omega, by omega⟩ rfl rfl (Nat.le_of_ble_eq_true rfl) hl.1 dX9_item_104 ⟨Nat.zero_le _, Nat.zero_le _⟩ (fun H locs hR hS => ?_)
    refine lv_if_lt (tgt := 118) hx hb dX9_item_107 (by decide) (fun hc => ?_) (fun hc => ?_)
    · rw [if_pos hc] at hf
      exact (wbM_item_118 C hRm) _ _ _ _ _ _ hf hR hS (lv_sub hl [0, 1, 2] rfl)
    · rw [if_neg hc] at hf
      refine lv_aload_n hx hb dX9_item_110 rfl (lv_at hl 0 rfl) ?_
      refine lv_iconst (v := 3) hx hb dX9_item_111 (by decide) ?_
      obtain ⟨o112, ho112, hf⟩ := bnd_some hf
      refine mr_callVv C hR hS (As := [.int 3]) (rest := []) (MM_wrong l d g N 3 o104.2 o112 ho112) wv_287 ⟨by omega, by omega⟩ rfl rfl (Nat.le_of_ble_eq_true rfl) hl.1 dX9_item_112 ⟨Nat.zero_le _, Nat.zero_le _⟩ (fun H locs hR hS => ?_)
      refine lv_goto (tgt := 141) hx hb dX9_item_115 (by decide) ?_
      exact (wbM_item_141 C hRm) _ _ _ _ _ _ hf hR hS (lv_sub hl [0, 1, 2] rfl)
def bM_item_40 (N : Nat) (x1 : Int32) (x2 : Int32) (s0 : Int32) (S : Ms) : Option (Ms) := if (mF (pF S 7 ((mF S 7) + 1)) 8) = 0 then ((fM_isName N (pF S 7 ((mF S 7) + 1))).bind fun o59 => if o59.1 = 0 then ((fM_wrong N 1 o59.2).bind fun o67 => (bM_item_141 N) x1 x2 o67) else ((bM_item_73 N) x1 x2 o59.2)) else ((bM_item_73 N) x1 x2 (pF S 7 ((mF S 7) + 1)))
set_option maxRecDepth 100000 in
set_option maxHeartbeats 4000000 in
theorem wbM_item_40 {p : Program} {l : Launch} {e : Env} {R : Room} {s : State} {m : MethodId} {args : Array Value} {below : List Frame} {meth : Method} {c : Code} {d : Dd} {g : Gm} {o : Ms} {N : Nat} (C : CM p s m args meth c d g cX9_item 9 none) (hRm : 151 ≤ R.frames ∧ 8882 ≤ R.locals) (x1 : Int32) (x2 : Int32) (s0 : Int32) (S : Ms) (H : Heap) (locs : List Loc) (ls : Array Slot) (hf : bM_item_40 N x1 x2 s0 S = some o) (hR : RM d g S H) (hS : va_S (AM g) s.heap H locs) (hl : lv_has ls 9 [(0, .ref g.1), (1, .int x1), (2, .int x2)]) : W p l e R s m args below meth c H locs 0 0 (MQ below (QV d g o) args s 0 0 (AM g)) (F0 m 40 ls [.int s0]) := by
  obtain ⟨hx, hb, hml, hown, hts, hK, hg, hr, hlk⟩ := id C
  unfold bM_item_40 at hf
  refine lv_istore_n (lv' := [(3, .int s0), (0, .ref g.1), (1, .int x1), (2, .int x2)]) hx hb dX9_item_40 rfl hl (by decide) rfl (fun ls hl => ?_)
  refine lv_aload_n hx hb dX9_item_41 rfl (lv_at hl 1 rfl) ?_
  refine lv_dup hx hb dX9_item_42 rfl ?_
  refine mr_getI C hR fl_278 rfl dX9_item_43 ?_
  refine lv_iconst (v := 1) hx hb dX9_item_46 (by decide) ?_
  refine lv_iadd hx hb dX9_item_47 ?_
  refine mr_putI C hR hS fl_278 ⟨rfl, rfl, rfl⟩ dX9_item_48 (fun H locs hR hS => ?_)
  refine lv_aload_n hx hb dX9_item_51 rfl (lv_at hl 1 rfl) ?_
  refine mr_getI C hR fl_281 rfl dX9_item_52 ?_
  refine lv_if_ne (tgt := 73) hx hb dX9_item_55 (by decide) (fun hc => ?_) (fun hc => ?_)
  · rw [if_neg hc] at hf
    exact (wbM_item_73 C hRm) _ _ _ _ _ _ hf hR hS (lv_sub hl [1, 2, 3] rfl)
  · rw [if_pos hc] at hf
    refine lv_aload_n hx hb dX9_item_58 rfl (lv_at hl 1 rfl) ?_
    obtain ⟨o59, ho59, hf⟩ := bnd_some hf
    refine mr_callIv C hR hS (As := []) (rest := []) (MM_isName l d g N  (pF S 7 ((mF S 7) + 1)) o59 ho59) wv_337 ⟨by omega, by omega⟩ rfl rfl (Nat.le_of_ble_eq_true rfl) hl.1 dX9_item_59 ⟨Nat.zero_le _, Nat.zero_le _⟩ (fun H locs hR hS => ?_)
    refine lv_if_ne (tgt := 73) hx hb dX9_item_62 (by decide) (fun hc => ?_) (fun hc => ?_)
    · rw [if_neg hc] at hf
      exact (wbM_item_73 C hRm) _ _ _ _ _ _ hf hR hS (lv_sub hl [1, 2, 3] rfl)
    · rw [if_pos hc] at hf
      refine lv_aload_n hx hb dX9_item_65 rfl (lv_at hl 1 rfl) ?_
      refine lv_iconst (v := 1) hx hb dX9_item_66 (by decide) ?_
      obtain ⟨o67, ho67, hf⟩ := bnd_some hf
      refine mr_callVv C hR hS (As := [.int 1]) (rest := []) (MM_wrong l d g N 1 o59.2 o67 ho67) wv_287 ⟨by omega, by omega⟩ rfl rfl (Nat.le_of_ble_eq_true rfl) hl.1 dX9_item_67 ⟨Nat.zero_le _, Nat.zero_le _⟩ (fun H locs hR hS => ?_)
      refine lv_goto (tgt := 141) hx hb dX9_item_70 (by decide) ?_
      exact (wbM_item_141 C hRm) _ _ _ _ _ _ hf hR hS (lv_sub hl [1, 2, 3] rfl)
def bM_item_25 (N : Nat) (x1 : Int32) (x2 : Int32) (S : Ms) : Option (Ms) := if x2 = 0 then ((fM_emit N 1 0 0 S).bind fun o37 => (bM_item_40 N) x1 x2 o37.1 o37.2) else ((bM_item_40 N) x1 x2 (-1) S)
set_option maxRecDepth 100000 in
set_option maxHeartbeats 4000000 in
theorem wbM_item_25 {p : Program} {l : Launch} {e : Env} {R : Room} {s : State} {m : MethodId} {args : Array Value} {below : List Frame} {meth : Method} {c : Code} {d : Dd} {g : Gm} {o : Ms} {N : Nat} (C : CM p s m args meth c d g cX9_item 9 none) (hRm : 151 ≤ R.frames ∧ 8882 ≤ R.locals) (x1 : Int32) (x2 : Int32) (S : Ms) (H : Heap) (locs : List Loc) (ls : Array Slot) (hf : bM_item_25 N x1 x2 S = some o) (hR : RM d g S H) (hS : va_S (AM g) s.heap H locs) (hl : lv_has ls 9 [(0, .ref g.1), (1, .int x1), (2, .int x2)]) : W p l e R s m args below meth c H locs 0 0 (MQ below (QV d g o) args s 0 0 (AM g)) (F0 m 25 ls []) := by
  obtain ⟨hx, hb, hml, hown, hts, hK, hg, hr, hlk⟩ := id C
  unfold bM_item_25 at hf
  refine lv_iload_n hx hb dX9_item_25 rfl (lv_at hl 2 rfl) ?_
  refine lv_if_eq (tgt := 33) hx hb dX9_item_26 (by decide) (fun hc => ?_) (fun hc => ?_)
  · rw [if_pos hc] at hf
    refine lv_aload_n hx hb dX9_item_33 rfl (lv_at hl 0 rfl) ?_
    refine lv_iconst (v := 1) hx hb dX9_item_34 (by decide) ?_
    refine lv_iconst (v := 0) hx hb dX9_item_35 (by decide) ?_
    refine lv_iconst (v := 0) hx hb dX9_item_36 (by decide) ?_
    obtain ⟨o37, ho37, hf⟩ := bnd_some hf
    refine mr_callIv C hR hS (As := [.int 1, .int 0, .int 0]) (rest := []) (MM_emit l d g N 1 0 0 S o37 ho37) wv_379 ⟨by omega, by omega⟩ rfl rfl (Nat.le_of_ble_eq_true rfl) hl.1 dX9_item_37 ⟨Nat.zero_le _, Nat.zero_le _⟩ (fun H locs hR hS => ?_)
    exact (wbM_item_40 C hRm) _ _ _ _ _ _ _ hf hR hS (lv_sub hl [0, 1, 2] rfl)
  · rw [if_neg hc] at hf
    refine lv_iconst (v := (-1)) hx hb dX9_item_29 (by decide) ?_
    refine lv_goto (tgt := 40) hx hb dX9_item_30 (by decide) ?_
    exact (wbM_item_40 C hRm) _ _ _ _ _ _ _ hf hR hS (lv_sub hl [0, 1, 2] rfl)
def fM_item (N : Nat) (x1 : Int32) (S : Ms) : Option (Ms) := (fM_isWord N 12 S).bind fun o3 => if o3.1 = 0 then ((fM_isWord N 13 o3.2).bind fun o14 => if o14.1 = 0 then ((fG_statement N  o14.2).bind fun o21 => some o21) else ((bM_item_25 N) x1 o3.1 o14.2)) else ((bM_item_25 N) x1 o3.1 o3.2)
set_option maxRecDepth 100000 in
set_option maxHeartbeats 4000000 in
theorem wfM_item {p : Program} {l : Launch} {e : Env} {R : Room} {s : State} {m : MethodId} {args : Array Value} {below : List Frame} {meth : Method} {c : Code} {d : Dd} {g : Gm} {o : Ms} {N : Nat} (C : CM p s m args meth c d g cX9_item 9 none) (hRm : 151 ≤ R.frames ∧ 8882 ≤ R.locals) (x1 : Int32) (S : Ms) (H : Heap) (locs : List Loc) (ls : Array Slot) (hf : fM_item N x1 S = some o) (hR : RM d g S H) (hS : va_S (AM g) s.heap H locs) (hl : lv_has ls 9 [(0, .ref g.1), (1, .int x1)]) : W p l e R s m args below meth c H locs 0 0 (MQ below (QV d g o) args s 0 0 (AM g)) (F0 m 0 ls []) := by
  obtain ⟨hx, hb, hml, hown, hts, hK, hg, hr, hlk⟩ := id C
  unfold fM_item at hf
  refine lv_aload_n hx hb dX9_item_0 rfl (lv_at hl 0 rfl) ?_
  refine lv_bipush (v := 12) hx hb dX9_item_1 (by decide) ?_
  obtain ⟨o3, ho3, hf⟩ := bnd_some hf
  refine mr_callIv C hR hS (As := [.int 12]) (rest := []) (MM_isWord l d g N 12 S o3 ho3) wv_291 ⟨by omega, by omega⟩ rfl rfl (Nat.le_of_ble_eq_true rfl) hl.1 dX9_item_3 ⟨Nat.zero_le _, Nat.zero_le _⟩ (fun H locs hR hS => ?_)
  refine lv_istore_n (lv' := [(2, .int o3.1), (0, .ref g.1), (1, .int x1)]) hx hb dX9_item_6 rfl hl (by decide) rfl (fun ls hl => ?_)
  refine lv_iload_n hx hb dX9_item_7 rfl (lv_at hl 0 rfl) ?_
  refine lv_if_ne (tgt := 25) hx hb dX9_item_8 (by decide) (fun hc => ?_) (fun hc => ?_)
  · rw [if_neg hc] at hf
    exact (wbM_item_25 C hRm) _ _ _ _ _ _ hf hR hS (lv_sub hl [1, 2, 0] rfl)
  · rw [if_pos hc] at hf
    refine lv_aload_n hx hb dX9_item_11 rfl (lv_at hl 1 rfl) ?_
    refine lv_bipush (v := 13) hx hb dX9_item_12 (by decide) ?_
    obtain ⟨o14, ho14, hf⟩ := bnd_some hf
    refine mr_callIv C hR hS (As := [.int 13]) (rest := []) (MM_isWord l d g N 13 o3.2 o14 ho14) wv_291 ⟨by omega, by omega⟩ rfl rfl (Nat.le_of_ble_eq_true rfl) hl.1 dX9_item_14 ⟨Nat.zero_le _, Nat.zero_le _⟩ (fun H locs hR hS => ?_)
    refine lv_if_ne (tgt := 25) hx hb dX9_item_17 (by decide) (fun hc => ?_) (fun hc => ?_)
    · rw [if_neg hc] at hf
      exact (wbM_item_25 C hRm) _ _ _ _ _ _ hf hR hS (lv_sub hl [1, 2, 0] rfl)
    · rw [if_pos hc] at hf
      refine lv_aload_n hx hb dX9_item_20 rfl (lv_at hl 1 rfl) ?_
      obtain ⟨o21, ho21, hf⟩ := bnd_some hf
      refine mr_callVv C hR hS (As := []) (rest := []) (MG_statement l d g N  o14.2 o21 ho21) wv_386 ⟨by omega, by omega⟩ rfl rfl (Nat.le_of_ble_eq_true rfl) hl.1 dX9_item_21 ⟨Nat.zero_le _, Nat.zero_le _⟩ (fun H locs hR hS => ?_)
      exact mr_vret C hR hS hf dX9_item_24
theorem MM_item (l : Launch) (d : Dd) (g : Gm) (N : Nat) (x1 : Int32) (S : Ms) (o : Ms) (hf : fM_item N x1 S = some o) : MtV l d g yX9_item cX9_item 9 151 8882 [.ref g.1, .int x1] S o :=
  mr_metV (by decide) rfl (Nat.le_of_ble_eq_true rfl) (fun p e s m args below meth c ls C hR hl => wfM_item C ⟨Nat.le_refl _, Nat.le_refl _⟩ x1 S s.heap [] ls hf hR va_S.rf hl)
def bM_takeUnit_94 (N : Nat) (x2 : Int32) (S : Ms) : Option (Int32 × Ms) := some (x2, S)
set_option maxRecDepth 100000 in
set_option maxHeartbeats 4000000 in
theorem wbM_takeUnit_94 {p : Program} {l : Launch} {e : Env} {R : Room} {s : State} {m : MethodId} {args : Array Value} {below : List Frame} {meth : Method} {c : Code} {d : Dd} {g : Gm} {o : Int32 × Ms} {N : Nat} (C : CM p s m args meth c d g cX9_takeUnit 3 (some .int)) (hRm : 2 ≤ R.frames ∧ 49 ≤ R.locals) (x2 : Int32) (S : Ms) (H : Heap) (locs : List Loc) (ls : Array Slot) (hf : bM_takeUnit_94 N x2 S = some o) (hR : RM d g S H) (hS : va_S (AM g) s.heap H locs) (hl : lv_has ls 3 [(0, .ref g.1), (2, .int x2)]) : W p l e R s m args below meth c H locs 0 0 (MQ below (QI d g o) args s 0 0 (AM g)) (F0 m 94 ls []) := by
  obtain ⟨hx, hb, hml, hown, hts, hK, hg, hr, hlk⟩ := id C
  unfold bM_takeUnit_94 at hf
  refine lv_iload_n hx hb dX9_takeUnit_94 rfl (lv_at hl 1 rfl) ?_
  exact mr_iret C hR hS hf dX9_takeUnit_95
def bM_takeUnit_63 (N : Nat) (x1 : Int32) (x2 : Int32) (S : Ms) : Option (Int32 × Ms) := if (mF S 8) = 0 then (ck ((24 * (mF S 12)) + x2) 48 (if (mA S 20 ((24 * (mF S 12)) + x2 : Int32).toNatClampNeg) = x1 then ((bM_takeUnit_94 N) x2 S) else ((fM_wrong N 6 S).bind fun o91 => (bM_takeUnit_94 N) x2 o91))) else ((bM_takeUnit_94 N) x2 S)
set_option maxRecDepth 100000 in
set_option maxHeartbeats 4000000 in
theorem wbM_takeUnit_63 {p : Program} {l : Launch} {e : Env} {R : Room} {s : State} {m : MethodId} {args : Array Value} {below : List Frame} {meth : Method} {c : Code} {d : Dd} {g : Gm} {o : Int32 × Ms} {N : Nat} (C : CM p s m args meth c d g cX9_takeUnit 3 (some .int)) (hRm : 2 ≤ R.frames ∧ 49 ≤ R.locals) (x1 : Int32) (x2 : Int32) (S : Ms) (H : Heap) (locs : List Loc) (ls : Array Slot) (hf : bM_takeUnit_63 N x1 x2 S = some o) (hR : RM d g S H) (hS : va_S (AM g) s.heap H locs) (hl : lv_has ls 3 [(0, .ref g.1), (1, .int x1), (2, .int x2)]) : W p l e R s m args below meth c H locs 0 0 (MQ below (QI d g o) args s 0 0 (AM g)) (F0 m 63 ls []) := by
  obtain ⟨hx, hb, hml, hown, hts, hK, hg, hr, hlk⟩ := id C
  unfold bM_takeUnit_63 at hf
  refine lv_aload_n hx hb dX9_takeUnit_63 rfl (lv_at hl 0 rfl) ?_
  refine mr_getI C hR fl_281 rfl dX9_takeUnit_64 ?_
  refine lv_if_ne (tgt := 94) hx hb dX9_takeUnit_67 (by decide) (fun hc => ?_) (fun hc => ?_)
  · rw [if_neg hc] at hf
    exact (wbM_takeUnit_94 C hRm) _ _ _ _ _ hf hR hS (lv_sub hl [0, 2] rfl)
  · rw [if_pos hc] at hf
    refine lv_aload_n hx hb dX9_takeUnit_70 rfl (lv_at hl 0 rfl) ?_
    refine mr_getR C hR fl_64 (by decide) dX9_takeUnit_71 ?_
    refine lv_bipush (v := 24) hx hb dX9_takeUnit_74 (by decide) ?_
    refine lv_aload_n hx hb dX9_takeUnit_76 rfl (lv_at hl 0 rfl) ?_
    refine mr_getI C hR fl_297 rfl dX9_takeUnit_77 ?_
    refine lv_imul hx hb dX9_takeUnit_80 ?_
    refine lv_iload_n hx hb dX9_takeUnit_81 rfl (lv_at hl 2 rfl) ?_
    refine lv_iadd hx hb dX9_takeUnit_82 ?_
    obtain ⟨hi, hf⟩ := ck_some hf
    refine mr_zald C hR (k := 20) rfl hi dX9_takeUnit_83 ?_
    refine lv_iload_n hx hb dX9_takeUnit_84 rfl (lv_at hl 1 rfl) ?_
    refine lv_icmp_eq (tgt := 94) hx hb dX9_takeUnit_85 (by decide) (fun hc => ?_) (fun hc => ?_)
    · rw [if_pos hc] at hf
      exact (wbM_takeUnit_94 C hRm) _ _ _ _ _ hf hR hS (lv_sub hl [0, 2] rfl)
    · rw [if_neg hc] at hf
      refine lv_aload_n hx hb dX9_takeUnit_88 rfl (lv_at hl 0 rfl) ?_
      refine lv_bipush (v := 6) hx hb dX9_takeUnit_89 (by decide) ?_
      obtain ⟨o91, ho91, hf⟩ := bnd_some hf
      refine mr_callVv C hR hS (As := [.int 6]) (rest := []) (MM_wrong l d g N 6 S o91 ho91) wv_287 ⟨by omega, by omega⟩ rfl rfl (Nat.le_of_ble_eq_true rfl) hl.1 dX9_takeUnit_91 ⟨Nat.zero_le _, Nat.zero_le _⟩ (fun H locs hR hS => ?_)
      exact (wbM_takeUnit_94 C hRm) _ _ _ _ _ hf hR hS (lv_sub hl [0, 2] rfl)
def bM_takeUnit_43 (N : Nat) (x1 : Int32) (s0 : Int32) (S : Ms) : Option (Int32 × Ms) := if (mF S 8) = 0 then (if 0 ≤ s0 then ((bM_takeUnit_63 N) x1 s0 S) else ((fM_wrong N 2 S).bind fun o57 => (bM_takeUnit_94 N) s0 o57)) else ((bM_takeUnit_63 N) x1 s0 S)
set_option maxRecDepth 100000 in
set_option maxHeartbeats 4000000 in
theorem wbM_takeUnit_43 {p : Program} {l : Launch} {e : Env} {R : Room} {s : State} {m : MethodId} {args : Array Value} {below : List Frame} {meth : Method} {c : Code} {d : Dd} {g : Gm} {o : Int32 × Ms} {N : Nat} (C : CM p s m args meth c d g cX9_takeUnit 3 (some .int)) (hRm : 2 ≤ R.frames ∧ 49 ≤ R.locals) (x1 : Int32) (s0 : Int32) (S : Ms) (H : Heap) (locs : List Loc) (ls : Array Slot) (hf : bM_takeUnit_43 N x1 s0 S = some o) (hR : RM d g S H) (hS : va_S (AM g) s.heap H locs) (hl : lv_has ls 3 [(0, .ref g.1), (1, .int x1)]) : W p l e R s m args below meth c H locs 0 0 (MQ below (QI d g o) args s 0 0 (AM g)) (F0 m 43 ls [.int s0]) := by
  obtain ⟨hx, hb, hml, hown, hts, hK, hg, hr, hlk⟩ := id C
  unfold bM_takeUnit_43 at hf
  refine lv_istore_n (lv' := [(2, .int s0), (0, .ref g.1), (1, .int x1)]) hx hb dX9_takeUnit_43 rfl hl (by decide) rfl (fun ls hl => ?_)
  refine lv_aload_n hx hb dX9_takeUnit_44 rfl (lv_at hl 1 rfl) ?_
  refine mr_getI C hR fl_281 rfl dX9_takeUnit_45 ?_
  refine lv_if_ne (tgt := 63) hx hb dX9_takeUnit_48 (by decide) (fun hc => ?_) (fun hc => ?_)
  · rw [if_neg hc] at hf
    exact (wbM_takeUnit_63 C hRm) _ _ _ _ _ _ hf hR hS (lv_sub hl [1, 2, 0] rfl)
  · rw [if_pos hc] at hf
    refine lv_iload_n hx hb dX9_takeUnit_51 rfl (lv_at hl 0 rfl) ?_
    refine lv_if_ge (tgt := 63) hx hb dX9_takeUnit_52 (by decide) (fun hc => ?_) (fun hc => ?_)
    · rw [if_pos hc] at hf
      exact (wbM_takeUnit_63 C hRm) _ _ _ _ _ _ hf hR hS (lv_sub hl [1, 2, 0] rfl)
    · rw [if_neg hc] at hf
      refine lv_aload_n hx hb dX9_takeUnit_55 rfl (lv_at hl 1 rfl) ?_
      refine lv_iconst (v := 2) hx hb dX9_takeUnit_56 (by decide) ?_
      obtain ⟨o57, ho57, hf⟩ := bnd_some hf
      refine mr_callVv C hR hS (As := [.int 2]) (rest := []) (MM_wrong l d g N 2 S o57 ho57) wv_287 ⟨by omega, by omega⟩ rfl rfl (Nat.le_of_ble_eq_true rfl) hl.1 dX9_takeUnit_57 ⟨Nat.zero_le _, Nat.zero_le _⟩ (fun H locs hR hS => ?_)
      refine lv_goto (tgt := 94) hx hb dX9_takeUnit_60 (by decide) ?_
      exact (wbM_takeUnit_94 C hRm) _ _ _ _ _ hf hR hS (lv_sub hl [1, 0] rfl)
def bM_takeUnit_19 (N : Nat) (x1 : Int32) (S : Ms) : Option (Int32 × Ms) := if (mF S 8) = 0 then (ck (mF S 7) 4002 ((fM_findUnit N (mL S 6 (mF S 7 : Int32).toNatClampNeg) S).bind fun o36 => (bM_takeUnit_43 N) x1 o36.1 o36.2)) else ((bM_takeUnit_43 N) x1 (-1) S)
set_option maxRecDepth 100000 in
set_option maxHeartbeats 4000000 in
theorem wbM_takeUnit_19 {p : Program} {l : Launch} {e : Env} {R : Room} {s : State} {m : MethodId} {args : Array Value} {below : List Frame} {meth : Method} {c : Code} {d : Dd} {g : Gm} {o : Int32 × Ms} {N : Nat} (C : CM p s m args meth c d g cX9_takeUnit 3 (some .int)) (hRm : 2 ≤ R.frames ∧ 49 ≤ R.locals) (x1 : Int32) (S : Ms) (H : Heap) (locs : List Loc) (ls : Array Slot) (hf : bM_takeUnit_19 N x1 S = some o) (hR : RM d g S H) (hS : va_S (AM g) s.heap H locs) (hl : lv_has ls 3 [(0, .ref g.1), (1, .int x1)]) : W p l e R s m args below meth c H locs 0 0 (MQ below (QI d g o) args s 0 0 (AM g)) (F0 m 19 ls []) := by
  obtain ⟨hx, hb, hml, hown, hts, hK, hg, hr, hlk⟩ := id C
  unfold bM_takeUnit_19 at hf
  refine lv_aload_n hx hb dX9_takeUnit_19 rfl (lv_at hl 0 rfl) ?_
  refine mr_getI C hR fl_281 rfl dX9_takeUnit_20 ?_
  refine lv_if_ne (tgt := 42) hx hb dX9_takeUnit_23 (by decide) (fun hc => ?_) (fun hc => ?_)
  · rw [if_neg hc] at hf
    refine lv_iconst (v := (-1)) hx hb dX9_takeUnit_42 (by decide) ?_
    exact (wbM_takeUnit_43 C hRm) _ _ _ _ _ _ hf hR hS (lv_sub hl [0, 1] rfl)
  · rw [if_pos hc] at hf
    refine lv_aload_n hx hb dX9_takeUnit_26 rfl (lv_at hl 0 rfl) ?_
    refine lv_aload_n hx hb dX9_takeUnit_27 rfl (lv_at hl 0 rfl) ?_
    refine mr_getR C hR fl_30 (by decide) dX9_takeUnit_28 ?_
    refine lv_aload_n hx hb dX9_takeUnit_31 rfl (lv_at hl 0 rfl) ?_
    refine mr_getI C hR fl_278 rfl dX9_takeUnit_32 ?_
    obtain ⟨hi, hf⟩ := ck_some hf
    refine mr_lald C hR (k := 6) rfl hi dX9_takeUnit_35 ?_
    obtain ⟨o36, ho36, hf⟩ := bnd_some hf
    refine mr_callIv C hR hS (As := [.long (mL S 6 (mF S 7 : Int32).toNatClampNeg)]) (rest := []) (MM_findUnit l d g N (mL S 6 (mF S 7 : Int32).toNatClampNeg) S o36 ho36) wv_341 ⟨by omega, by omega⟩ rfl rfl (Nat.le_of_ble_eq_true rfl) hl.1 dX9_takeUnit_36 ⟨Nat.zero_le _, Nat.zero_le _⟩ (fun H locs hR hS => ?_)
    refine lv_goto (tgt := 43) hx hb dX9_takeUnit_39 (by decide) ?_
    exact (wbM_takeUnit_43 C hRm) _ _ _ _ _ _ hf hR hS (lv_sub hl [0, 1] rfl)
def fM_takeUnit (N : Nat) (x1 : Int32) (S : Ms) : Option (Int32 × Ms) := if (mF S 8) = 0 then ((fM_isName N S).bind fun o8 => if o8.1 = 0 then ((fM_wrong N 1 o8.2).bind fun o16 => (bM_takeUnit_19 N) x1 o16) else ((bM_takeUnit_19 N) x1 o8.2)) else ((bM_takeUnit_19 N) x1 S)
set_option maxRecDepth 100000 in
set_option maxHeartbeats 4000000 in
theorem wfM_takeUnit {p : Program} {l : Launch} {e : Env} {R : Room} {s : State} {m : MethodId} {args : Array Value} {below : List Frame} {meth : Method} {c : Code} {d : Dd} {g : Gm} {o : Int32 × Ms} {N : Nat} (C : CM p s m args meth c d g cX9_takeUnit 3 (some .int)) (hRm : 2 ≤ R.frames ∧ 49 ≤ R.locals) (x1 : Int32) (S : Ms) (H : Heap) (locs : List Loc) (ls : Array Slot) (hf : fM_takeUnit N x1 S = some o) (hR : RM d g S H) (hS : va_S (AM g) s.heap H locs) (hl : lv_has ls 3 [(0, .ref g.1), (1, .int x1)]) : W p l e R s m args below meth c H locs 0 0 (MQ below (QI d g o) args s 0 0 (AM g)) (F0 m 0 ls []) := by
  obtain ⟨hx, hb, hml, hown, hts, hK, hg, hr, hlk⟩ := id C
  unfold fM_takeUnit at hf
  refine lv_aload_n hx hb dX9_takeUnit_0 rfl (lv_at hl 0 rfl) ?_
  refine mr_getI C hR fl_281 rfl dX9_takeUnit_1 ?_
  refine lv_if_ne (tgt := 19) hx hb dX9_takeUnit_4 (by decide) (fun hc => ?_) (fun hc => ?_)
  · rw [if_neg hc] at hf
    exact (wbM_takeUnit_19 C hRm) _ _ _ _ _ hf hR hS (lv_sub hl [0, 1] rfl)
  · rw [if_pos hc] at hf
    refine lv_aload_n hx hb dX9_takeUnit_7 rfl (lv_at hl 0 rfl) ?_
    obtain ⟨o8, ho8, hf⟩ := bnd_some hf
    refine mr_callIv C hR hS (As := []) (rest := []) (MM_isName l d g N  S o8 ho8) wv_337 ⟨by omega, by omega⟩ rfl rfl (Nat.le_of_ble_eq_true rfl) hl.1 dX9_takeUnit_8 ⟨Nat.zero_le _, Nat.zero_le _⟩ (fun H locs hR hS => ?_)
    refine lv_if_ne (tgt := 19) hx hb dX9_takeUnit_11 (by decide) (fun hc => ?_) (fun hc => ?_)
    · rw [if_neg hc] at hf
      exact (wbM_takeUnit_19 C hRm) _ _ _ _ _ hf hR hS (lv_sub hl [0, 1] rfl)
    · rw [if_pos hc] at hf
      refine lv_aload_n hx hb dX9_takeUnit_14 rfl (lv_at hl 0 rfl) ?_
      refine lv_iconst (v := 1) hx hb dX9_takeUnit_15 (by decide) ?_
      obtain ⟨o16, ho16, hf⟩ := bnd_some hf
      refine mr_callVv C hR hS (As := [.int 1]) (rest := []) (MM_wrong l d g N 1 o8.2 o16 ho16) wv_287 ⟨by omega, by omega⟩ rfl rfl (Nat.le_of_ble_eq_true rfl) hl.1 dX9_takeUnit_16 ⟨Nat.zero_le _, Nat.zero_le _⟩ (fun H locs hR hS => ?_)
      exact (wbM_takeUnit_19 C hRm) _ _ _ _ _ hf hR hS (lv_sub hl [0, 1] rfl)
theorem MM_takeUnit (l : Launch) (d : Dd) (g : Gm) (N : Nat) (x1 : Int32) (S : Ms) (o : Int32 × Ms) (hf : fM_takeUnit N x1 S = some o) : MtI l d g yX9_takeUnit cX9_takeUnit 3 (some .int) 2 49 [.ref g.1, .int x1] S o :=
  mr_metI (by decide) rfl (Nat.le_of_ble_eq_true rfl) (fun p e s m args below meth c ls C hR hl => wfM_takeUnit C ⟨Nat.le_refl _, Nat.le_refl _⟩ x1 S s.heap [] ls hf hR va_S.rf hl)
def bM_takeRoles_130 (N : Nat) (r93 : Int32 → Int32 → Int32 → Int32 → Ms → Option (Ms)) (k138 : Int32 → Int32 → Int32 → Ms → Option (Ms)) (x1 : Int32) (x3 : Int32) (x5 : Int32) (s0 : Int32) (S : Ms) : Option (Ms) := r93 x1 x3 s0 (x5 + 1) S
set_option maxRecDepth 100000 in
set_option maxHeartbeats 4000000 in
theorem wbM_takeRoles_130 {p : Program} {l : Launch} {e : Env} {R : Room} {s : State} {m : MethodId} {args : Array Value} {below : List Frame} {meth : Method} {c : Code} {d : Dd} {g : Gm} {o : Ms} {N : Nat} {r93 : Int32 → Int32 → Int32 → Int32 → Ms → Option (Ms)} {k138 : Int32 → Int32 → Int32 → Ms → Option (Ms)} (C : CM p s m args meth c d g cX9_takeRoles 6 none) (hRm : 3 ≤ R.frames ∧ 71 ≤ R.locals) (hr93 : ∀ (x1 : Int32) (x3 : Int32) (x4 : Int32) (x5 : Int32) (S : Ms) (H : Heap) (locs : List Loc) (ls : Array Slot), r93 x1 x3 x4 x5 S = some o → RM d g S H → va_S (AM g) s.heap H locs → lv_has ls 6 [(0, .ref g.1), (1, .int x1), (3, .int x3), (4, .int x4), (5, .int x5)] → W p l e R s m args below meth c H locs 0 0 (MQ below (QV d g o) args s 0 0 (AM g)) (F0 m 93 ls [])) (hk138 : ∀ (x1 : Int32) (x3 : Int32) (x4 : Int32) (S : Ms) (H : Heap) (locs : List Loc) (ls : Array Slot), k138 x1 x3 x4 S = some o → RM d g S H → va_S (AM g) s.heap H locs → lv_has ls 6 [(0, .ref g.1), (1, .int x1), (3, .int x3), (4, .int x4)] → W p l e R s m args below meth c H locs 0 0 (MQ below (QV d g o) args s 0 0 (AM g)) (F0 m 138 ls [])) (x1 : Int32) (x3 : Int32) (x5 : Int32) (s0 : Int32) (S : Ms) (H : Heap) (locs : List Loc) (ls : Array Slot) (hf : bM_takeRoles_130 N r93 k138 x1 x3 x5 s0 S = some o) (hR : RM d g S H) (hS : va_S (AM g) s.heap H locs) (hl : lv_has ls 6 [(0, .ref g.1), (1, .int x1), (3, .int x3), (5, .int x5)]) : W p l e R s m args below meth c H locs 0 0 (MQ below (QV d g o) args s 0 0 (AM g)) (F0 m 130 ls [.int s0]) := by
  obtain ⟨hx, hb, hml, hown, hts, hK, hg, hr, hlk⟩ := id C
  unfold bM_takeRoles_130 at hf
  refine lv_istore (lv' := [(4, .int s0), (0, .ref g.1), (1, .int x1), (3, .int x3), (5, .int x5)]) hx hb dX9_takeRoles_130 hl (by decide) rfl (fun ls hl => ?_)
  refine lv_iinc (v := x5 + 1) (lv' := [(5, .int (x5 + 1)), (4, .int s0), (0, .ref g.1), (1, .int x1), (3, .int x3)]) hx hb dX9_takeRoles_132 hl (k := 4) rfl rfl (by decide) rfl (fun ls hl => ?_)
  refine lv_goto (tgt := 93) hx hb dX9_takeRoles_135 (by decide) ?_
  exact hr93 _ _ _ _ _ _ _ _ hf hR hS (lv_sub hl [2, 3, 4, 1, 0] rfl)
def bM_takeRoles_125 (N : Nat) (r93 : Int32 → Int32 → Int32 → Int32 → Ms → Option (Ms)) (k138 : Int32 → Int32 → Int32 → Ms → Option (Ms)) (x1 : Int32) (x3 : Int32) (x5 : Int32) (S : Ms) : Option (Ms) := (bM_takeRoles_130 N r93 k138) x1 x3 x5 1 S
set_option maxRecDepth 100000 in
set_option maxHeartbeats 4000000 in
theorem wbM_takeRoles_125 {p : Program} {l : Launch} {e : Env} {R : Room} {s : State} {m : MethodId} {args : Array Value} {below : List Frame} {meth : Method} {c : Code} {d : Dd} {g : Gm} {o : Ms} {N : Nat} {r93 : Int32 → Int32 → Int32 → Int32 → Ms → Option (Ms)} {k138 : Int32 → Int32 → Int32 → Ms → Option (Ms)} (C : CM p s m args meth c d g cX9_takeRoles 6 none) (hRm : 3 ≤ R.frames ∧ 71 ≤ R.locals) (hr93 : ∀ (x1 : Int32) (x3 : Int32) (x4 : Int32) (x5 : Int32) (S : Ms) (H : Heap) (locs : List Loc) (ls : Array Slot), r93 x1 x3 x4 x5 S = some o → RM d g S H → va_S (AM g) s.heap H locs → lv_has ls 6 [(0, .ref g.1), (1, .int x1), (3, .int x3), (4, .int x4), (5, .int x5)] → W p l e R s m args below meth c H locs 0 0 (MQ below (QV d g o) args s 0 0 (AM g)) (F0 m 93 ls [])) (hk138 : ∀ (x1 : Int32) (x3 : Int32) (x4 : Int32) (S : Ms) (H : Heap) (locs : List Loc) (ls : Array Slot), k138 x1 x3 x4 S = some o → RM d g S H → va_S (AM g) s.heap H locs → lv_has ls 6 [(0, .ref g.1), (1, .int x1), (3, .int x3), (4, .int x4)] → W p l e R s m args below meth c H locs 0 0 (MQ below (QV d g o) args s 0 0 (AM g)) (F0 m 138 ls [])) (x1 : Int32) (x3 : Int32) (x5 : Int32) (S : Ms) (H : Heap) (locs : List Loc) (ls : Array Slot) (hf : bM_takeRoles_125 N r93 k138 x1 x3 x5 S = some o) (hR : RM d g S H) (hS : va_S (AM g) s.heap H locs) (hl : lv_has ls 6 [(0, .ref g.1), (1, .int x1), (3, .int x3), (5, .int x5)]) : W p l e R s m args below meth c H locs 0 0 (MQ below (QV d g o) args s 0 0 (AM g)) (F0 m 125 ls []) := by
  obtain ⟨hx, hb, hml, hown, hts, hK, hg, hr, hlk⟩ := id C
  unfold bM_takeRoles_125 at hf
  refine lv_iconst (v := 1) hx hb dX9_takeRoles_125 (by decide) ?_
  refine lv_goto (tgt := 130) hx hb dX9_takeRoles_126 (by decide) ?_
  exact (wbM_takeRoles_130 C hRm hr93 hk138) _ _ _ _ _ _ _ _ hf hR hS (lv_sub hl [0, 1, 2, 3] rfl)
def lM_takeRoles_93 (N : Nat) (k138 : Int32 → Int32 → Int32 → Ms → Option (Ms)) : Nat → Int32 → Int32 → Int32 → Int32 → Ms → Option (Ms)
  | 0, _, _, _, _, _ => none
  | n + 1, x1, x3, x4, x5, S => ck x1 48 (if (mA S 23 (x1 : Int32).toNatClampNeg) ≤ x5 then (k138 x1 x3 x4 S) else (if x4 = 0 then (ck ((6 * x1) + x5) 288 (if (mA S 24 ((6 * x1) + x5 : Int32).toNatClampNeg) = x3 then ((bM_takeRoles_125 N (lM_takeRoles_93 N k138 n) k138) x1 x3 x5 S) else ((bM_takeRoles_130 N (lM_takeRoles_93 N k138 n) k138) x1 x3 x5 0 S))) else ((bM_takeRoles_125 N (lM_takeRoles_93 N k138 n) k138) x1 x3 x5 S)))
set_option maxRecDepth 100000 in
set_option maxHeartbeats 4000000 in
theorem wlM_takeRoles_93 {p : Program} {l : Launch} {e : Env} {R : Room} {s : State} {m : MethodId} {args : Array Value} {below : List Frame} {meth : Method} {c : Code} {d : Dd} {g : Gm} {o : Ms} {N : Nat} {k138 : Int32 → Int32 → Int32 → Ms → Option (Ms)} (C : CM p s m args meth c d g cX9_takeRoles 6 none) (hRm : 3 ≤ R.frames ∧ 71 ≤ R.locals) (hk138 : ∀ (x1 : Int32) (x3 : Int32) (x4 : Int32) (S : Ms) (H : Heap) (locs : List Loc) (ls : Array Slot), k138 x1 x3 x4 S = some o → RM d g S H → va_S (AM g) s.heap H locs → lv_has ls 6 [(0, .ref g.1), (1, .int x1), (3, .int x3), (4, .int x4)] → W p l e R s m args below meth c H locs 0 0 (MQ below (QV d g o) args s 0 0 (AM g)) (F0 m 138 ls [])) : ∀ (n : Nat) (x1 : Int32) (x3 : Int32) (x4 : Int32) (x5 : Int32) (S : Ms) (H : Heap) (locs : List Loc) (ls : Array Slot), lM_takeRoles_93 N k138 n x1 x3 x4 x5 S = some o → RM d g S H → va_S (AM g) s.heap H locs → lv_has ls 6 [(0, .ref g.1), (1, .int x1), (3, .int x3), (4, .int x4), (5, .int x5)] → W p l e R s m args below meth c H locs 0 0 (MQ below (QV d g o) args s 0 0 (AM g)) (F0 m 93 ls []) := by
  obtain ⟨hx, hb, hml, hown, hts, hK, hg, hr, hlk⟩ := id C
  intro n
  induction n with
  | zero => intro x1 x3 x4 x5 S H locs ls hf; cases hf
  | succ n ih =>
    intro x1 x3 x4 x5 S H locs ls hf hR hS hl
    rw [lM_takeRoles_93] at hf
    refine lv_iload hx hb dX9_takeRoles_93 (lv_at hl 4 rfl) ?_
    refine lv_aload_n hx hb dX9_takeRoles_95 rfl (lv_at hl 0 rfl) ?_
    refine mr_getR C hR fl_74 (by decide) dX9_takeRoles_96 ?_
    refine lv_iload_n hx hb dX9_takeRoles_99 rfl (lv_at hl 1 rfl) ?_
    obtain ⟨hi, hf⟩ := ck_some hf
    refine mr_iald C hR (k := 23) rfl hi dX9_takeRoles_100 ?_
    refine lv_icmp_ge (tgt := 138) hx hb dX9_takeRoles_101 (by decide) (fun hc => ?_) (fun hc => ?_)
    · rw [if_pos hc] at hf
      exact hk138 _ _ _ _ _ _ _ hf hR hS (lv_sub hl [0, 1, 2, 3] rfl)
    · rw [if_neg hc] at hf
      refine lv_iload hx hb dX9_takeRoles_104 (lv_at hl 3 rfl) ?_
      refine lv_if_ne (tgt := 125) hx hb dX9_takeRoles_106 (by decide) (fun hc => ?_) (fun hc => ?_)
      · rw [if_neg hc] at hf
        exact (wbM_takeRoles_125 C hRm ih hk138) _ _ _ _ _ _ _ hf hR hS (lv_sub hl [0, 1, 2, 4] rfl)
      · rw [if_pos hc] at hf
        refine lv_aload_n hx hb dX9_takeRoles_109 rfl (lv_at hl 0 rfl) ?_
        refine mr_getR C hR fl_77 (by decide) dX9_takeRoles_110 ?_
        refine lv_bipush (v := 6) hx hb dX9_takeRoles_113 (by decide) ?_
        refine lv_iload_n hx hb dX9_takeRoles_115 rfl (lv_at hl 1 rfl) ?_
        refine lv_imul hx hb dX9_takeRoles_116 ?_
        refine lv_iload hx hb dX9_takeRoles_117 (lv_at hl 4 rfl) ?_
        refine lv_iadd hx hb dX9_takeRoles_119 ?_
        obtain ⟨hi, hf⟩ := ck_some hf
        refine mr_iald C hR (k := 24) rfl hi dX9_takeRoles_120 ?_
        refine lv_iload_n hx hb dX9_takeRoles_121 rfl (lv_at hl 2 rfl) ?_
        refine lv_icmp_ne (tgt := 129) hx hb dX9_takeRoles_122 (by decide) (fun hc => ?_) (fun hc => ?_)
        · rw [if_neg hc] at hf
          refine lv_iconst (v := 0) hx hb dX9_takeRoles_129 (by decide) ?_
          exact (wbM_takeRoles_130 C hRm ih hk138) _ _ _ _ _ _ _ _ hf hR hS (lv_sub hl [0, 1, 2, 4] rfl)
        · rw [if_pos hc] at hf
          exact (wbM_takeRoles_125 C hRm ih hk138) _ _ _ _ _ _ _ hf hR hS (lv_sub hl [0, 1, 2, 4] rfl)
def bM_takeRoles_215 (N : Nat) (r2 : Int32 → Int32 → Ms → Option (Ms)) (k235 : Ms → Option (Ms)) (x1 : Int32) (S : Ms) : Option (Ms) := (fM_hasSign N 44 (pF S 7 ((mF S 7) + 1))).bind fun o228 => r2 x1 o228.1 o228.2
set_option maxRecDepth 100000 in
set_option maxHeartbeats 4000000 in
theorem wbM_takeRoles_215 {p : Program} {l : Launch} {e : Env} {R : Room} {s : State} {m : MethodId} {args : Array Value} {below : List Frame} {meth : Method} {c : Code} {d : Dd} {g : Gm} {o : Ms} {N : Nat} {r2 : Int32 → Int32 → Ms → Option (Ms)} {k235 : Ms → Option (Ms)} (C : CM p s m args meth c d g cX9_takeRoles 6 none) (hRm : 3 ≤ R.frames ∧ 71 ≤ R.locals) (hr2 : ∀ (x1 : Int32) (x2 : Int32) (S : Ms) (H : Heap) (locs : List Loc) (ls : Array Slot), r2 x1 x2 S = some o → RM d g S H → va_S (AM g) s.heap H locs → lv_has ls 6 [(0, .ref g.1), (1, .int x1), (2, .int x2)] → W p l e R s m args below meth c H locs 0 0 (MQ below (QV d g o) args s 0 0 (AM g)) (F0 m 2 ls [])) (hk235 : ∀  (S : Ms) (H : Heap) (locs : List Loc) (ls : Array Slot), k235 S = some o → RM d g S H → va_S (AM g) s.heap H locs → lv_has ls 6 [(0, .ref g.1)] → W p l e R s m args below meth c H locs 0 0 (MQ below (QV d g o) args s 0 0 (AM g)) (F0 m 235 ls [])) (x1 : Int32) (S : Ms) (H : Heap) (locs : List Loc) (ls : Array Slot) (hf : bM_takeRoles_215 N r2 k235 x1 S = some o) (hR : RM d g S H) (hS : va_S (AM g) s.heap H locs) (hl : lv_has ls 6 [(0, .ref g.1), (1, .int x1)]) : W p l e R s m args below meth c H locs 0 0 (MQ below (QV d g o) args s 0 0 (AM g)) (F0 m 215 ls []) := by
  obtain ⟨hx, hb, hml, hown, hts, hK, hg, hr, hlk⟩ := id C
  unfold bM_takeRoles_215 at hf
  refine lv_aload_n hx hb dX9_takeRoles_215 rfl (lv_at hl 0 rfl) ?_
  refine lv_dup hx hb dX9_takeRoles_216 rfl ?_
  refine mr_getI C hR fl_278 rfl dX9_takeRoles_217 ?_
  refine lv_iconst (v := 1) hx hb dX9_takeRoles_220 (by decide) ?_
  refine lv_iadd hx hb dX9_takeRoles_221 ?_
  refine mr_putI C hR hS fl_278 ⟨rfl, rfl, rfl⟩ dX9_takeRoles_222 (fun H locs hR hS => ?_)
  refine lv_aload_n hx hb dX9_takeRoles_225 rfl (lv_at hl 0 rfl) ?_
  refine lv_bipush (v := 44) hx hb dX9_takeRoles_226 (by decide) ?_
  obtain ⟨o228, ho228, hf⟩ := bnd_some hf
  refine mr_callIv C hR hS (As := [.int 44]) (rest := []) (MM_hasSign l d g N 44 (pF S 7 ((mF S 7) + 1)) o228 ho228) wv_364 ⟨by omega, by omega⟩ rfl rfl (Nat.le_of_ble_eq_true rfl) hl.1 dX9_takeRoles_228 ⟨Nat.zero_le _, Nat.zero_le _⟩ (fun H locs hR hS => ?_)
  refine lv_istore_n (lv' := [(2, .int o228.1), (0, .ref g.1), (1, .int x1)]) hx hb dX9_takeRoles_231 rfl hl (by decide) rfl (fun ls hl => ?_)
  refine lv_goto (tgt := 2) hx hb dX9_takeRoles_232 (by decide) ?_
  exact hr2 _ _ _ _ _ _ hf hR hS (lv_sub hl [1, 2, 0] rfl)
def bM_takeRoles_181 (N : Nat) (r2 : Int32 → Int32 → Ms → Option (Ms)) (k235 : Ms → Option (Ms)) (x1 : Int32) (x3 : Int32) (S : Ms) : Option (Ms) := if (mF S 8) = 0 then (ck x1 48 (ck ((6 * x1) + (mA S 23 (x1 : Int32).toNatClampNeg)) 288 (ck x1 48 (ck x1 48 ((bM_takeRoles_215 N r2 k235) x1 (pA (pA S 24 ((6 * x1) + (mA S 23 (x1 : Int32).toNatClampNeg) : Int32).toNatClampNeg x3) 23 (x1 : Int32).toNatClampNeg ((mA (pA S 24 ((6 * x1) + (mA S 23 (x1 : Int32).toNatClampNeg) : Int32).toNatClampNeg x3) 23 (x1 : Int32).toNatClampNeg) + 1))))))) else ((bM_takeRoles_215 N r2 k235) x1 S)
set_option maxRecDepth 100000 in
set_option maxHeartbeats 4000000 in
theorem wbM_takeRoles_181 {p : Program} {l : Launch} {e : Env} {R : Room} {s : State} {m : MethodId} {args : Array Value} {below : List Frame} {meth : Method} {c : Code} {d : Dd} {g : Gm} {o : Ms} {N : Nat} {r2 : Int32 → Int32 → Ms → Option (Ms)} {k235 : Ms → Option (Ms)} (C : CM p s m args meth c d g cX9_takeRoles 6 none) (hRm : 3 ≤ R.frames ∧ 71 ≤ R.locals) (hr2 : ∀ (x1 : Int32) (x2 : Int32) (S : Ms) (H : Heap) (locs : List Loc) (ls : Array Slot), r2 x1 x2 S = some o → RM d g S H → va_S (AM g) s.heap H locs → lv_has ls 6 [(0, .ref g.1), (1, .int x1), (2, .int x2)] → W p l e R s m args below meth c H locs 0 0 (MQ below (QV d g o) args s 0 0 (AM g)) (F0 m 2 ls [])) (hk235 : ∀  (S : Ms) (H : Heap) (locs : List Loc) (ls : Array Slot), k235 S = some o → RM d g S H → va_S (AM g) s.heap H locs → lv_has ls 6 [(0, .ref g.1)] → W p l e R s m args below meth c H locs 0 0 (MQ below (QV d g o) args s 0 0 (AM g)) (F0 m 235 ls [])) (x1 : Int32) (x3 : Int32) (S : Ms) (H : Heap) (locs : List Loc) (ls : Array Slot) (hf : bM_takeRoles_181 N r2 k235 x1 x3 S = some o) (hR : RM d g S H) (hS : va_S (AM g) s.heap H locs) (hl : lv_has ls 6 [(0, .ref g.1), (1, .int x1), (3, .int x3)]) : W p l e R s m args below meth c H locs 0 0 (MQ below (QV d g o) args s 0 0 (AM g)) (F0 m 181 ls []) := by
  obtain ⟨hx, hb, hml, hown, hts, hK, hg, hr, hlk⟩ := id C
  unfold bM_takeRoles_181 at hf
  refine lv_aload_n hx hb dX9_takeRoles_181 rfl (lv_at hl 0 rfl) ?_
  refine mr_getI C hR fl_281 rfl dX9_takeRoles_182 ?_
  refine lv_if_ne (tgt := 215) hx hb dX9_takeRoles_185 (by decide) (fun hc => ?_) (fun hc => ?_)
  · rw [if_neg hc] at hf
    exact (wbM_takeRoles_215 C hRm hr2 hk235) _ _ _ _ _ hf hR hS (lv_sub hl [0, 1] rfl)
  · rw [if_pos hc] at hf
    refine lv_aload_n hx hb dX9_takeRoles_188 rfl (lv_at hl 0 rfl) ?_
    refine mr_getR C hR fl_77 (by decide) dX9_takeRoles_189 ?_
    refine lv_bipush (v := 6) hx hb dX9_takeRoles_192 (by decide) ?_
    refine lv_iload_n hx hb dX9_takeRoles_194 rfl (lv_at hl 1 rfl) ?_
    refine lv_imul hx hb dX9_takeRoles_195 ?_
    refine lv_aload_n hx hb dX9_takeRoles_196 rfl (lv_at hl 0 rfl) ?_
    refine mr_getR C hR fl_74 (by decide) dX9_takeRoles_197 ?_
    refine lv_iload_n hx hb dX9_takeRoles_200 rfl (lv_at hl 1 rfl) ?_
    obtain ⟨hi, hf⟩ := ck_some hf
    refine mr_iald C hR (k := 23) rfl hi dX9_takeRoles_201 ?_
    refine lv_iadd hx hb dX9_takeRoles_202 ?_
    refine lv_iload_n hx hb dX9_takeRoles_203 rfl (lv_at hl 2 rfl) ?_
    obtain ⟨hi, hf⟩ := ck_some hf
    refine mr_iast C hR hS (k := 24) rfl hi dX9_takeRoles_204 (fun H locs hR hS => ?_)
    refine lv_aload_n hx hb dX9_takeRoles_205 rfl (lv_at hl 0 rfl) ?_
    refine mr_getR C hR fl_74 (by decide) dX9_takeRoles_206 ?_
    refine lv_iload_n hx hb dX9_takeRoles_209 rfl (lv_at hl 1 rfl) ?_
    refine lv_dup2_11 hx hb dX9_takeRoles_210 rfl rfl ?_
    obtain ⟨hi, hf⟩ := ck_some hf
    refine mr_iald C hR (k := 23) rfl hi dX9_takeRoles_211 ?_
    refine lv_iconst (v := 1) hx hb dX9_takeRoles_212 (by decide) ?_
    refine lv_iadd hx hb dX9_takeRoles_213 ?_
    obtain ⟨hi, hf⟩ := ck_some hf
    refine mr_iast C hR hS (k := 23) rfl hi dX9_takeRoles_214 (fun H locs hR hS => ?_)
    exact (wbM_takeRoles_215 C hRm hr2 hk235) _ _ _ _ _ hf hR hS (lv_sub hl [0, 1] rfl)
def bM_takeRoles_158 (N : Nat) (r2 : Int32 → Int32 → Ms → Option (Ms)) (k235 : Ms → Option (Ms)) (x1 : Int32) (x3 : Int32) (S : Ms) : Option (Ms) := if (mF S 8) = 0 then (ck x1 48 (if (mA S 23 (x1 : Int32).toNatClampNeg) = 6 then ((fM_wrong N 5 S).bind fun o178 => (bM_takeRoles_181 N r2 k235) x1 x3 o178) else ((bM_takeRoles_181 N r2 k235) x1 x3 S))) else ((bM_takeRoles_181 N r2 k235) x1 x3 S)
set_option maxRecDepth 100000 in
set_option maxHeartbeats 4000000 in
theorem wbM_takeRoles_158 {p : Program} {l : Launch} {e : Env} {R : Room} {s : State} {m : MethodId} {args : Array Value} {below : List Frame} {meth : Method} {c : Code} {d : Dd} {g : Gm} {o : Ms} {N : Nat} {r2 : Int32 → Int32 → Ms → Option (Ms)} {k235 : Ms → Option (Ms)} (C : CM p s m args meth c d g cX9_takeRoles 6 none) (hRm : 3 ≤ R.frames ∧ 71 ≤ R.locals) (hr2 : ∀ (x1 : Int32) (x2 : Int32) (S : Ms) (H : Heap) (locs : List Loc) (ls : Array Slot), r2 x1 x2 S = some o → RM d g S H → va_S (AM g) s.heap H locs → lv_has ls 6 [(0, .ref g.1), (1, .int x1), (2, .int x2)] → W p l e R s m args below meth c H locs 0 0 (MQ below (QV d g o) args s 0 0 (AM g)) (F0 m 2 ls [])) (hk235 : ∀  (S : Ms) (H : Heap) (locs : List Loc) (ls : Array Slot), k235 S = some o → RM d g S H → va_S (AM g) s.heap H locs → lv_has ls 6 [(0, .ref g.1)] → W p l e R s m args below meth c H locs 0 0 (MQ below (QV d g o) args s 0 0 (AM g)) (F0 m 235 ls [])) (x1 : Int32) (x3 : Int32) (S : Ms) (H : Heap) (locs : List Loc) (ls : Array Slot) (hf : bM_takeRoles_158 N r2 k235 x1 x3 S = some o) (hR : RM d g S H) (hS : va_S (AM g) s.heap H locs) (hl : lv_has ls 6 [(0, .ref g.1), (1, .int x1), (3, .int x3)]) : W p l e R s m args below meth c H locs 0 0 (MQ below (QV d g o) args s 0 0 (AM g)) (F0 m 158 ls []) := by
  obtain ⟨hx, hb, hml, hown, hts, hK, hg, hr, hlk⟩ := id C
  unfold bM_takeRoles_158 at hf
  refine lv_aload_n hx hb dX9_takeRoles_158 rfl (lv_at hl 0 rfl) ?_
  refine mr_getI C hR fl_281 rfl dX9_takeRoles_159 ?_
  refine lv_if_ne (tgt := 181) hx hb dX9_takeRoles_162 (by decide) (fun hc => ?_) (fun hc => ?_)
  · rw [if_neg hc] at hf
    exact (wbM_takeRoles_181 C hRm hr2 hk235) _ _ _ _ _ _ hf hR hS (lv_sub hl [0, 1, 2] rfl)
  · rw [if_pos hc] at hf
    refine lv_aload_n hx hb dX9_takeRoles_165 rfl (lv_at hl 0 rfl) ?_
    refine mr_getR C hR fl_74 (by decide) dX9_takeRoles_166 ?_
    refine lv_iload_n hx hb dX9_takeRoles_169 rfl (lv_at hl 1 rfl) ?_
    obtain ⟨hi, hf⟩ := ck_some hf
    refine mr_iald C hR (k := 23) rfl hi dX9_takeRoles_170 ?_
    refine lv_bipush (v := 6) hx hb dX9_takeRoles_171 (by decide) ?_
    refine lv_icmp_ne (tgt := 181) hx hb dX9_takeRoles_173 (by decide) (fun hc => ?_) (fun hc => ?_)
    · rw [if_neg hc] at hf
      exact (wbM_takeRoles_181 C hRm hr2 hk235) _ _ _ _ _ _ hf hR hS (lv_sub hl [0, 1, 2] rfl)
    · rw [if_pos hc] at hf
      refine lv_aload_n hx hb dX9_takeRoles_176 rfl (lv_at hl 0 rfl) ?_
      refine lv_iconst (v := 5) hx hb dX9_takeRoles_177 (by decide) ?_
      obtain ⟨o178, ho178, hf⟩ := bnd_some hf
      refine mr_callVv C hR hS (As := [.int 5]) (rest := []) (MM_wrong l d g N 5 S o178 ho178) wv_287 ⟨by omega, by omega⟩ rfl rfl (Nat.le_of_ble_eq_true rfl) hl.1 dX9_takeRoles_178 ⟨Nat.zero_le _, Nat.zero_le _⟩ (fun H locs hR hS => ?_)
      exact (wbM_takeRoles_181 C hRm hr2 hk235) _ _ _ _ _ _ hf hR hS (lv_sub hl [0, 1, 2] rfl)
def bM_takeRoles_138 (N : Nat) (r2 : Int32 → Int32 → Ms → Option (Ms)) (k235 : Ms → Option (Ms)) (x1 : Int32) (x3 : Int32) (x4 : Int32) (S : Ms) : Option (Ms) := if (mF S 8) = 0 then (if x4 = 0 then ((bM_takeRoles_158 N r2 k235) x1 x3 S) else ((fM_wrong N 3 S).bind fun o152 => (bM_takeRoles_181 N r2 k235) x1 x3 o152)) else ((bM_takeRoles_158 N r2 k235) x1 x3 S)
set_option maxRecDepth 100000 in
set_option maxHeartbeats 4000000 in
theorem wbM_takeRoles_138 {p : Program} {l : Launch} {e : Env} {R : Room} {s : State} {m : MethodId} {args : Array Value} {below : List Frame} {meth : Method} {c : Code} {d : Dd} {g : Gm} {o : Ms} {N : Nat} {r2 : Int32 → Int32 → Ms → Option (Ms)} {k235 : Ms → Option (Ms)} (C : CM p s m args meth c d g cX9_takeRoles 6 none) (hRm : 3 ≤ R.frames ∧ 71 ≤ R.locals) (hr2 : ∀ (x1 : Int32) (x2 : Int32) (S : Ms) (H : Heap) (locs : List Loc) (ls : Array Slot), r2 x1 x2 S = some o → RM d g S H → va_S (AM g) s.heap H locs → lv_has ls 6 [(0, .ref g.1), (1, .int x1), (2, .int x2)] → W p l e R s m args below meth c H locs 0 0 (MQ below (QV d g o) args s 0 0 (AM g)) (F0 m 2 ls [])) (hk235 : ∀  (S : Ms) (H : Heap) (locs : List Loc) (ls : Array Slot), k235 S = some o → RM d g S H → va_S (AM g) s.heap H locs → lv_has ls 6 [(0, .ref g.1)] → W p l e R s m args below meth c H locs 0 0 (MQ below (QV d g o) args s 0 0 (AM g)) (F0 m 235 ls [])) (x1 : Int32) (x3 : Int32) (x4 : Int32) (S : Ms) (H : Heap) (locs : List Loc) (ls : Array Slot) (hf : bM_takeRoles_138 N r2 k235 x1 x3 x4 S = some o) (hR : RM d g S H) (hS : va_S (AM g) s.heap H locs) (hl : lv_has ls 6 [(0, .ref g.1), (1, .int x1), (3, .int x3), (4, .int x4)]) : W p l e R s m args below meth c H locs 0 0 (MQ below (QV d g o) args s 0 0 (AM g)) (F0 m 138 ls []) := by
  obtain ⟨hx, hb, hml, hown, hts, hK, hg, hr, hlk⟩ := id C
  unfold bM_takeRoles_138 at hf
  refine lv_aload_n hx hb dX9_takeRoles_138 rfl (lv_at hl 0 rfl) ?_
  refine mr_getI C hR fl_281 rfl dX9_takeRoles_139 ?_
  refine lv_if_ne (tgt := 158) hx hb dX9_takeRoles_142 (by decide) (fun hc => ?_) (fun hc => ?_)
  · rw [if_neg hc] at hf
    exact (wbM_takeRoles_158 C hRm hr2 hk235) _ _ _ _ _ _ hf hR hS (lv_sub hl [0, 1, 2] rfl)
  · rw [if_pos hc] at hf
    refine lv_iload hx hb dX9_takeRoles_145 (lv_at hl 3 rfl) ?_
    refine lv_if_eq (tgt := 158) hx hb dX9_takeRoles_147 (by decide) (fun hc => ?_) (fun hc => ?_)
    · rw [if_pos hc] at hf
      exact (wbM_takeRoles_158 C hRm hr2 hk235) _ _ _ _ _ _ hf hR hS (lv_sub hl [0, 1, 2] rfl)
    · rw [if_neg hc] at hf
      refine lv_aload_n hx hb dX9_takeRoles_150 rfl (lv_at hl 0 rfl) ?_
      refine lv_iconst (v := 3) hx hb dX9_takeRoles_151 (by decide) ?_
      obtain ⟨o152, ho152, hf⟩ := bnd_some hf
      refine mr_callVv C hR hS (As := [.int 3]) (rest := []) (MM_wrong l d g N 3 S o152 ho152) wv_287 ⟨by omega, by omega⟩ rfl rfl (Nat.le_of_ble_eq_true rfl) hl.1 dX9_takeRoles_152 ⟨Nat.zero_le _, Nat.zero_le _⟩ (fun H locs hR hS => ?_)
      refine lv_goto (tgt := 181) hx hb dX9_takeRoles_155 (by decide) ?_
      exact (wbM_takeRoles_181 C hRm hr2 hk235) _ _ _ _ _ _ hf hR hS (lv_sub hl [0, 1, 2] rfl)
def bM_takeRoles_81 (N : Nat) (r2 : Int32 → Int32 → Ms → Option (Ms)) (k235 : Ms → Option (Ms)) (x1 : Int32) (S : Ms) : Option (Ms) := (fM_takeUnit N 0 S).bind fun o83 => (lM_takeRoles_93 N (bM_takeRoles_138 N r2 k235) N) x1 o83.1 0 0 o83.2
set_option maxRecDepth 100000 in
set_option maxHeartbeats 4000000 in
theorem wbM_takeRoles_81 {p : Program} {l : Launch} {e : Env} {R : Room} {s : State} {m : MethodId} {args : Array Value} {below : List Frame} {meth : Method} {c : Code} {d : Dd} {g : Gm} {o : Ms} {N : Nat} {r2 : Int32 → Int32 → Ms → Option (Ms)} {k235 : Ms → Option (Ms)} (C : CM p s m args meth c d g cX9_takeRoles 6 none) (hRm : 3 ≤ R.frames ∧ 71 ≤ R.locals) (hr2 : ∀ (x1 : Int32) (x2 : Int32) (S : Ms) (H : Heap) (locs : List Loc) (ls : Array Slot), r2 x1 x2 S = some o → RM d g S H → va_S (AM g) s.heap H locs → lv_has ls 6 [(0, .ref g.1), (1, .int x1), (2, .int x2)] → W p l e R s m args below meth c H locs 0 0 (MQ below (QV d g o) args s 0 0 (AM g)) (F0 m 2 ls [])) (hk235 : ∀  (S : Ms) (H : Heap) (locs : List Loc) (ls : Array Slot), k235 S = some o → RM d g S H → va_S (AM g) s.heap H locs → lv_has ls 6 [(0, .ref g.1)] → W p l e R s m args below meth c H locs 0 0 (MQ below (QV d g o) args s 0 0 (AM g)) (F0 m 235 ls [])) (x1 : Int32) (S : Ms) (H : Heap) (locs : List Loc) (ls : Array Slot) (hf : bM_takeRoles_81 N r2 k235 x1 S = some o) (hR : RM d g S H) (hS : va_S (AM g) s.heap H locs) (hl : lv_has ls 6 [(0, .ref g.1), (1, .int x1)]) : W p l e R s m args below meth c H locs 0 0 (MQ below (QV d g o) args s 0 0 (AM g)) (F0 m 81 ls []) := by
  obtain ⟨hx, hb, hml, hown, hts, hK, hg, hr, hlk⟩ := id C
  unfold bM_takeRoles_81 at hf
  refine lv_aload_n hx hb dX9_takeRoles_81 rfl (lv_at hl 0 rfl) ?_
  refine lv_iconst (v := 0) hx hb dX9_takeRoles_82 (by decide) ?_
  obtain ⟨o83, ho83, hf⟩ := bnd_some hf
  refine mr_callIv C hR hS (As := [.int 0]) (rest := []) (MM_takeUnit l d g N 0 S o83 ho83) wv_360 ⟨by omega, by omega⟩ rfl rfl (Nat.le_of_ble_eq_true rfl) hl.1 dX9_takeRoles_83 ⟨Nat.zero_le _, Nat.zero_le _⟩ (fun H locs hR hS => ?_)
  refine lv_istore_n (lv' := [(3, .int o83.1), (0, .ref g.1), (1, .int x1)]) hx hb dX9_takeRoles_86 rfl hl (by decide) rfl (fun ls hl => ?_)
  refine lv_iconst (v := 0) hx hb dX9_takeRoles_87 (by decide) ?_
  refine lv_istore (lv' := [(4, .int 0), (3, .int o83.1), (0, .ref g.1), (1, .int x1)]) hx hb dX9_takeRoles_88 hl (by decide) rfl (fun ls hl => ?_)
  refine lv_iconst (v := 0) hx hb dX9_takeRoles_90 (by decide) ?_
  refine lv_istore (lv' := [(5, .int 0), (4, .int 0), (3, .int o83.1), (0, .ref g.1), (1, .int x1)]) hx hb dX9_takeRoles_91 hl (by decide) rfl (fun ls hl => ?_)
  exact (wlM_takeRoles_93 C hRm (wbM_takeRoles_138 C hRm hr2 hk235) N) _ _ _ _ _ _ _ _ hf hR hS (lv_sub hl [3, 4, 2, 1, 0] rfl)
def lM_takeRoles_2 (N : Nat) (k235 : Ms → Option (Ms)) : Nat → Int32 → Int32 → Ms → Option (Ms)
  | 0, _, _, _ => none
  | n + 1, x1, x2, S => if x2 = 0 then (k235 S) else (if (mF S 8) = 0 then (ck x1 48 (if (mA S 23 (x1 : Int32).toNatClampNeg) = 6 then ((fM_isName N S).bind fun o25 => if o25.1 = 0 then ((bM_takeRoles_81 N (lM_takeRoles_2 N k235 n) k235) x1 o25.2) else (ck (mF o25.2 7) 4002 ((fM_findUnit N (mL o25.2 6 (mF o25.2 7 : Int32).toNatClampNeg) o25.2).bind fun o41 => if o41.1 < 0 then ((bM_takeRoles_81 N (lM_takeRoles_2 N k235 n) k235) x1 o41.2) else (ck (mF o41.2 7) 4002 ((fM_findUnit N (mL o41.2 6 (mF o41.2 7 : Int32).toNatClampNeg) o41.2).bind fun o68 => ck ((24 * (mF o41.2 12)) + o68.1) 48 (if (mA o68.2 20 ((24 * (mF o41.2 12)) + o68.1 : Int32).toNatClampNeg) = 0 then ((bM_takeRoles_81 N (lM_takeRoles_2 N k235 n) k235) x1 o68.2) else ((fM_wrong N 5 o68.2).bind fun o78 => (bM_takeRoles_81 N (lM_takeRoles_2 N k235 n) k235) x1 o78))))))) else ((bM_takeRoles_81 N (lM_takeRoles_2 N k235 n) k235) x1 S))) else (k235 S))
set_option maxRecDepth 100000 in
set_option maxHeartbeats 4000000 in
theorem wlM_takeRoles_2 {p : Program} {l : Launch} {e : Env} {R : Room} {s : State} {m : MethodId} {args : Array Value} {below : List Frame} {meth : Method} {c : Code} {d : Dd} {g : Gm} {o : Ms} {N : Nat} {k235 : Ms → Option (Ms)} (C : CM p s m args meth c d g cX9_takeRoles 6 none) (hRm : 3 ≤ R.frames ∧ 71 ≤ R.locals) (hk235 : ∀  (S : Ms) (H : Heap) (locs : List Loc) (ls : Array Slot), k235 S = some o → RM d g S H → va_S (AM g) s.heap H locs → lv_has ls 6 [(0, .ref g.1)] → W p l e R s m args below meth c H locs 0 0 (MQ below (QV d g o) args s 0 0 (AM g)) (F0 m 235 ls [])) : ∀ (n : Nat) (x1 : Int32) (x2 : Int32) (S : Ms) (H : Heap) (locs : List Loc) (ls : Array Slot), lM_takeRoles_2 N k235 n x1 x2 S = some o → RM d g S H → va_S (AM g) s.heap H locs → lv_has ls 6 [(0, .ref g.1), (1, .int x1), (2, .int x2)] → W p l e R s m args below meth c H locs 0 0 (MQ below (QV d g o) args s 0 0 (AM g)) (F0 m 2 ls []) := by
  obtain ⟨hx, hb, hml, hown, hts, hK, hg, hr, hlk⟩ := id C
  intro n
  induction n with
  | zero => intro x1 x2 S H locs ls hf; cases hf
  | succ n ih =>
    intro x1 x2 S H locs ls hf hR hS hl
    rw [lM_takeRoles_2] at hf
    refine lv_iload_n hx hb dX9_takeRoles_2 rfl (lv_at hl 2 rfl) ?_
    refine lv_if_eq (tgt := 235) hx hb dX9_takeRoles_3 (by decide) (fun hc => ?_) (fun hc => ?_)
    · rw [if_pos hc] at hf
      exact hk235 _ _ _ _ hf hR hS (lv_sub hl [0] rfl)
    · rw [if_neg hc] at hf
      refine lv_aload_n hx hb dX9_takeRoles_6 rfl (lv_at hl 0 rfl) ?_
      refine mr_getI C hR fl_281 rfl dX9_takeRoles_7 ?_
      refine lv_if_ne (tgt := 235) hx hb dX9_takeRoles_10 (by decide) (fun hc => ?_) (fun hc => ?_)
      · rw [if_neg hc] at hf
        exact hk235 _ _ _ _ hf hR hS (lv_sub hl [0] rfl)
      · rw [if_pos hc] at hf
        refine lv_aload_n hx hb dX9_takeRoles_13 rfl (lv_at hl 0 rfl) ?_
        refine mr_getR C hR fl_74 (by decide) dX9_takeRoles_14 ?_
        refine lv_iload_n hx hb dX9_takeRoles_17 rfl (lv_at hl 1 rfl) ?_
        obtain ⟨hi, hf⟩ := ck_some hf
        refine mr_iald C hR (k := 23) rfl hi dX9_takeRoles_18 ?_
        refine lv_bipush (v := 6) hx hb dX9_takeRoles_19 (by decide) ?_
        refine lv_icmp_ne (tgt := 81) hx hb dX9_takeRoles_21 (by decide) (fun hc => ?_) (fun hc => ?_)
        · rw [if_neg hc] at hf
          exact (wbM_takeRoles_81 C hRm ih hk235) _ _ _ _ _ hf hR hS (lv_sub hl [0, 1] rfl)
        · rw [if_pos hc] at hf
          refine lv_aload_n hx hb dX9_takeRoles_24 rfl (lv_at hl 0 rfl) ?_
          obtain ⟨o25, ho25, hf⟩ := bnd_some hf
          refine mr_callIv C hR hS (As := []) (rest := []) (MM_isName l d g N  S o25 ho25) wv_337 ⟨by omega, by omega⟩ rfl rfl (Nat.le_of_ble_eq_true rfl) hl.1 dX9_takeRoles_25 ⟨Nat.zero_le _, Nat.zero_le _⟩ (fun H locs hR hS => ?_)
          refine lv_if_eq (tgt := 81) hx hb dX9_takeRoles_28 (by decide) (fun hc => ?_) (fun hc => ?_)
          · rw [if_pos hc] at hf
            exact (wbM_takeRoles_81 C hRm ih hk235) _ _ _ _ _ hf hR hS (lv_sub hl [0, 1] rfl)
          · rw [if_neg hc] at hf
            refine lv_aload_n hx hb dX9_takeRoles_31 rfl (lv_at hl 0 rfl) ?_
            refine lv_aload_n hx hb dX9_takeRoles_32 rfl (lv_at hl 0 rfl) ?_
            refine mr_getR C hR fl_30 (by decide) dX9_takeRoles_33 ?_
            refine lv_aload_n hx hb dX9_takeRoles_36 rfl (lv_at hl 0 rfl) ?_
            refine mr_getI C hR fl_278 rfl dX9_takeRoles_37 ?_
            obtain ⟨hi, hf⟩ := ck_some hf
            refine mr_lald C hR (k := 6) rfl hi dX9_takeRoles_40 ?_
            obtain ⟨o41, ho41, hf⟩ := bnd_some hf
            refine mr_callIv C hR hS (As := [.long (mL o25.2 6 (mF o25.2 7 : Int32).toNatClampNeg)]) (rest := []) (MM_findUnit l d g N (mL o25.2 6 (mF o25.2 7 : Int32).toNatClampNeg) o25.2 o41 ho41) wv_341 ⟨by omega, by omega⟩ rfl rfl (Nat.le_of_ble_eq_true rfl) hl.1 dX9_takeRoles_41 ⟨Nat.zero_le _, Nat.zero_le _⟩ (fun H locs hR hS => ?_)
            refine lv_if_lt (tgt := 81) hx hb dX9_takeRoles_44 (by decide) (fun hc => ?_) (fun hc => ?_)
            · rw [if_pos hc] at hf
              exact (wbM_takeRoles_81 C hRm ih hk235) _ _ _ _ _ hf hR hS (lv_sub hl [0, 1] rfl)
            · rw [if_neg hc] at hf
              refine lv_aload_n hx hb dX9_takeRoles_47 rfl (lv_at hl 0 rfl) ?_
              refine mr_getR C hR fl_64 (by decide) dX9_takeRoles_48 ?_
              refine lv_bipush (v := 24) hx hb dX9_takeRoles_51 (by decide) ?_
              refine lv_aload_n hx hb dX9_takeRoles_53 rfl (lv_at hl 0 rfl) ?_
              refine mr_getI C hR fl_297 rfl dX9_takeRoles_54 ?_
              refine lv_imul hx hb dX9_takeRoles_57 ?_
              refine lv_aload_n hx hb dX9_takeRoles_58 rfl (lv_at hl 0 rfl) ?_
              refine lv_aload_n hx hb dX9_takeRoles_59 rfl (lv_at hl 0 rfl) ?_
              refine mr_getR C hR fl_30 (by decide) dX9_takeRoles_60 ?_
              refine lv_aload_n hx hb dX9_takeRoles_63 rfl (lv_at hl 0 rfl) ?_
              refine mr_getI C hR fl_278 rfl dX9_takeRoles_64 ?_
              obtain ⟨hi, hf⟩ := ck_some hf
              refine mr_lald C hR (k := 6) rfl hi dX9_takeRoles_67 ?_
              obtain ⟨o68, ho68, hf⟩ := bnd_some hf
              refine mr_callIv C hR hS (As := [.long (mL o41.2 6 (mF o41.2 7 : Int32).toNatClampNeg)]) (rest := [.int (24 * (mF o41.2 12)), .ref (g.2 20)]) (MM_findUnit l d g N (mL o41.2 6 (mF o41.2 7 : Int32).toNatClampNeg) o41.2 o68 ho68) wv_341 ⟨by omega, by omega⟩ rfl rfl (Nat.le_of_ble_eq_true rfl) hl.1 dX9_takeRoles_68 ⟨Nat.zero_le _, Nat.zero_le _⟩ (fun H locs hR hS => ?_)
              refine lv_iadd hx hb dX9_takeRoles_71 ?_
              obtain ⟨hi, hf⟩ := ck_some hf
              refine mr_zald C hR (k := 20) rfl hi dX9_takeRoles_72 ?_
              refine lv_if_eq (tgt := 81) hx hb dX9_takeRoles_73 (by decide) (fun hc => ?_) (fun hc => ?_)
              · rw [if_pos hc] at hf
                exact (wbM_takeRoles_81 C hRm ih hk235) _ _ _ _ _ hf hR hS (lv_sub hl [0, 1] rfl)
              · rw [if_neg hc] at hf
                refine lv_aload_n hx hb dX9_takeRoles_76 rfl (lv_at hl 0 rfl) ?_
                refine lv_iconst (v := 5) hx hb dX9_takeRoles_77 (by decide) ?_
                obtain ⟨o78, ho78, hf⟩ := bnd_some hf
                refine mr_callVv C hR hS (As := [.int 5]) (rest := []) (MM_wrong l d g N 5 o68.2 o78 ho78) wv_287 ⟨by omega, by omega⟩ rfl rfl (Nat.le_of_ble_eq_true rfl) hl.1 dX9_takeRoles_78 ⟨Nat.zero_le _, Nat.zero_le _⟩ (fun H locs hR hS => ?_)
                exact (wbM_takeRoles_81 C hRm ih hk235) _ _ _ _ _ hf hR hS (lv_sub hl [0, 1] rfl)
def bM_takeRoles_235 (N : Nat)  (S : Ms) : Option (Ms) := some S
set_option maxRecDepth 100000 in
set_option maxHeartbeats 4000000 in
theorem wbM_takeRoles_235 {p : Program} {l : Launch} {e : Env} {R : Room} {s : State} {m : MethodId} {args : Array Value} {below : List Frame} {meth : Method} {c : Code} {d : Dd} {g : Gm} {o : Ms} {N : Nat} (C : CM p s m args meth c d g cX9_takeRoles 6 none) (hRm : 3 ≤ R.frames ∧ 71 ≤ R.locals)  (S : Ms) (H : Heap) (locs : List Loc) (ls : Array Slot) (hf : bM_takeRoles_235 N  S = some o) (hR : RM d g S H) (hS : va_S (AM g) s.heap H locs) (hl : lv_has ls 6 [(0, .ref g.1)]) : W p l e R s m args below meth c H locs 0 0 (MQ below (QV d g o) args s 0 0 (AM g)) (F0 m 235 ls []) := by
  obtain ⟨hx, hb, hml, hown, hts, hK, hg, hr, hlk⟩ := id C
  unfold bM_takeRoles_235 at hf
  exact mr_vret C hR hS hf dX9_takeRoles_235
def fM_takeRoles (N : Nat) (x1 : Int32) (S : Ms) : Option (Ms) := (lM_takeRoles_2 N (bM_takeRoles_235 N) N) x1 1 S
set_option maxRecDepth 100000 in
set_option maxHeartbeats 4000000 in
theorem wfM_takeRoles {p : Program} {l : Launch} {e : Env} {R : Room} {s : State} {m : MethodId} {args : Array Value} {below : List Frame} {meth : Method} {c : Code} {d : Dd} {g : Gm} {o : Ms} {N : Nat} (C : CM p s m args meth c d g cX9_takeRoles 6 none) (hRm : 3 ≤ R.frames ∧ 71 ≤ R.locals) (x1 : Int32) (S : Ms) (H : Heap) (locs : List Loc) (ls : Array Slot) (hf : fM_takeRoles N x1 S = some o) (hR : RM d g S H) (hS : va_S (AM g) s.heap H locs) (hl : lv_has ls 6 [(0, .ref g.1), (1, .int x1)]) : W p l e R s m args below meth c H locs 0 0 (MQ below (QV d g o) args s 0 0 (AM g)) (F0 m 0 ls []) := by
  obtain ⟨hx, hb, hml, hown, hts, hK, hg, hr, hlk⟩ := id C
  unfold fM_takeRoles at hf
  refine lv_iconst (v := 1) hx hb dX9_takeRoles_0 (by decide) ?_
  refine lv_istore_n (lv' := [(2, .int 1), (0, .ref g.1), (1, .int x1)]) hx hb dX9_takeRoles_1 rfl hl (by decide) rfl (fun ls hl => ?_)
  exact (wlM_takeRoles_2 C hRm (wbM_takeRoles_235 C hRm) N) _ _ _ _ _ _ hf hR hS (lv_sub hl [1, 2, 0] rfl)
theorem MM_takeRoles (l : Launch) (d : Dd) (g : Gm) (N : Nat) (x1 : Int32) (S : Ms) (o : Ms) (hf : fM_takeRoles N x1 S = some o) : MtV l d g yX9_takeRoles cX9_takeRoles 6 3 71 [.ref g.1, .int x1] S o :=
  mr_metV (by decide) rfl (Nat.le_of_ble_eq_true rfl) (fun p e s m args below meth c ls C hR hl => wfM_takeRoles C ⟨Nat.le_refl _, Nat.le_refl _⟩ x1 S s.heap [] ls hf hR va_S.rf hl)
def bM_toldUnit_298 (N : Nat) (r264 : Int32 → Ms → Option (Ms)) (k306 : Int32 → Ms → Option (Ms)) (x2 : Int32) (S : Ms) : Option (Ms) := (fM_item N x2 S).bind fun o300 => r264 x2 o300
set_option maxRecDepth 100000 in
set_option maxHeartbeats 4000000 in
theorem wbM_toldUnit_298 {p : Program} {l : Launch} {e : Env} {R : Room} {s : State} {m : MethodId} {args : Array Value} {below : List Frame} {meth : Method} {c : Code} {d : Dd} {g : Gm} {o : Ms} {N : Nat} {r264 : Int32 → Ms → Option (Ms)} {k306 : Int32 → Ms → Option (Ms)} (C : CM p s m args meth c d g cX9_toldUnit 6 none) (hRm : 152 ≤ R.frames ∧ 8910 ≤ R.locals) (hr264 : ∀ (x2 : Int32) (S : Ms) (H : Heap) (locs : List Loc) (ls : Array Slot), r264 x2 S = some o → RM d g S H → va_S (AM g) s.heap H locs → lv_has ls 6 [(0, .ref g.1), (2, .int x2)] → W p l e R s m args below meth c H locs 0 0 (MQ below (QV d g o) args s 0 0 (AM g)) (F0 m 264 ls [])) (hk306 : ∀ (x2 : Int32) (S : Ms) (H : Heap) (locs : List Loc) (ls : Array Slot), k306 x2 S = some o → RM d g S H → va_S (AM g) s.heap H locs → lv_has ls 6 [(0, .ref g.1), (2, .int x2)] → W p l e R s m args below meth c H locs 0 0 (MQ below (QV d g o) args s 0 0 (AM g)) (F0 m 306 ls [])) (x2 : Int32) (S : Ms) (H : Heap) (locs : List Loc) (ls : Array Slot) (hf : bM_toldUnit_298 N r264 k306 x2 S = some o) (hR : RM d g S H) (hS : va_S (AM g) s.heap H locs) (hl : lv_has ls 6 [(0, .ref g.1), (2, .int x2)]) : W p l e R s m args below meth c H locs 0 0 (MQ below (QV d g o) args s 0 0 (AM g)) (F0 m 298 ls []) := by
  obtain ⟨hx, hb, hml, hown, hts, hK, hg, hr, hlk⟩ := id C
  unfold bM_toldUnit_298 at hf
  refine lv_aload_n hx hb dX9_toldUnit_298 rfl (lv_at hl 0 rfl) ?_
  refine lv_iload_n hx hb dX9_toldUnit_299 rfl (lv_at hl 1 rfl) ?_
  obtain ⟨o300, ho300, hf⟩ := bnd_some hf
  refine mr_callVv C hR hS (As := [.int x2]) (rest := []) (MM_item l d g N x2 S o300 ho300) wv_376 ⟨by omega, by omega⟩ rfl rfl (Nat.le_of_ble_eq_true rfl) hl.1 dX9_toldUnit_300 ⟨Nat.zero_le _, Nat.zero_le _⟩ (fun H locs hR hS => ?_)
  refine lv_goto (tgt := 264) hx hb dX9_toldUnit_303 (by decide) ?_
  exact hr264 _ _ _ _ _ hf hR hS (lv_sub hl [0, 1] rfl)
def lM_toldUnit_264 (N : Nat) (k306 : Int32 → Ms → Option (Ms)) : Nat → Int32 → Ms → Option (Ms)
  | 0, _, _ => none
  | n + 1, x2, S => if (mF S 8) = 0 then ((fM_isSign N 125 S).bind fun o274 => if o274.1 = 0 then (ck x2 48 (if (mA o274.2 20 (x2 : Int32).toNatClampNeg) = 0 then ((bM_toldUnit_298 N (lM_toldUnit_264 N k306 n) k306) x2 o274.2) else ((fM_isWord N 11 o274.2).bind fun o292 => if o292.1 = 0 then ((bM_toldUnit_298 N (lM_toldUnit_264 N k306 n) k306) x2 o292.2) else (k306 x2 o292.2)))) else (k306 x2 o274.2)) else (k306 x2 S)
set_option maxRecDepth 100000 in
set_option maxHeartbeats 4000000 in
theorem wlM_toldUnit_264 {p : Program} {l : Launch} {e : Env} {R : Room} {s : State} {m : MethodId} {args : Array Value} {below : List Frame} {meth : Method} {c : Code} {d : Dd} {g : Gm} {o : Ms} {N : Nat} {k306 : Int32 → Ms → Option (Ms)} (C : CM p s m args meth c d g cX9_toldUnit 6 none) (hRm : 152 ≤ R.frames ∧ 8910 ≤ R.locals) (hk306 : ∀ (x2 : Int32) (S : Ms) (H : Heap) (locs : List Loc) (ls : Array Slot), k306 x2 S = some o → RM d g S H → va_S (AM g) s.heap H locs → lv_has ls 6 [(0, .ref g.1), (2, .int x2)] → W p l e R s m args below meth c H locs 0 0 (MQ below (QV d g o) args s 0 0 (AM g)) (F0 m 306 ls [])) : ∀ (n : Nat) (x2 : Int32) (S : Ms) (H : Heap) (locs : List Loc) (ls : Array Slot), lM_toldUnit_264 N k306 n x2 S = some o → RM d g S H → va_S (AM g) s.heap H locs → lv_has ls 6 [(0, .ref g.1), (2, .int x2)] → W p l e R s m args below meth c H locs 0 0 (MQ below (QV d g o) args s 0 0 (AM g)) (F0 m 264 ls []) := by
  obtain ⟨hx, hb, hml, hown, hts, hK, hg, hr, hlk⟩ := id C
  intro n
  induction n with
  | zero => intro x2 S H locs ls hf; cases hf
  | succ n ih =>
    intro x2 S H locs ls hf hR hS hl
    rw [lM_toldUnit_264] at hf
    refine lv_aload_n hx hb dX9_toldUnit_264 rfl (lv_at hl 0 rfl) ?_
    refine mr_getI C hR fl_281 rfl dX9_toldUnit_265 ?_
    refine lv_if_ne (tgt := 306) hx hb dX9_toldUnit_268 (by decide) (fun hc => ?_) (fun hc => ?_)
    · rw [if_neg hc] at hf
      exact hk306 _ _ _ _ _ hf hR hS (lv_sub hl [0, 1] rfl)
    · rw [if_pos hc] at hf
      refine lv_aload_n hx hb dX9_toldUnit_271 rfl (lv_at hl 0 rfl) ?_
      refine lv_bipush (v := 125) hx hb dX9_toldUnit_272 (by decide) ?_
      obtain ⟨o274, ho274, hf⟩ := bnd_some hf
      refine mr_callIv C hR hS (As := [.int 125]) (rest := []) (MM_isSign l d g N 125 S o274 ho274) wv_284 ⟨by omega, by omega⟩ rfl rfl (Nat.le_of_ble_eq_true rfl) hl.1 dX9_toldUnit_274 ⟨Nat.zero_le _, Nat.zero_le _⟩ (fun H locs hR hS => ?_)
      refine lv_if_ne (tgt := 306) hx hb dX9_toldUnit_277 (by decide) (fun hc => ?_) (fun hc => ?_)
      · rw [if_neg hc] at hf
        exact hk306 _ _ _ _ _ hf hR hS (lv_sub hl [0, 1] rfl)
      · rw [if_pos hc] at hf
        refine lv_aload_n hx hb dX9_toldUnit_280 rfl (lv_at hl 0 rfl) ?_
        refine mr_getR C hR fl_64 (by decide) dX9_toldUnit_281 ?_
        refine lv_iload_n hx hb dX9_toldUnit_284 rfl (lv_at hl 1 rfl) ?_
        obtain ⟨hi, hf⟩ := ck_some hf
        refine mr_zald C hR (k := 20) rfl hi dX9_toldUnit_285 ?_
        refine lv_if_eq (tgt := 298) hx hb dX9_toldUnit_286 (by decide) (fun hc => ?_) (fun hc => ?_)
        · rw [if_pos hc] at hf
          exact (wbM_toldUnit_298 C hRm ih hk306) _ _ _ _ _ hf hR hS (lv_sub hl [0, 1] rfl)
        · rw [if_neg hc] at hf
          refine lv_aload_n hx hb dX9_toldUnit_289 rfl (lv_at hl 0 rfl) ?_
          refine lv_bipush (v := 11) hx hb dX9_toldUnit_290 (by decide) ?_
          obtain ⟨o292, ho292, hf⟩ := bnd_some hf
          refine mr_callIv C hR hS (As := [.int 11]) (rest := []) (MM_isWord l d g N 11 o274.2 o292 ho292) wv_291 ⟨by omega, by omega⟩ rfl rfl (Nat.le_of_ble_eq_true rfl) hl.1 dX9_toldUnit_292 ⟨Nat.zero_le _, Nat.zero_le _⟩ (fun H locs hR hS => ?_)
          refine lv_if_ne (tgt := 306) hx hb dX9_toldUnit_295 (by decide) (fun hc => ?_) (fun hc => ?_)
          · rw [if_neg hc] at hf
            exact hk306 _ _ _ _ _ hf hR hS (lv_sub hl [0, 1] rfl)
          · rw [if_pos hc] at hf
            exact (wbM_toldUnit_298 C hRm ih hk306) _ _ _ _ _ hf hR hS (lv_sub hl [0, 1] rfl)
def lM_toldUnit_394 (N : Nat) (k434 : Ms → Option (Ms)) : Nat → Int32 → Int32 → Ms → Option (Ms)
  | 0, _, _, _ => none
  | n + 1, x2, x5, S => ck x2 48 (if (mA S 23 (x2 : Int32).toNatClampNeg) ≤ x5 then (k434 S) else (ck ((6 * x2) + x5) 288 (ck ((24 * x2) + (mA S 24 ((6 * x2) + x5 : Int32).toNatClampNeg)) 1152 (lM_toldUnit_394 N k434 n x2 (x5 + 1) (pA S 34 ((24 * x2) + (mA S 24 ((6 * x2) + x5 : Int32).toNatClampNeg) : Int32).toNatClampNeg (vp_nar .boolean 1))))))
set_option maxRecDepth 100000 in
set_option maxHeartbeats 4000000 in
theorem wlM_toldUnit_394 {p : Program} {l : Launch} {e : Env} {R : Room} {s : State} {m : MethodId} {args : Array Value} {below : List Frame} {meth : Method} {c : Code} {d : Dd} {g : Gm} {o : Ms} {N : Nat} {k434 : Ms → Option (Ms)} (C : CM p s m args meth c d g cX9_toldUnit 6 none) (hRm : 152 ≤ R.frames ∧ 8910 ≤ R.locals) (hk434 : ∀  (S : Ms) (H : Heap) (locs : List Loc) (ls : Array Slot), k434 S = some o → RM d g S H → va_S (AM g) s.heap H locs → lv_has ls 6 [(0, .ref g.1)] → W p l e R s m args below meth c H locs 0 0 (MQ below (QV d g o) args s 0 0 (AM g)) (F0 m 434 ls [])) : ∀ (n : Nat) (x2 : Int32) (x5 : Int32) (S : Ms) (H : Heap) (locs : List Loc) (ls : Array Slot), lM_toldUnit_394 N k434 n x2 x5 S = some o → RM d g S H → va_S (AM g) s.heap H locs → lv_has ls 6 [(0, .ref g.1), (2, .int x2), (5, .int x5)] → W p l e R s m args below meth c H locs 0 0 (MQ below (QV d g o) args s 0 0 (AM g)) (F0 m 394 ls []) := by
  obtain ⟨hx, hb, hml, hown, hts, hK, hg, hr, hlk⟩ := id C
  intro n
  induction n with
  | zero => intro x2 x5 S H locs ls hf; cases hf
  | succ n ih =>
    intro x2 x5 S H locs ls hf hR hS hl
    rw [lM_toldUnit_394] at hf
    refine lv_iload hx hb dX9_toldUnit_394 (lv_at hl 2 rfl) ?_
    refine lv_aload_n hx hb dX9_toldUnit_396 rfl (lv_at hl 0 rfl) ?_
    refine mr_getR C hR fl_74 (by decide) dX9_toldUnit_397 ?_
    refine lv_iload_n hx hb dX9_toldUnit_400 rfl (lv_at hl 1 rfl) ?_
    obtain ⟨hi, hf⟩ := ck_some hf
    refine mr_iald C hR (k := 23) rfl hi dX9_toldUnit_401 ?_
    refine lv_icmp_ge (tgt := 434) hx hb dX9_toldUnit_402 (by decide) (fun hc => ?_) (fun hc => ?_)
    · rw [if_pos hc] at hf
      exact hk434 _ _ _ _ hf hR hS (lv_sub hl [0] rfl)
    · rw [if_neg hc] at hf
      refine lv_aload_n hx hb dX9_toldUnit_405 rfl (lv_at hl 0 rfl) ?_
      refine mr_getR C hR fl_107 (by decide) dX9_toldUnit_406 ?_
      refine lv_bipush (v := 24) hx hb dX9_toldUnit_409 (by decide) ?_
      refine lv_iload_n hx hb dX9_toldUnit_411 rfl (lv_at hl 1 rfl) ?_
      refine lv_imul hx hb dX9_toldUnit_412 ?_
      refine lv_aload_n hx hb dX9_toldUnit_413 rfl (lv_at hl 0 rfl) ?_
      refine mr_getR C hR fl_77 (by decide) dX9_toldUnit_414 ?_
      refine lv_bipush (v := 6) hx hb dX9_toldUnit_417 (by decide) ?_
      refine lv_iload_n hx hb dX9_toldUnit_419 rfl (lv_at hl 1 rfl) ?_
      refine lv_imul hx hb dX9_toldUnit_420 ?_
      refine lv_iload hx hb dX9_toldUnit_421 (lv_at hl 2 rfl) ?_
      refine lv_iadd hx hb dX9_toldUnit_423 ?_
      obtain ⟨hi, hf⟩ := ck_some hf
      refine mr_iald C hR (k := 24) rfl hi dX9_toldUnit_424 ?_
      refine lv_iadd hx hb dX9_toldUnit_425 ?_
      refine lv_iconst (v := 1) hx hb dX9_toldUnit_426 (by decide) ?_
      obtain ⟨hi, hf⟩ := ck_some hf
      refine mr_zast C hR hS (k := 34) rfl hi dX9_toldUnit_427 (fun H locs hR hS => ?_)
      refine lv_iinc (v := x5 + 1) (lv' := [(5, .int (x5 + 1)), (0, .ref g.1), (2, .int x2)]) hx hb dX9_toldUnit_428 hl (k := 2) rfl rfl (by decide) rfl (fun ls hl => ?_)
      refine lv_goto (tgt := 394) hx hb dX9_toldUnit_431 (by decide) ?_
      exact ih _ _ _ _ _ _ hf hR hS (lv_sub hl [1, 2, 0] rfl)
def bM_toldUnit_434 (N : Nat)  (S : Ms) : Option (Ms) := some S
set_option maxRecDepth 100000 in
set_option maxHeartbeats 4000000 in
theorem wbM_toldUnit_434 {p : Program} {l : Launch} {e : Env} {R : Room} {s : State} {m : MethodId} {args : Array Value} {below : List Frame} {meth : Method} {c : Code} {d : Dd} {g : Gm} {o : Ms} {N : Nat} (C : CM p s m args meth c d g cX9_toldUnit 6 none) (hRm : 152 ≤ R.frames ∧ 8910 ≤ R.locals)  (S : Ms) (H : Heap) (locs : List Loc) (ls : Array Slot) (hf : bM_toldUnit_434 N  S = some o) (hR : RM d g S H) (hS : va_S (AM g) s.heap H locs) (hl : lv_has ls 6 [(0, .ref g.1)]) : W p l e R s m args below meth c H locs 0 0 (MQ below (QV d g o) args s 0 0 (AM g)) (F0 m 434 ls []) := by
  obtain ⟨hx, hb, hml, hown, hts, hK, hg, hr, hlk⟩ := id C
  unfold bM_toldUnit_434 at hf
  exact mr_vret C hR hS hf dX9_toldUnit_434
def bM_toldUnit_391 (N : Nat) (x2 : Int32) (S : Ms) : Option (Ms) := (lM_toldUnit_394 N (bM_toldUnit_434 N) N) x2 0 S
set_option maxRecDepth 100000 in
set_option maxHeartbeats 4000000 in
theorem wbM_toldUnit_391 {p : Program} {l : Launch} {e : Env} {R : Room} {s : State} {m : MethodId} {args : Array Value} {below : List Frame} {meth : Method} {c : Code} {d : Dd} {g : Gm} {o : Ms} {N : Nat} (C : CM p s m args meth c d g cX9_toldUnit 6 none) (hRm : 152 ≤ R.frames ∧ 8910 ≤ R.locals) (x2 : Int32) (S : Ms) (H : Heap) (locs : List Loc) (ls : Array Slot) (hf : bM_toldUnit_391 N x2 S = some o) (hR : RM d g S H) (hS : va_S (AM g) s.heap H locs) (hl : lv_has ls 6 [(0, .ref g.1), (2, .int x2)]) : W p l e R s m args below meth c H locs 0 0 (MQ below (QV d g o) args s 0 0 (AM g)) (F0 m 391 ls []) := by
  obtain ⟨hx, hb, hml, hown, hts, hK, hg, hr, hlk⟩ := id C
  unfold bM_toldUnit_391 at hf
  refine lv_iconst (v := 0) hx hb dX9_toldUnit_391 (by decide) ?_
  refine lv_istore (lv' := [(5, .int 0), (0, .ref g.1), (2, .int x2)]) hx hb dX9_toldUnit_392 hl (by decide) rfl (fun ls hl => ?_)
  exact (wlM_toldUnit_394 C hRm (wbM_toldUnit_434 C hRm) N) _ _ _ _ _ _ hf hR hS (lv_sub hl [1, 2, 0] rfl)
def bM_toldUnit_359 (N : Nat) (x2 : Int32) (S : Ms) : Option (Ms) := (fM_takeSign N 125 S).bind fun o362 => ck x2 48 (if (mA o362 22 (x2 : Int32).toNatClampNeg) < 0 then ((bM_toldUnit_391 N) x2 o362) else (ck x2 48 (ck ((24 * x2) + (mA o362 22 (x2 : Int32).toNatClampNeg)) 1152 ((bM_toldUnit_391 N) x2 (pA o362 34 ((24 * x2) + (mA o362 22 (x2 : Int32).toNatClampNeg) : Int32).toNatClampNeg (vp_nar .boolean 1))))))
set_option maxRecDepth 100000 in
set_option maxHeartbeats 4000000 in
theorem wbM_toldUnit_359 {p : Program} {l : Launch} {e : Env} {R : Room} {s : State} {m : MethodId} {args : Array Value} {below : List Frame} {meth : Method} {c : Code} {d : Dd} {g : Gm} {o : Ms} {N : Nat} (C : CM p s m args meth c d g cX9_toldUnit 6 none) (hRm : 152 ≤ R.frames ∧ 8910 ≤ R.locals) (x2 : Int32) (S : Ms) (H : Heap) (locs : List Loc) (ls : Array Slot) (hf : bM_toldUnit_359 N x2 S = some o) (hR : RM d g S H) (hS : va_S (AM g) s.heap H locs) (hl : lv_has ls 6 [(0, .ref g.1), (2, .int x2)]) : W p l e R s m args below meth c H locs 0 0 (MQ below (QV d g o) args s 0 0 (AM g)) (F0 m 359 ls []) := by
  obtain ⟨hx, hb, hml, hown, hts, hK, hg, hr, hlk⟩ := id C
  unfold bM_toldUnit_359 at hf
  refine lv_aload_n hx hb dX9_toldUnit_359 rfl (lv_at hl 0 rfl) ?_
  refine lv_bipush (v := 125) hx hb dX9_toldUnit_360 (by decide) ?_
  obtain ⟨o362, ho362, hf⟩ := bnd_some hf
  refine mr_callVv C hR hS (As := [.int 125]) (rest := []) (MM_takeSign l d g N 125 S o362 ho362) wv_357 ⟨by omega, by omega⟩ rfl rfl (Nat.le_of_ble_eq_true rfl) hl.1 dX9_toldUnit_362 ⟨Nat.zero_le _, Nat.zero_le _⟩ (fun H locs hR hS => ?_)
  refine lv_aload_n hx hb dX9_toldUnit_365 rfl (lv_at hl 0 rfl) ?_
  refine mr_getR C hR fl_71 (by decide) dX9_toldUnit_366 ?_
  refine lv_iload_n hx hb dX9_toldUnit_369 rfl (lv_at hl 1 rfl) ?_
  obtain ⟨hi, hf⟩ := ck_some hf
  refine mr_iald C hR (k := 22) rfl hi dX9_toldUnit_370 ?_
  refine lv_if_lt (tgt := 391) hx hb dX9_toldUnit_371 (by decide) (fun hc => ?_) (fun hc => ?_)
  · rw [if_pos hc] at hf
    exact (wbM_toldUnit_391 C hRm) _ _ _ _ _ hf hR hS (lv_sub hl [0, 1] rfl)
  · rw [if_neg hc] at hf
    refine lv_aload_n hx hb dX9_toldUnit_374 rfl (lv_at hl 0 rfl) ?_
    refine mr_getR C hR fl_107 (by decide) dX9_toldUnit_375 ?_
    refine lv_bipush (v := 24) hx hb dX9_toldUnit_378 (by decide) ?_
    refine lv_iload_n hx hb dX9_toldUnit_380 rfl (lv_at hl 1 rfl) ?_
    refine lv_imul hx hb dX9_toldUnit_381 ?_
    refine lv_aload_n hx hb dX9_toldUnit_382 rfl (lv_at hl 0 rfl) ?_
    refine mr_getR C hR fl_71 (by decide) dX9_toldUnit_383 ?_
    refine lv_iload_n hx hb dX9_toldUnit_386 rfl (lv_at hl 1 rfl) ?_
    obtain ⟨hi, hf⟩ := ck_some hf
    refine mr_iald C hR (k := 22) rfl hi dX9_toldUnit_387 ?_
    refine lv_iadd hx hb dX9_toldUnit_388 ?_
    refine lv_iconst (v := 1) hx hb dX9_toldUnit_389 (by decide) ?_
    obtain ⟨hi, hf⟩ := ck_some hf
    refine mr_zast C hR hS (k := 34) rfl hi dX9_toldUnit_390 (fun H locs hR hS => ?_)
    exact (wbM_toldUnit_391 C hRm) _ _ _ _ _ hf hR hS (lv_sub hl [0, 1] rfl)
def bM_toldUnit_306 (N : Nat) (x2 : Int32) (S : Ms) : Option (Ms) := (fM_emit N 0 0 0 S).bind fun o310 => ck x2 48 (if (mA o310.2 20 (x2 : Int32).toNatClampNeg) = 0 then ((bM_toldUnit_359 N) x2 o310.2) else ((fM_hasWord N 11 o310.2).bind fun o326 => if o326.1 = 0 then ((bM_toldUnit_359 N) x2 o326.2) else (ck x2 48 ((fG_block N  (pA o326.2 33 (x2 : Int32).toNatClampNeg ((mF o326.2 42) + (mF o326.2 38)))).bind fun o348 => (fM_emit N 0 0 0 o348).bind fun o355 => (bM_toldUnit_359 N) x2 o355.2))))
set_option maxRecDepth 100000 in
set_option maxHeartbeats 4000000 in
theorem wbM_toldUnit_306 {p : Program} {l : Launch} {e : Env} {R : Room} {s : State} {m : MethodId} {args : Array Value} {below : List Frame} {meth : Method} {c : Code} {d : Dd} {g : Gm} {o : Ms} {N : Nat} (C : CM p s m args meth c d g cX9_toldUnit 6 none) (hRm : 152 ≤ R.frames ∧ 8910 ≤ R.locals) (x2 : Int32) (S : Ms) (H : Heap) (locs : List Loc) (ls : Array Slot) (hf : bM_toldUnit_306 N x2 S = some o) (hR : RM d g S H) (hS : va_S (AM g) s.heap H locs) (hl : lv_has ls 6 [(0, .ref g.1), (2, .int x2)]) : W p l e R s m args below meth c H locs 0 0 (MQ below (QV d g o) args s 0 0 (AM g)) (F0 m 306 ls []) := by
  obtain ⟨hx, hb, hml, hown, hts, hK, hg, hr, hlk⟩ := id C
  unfold bM_toldUnit_306 at hf
  refine lv_aload_n hx hb dX9_toldUnit_306 rfl (lv_at hl 0 rfl) ?_
  refine lv_iconst (v := 0) hx hb dX9_toldUnit_307 (by decide) ?_
  refine lv_iconst (v := 0) hx hb dX9_toldUnit_308 (by decide) ?_
  refine lv_iconst (v := 0) hx hb dX9_toldUnit_309 (by decide) ?_
  obtain ⟨o310, ho310, hf⟩ := bnd_some hf
  refine mr_callIv C hR hS (As := [.int 0, .int 0, .int 0]) (rest := []) (MM_emit l d g N 0 0 0 S o310 ho310) wv_379 ⟨by omega, by omega⟩ rfl rfl (Nat.le_of_ble_eq_true rfl) hl.1 dX9_toldUnit_310 ⟨Nat.zero_le _, Nat.zero_le _⟩ (fun H locs hR hS => ?_)
  refine lv_pop hx hb dX9_toldUnit_313 rfl ?_
  refine lv_aload_n hx hb dX9_toldUnit_314 rfl (lv_at hl 0 rfl) ?_
  refine mr_getR C hR fl_64 (by decide) dX9_toldUnit_315 ?_
  refine lv_iload_n hx hb dX9_toldUnit_318 rfl (lv_at hl 1 rfl) ?_
  obtain ⟨hi, hf⟩ := ck_some hf
  refine mr_zald C hR (k := 20) rfl hi dX9_toldUnit_319 ?_
  refine lv_if_eq (tgt := 359) hx hb dX9_toldUnit_320 (by decide) (fun hc => ?_) (fun hc => ?_)
  · rw [if_pos hc] at hf
    exact (wbM_toldUnit_359 C hRm) _ _ _ _ _ hf hR hS (lv_sub hl [0, 1] rfl)
  · rw [if_neg hc] at hf
    refine lv_aload_n hx hb dX9_toldUnit_323 rfl (lv_at hl 0 rfl) ?_
    refine lv_bipush (v := 11) hx hb dX9_toldUnit_324 (by decide) ?_
    obtain ⟨o326, ho326, hf⟩ := bnd_some hf
    refine mr_callIv C hR hS (As := [.int 11]) (rest := []) (MM_hasWord l d g N 11 o310.2 o326 ho326) wv_294 ⟨by omega, by omega⟩ rfl rfl (Nat.le_of_ble_eq_true rfl) hl.1 dX9_toldUnit_326 ⟨Nat.zero_le _, Nat.zero_le _⟩ (fun H locs hR hS => ?_)
    refine lv_if_eq (tgt := 359) hx hb dX9_toldUnit_329 (by decide) (fun hc => ?_) (fun hc => ?_)
    · rw [if_pos hc] at hf
      exact (wbM_toldUnit_359 C hRm) _ _ _ _ _ hf hR hS (lv_sub hl [0, 1] rfl)
    · rw [if_neg hc] at hf
      refine lv_aload_n hx hb dX9_toldUnit_332 rfl (lv_at hl 0 rfl) ?_
      refine mr_getR C hR fl_104 (by decide) dX9_toldUnit_333 ?_
      refine lv_iload_n hx hb dX9_toldUnit_336 rfl (lv_at hl 1 rfl) ?_
      refine lv_aload_n hx hb dX9_toldUnit_337 rfl (lv_at hl 0 rfl) ?_
      refine mr_getI C hR fl_313 rfl dX9_toldUnit_338 ?_
      refine lv_aload_n hx hb dX9_toldUnit_341 rfl (lv_at hl 0 rfl) ?_
      refine mr_getI C hR fl_310 rfl dX9_toldUnit_342 ?_
      refine lv_iadd hx hb dX9_toldUnit_345 ?_
      obtain ⟨hi, hf⟩ := ck_some hf
      refine mr_iast C hR hS (k := 33) rfl hi dX9_toldUnit_346 (fun H locs hR hS => ?_)
      refine lv_aload_n hx hb dX9_toldUnit_347 rfl (lv_at hl 0 rfl) ?_
      obtain ⟨o348, ho348, hf⟩ := bnd_some hf
      refine mr_callVv C hR hS (As := []) (rest := []) (MG_block l d g N  (pA o326.2 33 (x2 : Int32).toNatClampNeg ((mF o326.2 42) + (mF o326.2 38))) o348 ho348) wv_383 ⟨by omega, by omega⟩ rfl rfl (Nat.le_of_ble_eq_true rfl) hl.1 dX9_toldUnit_348 ⟨Nat.zero_le _, Nat.zero_le _⟩ (fun H locs hR hS => ?_)
      refine lv_aload_n hx hb dX9_toldUnit_351 rfl (lv_at hl 0 rfl) ?_
      refine lv_iconst (v := 0) hx hb dX9_toldUnit_352 (by decide) ?_
      refine lv_iconst (v := 0) hx hb dX9_toldUnit_353 (by decide) ?_
      refine lv_iconst (v := 0) hx hb dX9_toldUnit_354 (by decide) ?_
      obtain ⟨o355, ho355, hf⟩ := bnd_some hf
      refine mr_callIv C hR hS (As := [.int 0, .int 0, .int 0]) (rest := []) (MM_emit l d g N 0 0 0 o348 o355 ho355) wv_379 ⟨by omega, by omega⟩ rfl rfl (Nat.le_of_ble_eq_true rfl) hl.1 dX9_toldUnit_355 ⟨Nat.zero_le _, Nat.zero_le _⟩ (fun H locs hR hS => ?_)
      refine lv_pop hx hb dX9_toldUnit_358 rfl ?_
      exact (wbM_toldUnit_359 C hRm) _ _ _ _ _ hf hR hS (lv_sub hl [0, 1] rfl)
def bM_toldUnit_205 (N : Nat) (x1 : Int32) (x2 : Int32) (x3 : Int64) (S : Ms) : Option (Ms) := if (mF S 8) ≤ 0 then (ck x2 48 (ck (mF (pL S 19 (x2 : Int32).toNatClampNeg x3) 12) 2 (ck (mF (pL S 19 (x2 : Int32).toNatClampNeg x3) 12) 2 (ck x2 48 ((fM_takeSign N 123 (pA (pF (pF (pA (pL S 19 (x2 : Int32).toNatClampNeg x3) 18 (mF (pL S 19 (x2 : Int32).toNatClampNeg x3) 12 : Int32).toNatClampNeg ((mA (pL S 19 (x2 : Int32).toNatClampNeg x3) 18 (mF (pL S 19 (x2 : Int32).toNatClampNeg x3) 12 : Int32).toNatClampNeg) + 1)) 49 x1) 50 0) 32 (x2 : Int32).toNatClampNeg ((mF (pF (pF (pA (pL S 19 (x2 : Int32).toNatClampNeg x3) 18 (mF (pL S 19 (x2 : Int32).toNatClampNeg x3) 12 : Int32).toNatClampNeg ((mA (pL S 19 (x2 : Int32).toNatClampNeg x3) 18 (mF (pL S 19 (x2 : Int32).toNatClampNeg x3) 12 : Int32).toNatClampNeg) + 1)) 49 x1) 50 0) 42) + (mF (pF (pF (pA (pL S 19 (x2 : Int32).toNatClampNeg x3) 18 (mF (pL S 19 (x2 : Int32).toNatClampNeg x3) 12 : Int32).toNatClampNeg ((mA (pL S 19 (x2 : Int32).toNatClampNeg x3) 18 (mF (pL S 19 (x2 : Int32).toNatClampNeg x3) 12 : Int32).toNatClampNeg) + 1)) 49 x1) 50 0) 38)))).bind fun o261 => (lM_toldUnit_264 N (bM_toldUnit_306 N) N) x2 o261))))) else (some S)
set_option maxRecDepth 100000 in
set_option maxHeartbeats 4000000 in
theorem wbM_toldUnit_205 {p : Program} {l : Launch} {e : Env} {R : Room} {s : State} {m : MethodId} {args : Array Value} {below : List Frame} {meth : Method} {c : Code} {d : Dd} {g : Gm} {o : Ms} {N : Nat} (C : CM p s m args meth c d g cX9_toldUnit 6 none) (hRm : 152 ≤ R.frames ∧ 8910 ≤ R.locals) (x1 : Int32) (x2 : Int32) (x3 : Int64) (S : Ms) (H : Heap) (locs : List Loc) (ls : Array Slot) (hf : bM_toldUnit_205 N x1 x2 x3 S = some o) (hR : RM d g S H) (hS : va_S (AM g) s.heap H locs) (hl : lv_has ls 6 [(0, .ref g.1), (1, .int x1), (2, .int x2), (3, .long x3)]) : W p l e R s m args below meth c H locs 0 0 (MQ below (QV d g o) args s 0 0 (AM g)) (F0 m 205 ls []) := by
  obtain ⟨hx, hb, hml, hown, hts, hK, hg, hr, hlk⟩ := id C
  unfold bM_toldUnit_205 at hf
  refine lv_aload_n hx hb dX9_toldUnit_205 rfl (lv_at hl 0 rfl) ?_
  refine mr_getI C hR fl_281 rfl dX9_toldUnit_206 ?_
  refine lv_if_le (tgt := 213) hx hb dX9_toldUnit_209 (by decide) (fun hc => ?_) (fun hc => ?_)
  · rw [if_pos hc] at hf
    refine lv_aload_n hx hb dX9_toldUnit_213 rfl (lv_at hl 0 rfl) ?_
    refine mr_getR C hR fl_61 (by decide) dX9_toldUnit_214 ?_
    refine lv_iload_n hx hb dX9_toldUnit_217 rfl (lv_at hl 2 rfl) ?_
    refine lv_lload_n hx hb dX9_toldUnit_218 rfl (lv_at hl 3 rfl) ?_
    obtain ⟨hi, hf⟩ := ck_some hf
    refine mr_last C hR hS (k := 19) rfl hi dX9_toldUnit_219 (fun H locs hR hS => ?_)
    refine lv_aload_n hx hb dX9_toldUnit_220 rfl (lv_at hl 0 rfl) ?_
    refine mr_getR C hR fl_58 (by decide) dX9_toldUnit_221 ?_
    refine lv_aload_n hx hb dX9_toldUnit_224 rfl (lv_at hl 0 rfl) ?_
    refine mr_getI C hR fl_297 rfl dX9_toldUnit_225 ?_
    refine lv_dup2_11 hx hb dX9_toldUnit_228 rfl rfl ?_
    obtain ⟨hi, hf⟩ := ck_some hf
    refine mr_iald C hR (k := 18) rfl hi dX9_toldUnit_229 ?_
    refine lv_iconst (v := 1) hx hb dX9_toldUnit_230 (by decide) ?_
    refine lv_iadd hx hb dX9_toldUnit_231 ?_
    obtain ⟨hi, hf⟩ := ck_some hf
    refine mr_iast C hR hS (k := 18) rfl hi dX9_toldUnit_232 (fun H locs hR hS => ?_)
    refine lv_aload_n hx hb dX9_toldUnit_233 rfl (lv_at hl 0 rfl) ?_
    refine lv_iload_n hx hb dX9_toldUnit_234 rfl (lv_at hl 1 rfl) ?_
    refine mr_putI C hR hS fl_370 ⟨rfl, rfl, rfl⟩ dX9_toldUnit_235 (fun H locs hR hS => ?_)
    refine lv_aload_n hx hb dX9_toldUnit_238 rfl (lv_at hl 0 rfl) ?_
    refine lv_iconst (v := 0) hx hb dX9_toldUnit_239 (by decide) ?_
    refine mr_putI C hR hS fl_373 ⟨rfl, rfl, rfl⟩ dX9_toldUnit_240 (fun H locs hR hS => ?_)
    refine lv_aload_n hx hb dX9_toldUnit_243 rfl (lv_at hl 0 rfl) ?_
    refine mr_getR C hR fl_101 (by decide) dX9_toldUnit_244 ?_
    refine lv_iload_n hx hb dX9_toldUnit_247 rfl (lv_at hl 2 rfl) ?_
    refine lv_aload_n hx hb dX9_toldUnit_248 rfl (lv_at hl 0 rfl) ?_
    refine mr_getI C hR fl_313 rfl dX9_toldUnit_249 ?_
    refine lv_aload_n hx hb dX9_toldUnit_252 rfl (lv_at hl 0 rfl) ?_
    refine mr_getI C hR fl_310 rfl dX9_toldUnit_253 ?_
    refine lv_iadd hx hb dX9_toldUnit_256 ?_
    obtain ⟨hi, hf⟩ := ck_some hf
    refine mr_iast C hR hS (k := 32) rfl hi dX9_toldUnit_257 (fun H locs hR hS => ?_)
    refine lv_aload_n hx hb dX9_toldUnit_258 rfl (lv_at hl 0 rfl) ?_
    refine lv_bipush (v := 123) hx hb dX9_toldUnit_259 (by decide) ?_
    obtain ⟨o261, ho261, hf⟩ := bnd_some hf
    refine mr_callVv C hR hS (As := [.int 123]) (rest := []) (MM_takeSign l d g N 123 (pA (pF (pF (pA (pL S 19 (x2 : Int32).toNatClampNeg x3) 18 (mF (pL S 19 (x2 : Int32).toNatClampNeg x3) 12 : Int32).toNatClampNeg ((mA (pL S 19 (x2 : Int32).toNatClampNeg x3) 18 (mF (pL S 19 (x2 : Int32).toNatClampNeg x3) 12 : Int32).toNatClampNeg) + 1)) 49 x1) 50 0) 32 (x2 : Int32).toNatClampNeg ((mF (pF (pF (pA (pL S 19 (x2 : Int32).toNatClampNeg x3) 18 (mF (pL S 19 (x2 : Int32).toNatClampNeg x3) 12 : Int32).toNatClampNeg ((mA (pL S 19 (x2 : Int32).toNatClampNeg x3) 18 (mF (pL S 19 (x2 : Int32).toNatClampNeg x3) 12 : Int32).toNatClampNeg) + 1)) 49 x1) 50 0) 42) + (mF (pF (pF (pA (pL S 19 (x2 : Int32).toNatClampNeg x3) 18 (mF (pL S 19 (x2 : Int32).toNatClampNeg x3) 12 : Int32).toNatClampNeg ((mA (pL S 19 (x2 : Int32).toNatClampNeg x3) 18 (mF (pL S 19 (x2 : Int32).toNatClampNeg x3) 12 : Int32).toNatClampNeg) + 1)) 49 x1) 50 0) 38))) o261 ho261) wv_357 ⟨by omega, by omega⟩ rfl rfl (Nat.le_of_ble_eq_true rfl) hl.1 dX9_toldUnit_261 ⟨Nat.zero_le _, Nat.zero_le _⟩ (fun H locs hR hS => ?_)
    exact (wlM_toldUnit_264 C hRm (wbM_toldUnit_306 C hRm) N) _ _ _ _ _ hf hR hS (lv_sub hl [0, 2] rfl)
  · rw [if_neg hc] at hf
    exact mr_vret C hR hS hf dX9_toldUnit_212
def bM_toldUnit_194 (N : Nat) (x1 : Int32) (x2 : Int32) (x3 : Int64) (s1 : Int32) (S : Ms) : Option (Ms) := (fM_hasWord N s1 S).bind fun o194 => if o194.1 = 0 then ((bM_toldUnit_205 N) x1 x2 x3 o194.2) else ((fM_takeRoles N x2 o194.2).bind fun o202 => (bM_toldUnit_205 N) x1 x2 x3 o202)
set_option maxRecDepth 100000 in
set_option maxHeartbeats 4000000 in
theorem wbM_toldUnit_194 {p : Program} {l : Launch} {e : Env} {R : Room} {s : State} {m : MethodId} {args : Array Value} {below : List Frame} {meth : Method} {c : Code} {d : Dd} {g : Gm} {o : Ms} {N : Nat} (C : CM p s m args meth c d g cX9_toldUnit 6 none) (hRm : 152 ≤ R.frames ∧ 8910 ≤ R.locals) (x1 : Int32) (x2 : Int32) (x3 : Int64) (s1 : Int32) (S : Ms) (H : Heap) (locs : List Loc) (ls : Array Slot) (hf : bM_toldUnit_194 N x1 x2 x3 s1 S = some o) (hR : RM d g S H) (hS : va_S (AM g) s.heap H locs) (hl : lv_has ls 6 [(0, .ref g.1), (1, .int x1), (2, .int x2), (3, .long x3)]) : W p l e R s m args below meth c H locs 0 0 (MQ below (QV d g o) args s 0 0 (AM g)) (F0 m 194 ls [.int s1, .ref g.1]) := by
  obtain ⟨hx, hb, hml, hown, hts, hK, hg, hr, hlk⟩ := id C
  unfold bM_toldUnit_194 at hf
  obtain ⟨o194, ho194, hf⟩ := bnd_some hf
  refine mr_callIv C hR hS (As := [.int s1]) (rest := []) (MM_hasWord l d g N s1 S o194 ho194) wv_294 ⟨by omega, by omega⟩ rfl rfl (Nat.le_of_ble_eq_true rfl) hl.1 dX9_toldUnit_194 ⟨Nat.zero_le _, Nat.zero_le _⟩ (fun H locs hR hS => ?_)
  refine lv_if_eq (tgt := 205) hx hb dX9_toldUnit_197 (by decide) (fun hc => ?_) (fun hc => ?_)
  · rw [if_pos hc] at hf
    exact (wbM_toldUnit_205 C hRm) _ _ _ _ _ _ _ hf hR hS (lv_sub hl [0, 1, 2, 3] rfl)
  · rw [if_neg hc] at hf
    refine lv_aload_n hx hb dX9_toldUnit_200 rfl (lv_at hl 0 rfl) ?_
    refine lv_iload_n hx hb dX9_toldUnit_201 rfl (lv_at hl 2 rfl) ?_
    obtain ⟨o202, ho202, hf⟩ := bnd_some hf
    refine mr_callVv C hR hS (As := [.int x2]) (rest := []) (MM_takeRoles l d g N x2 o194.2 o202 ho202) wv_367 ⟨by omega, by omega⟩ rfl rfl (Nat.le_of_ble_eq_true rfl) hl.1 dX9_toldUnit_202 ⟨Nat.zero_le _, Nat.zero_le _⟩ (fun H locs hR hS => ?_)
    exact (wbM_toldUnit_205 C hRm) _ _ _ _ _ _ _ hf hR hS (lv_sub hl [0, 1, 2, 3] rfl)
def bM_toldUnit_177 (N : Nat) (x1 : Int32) (x2 : Int32) (x3 : Int64) (S : Ms) : Option (Ms) := ck x2 48 (if (mA S 20 (x2 : Int32).toNatClampNeg) = 0 then ((bM_toldUnit_194 N) x1 x2 x3 6 S) else ((bM_toldUnit_194 N) x1 x2 x3 9 S))
set_option maxRecDepth 100000 in
set_option maxHeartbeats 4000000 in
theorem wbM_toldUnit_177 {p : Program} {l : Launch} {e : Env} {R : Room} {s : State} {m : MethodId} {args : Array Value} {below : List Frame} {meth : Method} {c : Code} {d : Dd} {g : Gm} {o : Ms} {N : Nat} (C : CM p s m args meth c d g cX9_toldUnit 6 none) (hRm : 152 ≤ R.frames ∧ 8910 ≤ R.locals) (x1 : Int32) (x2 : Int32) (x3 : Int64) (S : Ms) (H : Heap) (locs : List Loc) (ls : Array Slot) (hf : bM_toldUnit_177 N x1 x2 x3 S = some o) (hR : RM d g S H) (hS : va_S (AM g) s.heap H locs) (hl : lv_has ls 6 [(0, .ref g.1), (1, .int x1), (2, .int x2), (3, .long x3)]) : W p l e R s m args below meth c H locs 0 0 (MQ below (QV d g o) args s 0 0 (AM g)) (F0 m 177 ls []) := by
  obtain ⟨hx, hb, hml, hown, hts, hK, hg, hr, hlk⟩ := id C
  unfold bM_toldUnit_177 at hf
  refine lv_aload_n hx hb dX9_toldUnit_177 rfl (lv_at hl 0 rfl) ?_
  refine lv_aload_n hx hb dX9_toldUnit_178 rfl (lv_at hl 0 rfl) ?_
  refine mr_getR C hR fl_64 (by decide) dX9_toldUnit_179 ?_
  refine lv_iload_n hx hb dX9_toldUnit_182 rfl (lv_at hl 2 rfl) ?_
  obtain ⟨hi, hf⟩ := ck_some hf
  refine mr_zald C hR (k := 20) rfl hi dX9_toldUnit_183 ?_
  refine lv_if_eq (tgt := 192) hx hb dX9_toldUnit_184 (by decide) (fun hc => ?_) (fun hc => ?_)
  · rw [if_pos hc] at hf
    refine lv_bipush (v := 6) hx hb dX9_toldUnit_192 (by decide) ?_
    exact (wbM_toldUnit_194 C hRm) _ _ _ _ _ _ _ _ hf hR hS (lv_sub hl [0, 1, 2, 3] rfl)
  · rw [if_neg hc] at hf
    refine lv_bipush (v := 9) hx hb dX9_toldUnit_187 (by decide) ?_
    refine lv_goto (tgt := 194) hx hb dX9_toldUnit_189 (by decide) ?_
    exact (wbM_toldUnit_194 C hRm) _ _ _ _ _ _ _ _ hf hR hS (lv_sub hl [0, 1, 2, 3] rfl)
def bM_toldUnit_88 (N : Nat) (x1 : Int32) (x2 : Int32) (s1 : Int32) (S : Ms) : Option (Ms) := (fM_takeWord N s1 S).bind fun o88 => (fM_newName N o88).bind fun o92 => ck x2 48 (ck x2 48 (ck x2 48 (ck x2 48 (ck x2 48 (ck x2 48 (ck x2 48 (if (mA (pA (pA (pA (pA (pA (pA o92.2 22 (x2 : Int32).toNatClampNeg (-1)) 23 (x2 : Int32).toNatClampNeg 0) 25 (x2 : Int32).toNatClampNeg 0) 30 (x2 : Int32).toNatClampNeg 0) 31 (x2 : Int32).toNatClampNeg 0) 33 (x2 : Int32).toNatClampNeg (-1)) 20 (x2 : Int32).toNatClampNeg) = 0 then ((bM_toldUnit_177 N) x1 x2 o92.1 (pA (pA (pA (pA (pA (pA o92.2 22 (x2 : Int32).toNatClampNeg (-1)) 23 (x2 : Int32).toNatClampNeg 0) 25 (x2 : Int32).toNatClampNeg 0) 30 (x2 : Int32).toNatClampNeg 0) 31 (x2 : Int32).toNatClampNeg 0) 33 (x2 : Int32).toNatClampNeg (-1))) else ((fM_hasWord N 8 (pA (pA (pA (pA (pA (pA o92.2 22 (x2 : Int32).toNatClampNeg (-1)) 23 (x2 : Int32).toNatClampNeg 0) 25 (x2 : Int32).toNatClampNeg 0) 30 (x2 : Int32).toNatClampNeg 0) 31 (x2 : Int32).toNatClampNeg 0) 33 (x2 : Int32).toNatClampNeg (-1))).bind fun o150 => if o150.1 = 0 then ((bM_toldUnit_177 N) x1 x2 o92.1 o150.2) else ((fM_takeUnit N 1 o150.2).bind fun o163 => ck x2 48 ((bM_toldUnit_177 N) x1 x2 o92.1 (pF (pA o163.2 22 (x2 : Int32).toNatClampNeg o163.1) 7 ((mF (pA o163.2 22 (x2 : Int32).toNatClampNeg o163.1) 7) + 1))))))))))))
set_option maxRecDepth 100000 in
set_option maxHeartbeats 4000000 in
theorem wbM_toldUnit_88 {p : Program} {l : Launch} {e : Env} {R : Room} {s : State} {m : MethodId} {args : Array Value} {below : List Frame} {meth : Method} {c : Code} {d : Dd} {g : Gm} {o : Ms} {N : Nat} (C : CM p s m args meth c d g cX9_toldUnit 6 none) (hRm : 152 ≤ R.frames ∧ 8910 ≤ R.locals) (x1 : Int32) (x2 : Int32) (s1 : Int32) (S : Ms) (H : Heap) (locs : List Loc) (ls : Array Slot) (hf : bM_toldUnit_88 N x1 x2 s1 S = some o) (hR : RM d g S H) (hS : va_S (AM g) s.heap H locs) (hl : lv_has ls 6 [(0, .ref g.1), (1, .int x1), (2, .int x2)]) : W p l e R s m args below meth c H locs 0 0 (MQ below (QV d g o) args s 0 0 (AM g)) (F0 m 88 ls [.int s1, .ref g.1]) := by
  obtain ⟨hx, hb, hml, hown, hts, hK, hg, hr, hlk⟩ := id C
  unfold bM_toldUnit_88 at hf
  obtain ⟨o88, ho88, hf⟩ := bnd_some hf
  refine mr_callVv C hR hS (As := [.int s1]) (rest := []) (MM_takeWord l d g N s1 S o88 ho88) wv_349 ⟨by omega, by omega⟩ rfl rfl (Nat.le_of_ble_eq_true rfl) hl.1 dX9_toldUnit_88 ⟨Nat.zero_le _, Nat.zero_le _⟩ (fun H locs hR hS => ?_)
  refine lv_aload_n hx hb dX9_toldUnit_91 rfl (lv_at hl 0 rfl) ?_
  obtain ⟨o92, ho92, hf⟩ := bnd_some hf
  refine mr_callLv C hR hS (As := []) (rest := []) (MM_newName l d g N  o88 o92 ho92) wv_345 ⟨by omega, by omega⟩ rfl rfl (Nat.le_of_ble_eq_true rfl) hl.1 dX9_toldUnit_92 ⟨Nat.zero_le _, Nat.zero_le _⟩ (fun H locs hR hS => ?_)
  refine lv_lstore_n (lv' := [(3, .long o92.1), (0, .ref g.1), (1, .int x1), (2, .int x2)]) hx hb dX9_toldUnit_95 rfl hl (by decide) rfl (fun ls hl => ?_)
  refine lv_aload_n hx hb dX9_toldUnit_96 rfl (lv_at hl 1 rfl) ?_
  refine mr_getR C hR fl_71 (by decide) dX9_toldUnit_97 ?_
  refine lv_iload_n hx hb dX9_toldUnit_100 rfl (lv_at hl 3 rfl) ?_
  refine lv_iconst (v := (-1)) hx hb dX9_toldUnit_101 (by decide) ?_
  obtain ⟨hi, hf⟩ := ck_some hf
  refine mr_iast C hR hS (k := 22) rfl hi dX9_toldUnit_102 (fun H locs hR hS => ?_)
  refine lv_aload_n hx hb dX9_toldUnit_103 rfl (lv_at hl 1 rfl) ?_
  refine mr_getR C hR fl_74 (by decide) dX9_toldUnit_104 ?_
  refine lv_iload_n hx hb dX9_toldUnit_107 rfl (lv_at hl 3 rfl) ?_
  refine lv_iconst (v := 0) hx hb dX9_toldUnit_108 (by decide) ?_
  obtain ⟨hi, hf⟩ := ck_some hf
  refine mr_iast C hR hS (k := 23) rfl hi dX9_toldUnit_109 (fun H locs hR hS => ?_)
  refine lv_aload_n hx hb dX9_toldUnit_110 rfl (lv_at hl 1 rfl) ?_
  refine mr_getR C hR fl_80 (by decide) dX9_toldUnit_111 ?_
  refine lv_iload_n hx hb dX9_toldUnit_114 rfl (lv_at hl 3 rfl) ?_
  refine lv_iconst (v := 0) hx hb dX9_toldUnit_115 (by decide) ?_
  obtain ⟨hi, hf⟩ := ck_some hf
  refine mr_iast C hR hS (k := 25) rfl hi dX9_toldUnit_116 (fun H locs hR hS => ?_)
  refine lv_aload_n hx hb dX9_toldUnit_117 rfl (lv_at hl 1 rfl) ?_
  refine mr_getR C hR fl_95 (by decide) dX9_toldUnit_118 ?_
  refine lv_iload_n hx hb dX9_toldUnit_121 rfl (lv_at hl 3 rfl) ?_
  refine lv_iconst (v := 0) hx hb dX9_toldUnit_122 (by decide) ?_
  obtain ⟨hi, hf⟩ := ck_some hf
  refine mr_iast C hR hS (k := 30) rfl hi dX9_toldUnit_123 (fun H locs hR hS => ?_)
  refine lv_aload_n hx hb dX9_toldUnit_124 rfl (lv_at hl 1 rfl) ?_
  refine mr_getR C hR fl_98 (by decide) dX9_toldUnit_125 ?_
  refine lv_iload_n hx hb dX9_toldUnit_128 rfl (lv_at hl 3 rfl) ?_
  refine lv_iconst (v := 0) hx hb dX9_toldUnit_129 (by decide) ?_
  obtain ⟨hi, hf⟩ := ck_some hf
  refine mr_iast C hR hS (k := 31) rfl hi dX9_toldUnit_130 (fun H locs hR hS => ?_)
  refine lv_aload_n hx hb dX9_toldUnit_131 rfl (lv_at hl 1 rfl) ?_
  refine mr_getR C hR fl_104 (by decide) dX9_toldUnit_132 ?_
  refine lv_iload_n hx hb dX9_toldUnit_135 rfl (lv_at hl 3 rfl) ?_
  refine lv_iconst (v := (-1)) hx hb dX9_toldUnit_136 (by decide) ?_
  obtain ⟨hi, hf⟩ := ck_some hf
  refine mr_iast C hR hS (k := 33) rfl hi dX9_toldUnit_137 (fun H locs hR hS => ?_)
  refine lv_aload_n hx hb dX9_toldUnit_138 rfl (lv_at hl 1 rfl) ?_
  refine mr_getR C hR fl_64 (by decide) dX9_toldUnit_139 ?_
  refine lv_iload_n hx hb dX9_toldUnit_142 rfl (lv_at hl 3 rfl) ?_
  obtain ⟨hi, hf⟩ := ck_some hf
  refine mr_zald C hR (k := 20) rfl hi dX9_toldUnit_143 ?_
  refine lv_if_eq (tgt := 177) hx hb dX9_toldUnit_144 (by decide) (fun hc => ?_) (fun hc => ?_)
  · rw [if_pos hc] at hf
    exact (wbM_toldUnit_177 C hRm) _ _ _ _ _ _ _ hf hR hS (lv_sub hl [1, 2, 3, 0] rfl)
  · rw [if_neg hc] at hf
    refine lv_aload_n hx hb dX9_toldUnit_147 rfl (lv_at hl 1 rfl) ?_
    refine lv_bipush (v := 8) hx hb dX9_toldUnit_148 (by decide) ?_
    obtain ⟨o150, ho150, hf⟩ := bnd_some hf
    refine mr_callIv C hR hS (As := [.int 8]) (rest := []) (MM_hasWord l d g N 8 (pA (pA (pA (pA (pA (pA o92.2 22 (x2 : Int32).toNatClampNeg (-1)) 23 (x2 : Int32).toNatClampNeg 0) 25 (x2 : Int32).toNatClampNeg 0) 30 (x2 : Int32).toNatClampNeg 0) 31 (x2 : Int32).toNatClampNeg 0) 33 (x2 : Int32).toNatClampNeg (-1)) o150 ho150) wv_294 ⟨by omega, by omega⟩ rfl rfl (Nat.le_of_ble_eq_true rfl) hl.1 dX9_toldUnit_150 ⟨Nat.zero_le _, Nat.zero_le _⟩ (fun H locs hR hS => ?_)
    refine lv_if_eq (tgt := 177) hx hb dX9_toldUnit_153 (by decide) (fun hc => ?_) (fun hc => ?_)
    · rw [if_pos hc] at hf
      exact (wbM_toldUnit_177 C hRm) _ _ _ _ _ _ _ hf hR hS (lv_sub hl [1, 2, 3, 0] rfl)
    · rw [if_neg hc] at hf
      refine lv_aload_n hx hb dX9_toldUnit_156 rfl (lv_at hl 1 rfl) ?_
      refine mr_getR C hR fl_71 (by decide) dX9_toldUnit_157 ?_
      refine lv_iload_n hx hb dX9_toldUnit_160 rfl (lv_at hl 3 rfl) ?_
      refine lv_aload_n hx hb dX9_toldUnit_161 rfl (lv_at hl 1 rfl) ?_
      refine lv_iconst (v := 1) hx hb dX9_toldUnit_162 (by decide) ?_
      obtain ⟨o163, ho163, hf⟩ := bnd_some hf
      refine mr_callIv C hR hS (As := [.int 1]) (rest := [.int x2, .ref (g.2 22)]) (MM_takeUnit l d g N 1 o150.2 o163 ho163) wv_360 ⟨by omega, by omega⟩ rfl rfl (Nat.le_of_ble_eq_true rfl) hl.1 dX9_toldUnit_163 ⟨Nat.zero_le _, Nat.zero_le _⟩ (fun H locs hR hS => ?_)
      obtain ⟨hi, hf⟩ := ck_some hf
      refine mr_iast C hR hS (k := 22) rfl hi dX9_toldUnit_166 (fun H locs hR hS => ?_)
      refine lv_aload_n hx hb dX9_toldUnit_167 rfl (lv_at hl 1 rfl) ?_
      refine lv_dup hx hb dX9_toldUnit_168 rfl ?_
      refine mr_getI C hR fl_278 rfl dX9_toldUnit_169 ?_
      refine lv_iconst (v := 1) hx hb dX9_toldUnit_172 (by decide) ?_
      refine lv_iadd hx hb dX9_toldUnit_173 ?_
      refine mr_putI C hR hS fl_278 ⟨rfl, rfl, rfl⟩ dX9_toldUnit_174 (fun H locs hR hS => ?_)
      exact (wbM_toldUnit_177 C hRm) _ _ _ _ _ _ _ hf hR hS (lv_sub hl [1, 2, 3, 0] rfl)
def bM_toldUnit_71 (N : Nat) (x1 : Int32) (x2 : Int32) (s1 : Int32) (s2 : Int32) (S : Ms) : Option (Ms) := ck s1 48 (ck x2 48 (if (mA (pA S 20 (s1 : Int32).toNatClampNeg (vp_nar .boolean s2)) 20 (x2 : Int32).toNatClampNeg) = 0 then ((bM_toldUnit_88 N) x1 x2 5 (pA S 20 (s1 : Int32).toNatClampNeg (vp_nar .boolean s2))) else ((bM_toldUnit_88 N) x1 x2 7 (pA S 20 (s1 : Int32).toNatClampNeg (vp_nar .boolean s2)))))
set_option maxRecDepth 100000 in
set_option maxHeartbeats 4000000 in
theorem wbM_toldUnit_71 {p : Program} {l : Launch} {e : Env} {R : Room} {s : State} {m : MethodId} {args : Array Value} {below : List Frame} {meth : Method} {c : Code} {d : Dd} {g : Gm} {o : Ms} {N : Nat} (C : CM p s m args meth c d g cX9_toldUnit 6 none) (hRm : 152 ≤ R.frames ∧ 8910 ≤ R.locals) (x1 : Int32) (x2 : Int32) (s1 : Int32) (s2 : Int32) (S : Ms) (H : Heap) (locs : List Loc) (ls : Array Slot) (hf : bM_toldUnit_71 N x1 x2 s1 s2 S = some o) (hR : RM d g S H) (hS : va_S (AM g) s.heap H locs) (hl : lv_has ls 6 [(0, .ref g.1), (1, .int x1), (2, .int x2)]) : W p l e R s m args below meth c H locs 0 0 (MQ below (QV d g o) args s 0 0 (AM g)) (F0 m 71 ls [.int s2, .int s1, .ref (g.2 20)]) := by
  obtain ⟨hx, hb, hml, hown, hts, hK, hg, hr, hlk⟩ := id C
  unfold bM_toldUnit_71 at hf
  obtain ⟨hi, hf⟩ := ck_some hf
  refine mr_zast C hR hS (k := 20) rfl hi dX9_toldUnit_71 (fun H locs hR hS => ?_)
  refine lv_aload_n hx hb dX9_toldUnit_72 rfl (lv_at hl 0 rfl) ?_
  refine lv_aload_n hx hb dX9_toldUnit_73 rfl (lv_at hl 0 rfl) ?_
  refine mr_getR C hR fl_64 (by decide) dX9_toldUnit_74 ?_
  refine lv_iload_n hx hb dX9_toldUnit_77 rfl (lv_at hl 2 rfl) ?_
  obtain ⟨hi, hf⟩ := ck_some hf
  refine mr_zald C hR (k := 20) rfl hi dX9_toldUnit_78 ?_
  refine lv_if_eq (tgt := 87) hx hb dX9_toldUnit_79 (by decide) (fun hc => ?_) (fun hc => ?_)
  · rw [if_pos hc] at hf
    refine lv_iconst (v := 5) hx hb dX9_toldUnit_87 (by decide) ?_
    exact (wbM_toldUnit_88 C hRm) _ _ _ _ _ _ _ hf hR hS (lv_sub hl [0, 1, 2] rfl)
  · rw [if_neg hc] at hf
    refine lv_bipush (v := 7) hx hb dX9_toldUnit_82 (by decide) ?_
    refine lv_goto (tgt := 88) hx hb dX9_toldUnit_84 (by decide) ?_
    exact (wbM_toldUnit_88 C hRm) _ _ _ _ _ _ _ hf hR hS (lv_sub hl [0, 1, 2] rfl)
def bM_toldUnit_70 (N : Nat) (x1 : Int32) (x2 : Int32) (s1 : Int32) (S : Ms) : Option (Ms) := (bM_toldUnit_71 N) x1 x2 s1 0 S
set_option maxRecDepth 100000 in
set_option maxHeartbeats 4000000 in
theorem wbM_toldUnit_70 {p : Program} {l : Launch} {e : Env} {R : Room} {s : State} {m : MethodId} {args : Array Value} {below : List Frame} {meth : Method} {c : Code} {d : Dd} {g : Gm} {o : Ms} {N : Nat} (C : CM p s m args meth c d g cX9_toldUnit 6 none) (hRm : 152 ≤ R.frames ∧ 8910 ≤ R.locals) (x1 : Int32) (x2 : Int32) (s1 : Int32) (S : Ms) (H : Heap) (locs : List Loc) (ls : Array Slot) (hf : bM_toldUnit_70 N x1 x2 s1 S = some o) (hR : RM d g S H) (hS : va_S (AM g) s.heap H locs) (hl : lv_has ls 6 [(0, .ref g.1), (1, .int x1), (2, .int x2)]) : W p l e R s m args below meth c H locs 0 0 (MQ below (QV d g o) args s 0 0 (AM g)) (F0 m 70 ls [.int s1, .ref (g.2 20)]) := by
  obtain ⟨hx, hb, hml, hown, hts, hK, hg, hr, hlk⟩ := id C
  unfold bM_toldUnit_70 at hf
  refine lv_iconst (v := 0) hx hb dX9_toldUnit_70 (by decide) ?_
  exact (wbM_toldUnit_71 C hRm) _ _ _ _ _ _ _ _ hf hR hS (lv_sub hl [0, 1, 2] rfl)
def fM_toldUnit (N : Nat)  (S : Ms) : Option (Ms) := ck (mF S 12) 2 (if (mA S 18 (mF S 12 : Int32).toNatClampNeg) = 24 then ((fM_wrong N 5 S).bind fun o28 => some o28) else ((fM_hasWord N 4 S).bind fun o39 => ck ((24 * (mF S 12)) + (mA S 18 (mF S 12 : Int32).toNatClampNeg)) 48 (ck ((24 * (mF S 12)) + (mA S 18 (mF S 12 : Int32).toNatClampNeg)) 48 (if (mA (pA o39.2 21 ((24 * (mF S 12)) + (mA S 18 (mF S 12 : Int32).toNatClampNeg) : Int32).toNatClampNeg (vp_nar .boolean o39.1)) 21 ((24 * (mF S 12)) + (mA S 18 (mF S 12 : Int32).toNatClampNeg) : Int32).toNatClampNeg) = 0 then ((fM_isWord N 7 (pA o39.2 21 ((24 * (mF S 12)) + (mA S 18 (mF S 12 : Int32).toNatClampNeg) : Int32).toNatClampNeg (vp_nar .boolean o39.1))).bind fun o60 => if o60.1 = 0 then ((bM_toldUnit_70 N) (mA S 18 (mF S 12 : Int32).toNatClampNeg) ((24 * (mF S 12)) + (mA S 18 (mF S 12 : Int32).toNatClampNeg)) ((24 * (mF S 12)) + (mA S 18 (mF S 12 : Int32).toNatClampNeg)) o60.2) else ((bM_toldUnit_71 N) (mA S 18 (mF S 12 : Int32).toNatClampNeg) ((24 * (mF S 12)) + (mA S 18 (mF S 12 : Int32).toNatClampNeg)) ((24 * (mF S 12)) + (mA S 18 (mF S 12 : Int32).toNatClampNeg)) 1 o60.2)) else ((bM_toldUnit_70 N) (mA S 18 (mF S 12 : Int32).toNatClampNeg) ((24 * (mF S 12)) + (mA S 18 (mF S 12 : Int32).toNatClampNeg)) ((24 * (mF S 12)) + (mA S 18 (mF S 12 : Int32).toNatClampNeg)) (pA o39.2 21 ((24 * (mF S 12)) + (mA S 18 (mF S 12 : Int32).toNatClampNeg) : Int32).toNatClampNeg (vp_nar .boolean o39.1)))))))
set_option maxRecDepth 100000 in
set_option maxHeartbeats 4000000 in
theorem wfM_toldUnit {p : Program} {l : Launch} {e : Env} {R : Room} {s : State} {m : MethodId} {args : Array Value} {below : List Frame} {meth : Method} {c : Code} {d : Dd} {g : Gm} {o : Ms} {N : Nat} (C : CM p s m args meth c d g cX9_toldUnit 6 none) (hRm : 152 ≤ R.frames ∧ 8910 ≤ R.locals)  (S : Ms) (H : Heap) (locs : List Loc) (ls : Array Slot) (hf : fM_toldUnit N  S = some o) (hR : RM d g S H) (hS : va_S (AM g) s.heap H locs) (hl : lv_has ls 6 [(0, .ref g.1)]) : W p l e R s m args below meth c H locs 0 0 (MQ below (QV d g o) args s 0 0 (AM g)) (F0 m 0 ls []) := by
  obtain ⟨hx, hb, hml, hown, hts, hK, hg, hr, hlk⟩ := id C
  unfold fM_toldUnit at hf
  refine lv_aload_n hx hb dX9_toldUnit_0 rfl (lv_at hl 0 rfl) ?_
  refine mr_getR C hR fl_58 (by decide) dX9_toldUnit_1 ?_
  refine lv_aload_n hx hb dX9_toldUnit_4 rfl (lv_at hl 0 rfl) ?_
  refine mr_getI C hR fl_297 rfl dX9_toldUnit_5 ?_
  obtain ⟨hi, hf⟩ := ck_some hf
  refine mr_iald C hR (k := 18) rfl hi dX9_toldUnit_8 ?_
  refine lv_istore_n (lv' := [(1, .int (mA S 18 (mF S 12 : Int32).toNatClampNeg)), (0, .ref g.1)]) hx hb dX9_toldUnit_9 rfl hl (by decide) rfl (fun ls hl => ?_)
  refine lv_bipush (v := 24) hx hb dX9_toldUnit_10 (by decide) ?_
  refine lv_aload_n hx hb dX9_toldUnit_12 rfl (lv_at hl 1 rfl) ?_
  refine mr_getI C hR fl_297 rfl dX9_toldUnit_13 ?_
  refine lv_imul hx hb dX9_toldUnit_16 ?_
  refine lv_iload_n hx hb dX9_toldUnit_17 rfl (lv_at hl 0 rfl) ?_
  refine lv_iadd hx hb dX9_toldUnit_18 ?_
  refine lv_istore_n (lv' := [(2, .int ((24 * (mF S 12)) + (mA S 18 (mF S 12 : Int32).toNatClampNeg))), (1, .int (mA S 18 (mF S 12 : Int32).toNatClampNeg)), (0, .ref g.1)]) hx hb dX9_toldUnit_19 rfl hl (by decide) rfl (fun ls hl => ?_)
  refine lv_iload_n hx hb dX9_toldUnit_20 rfl (lv_at hl 1 rfl) ?_
  refine lv_bipush (v := 24) hx hb dX9_toldUnit_21 (by decide) ?_
  refine lv_icmp_ne (tgt := 32) hx hb dX9_toldUnit_23 (by decide) (fun hc => ?_) (fun hc => ?_)
  · rw [if_neg hc] at hf
    refine lv_aload_n hx hb dX9_toldUnit_32 rfl (lv_at hl 2 rfl) ?_
    refine mr_getR C hR fl_68 (by decide) dX9_toldUnit_33 ?_
    refine lv_iload_n hx hb dX9_toldUnit_36 rfl (lv_at hl 0 rfl) ?_
    refine lv_aload_n hx hb dX9_toldUnit_37 rfl (lv_at hl 2 rfl) ?_
    refine lv_iconst (v := 4) hx hb dX9_toldUnit_38 (by decide) ?_
    obtain ⟨o39, ho39, hf⟩ := bnd_some hf
    refine mr_callIv C hR hS (As := [.int 4]) (rest := [.int ((24 * (mF S 12)) + (mA S 18 (mF S 12 : Int32).toNatClampNeg)), .ref (g.2 21)]) (MM_hasWord l d g N 4 S o39 ho39) wv_294 ⟨by omega, by omega⟩ rfl rfl (Nat.le_of_ble_eq_true rfl) hl.1 dX9_toldUnit_39 ⟨Nat.zero_le _, Nat.zero_le _⟩ (fun H locs hR hS => ?_)
    obtain ⟨hi, hf⟩ := ck_some hf
    refine mr_zast C hR hS (k := 21) rfl hi dX9_toldUnit_42 (fun H locs hR hS => ?_)
    refine lv_aload_n hx hb dX9_toldUnit_43 rfl (lv_at hl 2 rfl) ?_
    refine mr_getR C hR fl_64 (by decide) dX9_toldUnit_44 ?_
    refine lv_iload_n hx hb dX9_toldUnit_47 rfl (lv_at hl 0 rfl) ?_
    refine lv_aload_n hx hb dX9_toldUnit_48 rfl (lv_at hl 2 rfl) ?_
    refine mr_getR C hR fl_68 (by decide) dX9_toldUnit_49 ?_
    refine lv_iload_n hx hb dX9_toldUnit_52 rfl (lv_at hl 0 rfl) ?_
    obtain ⟨hi, hf⟩ := ck_some hf
    refine mr_zald C hR (k := 21) rfl hi dX9_toldUnit_53 ?_
    refine lv_if_ne (tgt := 70) hx hb dX9_toldUnit_54 (by decide) (fun hc => ?_) (fun hc => ?_)
    · rw [if_neg hc] at hf
      exact (wbM_toldUnit_70 C hRm) _ _ _ _ _ _ _ hf hR hS (lv_sub hl [2, 1, 0] rfl)
    · rw [if_pos hc] at hf
      refine lv_aload_n hx hb dX9_toldUnit_57 rfl (lv_at hl 2 rfl) ?_
      refine lv_bipush (v := 7) hx hb dX9_toldUnit_58 (by decide) ?_
      obtain ⟨o60, ho60, hf⟩ := bnd_some hf
      refine mr_callIv C hR hS (As := [.int 7]) (rest := [.int ((24 * (mF S 12)) + (mA S 18 (mF S 12 : Int32).toNatClampNeg)), .ref (g.2 20)]) (MM_isWord l d g N 7 (pA o39.2 21 ((24 * (mF S 12)) + (mA S 18 (mF S 12 : Int32).toNatClampNeg) : Int32).toNatClampNeg (vp_nar .boolean o39.1)) o60 ho60) wv_291 ⟨by omega, by omega⟩ rfl rfl (Nat.le_of_ble_eq_true rfl) hl.1 dX9_toldUnit_60 ⟨Nat.zero_le _, Nat.zero_le _⟩ (fun H locs hR hS => ?_)
      refine lv_if_eq (tgt := 70) hx hb dX9_toldUnit_63 (by decide) (fun hc => ?_) (fun hc => ?_)
      · rw [if_pos hc] at hf
        exact (wbM_toldUnit_70 C hRm) _ _ _ _ _ _ _ hf hR hS (lv_sub hl [2, 1, 0] rfl)
      · rw [if_neg hc] at hf
        refine lv_iconst (v := 1) hx hb dX9_toldUnit_66 (by decide) ?_
        refine lv_goto (tgt := 71) hx hb dX9_toldUnit_67 (by decide) ?_
        exact (wbM_toldUnit_71 C hRm) _ _ _ _ _ _ _ _ hf hR hS (lv_sub hl [2, 1, 0] rfl)
  · rw [if_pos hc] at hf
    refine lv_aload_n hx hb dX9_toldUnit_26 rfl (lv_at hl 2 rfl) ?_
    refine lv_iconst (v := 5) hx hb dX9_toldUnit_27 (by decide) ?_
    obtain ⟨o28, ho28, hf⟩ := bnd_some hf
    refine mr_callVv C hR hS (As := [.int 5]) (rest := []) (MM_wrong l d g N 5 S o28 ho28) wv_287 ⟨by omega, by omega⟩ rfl rfl (Nat.le_of_ble_eq_true rfl) hl.1 dX9_toldUnit_28 ⟨Nat.zero_le _, Nat.zero_le _⟩ (fun H locs hR hS => ?_)
    exact mr_vret C hR hS hf dX9_toldUnit_31
theorem MM_toldUnit (l : Launch) (d : Dd) (g : Gm) (N : Nat)  (S : Ms) (o : Ms) (hf : fM_toldUnit N  S = some o) : MtV l d g yX9_toldUnit cX9_toldUnit 6 152 8910 [.ref g.1] S o :=
  mr_metV (by decide) rfl (Nat.le_of_ble_eq_true rfl) (fun p e s m args below meth c ls C hR hl => wfM_toldUnit C ⟨Nat.le_refl _, Nat.le_refl _⟩  S s.heap [] ls hf hR va_S.rf hl)
def lM_station_73 (N : Nat) (k102 : Ms → Option (Int32 × Ms)) : Nat → Int32 → Ms → Option (Int32 × Ms)
  | 0, _, _ => none
  | n + 1, x1, S => if 576 ≤ x1 then (k102 S) else (ck ((576 * (mF S 12)) + x1) 1152 (lM_station_73 N k102 n (x1 + 1) (pA S 34 ((576 * (mF S 12)) + x1 : Int32).toNatClampNeg (vp_nar .boolean 0))))
set_option maxRecDepth 100000 in
set_option maxHeartbeats 4000000 in
theorem wlM_station_73 {p : Program} {l : Launch} {e : Env} {R : Room} {s : State} {m : MethodId} {args : Array Value} {below : List Frame} {meth : Method} {c : Code} {d : Dd} {g : Gm} {o : Int32 × Ms} {N : Nat} {k102 : Ms → Option (Int32 × Ms)} (C : CM p s m args meth c d g cX9_station 2 (some .int)) (hRm : 153 ≤ R.frames ∧ 8935 ≤ R.locals) (hk102 : ∀  (S : Ms) (H : Heap) (locs : List Loc) (ls : Array Slot), k102 S = some o → RM d g S H → va_S (AM g) s.heap H locs → lv_has ls 2 [(0, .ref g.1)] → W p l e R s m args below meth c H locs 0 0 (MQ below (QI d g o) args s 0 0 (AM g)) (F0 m 102 ls [])) : ∀ (n : Nat) (x1 : Int32) (S : Ms) (H : Heap) (locs : List Loc) (ls : Array Slot), lM_station_73 N k102 n x1 S = some o → RM d g S H → va_S (AM g) s.heap H locs → lv_has ls 2 [(0, .ref g.1), (1, .int x1)] → W p l e R s m args below meth c H locs 0 0 (MQ below (QI d g o) args s 0 0 (AM g)) (F0 m 73 ls []) := by
  obtain ⟨hx, hb, hml, hown, hts, hK, hg, hr, hlk⟩ := id C
  intro n
  induction n with
  | zero => intro x1 S H locs ls hf; cases hf
  | succ n ih =>
    intro x1 S H locs ls hf hR hS hl
    rw [lM_station_73] at hf
    refine lv_iload_n hx hb dX9_station_73 rfl (lv_at hl 1 rfl) ?_
    refine lv_sipush (v := 576) hx hb dX9_station_74 (by decide) ?_
    refine lv_icmp_ge (tgt := 102) hx hb dX9_station_77 (by decide) (fun hc => ?_) (fun hc => ?_)
    · rw [if_pos hc] at hf
      exact hk102 _ _ _ _ hf hR hS (lv_sub hl [0] rfl)
    · rw [if_neg hc] at hf
      refine lv_aload_n hx hb dX9_station_80 rfl (lv_at hl 0 rfl) ?_
      refine mr_getR C hR fl_107 (by decide) dX9_station_81 ?_
      refine lv_sipush (v := 576) hx hb dX9_station_84 (by decide) ?_
      refine lv_aload_n hx hb dX9_station_87 rfl (lv_at hl 0 rfl) ?_
      refine mr_getI C hR fl_297 rfl dX9_station_88 ?_
      refine lv_imul hx hb dX9_station_91 ?_
      refine lv_iload_n hx hb dX9_station_92 rfl (lv_at hl 1 rfl) ?_
      refine lv_iadd hx hb dX9_station_93 ?_
      refine lv_iconst (v := 0) hx hb dX9_station_94 (by decide) ?_
      obtain ⟨hi, hf⟩ := ck_some hf
      refine mr_zast C hR hS (k := 34) rfl hi dX9_station_95 (fun H locs hR hS => ?_)
      refine lv_iinc (v := x1 + 1) (lv' := [(1, .int (x1 + 1)), (0, .ref g.1)]) hx hb dX9_station_96 hl (k := 1) rfl rfl (by decide) rfl (fun ls hl => ?_)
      refine lv_goto (tgt := 73) hx hb dX9_station_99 (by decide) ?_
      exact ih _ _ _ _ _ hf hR hS (lv_sub hl [1, 0] rfl)
def bM_station_161 (N : Nat) (r102 : Ms → Option (Int32 × Ms)) (k192 : Ms → Option (Int32 × Ms))  (S : Ms) : Option (Int32 × Ms) := (fM_toldUnit N S).bind fun o162 => r102 o162
set_option maxRecDepth 100000 in
set_option maxHeartbeats 4000000 in
theorem wbM_station_161 {p : Program} {l : Launch} {e : Env} {R : Room} {s : State} {m : MethodId} {args : Array Value} {below : List Frame} {meth : Method} {c : Code} {d : Dd} {g : Gm} {o : Int32 × Ms} {N : Nat} {r102 : Ms → Option (Int32 × Ms)} {k192 : Ms → Option (Int32 × Ms)} (C : CM p s m args meth c d g cX9_station 2 (some .int)) (hRm : 153 ≤ R.frames ∧ 8935 ≤ R.locals) (hr102 : ∀  (S : Ms) (H : Heap) (locs : List Loc) (ls : Array Slot), r102 S = some o → RM d g S H → va_S (AM g) s.heap H locs → lv_has ls 2 [(0, .ref g.1)] → W p l e R s m args below meth c H locs 0 0 (MQ below (QI d g o) args s 0 0 (AM g)) (F0 m 102 ls [])) (hk192 : ∀  (S : Ms) (H : Heap) (locs : List Loc) (ls : Array Slot), k192 S = some o → RM d g S H → va_S (AM g) s.heap H locs → lv_has ls 2 [(0, .ref g.1)] → W p l e R s m args below meth c H locs 0 0 (MQ below (QI d g o) args s 0 0 (AM g)) (F0 m 192 ls []))  (S : Ms) (H : Heap) (locs : List Loc) (ls : Array Slot) (hf : bM_station_161 N r102 k192  S = some o) (hR : RM d g S H) (hS : va_S (AM g) s.heap H locs) (hl : lv_has ls 2 [(0, .ref g.1)]) : W p l e R s m args below meth c H locs 0 0 (MQ below (QI d g o) args s 0 0 (AM g)) (F0 m 161 ls []) := by
  obtain ⟨hx, hb, hml, hown, hts, hK, hg, hr, hlk⟩ := id C
  unfold bM_station_161 at hf
  refine lv_aload_n hx hb dX9_station_161 rfl (lv_at hl 0 rfl) ?_
  obtain ⟨o162, ho162, hf⟩ := bnd_some hf
  refine mr_callVv C hR hS (As := []) (rest := []) (MM_toldUnit l d g N  S o162 ho162) wv_322 ⟨by omega, by omega⟩ rfl rfl (Nat.le_of_ble_eq_true rfl) hl.1 dX9_station_162 ⟨Nat.zero_le _, Nat.zero_le _⟩ (fun H locs hR hS => ?_)
  refine lv_goto (tgt := 102) hx hb dX9_station_165 (by decide) ?_
  exact hr102 _ _ _ _ hf hR hS (lv_sub hl [0] rfl)
def lM_station_102 (N : Nat) (k192 : Ms → Option (Int32 × Ms)) : Nat → Ms → Option (Int32 × Ms)
  | 0, _ => none
  | n + 1, S => if (mF S 8) = 0 then (ck (mF S 7) 4002 (if (mA S 4 (mF S 7 : Int32).toNatClampNeg) = 0 then (k192 S) else ((fM_isWord N 0 S).bind fun o123 => if o123.1 = 0 then ((fM_isWord N 4 o123.2).bind fun o138 => if o138.1 = 0 then ((fM_isWord N 5 o138.2).bind fun o146 => if o146.1 = 0 then ((fM_isWord N 7 o146.2).bind fun o155 => if o155.1 = 0 then ((fM_isWord N 10 o155.2).bind fun o171 => if o171.1 = 0 then ((fM_wrong N 1 o171.2).bind fun o186 => lM_station_102 N k192 n o186) else ((fM_toldDemand N o171.2).bind fun o178 => lM_station_102 N k192 n o178)) else ((bM_station_161 N (lM_station_102 N k192 n) k192) o155.2)) else ((bM_station_161 N (lM_station_102 N k192 n) k192) o146.2)) else ((bM_station_161 N (lM_station_102 N k192 n) k192) o138.2)) else ((fM_toldDevice N o123.2).bind fun o130 => lM_station_102 N k192 n o130)))) else (k192 S)
set_option maxRecDepth 100000 in
set_option maxHeartbeats 4000000 in
theorem wlM_station_102 {p : Program} {l : Launch} {e : Env} {R : Room} {s : State} {m : MethodId} {args : Array Value} {below : List Frame} {meth : Method} {c : Code} {d : Dd} {g : Gm} {o : Int32 × Ms} {N : Nat} {k192 : Ms → Option (Int32 × Ms)} (C : CM p s m args meth c d g cX9_station 2 (some .int)) (hRm : 153 ≤ R.frames ∧ 8935 ≤ R.locals) (hk192 : ∀  (S : Ms) (H : Heap) (locs : List Loc) (ls : Array Slot), k192 S = some o → RM d g S H → va_S (AM g) s.heap H locs → lv_has ls 2 [(0, .ref g.1)] → W p l e R s m args below meth c H locs 0 0 (MQ below (QI d g o) args s 0 0 (AM g)) (F0 m 192 ls [])) : ∀ (n : Nat)  (S : Ms) (H : Heap) (locs : List Loc) (ls : Array Slot), lM_station_102 N k192 n  S = some o → RM d g S H → va_S (AM g) s.heap H locs → lv_has ls 2 [(0, .ref g.1)] → W p l e R s m args below meth c H locs 0 0 (MQ below (QI d g o) args s 0 0 (AM g)) (F0 m 102 ls []) := by
  obtain ⟨hx, hb, hml, hown, hts, hK, hg, hr, hlk⟩ := id C
  intro n
  induction n with
  | zero => intro  S H locs ls hf; cases hf
  | succ n ih =>
    intro  S H locs ls hf hR hS hl
    rw [lM_station_102] at hf
    refine lv_aload_n hx hb dX9_station_102 rfl (lv_at hl 0 rfl) ?_
    refine mr_getI C hR fl_281 rfl dX9_station_103 ?_
    refine lv_if_ne (tgt := 192) hx hb dX9_station_106 (by decide) (fun hc => ?_) (fun hc => ?_)
    · rw [if_neg hc] at hf
      exact hk192 _ _ _ _ hf hR hS (lv_sub hl [0] rfl)
    · rw [if_pos hc] at hf
      refine lv_aload_n hx hb dX9_station_109 rfl (lv_at hl 0 rfl) ?_
      refine mr_getR C hR fl_24 (by decide) dX9_station_110 ?_
      refine lv_aload_n hx hb dX9_station_113 rfl (lv_at hl 0 rfl) ?_
      refine mr_getI C hR fl_278 rfl dX9_station_114 ?_
      obtain ⟨hi, hf⟩ := ck_some hf
      refine mr_iald C hR (k := 4) rfl hi dX9_station_117 ?_
      refine lv_if_eq (tgt := 192) hx hb dX9_station_118 (by decide) (fun hc => ?_) (fun hc => ?_)
      · rw [if_pos hc] at hf
        exact hk192 _ _ _ _ hf hR hS (lv_sub hl [0] rfl)
      · rw [if_neg hc] at hf
        refine lv_aload_n hx hb dX9_station_121 rfl (lv_at hl 0 rfl) ?_
        refine lv_iconst (v := 0) hx hb dX9_station_122 (by decide) ?_
        obtain ⟨o123, ho123, hf⟩ := bnd_some hf
        refine mr_callIv C hR hS (As := [.int 0]) (rest := []) (MM_isWord l d g N 0 S o123 ho123) wv_291 ⟨by omega, by omega⟩ rfl rfl (Nat.le_of_ble_eq_true rfl) hl.1 dX9_station_123 ⟨Nat.zero_le _, Nat.zero_le _⟩ (fun H locs hR hS => ?_)
        refine lv_if_eq (tgt := 136) hx hb dX9_station_126 (by decide) (fun hc => ?_) (fun hc => ?_)
        · rw [if_pos hc] at hf
          refine lv_aload_n hx hb dX9_station_136 rfl (lv_at hl 0 rfl) ?_
          refine lv_iconst (v := 4) hx hb dX9_station_137 (by decide) ?_
          obtain ⟨o138, ho138, hf⟩ := bnd_some hf
          refine mr_callIv C hR hS (As := [.int 4]) (rest := []) (MM_isWord l d g N 4 o123.2 o138 ho138) wv_291 ⟨by omega, by omega⟩ rfl rfl (Nat.le_of_ble_eq_true rfl) hl.1 dX9_station_138 ⟨Nat.zero_le _, Nat.zero_le _⟩ (fun H locs hR hS => ?_)
          refine lv_if_ne (tgt := 161) hx hb dX9_station_141 (by decide) (fun hc => ?_) (fun hc => ?_)
          · rw [if_neg hc] at hf
            exact (wbM_station_161 C hRm ih hk192) _ _ _ _ hf hR hS (lv_sub hl [0] rfl)
          · rw [if_pos hc] at hf
            refine lv_aload_n hx hb dX9_station_144 rfl (lv_at hl 0 rfl) ?_
            refine lv_iconst (v := 5) hx hb dX9_station_145 (by decide) ?_
            obtain ⟨o146, ho146, hf⟩ := bnd_some hf
            refine mr_callIv C hR hS (As := [.int 5]) (rest := []) (MM_isWord l d g N 5 o138.2 o146 ho146) wv_291 ⟨by omega, by omega⟩ rfl rfl (Nat.le_of_ble_eq_true rfl) hl.1 dX9_station_146 ⟨Nat.zero_le _, Nat.zero_le _⟩ (fun H locs hR hS => ?_)
            refine lv_if_ne (tgt := 161) hx hb dX9_station_149 (by decide) (fun hc => ?_) (fun hc => ?_)
            · rw [if_neg hc] at hf
              exact (wbM_station_161 C hRm ih hk192) _ _ _ _ hf hR hS (lv_sub hl [0] rfl)
            · rw [if_pos hc] at hf
              refine lv_aload_n hx hb dX9_station_152 rfl (lv_at hl 0 rfl) ?_
              refine lv_bipush (v := 7) hx hb dX9_station_153 (by decide) ?_
              obtain ⟨o155, ho155, hf⟩ := bnd_some hf
              refine mr_callIv C hR hS (As := [.int 7]) (rest := []) (MM_isWord l d g N 7 o146.2 o155 ho155) wv_291 ⟨by omega, by omega⟩ rfl rfl (Nat.le_of_ble_eq_true rfl) hl.1 dX9_station_155 ⟨Nat.zero_le _, Nat.zero_le _⟩ (fun H locs hR hS => ?_)
              refine lv_if_eq (tgt := 168) hx hb dX9_station_158 (by decide) (fun hc => ?_) (fun hc => ?_)
              · rw [if_pos hc] at hf
                refine lv_aload_n hx hb dX9_station_168 rfl (lv_at hl 0 rfl) ?_
                refine lv_bipush (v := 10) hx hb dX9_station_169 (by decide) ?_
                obtain ⟨o171, ho171, hf⟩ := bnd_some hf
                refine mr_callIv C hR hS (As := [.int 10]) (rest := []) (MM_isWord l d g N 10 o155.2 o171 ho171) wv_291 ⟨by omega, by omega⟩ rfl rfl (Nat.le_of_ble_eq_true rfl) hl.1 dX9_station_171 ⟨Nat.zero_le _, Nat.zero_le _⟩ (fun H locs hR hS => ?_)
                refine lv_if_eq (tgt := 184) hx hb dX9_station_174 (by decide) (fun hc => ?_) (fun hc => ?_)
                · rw [if_pos hc] at hf
                  refine lv_aload_n hx hb dX9_station_184 rfl (lv_at hl 0 rfl) ?_
                  refine lv_iconst (v := 1) hx hb dX9_station_185 (by decide) ?_
                  obtain ⟨o186, ho186, hf⟩ := bnd_some hf
                  refine mr_callVv C hR hS (As := [.int 1]) (rest := []) (MM_wrong l d g N 1 o171.2 o186 ho186) wv_287 ⟨by omega, by omega⟩ rfl rfl (Nat.le_of_ble_eq_true rfl) hl.1 dX9_station_186 ⟨Nat.zero_le _, Nat.zero_le _⟩ (fun H locs hR hS => ?_)
                  refine lv_goto (tgt := 102) hx hb dX9_station_189 (by decide) ?_
                  exact ih _ _ _ _ hf hR hS (lv_sub hl [0] rfl)
                · rw [if_neg hc] at hf
                  refine lv_aload_n hx hb dX9_station_177 rfl (lv_at hl 0 rfl) ?_
                  obtain ⟨o178, ho178, hf⟩ := bnd_some hf
                  refine mr_callVv C hR hS (As := []) (rest := []) (MM_toldDemand l d g N  o171.2 o178 ho178) wv_325 ⟨by omega, by omega⟩ rfl rfl (Nat.le_of_ble_eq_true rfl) hl.1 dX9_station_178 ⟨Nat.zero_le _, Nat.zero_le _⟩ (fun H locs hR hS => ?_)
                  refine lv_goto (tgt := 102) hx hb dX9_station_181 (by decide) ?_
                  exact ih _ _ _ _ hf hR hS (lv_sub hl [0] rfl)
              · rw [if_neg hc] at hf
                exact (wbM_station_161 C hRm ih hk192) _ _ _ _ hf hR hS (lv_sub hl [0] rfl)
        · rw [if_neg hc] at hf
          refine lv_aload_n hx hb dX9_station_129 rfl (lv_at hl 0 rfl) ?_
          obtain ⟨o130, ho130, hf⟩ := bnd_some hf
          refine mr_callVv C hR hS (As := []) (rest := []) (MM_toldDevice l d g N  o123.2 o130 ho130) wv_319 ⟨by omega, by omega⟩ rfl rfl (Nat.le_of_ble_eq_true rfl) hl.1 dX9_station_130 ⟨Nat.zero_le _, Nat.zero_le _⟩ (fun H locs hR hS => ?_)
          refine lv_goto (tgt := 102) hx hb dX9_station_133 (by decide) ?_
          exact ih _ _ _ _ hf hR hS (lv_sub hl [0] rfl)
def lM_station_194 (N : Nat) (k220 : Ms → Option (Int32 × Ms)) : Nat → Int32 → Ms → Option (Int32 × Ms)
  | 0, _, _ => none
  | n + 1, x1, S => if (mF S 48) ≤ x1 then (k220 S) else (if (mF S 8) = 0 then ((fM_late N x1 S).bind fun o211 => lM_station_194 N k220 n (x1 + 1) o211) else (k220 S))
set_option maxRecDepth 100000 in
set_option maxHeartbeats 4000000 in
theorem wlM_station_194 {p : Program} {l : Launch} {e : Env} {R : Room} {s : State} {m : MethodId} {args : Array Value} {below : List Frame} {meth : Method} {c : Code} {d : Dd} {g : Gm} {o : Int32 × Ms} {N : Nat} {k220 : Ms → Option (Int32 × Ms)} (C : CM p s m args meth c d g cX9_station 2 (some .int)) (hRm : 153 ≤ R.frames ∧ 8935 ≤ R.locals) (hk220 : ∀  (S : Ms) (H : Heap) (locs : List Loc) (ls : Array Slot), k220 S = some o → RM d g S H → va_S (AM g) s.heap H locs → lv_has ls 2 [(0, .ref g.1)] → W p l e R s m args below meth c H locs 0 0 (MQ below (QI d g o) args s 0 0 (AM g)) (F0 m 220 ls [])) : ∀ (n : Nat) (x1 : Int32) (S : Ms) (H : Heap) (locs : List Loc) (ls : Array Slot), lM_station_194 N k220 n x1 S = some o → RM d g S H → va_S (AM g) s.heap H locs → lv_has ls 2 [(0, .ref g.1), (1, .int x1)] → W p l e R s m args below meth c H locs 0 0 (MQ below (QI d g o) args s 0 0 (AM g)) (F0 m 194 ls []) := by
  obtain ⟨hx, hb, hml, hown, hts, hK, hg, hr, hlk⟩ := id C
  intro n
  induction n with
  | zero => intro x1 S H locs ls hf; cases hf
  | succ n ih =>
    intro x1 S H locs ls hf hR hS hl
    rw [lM_station_194] at hf
    refine lv_iload_n hx hb dX9_station_194 rfl (lv_at hl 1 rfl) ?_
    refine lv_aload_n hx hb dX9_station_195 rfl (lv_at hl 0 rfl) ?_
    refine mr_getI C hR fl_316 rfl dX9_station_196 ?_
    refine lv_icmp_ge (tgt := 220) hx hb dX9_station_199 (by decide) (fun hc => ?_) (fun hc => ?_)
    · rw [if_pos hc] at hf
      exact hk220 _ _ _ _ hf hR hS (lv_sub hl [0] rfl)
    · rw [if_neg hc] at hf
      refine lv_aload_n hx hb dX9_station_202 rfl (lv_at hl 0 rfl) ?_
      refine mr_getI C hR fl_281 rfl dX9_station_203 ?_
      refine lv_if_ne (tgt := 220) hx hb dX9_station_206 (by decide) (fun hc => ?_) (fun hc => ?_)
      · rw [if_neg hc] at hf
        exact hk220 _ _ _ _ hf hR hS (lv_sub hl [0] rfl)
      · rw [if_pos hc] at hf
        refine lv_aload_n hx hb dX9_station_209 rfl (lv_at hl 0 rfl) ?_
        refine lv_iload_n hx hb dX9_station_210 rfl (lv_at hl 1 rfl) ?_
        obtain ⟨o211, ho211, hf⟩ := bnd_some hf
        refine mr_callVv C hR hS (As := [.int x1]) (rest := []) (MM_late l d g N x1 S o211 ho211) wv_328 ⟨by omega, by omega⟩ rfl rfl (Nat.le_of_ble_eq_true rfl) hl.1 dX9_station_211 ⟨Nat.zero_le _, Nat.zero_le _⟩ (fun H locs hR hS => ?_)
        refine lv_iinc (v := x1 + 1) (lv' := [(1, .int (x1 + 1)), (0, .ref g.1)]) hx hb dX9_station_214 hl (k := 1) rfl rfl (by decide) rfl (fun ls hl => ?_)
        refine lv_goto (tgt := 194) hx hb dX9_station_217 (by decide) ?_
        exact ih _ _ _ _ _ hf hR hS (lv_sub hl [1, 0] rfl)
def bM_station_243 (N : Nat)  (S : Ms) : Option (Int32 × Ms) := some (mF S 8, S)
set_option maxRecDepth 100000 in
set_option maxHeartbeats 4000000 in
theorem wbM_station_243 {p : Program} {l : Launch} {e : Env} {R : Room} {s : State} {m : MethodId} {args : Array Value} {below : List Frame} {meth : Method} {c : Code} {d : Dd} {g : Gm} {o : Int32 × Ms} {N : Nat} (C : CM p s m args meth c d g cX9_station 2 (some .int)) (hRm : 153 ≤ R.frames ∧ 8935 ≤ R.locals)  (S : Ms) (H : Heap) (locs : List Loc) (ls : Array Slot) (hf : bM_station_243 N  S = some o) (hR : RM d g S H) (hS : va_S (AM g) s.heap H locs) (hl : lv_has ls 2 [(0, .ref g.1)]) : W p l e R s m args below meth c H locs 0 0 (MQ below (QI d g o) args s 0 0 (AM g)) (F0 m 243 ls []) := by
  obtain ⟨hx, hb, hml, hown, hts, hK, hg, hr, hlk⟩ := id C
  unfold bM_station_243 at hf
  refine lv_aload_n hx hb dX9_station_243 rfl (lv_at hl 0 rfl) ?_
  refine mr_getI C hR fl_281 rfl dX9_station_244 ?_
  exact mr_iret C hR hS hf dX9_station_247
def bM_station_220 (N : Nat)  (S : Ms) : Option (Int32 × Ms) := if (mF S 8) = 0 then ((fM_leanOn N S).bind fun o228 => (fM_forget N (pF o228 11 (mF o228 12))).bind fun o240 => (bM_station_243 N) o240) else ((bM_station_243 N) S)
set_option maxRecDepth 100000 in
set_option maxHeartbeats 4000000 in
theorem wbM_station_220 {p : Program} {l : Launch} {e : Env} {R : Room} {s : State} {m : MethodId} {args : Array Value} {below : List Frame} {meth : Method} {c : Code} {d : Dd} {g : Gm} {o : Int32 × Ms} {N : Nat} (C : CM p s m args meth c d g cX9_station 2 (some .int)) (hRm : 153 ≤ R.frames ∧ 8935 ≤ R.locals)  (S : Ms) (H : Heap) (locs : List Loc) (ls : Array Slot) (hf : bM_station_220 N  S = some o) (hR : RM d g S H) (hS : va_S (AM g) s.heap H locs) (hl : lv_has ls 2 [(0, .ref g.1)]) : W p l e R s m args below meth c H locs 0 0 (MQ below (QI d g o) args s 0 0 (AM g)) (F0 m 220 ls []) := by
  obtain ⟨hx, hb, hml, hown, hts, hK, hg, hr, hlk⟩ := id C
  unfold bM_station_220 at hf
  refine lv_aload_n hx hb dX9_station_220 rfl (lv_at hl 0 rfl) ?_
  refine mr_getI C hR fl_281 rfl dX9_station_221 ?_
  refine lv_if_ne (tgt := 243) hx hb dX9_station_224 (by decide) (fun hc => ?_) (fun hc => ?_)
  · rw [if_neg hc] at hf
    exact (wbM_station_243 C hRm) _ _ _ _ hf hR hS (lv_sub hl [0] rfl)
  · rw [if_pos hc] at hf
    refine lv_aload_n hx hb dX9_station_227 rfl (lv_at hl 0 rfl) ?_
    obtain ⟨o228, ho228, hf⟩ := bnd_some hf
    refine mr_callVv C hR hS (As := []) (rest := []) (MM_leanOn l d g N  S o228 ho228) wv_331 ⟨by omega, by omega⟩ rfl rfl (Nat.le_of_ble_eq_true rfl) hl.1 dX9_station_228 ⟨Nat.zero_le _, Nat.zero_le _⟩ (fun H locs hR hS => ?_)
    refine lv_aload_n hx hb dX9_station_231 rfl (lv_at hl 0 rfl) ?_
    refine lv_aload_n hx hb dX9_station_232 rfl (lv_at hl 0 rfl) ?_
    refine mr_getI C hR fl_297 rfl dX9_station_233 ?_
    refine mr_putI C hR hS fl_307 ⟨rfl, rfl, rfl⟩ dX9_station_236 (fun H locs hR hS => ?_)
    refine lv_aload_n hx hb dX9_station_239 rfl (lv_at hl 0 rfl) ?_
    obtain ⟨o240, ho240, hf⟩ := bnd_some hf
    refine mr_callVv C hR hS (As := []) (rest := []) (MM_forget l d g N  (pF o228 11 (mF o228 12)) o240 ho240) wv_334 ⟨by omega, by omega⟩ rfl rfl (Nat.le_of_ble_eq_true rfl) hl.1 dX9_station_240 ⟨Nat.zero_le _, Nat.zero_le _⟩ (fun H locs hR hS => ?_)
    exact (wbM_station_243 C hRm) _ _ _ _ hf hR hS (lv_sub hl [0] rfl)
def bM_station_192 (N : Nat)  (S : Ms) : Option (Int32 × Ms) := (lM_station_194 N (bM_station_220 N) N) 0 S
set_option maxRecDepth 100000 in
set_option maxHeartbeats 4000000 in
theorem wbM_station_192 {p : Program} {l : Launch} {e : Env} {R : Room} {s : State} {m : MethodId} {args : Array Value} {below : List Frame} {meth : Method} {c : Code} {d : Dd} {g : Gm} {o : Int32 × Ms} {N : Nat} (C : CM p s m args meth c d g cX9_station 2 (some .int)) (hRm : 153 ≤ R.frames ∧ 8935 ≤ R.locals)  (S : Ms) (H : Heap) (locs : List Loc) (ls : Array Slot) (hf : bM_station_192 N  S = some o) (hR : RM d g S H) (hS : va_S (AM g) s.heap H locs) (hl : lv_has ls 2 [(0, .ref g.1)]) : W p l e R s m args below meth c H locs 0 0 (MQ below (QI d g o) args s 0 0 (AM g)) (F0 m 192 ls []) := by
  obtain ⟨hx, hb, hml, hown, hts, hK, hg, hr, hlk⟩ := id C
  unfold bM_station_192 at hf
  refine lv_iconst (v := 0) hx hb dX9_station_192 (by decide) ?_
  refine lv_istore_n (lv' := [(1, .int 0), (0, .ref g.1)]) hx hb dX9_station_193 rfl hl (by decide) rfl (fun ls hl => ?_)
  exact (wlM_station_194 C hRm (wbM_station_220 C hRm) N) _ _ _ _ _ hf hR hS (lv_sub hl [1, 0] rfl)
def fM_station (N : Nat)  (S : Ms) : Option (Int32 × Ms) := (fM_cutAll N (pF S 0 0)).bind fun o6 => ck (mF (pF o6 12 (1 - (mF o6 11))) 12) 2 (ck (mF (pA (pF o6 12 (1 - (mF o6 11))) 13 (mF (pF o6 12 (1 - (mF o6 11))) 12 : Int32).toNatClampNeg 0) 12) 2 (ck (mF (pA (pA (pF o6 12 (1 - (mF o6 11))) 13 (mF (pF o6 12 (1 - (mF o6 11))) 12 : Int32).toNatClampNeg 0) 18 (mF (pA (pF o6 12 (1 - (mF o6 11))) 13 (mF (pF o6 12 (1 - (mF o6 11))) 12 : Int32).toNatClampNeg 0) 12 : Int32).toNatClampNeg 0) 12) 2 ((lM_station_73 N (lM_station_102 N (bM_station_192 N) N) N) 0 (pF (pF (pF (pA (pA (pA (pF o6 12 (1 - (mF o6 11))) 13 (mF (pF o6 12 (1 - (mF o6 11))) 12 : Int32).toNatClampNeg 0) 18 (mF (pA (pF o6 12 (1 - (mF o6 11))) 13 (mF (pF o6 12 (1 - (mF o6 11))) 12 : Int32).toNatClampNeg 0) 12 : Int32).toNatClampNeg 0) 35 (mF (pA (pA (pF o6 12 (1 - (mF o6 11))) 13 (mF (pF o6 12 (1 - (mF o6 11))) 12 : Int32).toNatClampNeg 0) 18 (mF (pA (pF o6 12 (1 - (mF o6 11))) 13 (mF (pF o6 12 (1 - (mF o6 11))) 12 : Int32).toNatClampNeg 0) 12 : Int32).toNatClampNeg 0) 12 : Int32).toNatClampNeg 0) 38 0) 42 (10000 * (mF (pF (pA (pA (pA (pF o6 12 (1 - (mF o6 11))) 13 (mF (pF o6 12 (1 - (mF o6 11))) 12 : Int32).toNatClampNeg 0) 18 (mF (pA (pF o6 12 (1 - (mF o6 11))) 13 (mF (pF o6 12 (1 - (mF o6 11))) 12 : Int32).toNatClampNeg 0) 12 : Int32).toNatClampNeg 0) 35 (mF (pA (pA (pF o6 12 (1 - (mF o6 11))) 13 (mF (pF o6 12 (1 - (mF o6 11))) 12 : Int32).toNatClampNeg 0) 18 (mF (pA (pF o6 12 (1 - (mF o6 11))) 13 (mF (pF o6 12 (1 - (mF o6 11))) 12 : Int32).toNatClampNeg 0) 12 : Int32).toNatClampNeg 0) 12 : Int32).toNatClampNeg 0) 38 0) 12))) 48 0))))
set_option maxRecDepth 100000 in
set_option maxHeartbeats 4000000 in
theorem wfM_station {p : Program} {l : Launch} {e : Env} {R : Room} {s : State} {m : MethodId} {args : Array Value} {below : List Frame} {meth : Method} {c : Code} {d : Dd} {g : Gm} {o : Int32 × Ms} {N : Nat} (C : CM p s m args meth c d g cX9_station 2 (some .int)) (hRm : 153 ≤ R.frames ∧ 8935 ≤ R.locals)  (S : Ms) (H : Heap) (locs : List Loc) (ls : Array Slot) (hf : fM_station N  S = some o) (hR : RM d g S H) (hS : va_S (AM g) s.heap H locs) (hl : lv_has ls 2 [(0, .ref g.1)]) : W p l e R s m args below meth c H locs 0 0 (MQ below (QI d g o) args s 0 0 (AM g)) (F0 m 0 ls []) := by
  obtain ⟨hx, hb, hml, hown, hts, hK, hg, hr, hlk⟩ := id C
  unfold fM_station at hf
  refine lv_aload_n hx hb dX9_station_0 rfl (lv_at hl 0 rfl) ?_
  refine lv_iconst (v := 0) hx hb dX9_station_1 (by decide) ?_
  refine mr_putI C hR hS fl_1 ⟨rfl, rfl, rfl⟩ dX9_station_2 (fun H locs hR hS => ?_)
  refine lv_aload_n hx hb dX9_station_5 rfl (lv_at hl 0 rfl) ?_
  obtain ⟨o6, ho6, hf⟩ := bnd_some hf
  refine mr_callVv C hR hS (As := []) (rest := []) (MM_cutAll l d g N  (pF S 0 0) o6 ho6) wv_304 ⟨by omega, by omega⟩ rfl rfl (Nat.le_of_ble_eq_true rfl) hl.1 dX9_station_6 ⟨Nat.zero_le _, Nat.zero_le _⟩ (fun H locs hR hS => ?_)
  refine lv_aload_n hx hb dX9_station_9 rfl (lv_at hl 0 rfl) ?_
  refine lv_iconst (v := 1) hx hb dX9_station_10 (by decide) ?_
  refine lv_aload_n hx hb dX9_station_11 rfl (lv_at hl 0 rfl) ?_
  refine mr_getI C hR fl_307 rfl dX9_station_12 ?_
  refine lv_isub hx hb dX9_station_15 ?_
  refine mr_putI C hR hS fl_297 ⟨rfl, rfl, rfl⟩ dX9_station_16 (fun H locs hR hS => ?_)
  refine lv_aload_n hx hb dX9_station_19 rfl (lv_at hl 0 rfl) ?_
  refine mr_getR C hR fl_43 (by decide) dX9_station_20 ?_
  refine lv_aload_n hx hb dX9_station_23 rfl (lv_at hl 0 rfl) ?_
  refine mr_getI C hR fl_297 rfl dX9_station_24 ?_
  refine lv_iconst (v := 0) hx hb dX9_station_27 (by decide) ?_
  obtain ⟨hi, hf⟩ := ck_some hf
  refine mr_iast C hR hS (k := 13) rfl hi dX9_station_28 (fun H locs hR hS => ?_)
  refine lv_aload_n hx hb dX9_station_29 rfl (lv_at hl 0 rfl) ?_
  refine mr_getR C hR fl_58 (by decide) dX9_station_30 ?_
  refine lv_aload_n hx hb dX9_station_33 rfl (lv_at hl 0 rfl) ?_
  refine mr_getI C hR fl_297 rfl dX9_station_34 ?_
  refine lv_iconst (v := 0) hx hb dX9_station_37 (by decide) ?_
  obtain ⟨hi, hf⟩ := ck_some hf
  refine mr_iast C hR hS (k := 18) rfl hi dX9_station_38 (fun H locs hR hS => ?_)
  refine lv_aload_n hx hb dX9_station_39 rfl (lv_at hl 0 rfl) ?_
  refine mr_getR C hR fl_110 (by decide) dX9_station_40 ?_
  refine lv_aload_n hx hb dX9_station_43 rfl (lv_at hl 0 rfl) ?_
  refine mr_getI C hR fl_297 rfl dX9_station_44 ?_
  refine lv_iconst (v := 0) hx hb dX9_station_47 (by decide) ?_
  obtain ⟨hi, hf⟩ := ck_some hf
  refine mr_iast C hR hS (k := 35) rfl hi dX9_station_48 (fun H locs hR hS => ?_)
  refine lv_aload_n hx hb dX9_station_49 rfl (lv_at hl 0 rfl) ?_
  refine lv_iconst (v := 0) hx hb dX9_station_50 (by decide) ?_
  refine mr_putI C hR hS fl_310 ⟨rfl, rfl, rfl⟩ dX9_station_51 (fun H locs hR hS => ?_)
  refine lv_aload_n hx hb dX9_station_54 rfl (lv_at hl 0 rfl) ?_
  refine lv_sipush (v := 10000) hx hb dX9_station_55 (by decide) ?_
  refine lv_aload_n hx hb dX9_station_58 rfl (lv_at hl 0 rfl) ?_
  refine mr_getI C hR fl_297 rfl dX9_station_59 ?_
  refine lv_imul hx hb dX9_station_62 ?_
  refine mr_putI C hR hS fl_313 ⟨rfl, rfl, rfl⟩ dX9_station_63 (fun H locs hR hS => ?_)
  refine lv_aload_n hx hb dX9_station_66 rfl (lv_at hl 0 rfl) ?_
  refine lv_iconst (v := 0) hx hb dX9_station_67 (by decide) ?_
  refine mr_putI C hR hS fl_316 ⟨rfl, rfl, rfl⟩ dX9_station_68 (fun H locs hR hS => ?_)
  refine lv_iconst (v := 0) hx hb dX9_station_71 (by decide) ?_
  refine lv_istore_n (lv' := [(1, .int 0), (0, .ref g.1)]) hx hb dX9_station_72 rfl hl (by decide) rfl (fun ls hl => ?_)
  exact (wlM_station_73 C hRm (wlM_station_102 C hRm (wbM_station_192 C hRm) N) N) _ _ _ _ _ hf hR hS (lv_sub hl [1, 0] rfl)
theorem MM_station (l : Launch) (d : Dd) (g : Gm) (N : Nat)  (S : Ms) (o : Int32 × Ms) (hf : fM_station N  S = some o) : MtI l d g yX9_station cX9_station 2 (some .int) 153 8935 [.ref g.1] S o :=
  mr_metI (by decide) rfl (Nat.le_of_ble_eq_true rfl) (fun p e s m args below meth c ls C hR hl => wfM_station C ⟨Nat.le_refl _, Nat.le_refl _⟩  S s.heap [] ls hf hR va_S.rf hl)
def fM_fails (N : Nat) (x1 : Int32) (x2 : Int32) (S : Ms) : Option (Int32 × Ms) := some (1, pF (pF S 90 x1) 91 x2)
set_option maxRecDepth 100000 in
set_option maxHeartbeats 4000000 in
theorem wfM_fails {p : Program} {l : Launch} {e : Env} {R : Room} {s : State} {m : MethodId} {args : Array Value} {below : List Frame} {meth : Method} {c : Code} {d : Dd} {g : Gm} {o : Int32 × Ms} {N : Nat} (C : CM p s m args meth c d g cX9_fails 3 (some .int)) (hRm : 0 ≤ R.frames ∧ 0 ≤ R.locals) (x1 : Int32) (x2 : Int32) (S : Ms) (H : Heap) (locs : List Loc) (ls : Array Slot) (hf : fM_fails N x1 x2 S = some o) (hR : RM d g S H) (hS : va_S (AM g) s.heap H locs) (hl : lv_has ls 3 [(0, .ref g.1), (1, .int x1), (2, .int x2)]) : W p l e R s m args below meth c H locs 0 0 (MQ below (QI d g o) args s 0 0 (AM g)) (F0 m 0 ls []) := by
  obtain ⟨hx, hb, hml, hown, hts, hK, hg, hr, hlk⟩ := id C
  unfold fM_fails at hf
  refine lv_aload_n hx hb dX9_fails_0 rfl (lv_at hl 0 rfl) ?_
  refine lv_iload_n hx hb dX9_fails_1 rfl (lv_at hl 1 rfl) ?_
  refine mr_putI C hR hS fl_491 ⟨rfl, rfl, rfl⟩ dX9_fails_2 (fun H locs hR hS => ?_)
  refine lv_aload_n hx hb dX9_fails_5 rfl (lv_at hl 0 rfl) ?_
  refine lv_iload_n hx hb dX9_fails_6 rfl (lv_at hl 2 rfl) ?_
  refine mr_putI C hR hS fl_494 ⟨rfl, rfl, rfl⟩ dX9_fails_7 (fun H locs hR hS => ?_)
  refine lv_iconst (v := 1) hx hb dX9_fails_10 (by decide) ?_
  exact mr_iret C hR hS hf dX9_fails_11
theorem MM_fails (l : Launch) (d : Dd) (g : Gm) (N : Nat) (x1 : Int32) (x2 : Int32) (S : Ms) (o : Int32 × Ms) (hf : fM_fails N x1 x2 S = some o) : MtI l d g yX9_fails cX9_fails 3 (some .int) 0 0 [.ref g.1, .int x1, .int x2] S o :=
  mr_metI (by decide) rfl (Nat.le_of_ble_eq_true rfl) (fun p e s m args below meth c ls C hR hl => wfM_fails C ⟨Nat.le_refl _, Nat.le_refl _⟩ x1 x2 S s.heap [] ls hf hR va_S.rf hl)
