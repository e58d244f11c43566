def HP (l : Launch) (d : Dd) (g : Gm) (GP : Nat → Ms → Option Ms) (fr lo : Nat) : Prop := (∀  (S : Ms) (o : Ms), GP 0 S = some o → MtV l d g yX9_block cX9_block 1 fr lo [.ref g.1] S o) ∧ (∀  (S : Ms) (o : Ms), GP 1 S = some o → MtV l d g yX9_statement cX9_statement 4 fr lo [.ref g.1] S o) ∧ (∀  (S : Ms) (o : Ms), GP 2 S = some o → MtV l d g yX9_choice cX9_choice 3 fr lo [.ref g.1] S o) ∧ (∀  (S : Ms) (o : Ms), GP 3 S = some o → MtV l d g yX9_plain cX9_plain 3 fr lo [.ref g.1] S o) ∧ (∀  (S : Ms) (o : Ms), GP 4 S = some o → MtV l d g yX9_set cX9_set 6 fr lo [.ref g.1] S o) ∧ (∀  (S : Ms) (o : Ms), GP 5 S = some o → MtV l d g yX9_expression cX9_expression 3 fr lo [.ref g.1] S o) ∧ (∀  (S : Ms) (o : Ms), GP 6 S = some o → MtV l d g yX9_sum cX9_sum 3 fr lo [.ref g.1] S o) ∧ (∀  (S : Ms) (o : Ms), GP 7 S = some o → MtV l d g yX9_product cX9_product 3 fr lo [.ref g.1] S o) ∧ (∀  (S : Ms) (o : Ms), GP 8 S = some o → MtV l d g yX9_part cX9_part 2 fr lo [.ref g.1] S o) ∧ (∀  (S : Ms) (o : Ms), GP 9 S = some o → MtV l d g yX9_partWithin cX9_partWithin 3 fr lo [.ref g.1] S o)
def lM_block_16 (N : Nat) (GP : Nat → Ms → Option Ms) (k39 : Ms → Option (Ms)) : Nat → Ms → Option (Ms)
  | 0, _ => none
  | n + 1, S => if (mF S 8) = 0 then ((fM_isSign N 125 S).bind fun o26 => if o26.1 = 0 then ((GP 1 o26.2).bind fun o33 => lM_block_16 N GP k39 n o33) else (k39 o26.2)) else (k39 S)
set_option maxRecDepth 100000 in
set_option maxHeartbeats 4000000 in
theorem wlM_block_16 {p : Program} {l : Launch} {e : Env} {R : Room} {s : State} {m : MethodId} {args : Array Value} {below : List Frame} {meth : Method} {c : Code} {d : Dd} {g : Gm} {o : Ms} {fr lo : Nat} {N : Nat} {GP : Nat → Ms → Option Ms} {k39 : Ms → Option (Ms)} (C : CM p s m args meth c d g cX9_block 1 none) (hRm : (fr + 1) ≤ R.frames ∧ (lo + 60) ≤ R.locals) (hGP : HP l d g GP fr lo) (hB : 30 ≤ fr ∧ 1659 ≤ lo) (hk39 : ∀  (S : Ms) (H : Heap) (locs : List Loc) (ls : Array Slot), k39 S = some o → RM d g S H → va_S (AM g) s.heap H locs → lv_has ls 1 [(0, .ref g.1)] → W p l e R s m args below meth c H locs 0 0 (MQ below (QV d g o) args s 0 0 (AM g)) (F0 m 39 ls [])) : ∀ (n : Nat)  (S : Ms) (H : Heap) (locs : List Loc) (ls : Array Slot), lM_block_16 N GP k39 n  S = some o → RM d g S H → va_S (AM g) s.heap H locs → lv_has ls 1 [(0, .ref g.1)] → W p l e R s m args below meth c H locs 0 0 (MQ below (QV d g o) args s 0 0 (AM g)) (F0 m 16 ls []) := by
  obtain ⟨hx, hb, hml, hown, hts, hK, hg, hr, hlk⟩ := id C
  intro n
  induction n with
  | zero => intro  S H locs ls hf; cases hf
  | succ n ih =>
    intro  S H locs ls hf hR hS hl
    rw [lM_block_16] at hf
    refine lv_aload_n hx hb dX9_block_16 rfl (lv_at hl 0 rfl) ?_
    refine mr_getI C hR fl_281 rfl dX9_block_17 ?_
    refine lv_if_ne (tgt := 39) hx hb dX9_block_20 (by decide) (fun hc => ?_) (fun hc => ?_)
    · rw [if_neg hc] at hf
      exact hk39 _ _ _ _ hf hR hS (lv_sub hl [0] rfl)
    · rw [if_pos hc] at hf
      refine lv_aload_n hx hb dX9_block_23 rfl (lv_at hl 0 rfl) ?_
      refine lv_bipush (v := 125) hx hb dX9_block_24 (by decide) ?_
      obtain ⟨o26, ho26, hf⟩ := bnd_some hf
      refine mr_callIv C hR hS (As := [.int 125]) (rest := []) (MM_isSign l d g N 125 S o26 ho26) wv_284 ⟨by omega, by omega⟩ rfl rfl (Nat.le_of_ble_eq_true rfl) hl.1 dX9_block_26 ⟨Nat.zero_le _, Nat.zero_le _⟩ (fun H locs hR hS => ?_)
      refine lv_if_ne (tgt := 39) hx hb dX9_block_29 (by decide) (fun hc => ?_) (fun hc => ?_)
      · rw [if_neg hc] at hf
        exact hk39 _ _ _ _ hf hR hS (lv_sub hl [0] rfl)
      · rw [if_pos hc] at hf
        refine lv_aload_n hx hb dX9_block_32 rfl (lv_at hl 0 rfl) ?_
        obtain ⟨o33, ho33, hf⟩ := bnd_some hf
        refine mr_callVv C hR hS (As := []) (rest := []) (hGP.2.1 _ _ ho33) wv_386 ⟨by omega, by omega⟩ rfl rfl (Nat.le_of_ble_eq_true rfl) hl.1 dX9_block_33 ⟨Nat.zero_le _, Nat.zero_le _⟩ (fun H locs hR hS => ?_)
        refine lv_goto (tgt := 16) hx hb dX9_block_36 (by decide) ?_
        exact ih _ _ _ _ hf hR hS (lv_sub hl [0] rfl)
def bM_block_39 (N : Nat) (GP : Nat → Ms → Option Ms)  (S : Ms) : Option (Ms) := (fM_takeSign N 125 S).bind fun o42 => some (pF o42 50 ((mF o42 50) - 1))
set_option maxRecDepth 100000 in
set_option maxHeartbeats 4000000 in
theorem wbM_block_39 {p : Program} {l : Launch} {e : Env} {R : Room} {s : State} {m : MethodId} {args : Array Value} {below : List Frame} {meth : Method} {c : Code} {d : Dd} {g : Gm} {o : Ms} {fr lo : Nat} {N : Nat} {GP : Nat → Ms → Option Ms} (C : CM p s m args meth c d g cX9_block 1 none) (hRm : (fr + 1) ≤ R.frames ∧ (lo + 60) ≤ R.locals) (hGP : HP l d g GP fr lo) (hB : 30 ≤ fr ∧ 1659 ≤ lo)  (S : Ms) (H : Heap) (locs : List Loc) (ls : Array Slot) (hf : bM_block_39 N GP  S = some o) (hR : RM d g S H) (hS : va_S (AM g) s.heap H locs) (hl : lv_has ls 1 [(0, .ref g.1)]) : W p l e R s m args below meth c H locs 0 0 (MQ below (QV d g o) args s 0 0 (AM g)) (F0 m 39 ls []) := by
  obtain ⟨hx, hb, hml, hown, hts, hK, hg, hr, hlk⟩ := id C
  unfold bM_block_39 at hf
  refine lv_aload_n hx hb dX9_block_39 rfl (lv_at hl 0 rfl) ?_
  refine lv_bipush (v := 125) hx hb dX9_block_40 (by decide) ?_
  obtain ⟨o42, ho42, hf⟩ := bnd_some hf
  refine mr_callVv C hR hS (As := [.int 125]) (rest := []) (MM_takeSign l d g N 125 S o42 ho42) wv_357 ⟨by omega, by omega⟩ rfl rfl (Nat.le_of_ble_eq_true rfl) hl.1 dX9_block_42 ⟨Nat.zero_le _, Nat.zero_le _⟩ (fun H locs hR hS => ?_)
  refine lv_aload_n hx hb dX9_block_45 rfl (lv_at hl 0 rfl) ?_
  refine lv_dup hx hb dX9_block_46 rfl ?_
  refine mr_getI C hR fl_373 rfl dX9_block_47 ?_
  refine lv_iconst (v := 1) hx hb dX9_block_50 (by decide) ?_
  refine lv_isub hx hb dX9_block_51 ?_
  refine mr_putI C hR hS fl_373 ⟨rfl, rfl, rfl⟩ dX9_block_52 (fun H locs hR hS => ?_)
  exact mr_vret C hR hS hf dX9_block_55
def fM_block (N : Nat) (GP : Nat → Ms → Option Ms)  (S : Ms) : Option (Ms) := (fM_isSign N 123 S).bind fun o4 => (fM_within N o4.1 o4.2).bind fun o7 => (fM_takeSign N 123 o7).bind fun o13 => (lM_block_16 N GP (bM_block_39 N GP) N) o13
set_option maxRecDepth 100000 in
set_option maxHeartbeats 4000000 in
theorem wfM_block {p : Program} {l : Launch} {e : Env} {R : Room} {s : State} {m : MethodId} {args : Array Value} {below : List Frame} {meth : Method} {c : Code} {d : Dd} {g : Gm} {o : Ms} {fr lo : Nat} {N : Nat} {GP : Nat → Ms → Option Ms} (C : CM p s m args meth c d g cX9_block 1 none) (hRm : (fr + 1) ≤ R.frames ∧ (lo + 60) ≤ R.locals) (hGP : HP l d g GP fr lo) (hB : 30 ≤ fr ∧ 1659 ≤ lo)  (S : Ms) (H : Heap) (locs : List Loc) (ls : Array Slot) (hf : fM_block N GP  S = some o) (hR : RM d g S H) (hS : va_S (AM g) s.heap H locs) (hl : lv_has ls 1 [(0, .ref g.1)]) : W p l e R s m args below meth c H locs 0 0 (MQ below (QV d g o) args s 0 0 (AM g)) (F0 m 0 ls []) := by
  obtain ⟨hx, hb, hml, hown, hts, hK, hg, hr, hlk⟩ := id C
  unfold fM_block at hf
  refine lv_aload_n hx hb dX9_block_0 rfl (lv_at hl 0 rfl) ?_
  refine lv_aload_n hx hb dX9_block_1 rfl (lv_at hl 0 rfl) ?_
  refine lv_bipush (v := 123) hx hb dX9_block_2 (by decide) ?_
  obtain ⟨o4, ho4, hf⟩ := bnd_some hf
  refine mr_callIv C hR hS (As := [.int 123]) (rest := [.ref g.1]) (MM_isSign l d g N 123 S o4 ho4) wv_284 ⟨by omega, by omega⟩ rfl rfl (Nat.le_of_ble_eq_true rfl) hl.1 dX9_block_4 ⟨Nat.zero_le _, Nat.zero_le _⟩ (fun H locs hR hS => ?_)
  obtain ⟨o7, ho7, hf⟩ := bnd_some hf
  refine mr_callVv C hR hS (As := [.int o4.1]) (rest := []) (MM_within l d g N o4.1 o4.2 o7 ho7) wv_408 ⟨by omega, by omega⟩ rfl rfl (Nat.le_of_ble_eq_true rfl) hl.1 dX9_block_7 ⟨Nat.zero_le _, Nat.zero_le _⟩ (fun H locs hR hS => ?_)
  refine lv_aload_n hx hb dX9_block_10 rfl (lv_at hl 0 rfl) ?_
  refine lv_bipush (v := 123) hx hb dX9_block_11 (by decide) ?_
  obtain ⟨o13, ho13, hf⟩ := bnd_some hf
  refine mr_callVv C hR hS (As := [.int 123]) (rest := []) (MM_takeSign l d g N 123 o7 o13 ho13) wv_357 ⟨by omega, by omega⟩ rfl rfl (Nat.le_of_ble_eq_true rfl) hl.1 dX9_block_13 ⟨Nat.zero_le _, Nat.zero_le _⟩ (fun H locs hR hS => ?_)
  exact (wlM_block_16 C hRm hGP hB (wbM_block_39 C hRm hGP hB) N) _ _ _ _ hf hR hS (lv_sub hl [0] rfl)
def bM_statement_142 (N : Nat) (GP : Nat → Ms → Option Ms)  (S : Ms) : Option (Ms) := some S
set_option maxRecDepth 100000 in
set_option maxHeartbeats 4000000 in
theorem wbM_statement_142 {p : Program} {l : Launch} {e : Env} {R : Room} {s : State} {m : MethodId} {args : Array Value} {below : List Frame} {meth : Method} {c : Code} {d : Dd} {g : Gm} {o : Ms} {fr lo : Nat} {N : Nat} {GP : Nat → Ms → Option Ms} (C : CM p s m args meth c d g cX9_statement 4 none) (hRm : (fr + 1) ≤ R.frames ∧ (lo + 60) ≤ R.locals) (hGP : HP l d g GP fr lo) (hB : 30 ≤ fr ∧ 1659 ≤ lo)  (S : Ms) (H : Heap) (locs : List Loc) (ls : Array Slot) (hf : bM_statement_142 N GP  S = some o) (hR : RM d g S H) (hS : va_S (AM g) s.heap H locs) (hl : lv_has ls 4 [(0, .ref g.1)]) : W p l e R s m args below meth c H locs 0 0 (MQ below (QV d g o) args s 0 0 (AM g)) (F0 m 142 ls []) := by
  obtain ⟨hx, hb, hml, hown, hts, hK, hg, hr, hlk⟩ := id C
  unfold bM_statement_142 at hf
  exact mr_vret C hR hS hf dX9_statement_142
def fM_statement (N : Nat) (GP : Nat → Ms → Option Ms)  (S : Ms) : Option (Ms) := (fM_hasWord N 20 S).bind fun o3 => if o3.1 = 0 then ((fM_emit N 1 0 0 o3.2).bind fun o58 => (fM_hasWord N 18 o58.2).bind fun o65 => if o65.1 = 0 then ((fM_hasWord N 21 o65.2).bind fun o81 => if o81.1 = 0 then ((GP 3 o81.2).bind fun o133 => (fM_takeSign N 59 o133).bind fun o139 => (bM_statement_142 N GP) o139) else ((fM_emit N 12 0 0 o81.2).bind fun o92 => (GP 0 o92.2).bind fun o97 => (fM_emit N 13 0 0 o97).bind fun o105 => (fM_here N o92.1 o105.2).bind fun o111 => (fM_takeWord N 8 o111).bind fun o117 => (GP 0 o117).bind fun o121 => (fM_here N o105.1 o121).bind fun o126 => (bM_statement_142 N GP) o126)) else ((GP 2 o65.2).bind fun o72 => (bM_statement_142 N GP) o72)) else ((fM_emit N 1 0 0 o3.2).bind fun o13 => (GP 5 o13.2).bind fun o18 => (fM_emit N 11 0 0 o18).bind fun o26 => (GP 0 o26.2).bind fun o31 => (fM_emit N 10 ((mF o31 42) + o13.1) 0 o31).bind fun o44 => (fM_here N o26.1 o44.2).bind fun o50 => some o50)
set_option maxRecDepth 100000 in
set_option maxHeartbeats 4000000 in
theorem wfM_statement {p : Program} {l : Launch} {e : Env} {R : Room} {s : State} {m : MethodId} {args : Array Value} {below : List Frame} {meth : Method} {c : Code} {d : Dd} {g : Gm} {o : Ms} {fr lo : Nat} {N : Nat} {GP : Nat → Ms → Option Ms} (C : CM p s m args meth c d g cX9_statement 4 none) (hRm : (fr + 1) ≤ R.frames ∧ (lo + 60) ≤ R.locals) (hGP : HP l d g GP fr lo) (hB : 30 ≤ fr ∧ 1659 ≤ lo)  (S : Ms) (H : Heap) (locs : List Loc) (ls : Array Slot) (hf : fM_statement N GP  S = some o) (hR : RM d g S H) (hS : va_S (AM g) s.heap H locs) (hl : lv_has ls 4 [(0, .ref g.1)]) : W p l e R s m args below meth c H locs 0 0 (MQ below (QV d g o) args s 0 0 (AM g)) (F0 m 0 ls []) := by
  obtain ⟨hx, hb, hml, hown, hts, hK, hg, hr, hlk⟩ := id C
  unfold fM_statement at hf
  refine lv_aload_n hx hb dX9_statement_0 rfl (lv_at hl 0 rfl) ?_
  refine lv_bipush (v := 20) hx hb dX9_statement_1 (by decide) ?_
  obtain ⟨o3, ho3, hf⟩ := bnd_some hf
  refine mr_callIv C hR hS (As := [.int 20]) (rest := []) (MM_hasWord l d g N 20 S o3 ho3) wv_294 ⟨by omega, by omega⟩ rfl rfl (Nat.le_of_ble_eq_true rfl) hl.1 dX9_statement_3 ⟨Nat.zero_le _, Nat.zero_le _⟩ (fun H locs hR hS => ?_)
  refine lv_if_eq (tgt := 54) hx hb dX9_statement_6 (by decide) (fun hc => ?_) (fun hc => ?_)
  · rw [if_pos hc] at hf
    refine lv_aload_n hx hb dX9_statement_54 rfl (lv_at hl 0 rfl) ?_
    refine lv_iconst (v := 1) hx hb dX9_statement_55 (by decide) ?_
    refine lv_iconst (v := 0) hx hb dX9_statement_56 (by decide) ?_
    refine lv_iconst (v := 0) hx hb dX9_statement_57 (by decide) ?_
    obtain ⟨o58, ho58, hf⟩ := bnd_some hf
    refine mr_callIv C hR hS (As := [.int 1, .int 0, .int 0]) (rest := []) (MM_emit l d g N 1 0 0 o3.2 o58 ho58) wv_379 ⟨by omega, by omega⟩ rfl rfl (Nat.le_of_ble_eq_true rfl) hl.1 dX9_statement_58 ⟨Nat.zero_le _, Nat.zero_le _⟩ (fun H locs hR hS => ?_)
    refine lv_istore_n (lv' := [(1, .int o58.1), (0, .ref g.1)]) hx hb dX9_statement_61 rfl hl (by decide) rfl (fun ls hl => ?_)
    refine lv_aload_n hx hb dX9_statement_62 rfl (lv_at hl 1 rfl) ?_
    refine lv_bipush (v := 18) hx hb dX9_statement_63 (by decide) ?_
    obtain ⟨o65, ho65, hf⟩ := bnd_some hf
    refine mr_callIv C hR hS (As := [.int 18]) (rest := []) (MM_hasWord l d g N 18 o58.2 o65 ho65) wv_294 ⟨by omega, by omega⟩ rfl rfl (Nat.le_of_ble_eq_true rfl) hl.1 dX9_statement_65 ⟨Nat.zero_le _, Nat.zero_le _⟩ (fun H locs hR hS => ?_)
    refine lv_if_eq (tgt := 78) hx hb dX9_statement_68 (by decide) (fun hc => ?_) (fun hc => ?_)
    · rw [if_pos hc] at hf
      refine lv_aload_n hx hb dX9_statement_78 rfl (lv_at hl 1 rfl) ?_
      refine lv_bipush (v := 21) hx hb dX9_statement_79 (by decide) ?_
      obtain ⟨o81, ho81, hf⟩ := bnd_some hf
      refine mr_callIv C hR hS (As := [.int 21]) (rest := []) (MM_hasWord l d g N 21 o65.2 o81 ho81) wv_294 ⟨by omega, by omega⟩ rfl rfl (Nat.le_of_ble_eq_true rfl) hl.1 dX9_statement_81 ⟨Nat.zero_le _, Nat.zero_le _⟩ (fun H locs hR hS => ?_)
      refine lv_if_eq (tgt := 132) hx hb dX9_statement_84 (by decide) (fun hc => ?_) (fun hc => ?_)
      · rw [if_pos hc] at hf
        refine lv_aload_n hx hb dX9_statement_132 rfl (lv_at hl 1 rfl) ?_
        obtain ⟨o133, ho133, hf⟩ := bnd_some hf
        refine mr_callVv C hR hS (As := []) (rest := []) (hGP.2.2.2.1 _ _ ho133) wv_421 ⟨by omega, by omega⟩ rfl rfl (Nat.le_of_ble_eq_true rfl) hl.1 dX9_statement_133 ⟨Nat.zero_le _, Nat.zero_le _⟩ (fun H locs hR hS => ?_)
        refine lv_aload_n hx hb dX9_statement_136 rfl (lv_at hl 1 rfl) ?_
        refine lv_bipush (v := 59) hx hb dX9_statement_137 (by decide) ?_
        obtain ⟨o139, ho139, hf⟩ := bnd_some hf
        refine mr_callVv C hR hS (As := [.int 59]) (rest := []) (MM_takeSign l d g N 59 o133 o139 ho139) wv_357 ⟨by omega, by omega⟩ rfl rfl (Nat.le_of_ble_eq_true rfl) hl.1 dX9_statement_139 ⟨Nat.zero_le _, Nat.zero_le _⟩ (fun H locs hR hS => ?_)
        exact (wbM_statement_142 C hRm hGP hB) _ _ _ _ hf hR hS (lv_sub hl [1] rfl)
      · rw [if_neg hc] at hf
        refine lv_aload_n hx hb dX9_statement_87 rfl (lv_at hl 1 rfl) ?_
        refine lv_bipush (v := 12) hx hb dX9_statement_88 (by decide) ?_
        refine lv_iconst (v := 0) hx hb dX9_statement_90 (by decide) ?_
        refine lv_iconst (v := 0) hx hb dX9_statement_91 (by decide) ?_
        obtain ⟨o92, ho92, hf⟩ := bnd_some hf
        refine mr_callIv C hR hS (As := [.int 12, .int 0, .int 0]) (rest := []) (MM_emit l d g N 12 0 0 o81.2 o92 ho92) wv_379 ⟨by omega, by omega⟩ rfl rfl (Nat.le_of_ble_eq_true rfl) hl.1 dX9_statement_92 ⟨Nat.zero_le _, Nat.zero_le _⟩ (fun H locs hR hS => ?_)
        refine lv_istore_n (lv' := [(2, .int o92.1), (1, .int o58.1), (0, .ref g.1)]) hx hb dX9_statement_95 rfl hl (by decide) rfl (fun ls hl => ?_)
        refine lv_aload_n hx hb dX9_statement_96 rfl (lv_at hl 2 rfl) ?_
        obtain ⟨o97, ho97, hf⟩ := bnd_some hf
        refine mr_callVv C hR hS (As := []) (rest := []) (hGP.1 _ _ ho97) wv_383 ⟨by omega, by omega⟩ rfl rfl (Nat.le_of_ble_eq_true rfl) hl.1 dX9_statement_97 ⟨Nat.zero_le _, Nat.zero_le _⟩ (fun H locs hR hS => ?_)
        refine lv_aload_n hx hb dX9_statement_100 rfl (lv_at hl 2 rfl) ?_
        refine lv_bipush (v := 13) hx hb dX9_statement_101 (by decide) ?_
        refine lv_iconst (v := 0) hx hb dX9_statement_103 (by decide) ?_
        refine lv_iconst (v := 0) hx hb dX9_statement_104 (by decide) ?_
        obtain ⟨o105, ho105, hf⟩ := bnd_some hf
        refine mr_callIv C hR hS (As := [.int 13, .int 0, .int 0]) (rest := []) (MM_emit l d g N 13 0 0 o97 o105 ho105) wv_379 ⟨by omega, by omega⟩ rfl rfl (Nat.le_of_ble_eq_true rfl) hl.1 dX9_statement_105 ⟨Nat.zero_le _, Nat.zero_le _⟩ (fun H locs hR hS => ?_)
        refine lv_istore_n (lv' := [(3, .int o105.1), (2, .int o92.1), (1, .int o58.1), (0, .ref g.1)]) hx hb dX9_statement_108 rfl hl (by decide) rfl (fun ls hl => ?_)
        refine lv_aload_n hx hb dX9_statement_109 rfl (lv_at hl 3 rfl) ?_
        refine lv_iload_n hx hb dX9_statement_110 rfl (lv_at hl 1 rfl) ?_
        obtain ⟨o111, ho111, hf⟩ := bnd_some hf
        refine mr_callVv C hR hS (As := [.int o92.1]) (rest := []) (MM_here l d g N o92.1 o105.2 o111 ho111) wv_415 ⟨by omega, by omega⟩ rfl rfl (Nat.le_of_ble_eq_true rfl) hl.1 dX9_statement_111 ⟨Nat.zero_le _, Nat.zero_le _⟩ (fun H locs hR hS => ?_)
        refine lv_aload_n hx hb dX9_statement_114 rfl (lv_at hl 3 rfl) ?_
        refine lv_bipush (v := 8) hx hb dX9_statement_115 (by decide) ?_
        obtain ⟨o117, ho117, hf⟩ := bnd_some hf
        refine mr_callVv C hR hS (As := [.int 8]) (rest := []) (MM_takeWord l d g N 8 o111 o117 ho117) wv_349 ⟨by omega, by omega⟩ rfl rfl (Nat.le_of_ble_eq_true rfl) hl.1 dX9_statement_117 ⟨Nat.zero_le _, Nat.zero_le _⟩ (fun H locs hR hS => ?_)
        refine lv_aload_n hx hb dX9_statement_120 rfl (lv_at hl 3 rfl) ?_
        obtain ⟨o121, ho121, hf⟩ := bnd_some hf
        refine mr_callVv C hR hS (As := []) (rest := []) (hGP.1 _ _ ho121) wv_383 ⟨by omega, by omega⟩ rfl rfl (Nat.le_of_ble_eq_true rfl) hl.1 dX9_statement_121 ⟨Nat.zero_le _, Nat.zero_le _⟩ (fun H locs hR hS => ?_)
        refine lv_aload_n hx hb dX9_statement_124 rfl (lv_at hl 3 rfl) ?_
        refine lv_iload_n hx hb dX9_statement_125 rfl (lv_at hl 0 rfl) ?_
        obtain ⟨o126, ho126, hf⟩ := bnd_some hf
        refine mr_callVv C hR hS (As := [.int o105.1]) (rest := []) (MM_here l d g N o105.1 o121 o126 ho126) wv_415 ⟨by omega, by omega⟩ rfl rfl (Nat.le_of_ble_eq_true rfl) hl.1 dX9_statement_126 ⟨Nat.zero_le _, Nat.zero_le _⟩ (fun H locs hR hS => ?_)
        refine lv_goto (tgt := 142) hx hb dX9_statement_129 (by decide) ?_
        exact (wbM_statement_142 C hRm hGP hB) _ _ _ _ hf hR hS (lv_sub hl [3] rfl)
    · rw [if_neg hc] at hf
      refine lv_aload_n hx hb dX9_statement_71 rfl (lv_at hl 1 rfl) ?_
      obtain ⟨o72, ho72, hf⟩ := bnd_some hf
      refine mr_callVv C hR hS (As := []) (rest := []) (hGP.2.2.1 _ _ ho72) wv_418 ⟨by omega, by omega⟩ rfl rfl (Nat.le_of_ble_eq_true rfl) hl.1 dX9_statement_72 ⟨Nat.zero_le _, Nat.zero_le _⟩ (fun H locs hR hS => ?_)
      refine lv_goto (tgt := 142) hx hb dX9_statement_75 (by decide) ?_
      exact (wbM_statement_142 C hRm hGP hB) _ _ _ _ hf hR hS (lv_sub hl [1] rfl)
  · rw [if_neg hc] at hf
    refine lv_aload_n hx hb dX9_statement_9 rfl (lv_at hl 0 rfl) ?_
    refine lv_iconst (v := 1) hx hb dX9_statement_10 (by decide) ?_
    refine lv_iconst (v := 0) hx hb dX9_statement_11 (by decide) ?_
    refine lv_iconst (v := 0) hx hb dX9_statement_12 (by decide) ?_
    obtain ⟨o13, ho13, hf⟩ := bnd_some hf
    refine mr_callIv C hR hS (As := [.int 1, .int 0, .int 0]) (rest := []) (MM_emit l d g N 1 0 0 o3.2 o13 ho13) wv_379 ⟨by omega, by omega⟩ rfl rfl (Nat.le_of_ble_eq_true rfl) hl.1 dX9_statement_13 ⟨Nat.zero_le _, Nat.zero_le _⟩ (fun H locs hR hS => ?_)
    refine lv_istore_n (lv' := [(2, .int o13.1), (0, .ref g.1)]) hx hb dX9_statement_16 rfl hl (by decide) rfl (fun ls hl => ?_)
    refine lv_aload_n hx hb dX9_statement_17 rfl (lv_at hl 1 rfl) ?_
    obtain ⟨o18, ho18, hf⟩ := bnd_some hf
    refine mr_callVv C hR hS (As := []) (rest := []) (hGP.2.2.2.2.2.1 _ _ ho18) wv_389 ⟨by omega, by omega⟩ rfl rfl (Nat.le_of_ble_eq_true rfl) hl.1 dX9_statement_18 ⟨Nat.zero_le _, Nat.zero_le _⟩ (fun H locs hR hS => ?_)
    refine lv_aload_n hx hb dX9_statement_21 rfl (lv_at hl 1 rfl) ?_
    refine lv_bipush (v := 11) hx hb dX9_statement_22 (by decide) ?_
    refine lv_iconst (v := 0) hx hb dX9_statement_24 (by decide) ?_
    refine lv_iconst (v := 0) hx hb dX9_statement_25 (by decide) ?_
    obtain ⟨o26, ho26, hf⟩ := bnd_some hf
    refine mr_callIv C hR hS (As := [.int 11, .int 0, .int 0]) (rest := []) (MM_emit l d g N 11 0 0 o18 o26 ho26) wv_379 ⟨by omega, by omega⟩ rfl rfl (Nat.le_of_ble_eq_true rfl) hl.1 dX9_statement_26 ⟨Nat.zero_le _, Nat.zero_le _⟩ (fun H locs hR hS => ?_)
    refine lv_istore_n (lv' := [(3, .int o26.1), (2, .int o13.1), (0, .ref g.1)]) hx hb dX9_statement_29 rfl hl (by decide) rfl (fun ls hl => ?_)
    refine lv_aload_n hx hb dX9_statement_30 rfl (lv_at hl 2 rfl) ?_
    obtain ⟨o31, ho31, hf⟩ := bnd_some hf
    refine mr_callVv C hR hS (As := []) (rest := []) (hGP.1 _ _ ho31) wv_383 ⟨by omega, by omega⟩ rfl rfl (Nat.le_of_ble_eq_true rfl) hl.1 dX9_statement_31 ⟨Nat.zero_le _, Nat.zero_le _⟩ (fun H locs hR hS => ?_)
    refine lv_aload_n hx hb dX9_statement_34 rfl (lv_at hl 2 rfl) ?_
    refine lv_bipush (v := 10) hx hb dX9_statement_35 (by decide) ?_
    refine lv_aload_n hx hb dX9_statement_37 rfl (lv_at hl 2 rfl) ?_
    refine mr_getI C hR fl_313 rfl dX9_statement_38 ?_
    refine lv_iload_n hx hb dX9_statement_41 rfl (lv_at hl 1 rfl) ?_
    refine lv_iadd hx hb dX9_statement_42 ?_
    refine lv_iconst (v := 0) hx hb dX9_statement_43 (by decide) ?_
    obtain ⟨o44, ho44, hf⟩ := bnd_some hf
    refine mr_callIv C hR hS (As := [.int 10, .int ((mF o31 42) + o13.1), .int 0]) (rest := []) (MM_emit l d g N 10 ((mF o31 42) + o13.1) 0 o31 o44 ho44) wv_379 ⟨by omega, by omega⟩ rfl rfl (Nat.le_of_ble_eq_true rfl) hl.1 dX9_statement_44 ⟨Nat.zero_le _, Nat.zero_le _⟩ (fun H locs hR hS => ?_)
    refine lv_istore_n (lv' := [(1, .int o44.1), (3, .int o26.1), (2, .int o13.1), (0, .ref g.1)]) hx hb dX9_statement_47 rfl hl (by decide) rfl (fun ls hl => ?_)
    refine lv_aload_n hx hb dX9_statement_48 rfl (lv_at hl 3 rfl) ?_
    refine lv_iload_n hx hb dX9_statement_49 rfl (lv_at hl 1 rfl) ?_
    obtain ⟨o50, ho50, hf⟩ := bnd_some hf
    refine mr_callVv C hR hS (As := [.int o26.1]) (rest := []) (MM_here l d g N o26.1 o44.2 o50 ho50) wv_415 ⟨by omega, by omega⟩ rfl rfl (Nat.le_of_ble_eq_true rfl) hl.1 dX9_statement_50 ⟨Nat.zero_le _, Nat.zero_le _⟩ (fun H locs hR hS => ?_)
    exact mr_vret C hR hS hf dX9_statement_53
def bM_choice_57 (N : Nat) (GP : Nat → Ms → Option Ms)  (S : Ms) : Option (Ms) := some S
set_option maxRecDepth 100000 in
set_option maxHeartbeats 4000000 in
theorem wbM_choice_57 {p : Program} {l : Launch} {e : Env} {R : Room} {s : State} {m : MethodId} {args : Array Value} {below : List Frame} {meth : Method} {c : Code} {d : Dd} {g : Gm} {o : Ms} {fr lo : Nat} {N : Nat} {GP : Nat → Ms → Option Ms} (C : CM p s m args meth c d g cX9_choice 3 none) (hRm : (fr + 1) ≤ R.frames ∧ (lo + 60) ≤ R.locals) (hGP : HP l d g GP fr lo) (hB : 30 ≤ fr ∧ 1659 ≤ lo)  (S : Ms) (H : Heap) (locs : List Loc) (ls : Array Slot) (hf : bM_choice_57 N GP  S = some o) (hR : RM d g S H) (hS : va_S (AM g) s.heap H locs) (hl : lv_has ls 3 [(0, .ref g.1)]) : W p l e R s m args below meth c H locs 0 0 (MQ below (QV d g o) args s 0 0 (AM g)) (F0 m 57 ls []) := by
  obtain ⟨hx, hb, hml, hown, hts, hK, hg, hr, hlk⟩ := id C
  unfold bM_choice_57 at hf
  exact mr_vret C hR hS hf dX9_choice_57
def fM_choice (N : Nat) (GP : Nat → Ms → Option Ms)  (S : Ms) : Option (Ms) := (GP 5 S).bind fun o1 => (fM_emit N 11 0 0 o1).bind fun o9 => (GP 0 o9.2).bind fun o14 => (fM_hasWord N 19 o14).bind fun o20 => if o20.1 = 0 then ((fM_here N o9.1 o20.2).bind fun o54 => (bM_choice_57 N GP) o54) else ((fM_emit N 10 0 0 o20.2).bind fun o31 => (fM_here N o9.1 o31.2).bind fun o37 => (GP 0 o37).bind fun o41 => (fM_here N o31.1 o41).bind fun o46 => (bM_choice_57 N GP) o46)
set_option maxRecDepth 100000 in
set_option maxHeartbeats 4000000 in
theorem wfM_choice {p : Program} {l : Launch} {e : Env} {R : Room} {s : State} {m : MethodId} {args : Array Value} {below : List Frame} {meth : Method} {c : Code} {d : Dd} {g : Gm} {o : Ms} {fr lo : Nat} {N : Nat} {GP : Nat → Ms → Option Ms} (C : CM p s m args meth c d g cX9_choice 3 none) (hRm : (fr + 1) ≤ R.frames ∧ (lo + 60) ≤ R.locals) (hGP : HP l d g GP fr lo) (hB : 30 ≤ fr ∧ 1659 ≤ lo)  (S : Ms) (H : Heap) (locs : List Loc) (ls : Array Slot) (hf : fM_choice N GP  S = some o) (hR : RM d g S H) (hS : va_S (AM g) s.heap H locs) (hl : lv_has ls 3 [(0, .ref g.1)]) : W p l e R s m args below meth c H locs 0 0 (MQ below (QV d g o) args s 0 0 (AM g)) (F0 m 0 ls []) := by
  obtain ⟨hx, hb, hml, hown, hts, hK, hg, hr, hlk⟩ := id C
  unfold fM_choice at hf
  refine lv_aload_n hx hb dX9_choice_0 rfl (lv_at hl 0 rfl) ?_
  obtain ⟨o1, ho1, hf⟩ := bnd_some hf
  refine mr_callVv C hR hS (As := []) (rest := []) (hGP.2.2.2.2.2.1 _ _ ho1) wv_389 ⟨by omega, by omega⟩ rfl rfl (Nat.le_of_ble_eq_true rfl) hl.1 dX9_choice_1 ⟨Nat.zero_le _, Nat.zero_le _⟩ (fun H locs hR hS => ?_)
  refine lv_aload_n hx hb dX9_choice_4 rfl (lv_at hl 0 rfl) ?_
  refine lv_bipush (v := 11) hx hb dX9_choice_5 (by decide) ?_
  refine lv_iconst (v := 0) hx hb dX9_choice_7 (by decide) ?_
  refine lv_iconst (v := 0) hx hb dX9_choice_8 (by decide) ?_
  obtain ⟨o9, ho9, hf⟩ := bnd_some hf
  refine mr_callIv C hR hS (As := [.int 11, .int 0, .int 0]) (rest := []) (MM_emit l d g N 11 0 0 o1 o9 ho9) wv_379 ⟨by omega, by omega⟩ rfl rfl (Nat.le_of_ble_eq_true rfl) hl.1 dX9_choice_9 ⟨Nat.zero_le _, Nat.zero_le _⟩ (fun H locs hR hS => ?_)
  refine lv_istore_n (lv' := [(1, .int o9.1), (0, .ref g.1)]) hx hb dX9_choice_12 rfl hl (by decide) rfl (fun ls hl => ?_)
  refine lv_aload_n hx hb dX9_choice_13 rfl (lv_at hl 1 rfl) ?_
  obtain ⟨o14, ho14, hf⟩ := bnd_some hf
  refine mr_callVv C hR hS (As := []) (rest := []) (hGP.1 _ _ ho14) wv_383 ⟨by omega, by omega⟩ rfl rfl (Nat.le_of_ble_eq_true rfl) hl.1 dX9_choice_14 ⟨Nat.zero_le _, Nat.zero_le _⟩ (fun H locs hR hS => ?_)
  refine lv_aload_n hx hb dX9_choice_17 rfl (lv_at hl 1 rfl) ?_
  refine lv_bipush (v := 19) hx hb dX9_choice_18 (by decide) ?_
  obtain ⟨o20, ho20, hf⟩ := bnd_some hf
  refine mr_callIv C hR hS (As := [.int 19]) (rest := []) (MM_hasWord l d g N 19 o14 o20 ho20) wv_294 ⟨by omega, by omega⟩ rfl rfl (Nat.le_of_ble_eq_true rfl) hl.1 dX9_choice_20 ⟨Nat.zero_le _, Nat.zero_le _⟩ (fun H locs hR hS => ?_)
  refine lv_if_eq (tgt := 52) hx hb dX9_choice_23 (by decide) (fun hc => ?_) (fun hc => ?_)
  · rw [if_pos hc] at hf
    refine lv_aload_n hx hb dX9_choice_52 rfl (lv_at hl 1 rfl) ?_
    refine lv_iload_n hx hb dX9_choice_53 rfl (lv_at hl 0 rfl) ?_
    obtain ⟨o54, ho54, hf⟩ := bnd_some hf
    refine mr_callVv C hR hS (As := [.int o9.1]) (rest := []) (MM_here l d g N o9.1 o20.2 o54 ho54) wv_415 ⟨by omega, by omega⟩ rfl rfl (Nat.le_of_ble_eq_true rfl) hl.1 dX9_choice_54 ⟨Nat.zero_le _, Nat.zero_le _⟩ (fun H locs hR hS => ?_)
    exact (wbM_choice_57 C hRm hGP hB) _ _ _ _ hf hR hS (lv_sub hl [1] rfl)
  · rw [if_neg hc] at hf
    refine lv_aload_n hx hb dX9_choice_26 rfl (lv_at hl 1 rfl) ?_
    refine lv_bipush (v := 10) hx hb dX9_choice_27 (by decide) ?_
    refine lv_iconst (v := 0) hx hb dX9_choice_29 (by decide) ?_
    refine lv_iconst (v := 0) hx hb dX9_choice_30 (by decide) ?_
    obtain ⟨o31, ho31, hf⟩ := bnd_some hf
    refine mr_callIv C hR hS (As := [.int 10, .int 0, .int 0]) (rest := []) (MM_emit l d g N 10 0 0 o20.2 o31 ho31) wv_379 ⟨by omega, by omega⟩ rfl rfl (Nat.le_of_ble_eq_true rfl) hl.1 dX9_choice_31 ⟨Nat.zero_le _, Nat.zero_le _⟩ (fun H locs hR hS => ?_)
    refine lv_istore_n (lv' := [(2, .int o31.1), (1, .int o9.1), (0, .ref g.1)]) hx hb dX9_choice_34 rfl hl (by decide) rfl (fun ls hl => ?_)
    refine lv_aload_n hx hb dX9_choice_35 rfl (lv_at hl 2 rfl) ?_
    refine lv_iload_n hx hb dX9_choice_36 rfl (lv_at hl 1 rfl) ?_
    obtain ⟨o37, ho37, hf⟩ := bnd_some hf
    refine mr_callVv C hR hS (As := [.int o9.1]) (rest := []) (MM_here l d g N o9.1 o31.2 o37 ho37) wv_415 ⟨by omega, by omega⟩ rfl rfl (Nat.le_of_ble_eq_true rfl) hl.1 dX9_choice_37 ⟨Nat.zero_le _, Nat.zero_le _⟩ (fun H locs hR hS => ?_)
    refine lv_aload_n hx hb dX9_choice_40 rfl (lv_at hl 2 rfl) ?_
    obtain ⟨o41, ho41, hf⟩ := bnd_some hf
    refine mr_callVv C hR hS (As := []) (rest := []) (hGP.1 _ _ ho41) wv_383 ⟨by omega, by omega⟩ rfl rfl (Nat.le_of_ble_eq_true rfl) hl.1 dX9_choice_41 ⟨Nat.zero_le _, Nat.zero_le _⟩ (fun H locs hR hS => ?_)
    refine lv_aload_n hx hb dX9_choice_44 rfl (lv_at hl 2 rfl) ?_
    refine lv_iload_n hx hb dX9_choice_45 rfl (lv_at hl 0 rfl) ?_
    obtain ⟨o46, ho46, hf⟩ := bnd_some hf
    refine mr_callVv C hR hS (As := [.int o31.1]) (rest := []) (MM_here l d g N o31.1 o41 o46 ho46) wv_415 ⟨by omega, by omega⟩ rfl rfl (Nat.le_of_ble_eq_true rfl) hl.1 dX9_choice_46 ⟨Nat.zero_le _, Nat.zero_le _⟩ (fun H locs hR hS => ?_)
    refine lv_goto (tgt := 57) hx hb dX9_choice_49 (by decide) ?_
    exact (wbM_choice_57 C hRm hGP hB) _ _ _ _ hf hR hS (lv_sub hl [2] rfl)
def bM_plain_145 (N : Nat) (GP : Nat → Ms → Option Ms)  (S : Ms) : Option (Ms) := some S
set_option maxRecDepth 100000 in
set_option maxHeartbeats 4000000 in
theorem wbM_plain_145 {p : Program} {l : Launch} {e : Env} {R : Room} {s : State} {m : MethodId} {args : Array Value} {below : List Frame} {meth : Method} {c : Code} {d : Dd} {g : Gm} {o : Ms} {fr lo : Nat} {N : Nat} {GP : Nat → Ms → Option Ms} (C : CM p s m args meth c d g cX9_plain 3 none) (hRm : (fr + 1) ≤ R.frames ∧ (lo + 60) ≤ R.locals) (hGP : HP l d g GP fr lo) (hB : 30 ≤ fr ∧ 1659 ≤ lo)  (S : Ms) (H : Heap) (locs : List Loc) (ls : Array Slot) (hf : bM_plain_145 N GP  S = some o) (hR : RM d g S H) (hS : va_S (AM g) s.heap H locs) (hl : lv_has ls 3 [(0, .ref g.1)]) : W p l e R s m args below meth c H locs 0 0 (MQ below (QV d g o) args s 0 0 (AM g)) (F0 m 145 ls []) := by
  obtain ⟨hx, hb, hml, hown, hts, hK, hg, hr, hlk⟩ := id C
  unfold bM_plain_145 at hf
  exact mr_vret C hR hS hf dX9_plain_145
def bM_plain_28 (N : Nat) (GP : Nat → Ms → Option Ms)  (S : Ms) : Option (Ms) := (fM_emit N 6 0 0 S).bind fun o39 => (fM_later N (mF S 7) (-1) o39.1 0 o39.2).bind fun o43 => (bM_plain_145 N GP) (pF o43 7 ((mF o43 7) + 1))
set_option maxRecDepth 100000 in
set_option maxHeartbeats 4000000 in
theorem wbM_plain_28 {p : Program} {l : Launch} {e : Env} {R : Room} {s : State} {m : MethodId} {args : Array Value} {below : List Frame} {meth : Method} {c : Code} {d : Dd} {g : Gm} {o : Ms} {fr lo : Nat} {N : Nat} {GP : Nat → Ms → Option Ms} (C : CM p s m args meth c d g cX9_plain 3 none) (hRm : (fr + 1) ≤ R.frames ∧ (lo + 60) ≤ R.locals) (hGP : HP l d g GP fr lo) (hB : 30 ≤ fr ∧ 1659 ≤ lo)  (S : Ms) (H : Heap) (locs : List Loc) (ls : Array Slot) (hf : bM_plain_28 N GP  S = some o) (hR : RM d g S H) (hS : va_S (AM g) s.heap H locs) (hl : lv_has ls 3 [(0, .ref g.1)]) : W p l e R s m args below meth c H locs 0 0 (MQ below (QV d g o) args s 0 0 (AM g)) (F0 m 28 ls []) := by
  obtain ⟨hx, hb, hml, hown, hts, hK, hg, hr, hlk⟩ := id C
  unfold bM_plain_28 at hf
  refine lv_aload_n hx hb dX9_plain_28 rfl (lv_at hl 0 rfl) ?_
  refine lv_aload_n hx hb dX9_plain_29 rfl (lv_at hl 0 rfl) ?_
  refine mr_getI C hR fl_278 rfl dX9_plain_30 ?_
  refine lv_iconst (v := (-1)) hx hb dX9_plain_33 (by decide) ?_
  refine lv_aload_n hx hb dX9_plain_34 rfl (lv_at hl 0 rfl) ?_
  refine lv_bipush (v := 6) hx hb dX9_plain_35 (by decide) ?_
  refine lv_iconst (v := 0) hx hb dX9_plain_37 (by decide) ?_
  refine lv_iconst (v := 0) hx hb dX9_plain_38 (by decide) ?_
  obtain ⟨o39, ho39, hf⟩ := bnd_some hf
  refine mr_callIv C hR hS (As := [.int 6, .int 0, .int 0]) (rest := [.int (-1), .int (mF S 7), .ref g.1]) (MM_emit l d g N 6 0 0 S o39 ho39) wv_379 ⟨by omega, by omega⟩ rfl rfl (Nat.le_of_ble_eq_true rfl) hl.1 dX9_plain_39 ⟨Nat.zero_le _, Nat.zero_le _⟩ (fun H locs hR hS => ?_)
  refine lv_iconst (v := 0) hx hb dX9_plain_42 (by decide) ?_
  obtain ⟨o43, ho43, hf⟩ := bnd_some hf
  refine mr_callVv C hR hS (As := [.int (mF S 7), .int (-1), .int o39.1, .int 0]) (rest := []) (MM_later l d g N (mF S 7) (-1) o39.1 0 o39.2 o43 ho43) wv_424 ⟨by omega, by omega⟩ rfl rfl (Nat.le_of_ble_eq_true rfl) hl.1 dX9_plain_43 ⟨Nat.zero_le _, Nat.zero_le _⟩ (fun H locs hR hS => ?_)
  refine lv_aload_n hx hb dX9_plain_46 rfl (lv_at hl 0 rfl) ?_
  refine lv_dup hx hb dX9_plain_47 rfl ?_
  refine mr_getI C hR fl_278 rfl dX9_plain_48 ?_
  refine lv_iconst (v := 1) hx hb dX9_plain_51 (by decide) ?_
  refine lv_iadd hx hb dX9_plain_52 ?_
  refine mr_putI C hR hS fl_278 ⟨rfl, rfl, rfl⟩ dX9_plain_53 (fun H locs hR hS => ?_)
  refine lv_goto (tgt := 145) hx hb dX9_plain_56 (by decide) ?_
  exact (wbM_plain_145 C hRm hGP hB) _ _ _ _ hf hR hS (lv_sub hl [0] rfl)
def fM_plain (N : Nat) (GP : Nat → Ms → Option Ms)  (S : Ms) : Option (Ms) := (fM_hasWord N 14 S).bind fun o3 => if o3.1 = 0 then ((fM_hasWord N 15 o3.2).bind fun o62 => if o62.1 = 0 then ((fM_hasWord N 16 o62.2).bind fun o92 => if o92.1 = 0 then ((fM_hasWord N 17 o92.2).bind fun o117 => if o117.1 = 0 then ((GP 4 o117.2).bind fun o142 => (bM_plain_145 N GP) o142) else ((fM_takeNumber N 1 9 o117.2).bind fun o130 => (fM_emit N 9 o130.1 0 o130.2).bind fun o134 => (bM_plain_145 N GP) o134.2)) else ((GP 5 o92.2).bind fun o99 => (fM_emit N 8 0 0 o99).bind fun o107 => (bM_plain_145 N GP) o107.2)) else ((fM_takeDevice N o62.2).bind fun o69 => (GP 5 o69.2).bind fun o74 => (fM_emit N 7 o69.1 0 o74).bind fun o82 => (bM_plain_145 N GP) o82.2)) else (if (mF o3.2 8) = 0 then ((fM_isName N o3.2).bind fun o17 => if o17.1 = 0 then ((fM_wrong N 1 o17.2).bind fun o25 => (bM_plain_28 N GP) o25) else ((bM_plain_28 N GP) o17.2)) else ((bM_plain_28 N GP) o3.2))
set_option maxRecDepth 100000 in
set_option maxHeartbeats 4000000 in
theorem wfM_plain {p : Program} {l : Launch} {e : Env} {R : Room} {s : State} {m : MethodId} {args : Array Value} {below : List Frame} {meth : Method} {c : Code} {d : Dd} {g : Gm} {o : Ms} {fr lo : Nat} {N : Nat} {GP : Nat → Ms → Option Ms} (C : CM p s m args meth c d g cX9_plain 3 none) (hRm : (fr + 1) ≤ R.frames ∧ (lo + 60) ≤ R.locals) (hGP : HP l d g GP fr lo) (hB : 30 ≤ fr ∧ 1659 ≤ lo)  (S : Ms) (H : Heap) (locs : List Loc) (ls : Array Slot) (hf : fM_plain N GP  S = some o) (hR : RM d g S H) (hS : va_S (AM g) s.heap H locs) (hl : lv_has ls 3 [(0, .ref g.1)]) : W p l e R s m args below meth c H locs 0 0 (MQ below (QV d g o) args s 0 0 (AM g)) (F0 m 0 ls []) := by
  obtain ⟨hx, hb, hml, hown, hts, hK, hg, hr, hlk⟩ := id C
  unfold fM_plain at hf
  refine lv_aload_n hx hb dX9_plain_0 rfl (lv_at hl 0 rfl) ?_
  refine lv_bipush (v := 14) hx hb dX9_plain_1 (by decide) ?_
  obtain ⟨o3, ho3, hf⟩ := bnd_some hf
  refine mr_callIv C hR hS (As := [.int 14]) (rest := []) (MM_hasWord l d g N 14 S o3 ho3) wv_294 ⟨by omega, by omega⟩ rfl rfl (Nat.le_of_ble_eq_true rfl) hl.1 dX9_plain_3 ⟨Nat.zero_le _, Nat.zero_le _⟩ (fun H locs hR hS => ?_)
  refine lv_if_eq (tgt := 59) hx hb dX9_plain_6 (by decide) (fun hc => ?_) (fun hc => ?_)
  · rw [if_pos hc] at hf
    refine lv_aload_n hx hb dX9_plain_59 rfl (lv_at hl 0 rfl) ?_
    refine lv_bipush (v := 15) hx hb dX9_plain_60 (by decide) ?_
    obtain ⟨o62, ho62, hf⟩ := bnd_some hf
    refine mr_callIv C hR hS (As := [.int 15]) (rest := []) (MM_hasWord l d g N 15 o3.2 o62 ho62) wv_294 ⟨by omega, by omega⟩ rfl rfl (Nat.le_of_ble_eq_true rfl) hl.1 dX9_plain_62 ⟨Nat.zero_le _, Nat.zero_le _⟩ (fun H locs hR hS => ?_)
    refine lv_if_eq (tgt := 89) hx hb dX9_plain_65 (by decide) (fun hc => ?_) (fun hc => ?_)
    · rw [if_pos hc] at hf
      refine lv_aload_n hx hb dX9_plain_89 rfl (lv_at hl 0 rfl) ?_
      refine lv_bipush (v := 16) hx hb dX9_plain_90 (by decide) ?_
      obtain ⟨o92, ho92, hf⟩ := bnd_some hf
      refine mr_callIv C hR hS (As := [.int 16]) (rest := []) (MM_hasWord l d g N 16 o62.2 o92 ho92) wv_294 ⟨by omega, by omega⟩ rfl rfl (Nat.le_of_ble_eq_true rfl) hl.1 dX9_plain_92 ⟨Nat.zero_le _, Nat.zero_le _⟩ (fun H locs hR hS => ?_)
      refine lv_if_eq (tgt := 114) hx hb dX9_plain_95 (by decide) (fun hc => ?_) (fun hc => ?_)
      · rw [if_pos hc] at hf
        refine lv_aload_n hx hb dX9_plain_114 rfl (lv_at hl 0 rfl) ?_
        refine lv_bipush (v := 17) hx hb dX9_plain_115 (by decide) ?_
        obtain ⟨o117, ho117, hf⟩ := bnd_some hf
        refine mr_callIv C hR hS (As := [.int 17]) (rest := []) (MM_hasWord l d g N 17 o92.2 o117 ho117) wv_294 ⟨by omega, by omega⟩ rfl rfl (Nat.le_of_ble_eq_true rfl) hl.1 dX9_plain_117 ⟨Nat.zero_le _, Nat.zero_le _⟩ (fun H locs hR hS => ?_)
        refine lv_if_eq (tgt := 141) hx hb dX9_plain_120 (by decide) (fun hc => ?_) (fun hc => ?_)
        · rw [if_pos hc] at hf
          refine lv_aload_n hx hb dX9_plain_141 rfl (lv_at hl 0 rfl) ?_
          obtain ⟨o142, ho142, hf⟩ := bnd_some hf
          refine mr_callVv C hR hS (As := []) (rest := []) (hGP.2.2.2.2.1 _ _ ho142) wv_431 ⟨by omega, by omega⟩ rfl rfl (Nat.le_of_ble_eq_true rfl) hl.1 dX9_plain_142 ⟨Nat.zero_le _, Nat.zero_le _⟩ (fun H locs hR hS => ?_)
          exact (wbM_plain_145 C hRm hGP hB) _ _ _ _ hf hR hS (lv_sub hl [0] rfl)
        · rw [if_neg hc] at hf
          refine lv_aload_n hx hb dX9_plain_123 rfl (lv_at hl 0 rfl) ?_
          refine lv_bipush (v := 9) hx hb dX9_plain_124 (by decide) ?_
          refine lv_aload_n hx hb dX9_plain_126 rfl (lv_at hl 0 rfl) ?_
          refine lv_iconst (v := 1) hx hb dX9_plain_127 (by decide) ?_
          refine lv_bipush (v := 9) hx hb dX9_plain_128 (by decide) ?_
          obtain ⟨o130, ho130, hf⟩ := bnd_some hf
          refine mr_callIv C hR hS (As := [.int 1, .int 9]) (rest := [.int 9, .ref g.1]) (MM_takeNumber l d g N 1 9 o117.2 o130 ho130) wv_353 ⟨by omega, by omega⟩ rfl rfl (Nat.le_of_ble_eq_true rfl) hl.1 dX9_plain_130 ⟨Nat.zero_le _, Nat.zero_le _⟩ (fun H locs hR hS => ?_)
          refine lv_iconst (v := 0) hx hb dX9_plain_133 (by decide) ?_
          obtain ⟨o134, ho134, hf⟩ := bnd_some hf
          refine mr_callIv C hR hS (As := [.int 9, .int o130.1, .int 0]) (rest := []) (MM_emit l d g N 9 o130.1 0 o130.2 o134 ho134) wv_379 ⟨by omega, by omega⟩ rfl rfl (Nat.le_of_ble_eq_true rfl) hl.1 dX9_plain_134 ⟨Nat.zero_le _, Nat.zero_le _⟩ (fun H locs hR hS => ?_)
          refine lv_istore_n (lv' := [(1, .int o134.1), (0, .ref g.1)]) hx hb dX9_plain_137 rfl hl (by decide) rfl (fun ls hl => ?_)
          refine lv_goto (tgt := 145) hx hb dX9_plain_138 (by decide) ?_
          exact (wbM_plain_145 C hRm hGP hB) _ _ _ _ hf hR hS (lv_sub hl [1] rfl)
      · rw [if_neg hc] at hf
        refine lv_aload_n hx hb dX9_plain_98 rfl (lv_at hl 0 rfl) ?_
        obtain ⟨o99, ho99, hf⟩ := bnd_some hf
        refine mr_callVv C hR hS (As := []) (rest := []) (hGP.2.2.2.2.2.1 _ _ ho99) wv_389 ⟨by omega, by omega⟩ rfl rfl (Nat.le_of_ble_eq_true rfl) hl.1 dX9_plain_99 ⟨Nat.zero_le _, Nat.zero_le _⟩ (fun H locs hR hS => ?_)
        refine lv_aload_n hx hb dX9_plain_102 rfl (lv_at hl 0 rfl) ?_
        refine lv_bipush (v := 8) hx hb dX9_plain_103 (by decide) ?_
        refine lv_iconst (v := 0) hx hb dX9_plain_105 (by decide) ?_
        refine lv_iconst (v := 0) hx hb dX9_plain_106 (by decide) ?_
        obtain ⟨o107, ho107, hf⟩ := bnd_some hf
        refine mr_callIv C hR hS (As := [.int 8, .int 0, .int 0]) (rest := []) (MM_emit l d g N 8 0 0 o99 o107 ho107) wv_379 ⟨by omega, by omega⟩ rfl rfl (Nat.le_of_ble_eq_true rfl) hl.1 dX9_plain_107 ⟨Nat.zero_le _, Nat.zero_le _⟩ (fun H locs hR hS => ?_)
        refine lv_istore_n (lv' := [(1, .int o107.1), (0, .ref g.1)]) hx hb dX9_plain_110 rfl hl (by decide) rfl (fun ls hl => ?_)
        refine lv_goto (tgt := 145) hx hb dX9_plain_111 (by decide) ?_
        exact (wbM_plain_145 C hRm hGP hB) _ _ _ _ hf hR hS (lv_sub hl [1] rfl)
    · rw [if_neg hc] at hf
      refine lv_aload_n hx hb dX9_plain_68 rfl (lv_at hl 0 rfl) ?_
      obtain ⟨o69, ho69, hf⟩ := bnd_some hf
      refine mr_callIv C hR hS (As := []) (rest := []) (MM_takeDevice l d g N  o62.2 o69 ho69) wv_428 ⟨by omega, by omega⟩ rfl rfl (Nat.le_of_ble_eq_true rfl) hl.1 dX9_plain_69 ⟨Nat.zero_le _, Nat.zero_le _⟩ (fun H locs hR hS => ?_)
      refine lv_istore_n (lv' := [(2, .int o69.1), (0, .ref g.1)]) hx hb dX9_plain_72 rfl hl (by decide) rfl (fun ls hl => ?_)
      refine lv_aload_n hx hb dX9_plain_73 rfl (lv_at hl 1 rfl) ?_
      obtain ⟨o74, ho74, hf⟩ := bnd_some hf
      refine mr_callVv C hR hS (As := []) (rest := []) (hGP.2.2.2.2.2.1 _ _ ho74) wv_389 ⟨by omega, by omega⟩ rfl rfl (Nat.le_of_ble_eq_true rfl) hl.1 dX9_plain_74 ⟨Nat.zero_le _, Nat.zero_le _⟩ (fun H locs hR hS => ?_)
      refine lv_aload_n hx hb dX9_plain_77 rfl (lv_at hl 1 rfl) ?_
      refine lv_bipush (v := 7) hx hb dX9_plain_78 (by decide) ?_
      refine lv_iload_n hx hb dX9_plain_80 rfl (lv_at hl 0 rfl) ?_
      refine lv_iconst (v := 0) hx hb dX9_plain_81 (by decide) ?_
      obtain ⟨o82, ho82, hf⟩ := bnd_some hf
      refine mr_callIv C hR hS (As := [.int 7, .int o69.1, .int 0]) (rest := []) (MM_emit l d g N 7 o69.1 0 o74 o82 ho82) wv_379 ⟨by omega, by omega⟩ rfl rfl (Nat.le_of_ble_eq_true rfl) hl.1 dX9_plain_82 ⟨Nat.zero_le _, Nat.zero_le _⟩ (fun H locs hR hS => ?_)
      refine lv_istore_n (lv' := [(1, .int o82.1), (2, .int o69.1), (0, .ref g.1)]) hx hb dX9_plain_85 rfl hl (by decide) rfl (fun ls hl => ?_)
      refine lv_goto (tgt := 145) hx hb dX9_plain_86 (by decide) ?_
      exact (wbM_plain_145 C hRm hGP hB) _ _ _ _ hf hR hS (lv_sub hl [2] rfl)
  · rw [if_neg hc] at hf
    refine lv_aload_n hx hb dX9_plain_9 rfl (lv_at hl 0 rfl) ?_
    refine mr_getI C hR fl_281 rfl dX9_plain_10 ?_
    refine lv_if_ne (tgt := 28) hx hb dX9_plain_13 (by decide) (fun hc => ?_) (fun hc => ?_)
    · rw [if_neg hc] at hf
      exact (wbM_plain_28 C hRm hGP hB) _ _ _ _ hf hR hS (lv_sub hl [0] rfl)
    · rw [if_pos hc] at hf
      refine lv_aload_n hx hb dX9_plain_16 rfl (lv_at hl 0 rfl) ?_
      obtain ⟨o17, ho17, hf⟩ := bnd_some hf
      refine mr_callIv C hR hS (As := []) (rest := []) (MM_isName l d g N  o3.2 o17 ho17) wv_337 ⟨by omega, by omega⟩ rfl rfl (Nat.le_of_ble_eq_true rfl) hl.1 dX9_plain_17 ⟨Nat.zero_le _, Nat.zero_le _⟩ (fun H locs hR hS => ?_)
      refine lv_if_ne (tgt := 28) hx hb dX9_plain_20 (by decide) (fun hc => ?_) (fun hc => ?_)
      · rw [if_neg hc] at hf
        exact (wbM_plain_28 C hRm hGP hB) _ _ _ _ hf hR hS (lv_sub hl [0] rfl)
      · rw [if_pos hc] at hf
        refine lv_aload_n hx hb dX9_plain_23 rfl (lv_at hl 0 rfl) ?_
        refine lv_iconst (v := 1) hx hb dX9_plain_24 (by decide) ?_
        obtain ⟨o25, ho25, hf⟩ := bnd_some hf
        refine mr_callVv C hR hS (As := [.int 1]) (rest := []) (MM_wrong l d g N 1 o17.2 o25 ho25) wv_287 ⟨by omega, by omega⟩ rfl rfl (Nat.le_of_ble_eq_true rfl) hl.1 dX9_plain_25 ⟨Nat.zero_le _, Nat.zero_le _⟩ (fun H locs hR hS => ?_)
        exact (wbM_plain_28 C hRm hGP hB) _ _ _ _ hf hR hS (lv_sub hl [0] rfl)
def bM_set_90 (N : Nat) (GP : Nat → Ms → Option Ms)  (S : Ms) : Option (Ms) := some S
set_option maxRecDepth 100000 in
set_option maxHeartbeats 4000000 in
theorem wbM_set_90 {p : Program} {l : Launch} {e : Env} {R : Room} {s : State} {m : MethodId} {args : Array Value} {below : List Frame} {meth : Method} {c : Code} {d : Dd} {g : Gm} {o : Ms} {fr lo : Nat} {N : Nat} {GP : Nat → Ms → Option Ms} (C : CM p s m args meth c d g cX9_set 6 none) (hRm : (fr + 1) ≤ R.frames ∧ (lo + 60) ≤ R.locals) (hGP : HP l d g GP fr lo) (hB : 30 ≤ fr ∧ 1659 ≤ lo)  (S : Ms) (H : Heap) (locs : List Loc) (ls : Array Slot) (hf : bM_set_90 N GP  S = some o) (hR : RM d g S H) (hS : va_S (AM g) s.heap H locs) (hl : lv_has ls 6 [(0, .ref g.1)]) : W p l e R s m args below meth c H locs 0 0 (MQ below (QV d g o) args s 0 0 (AM g)) (F0 m 90 ls []) := by
  obtain ⟨hx, hb, hml, hown, hts, hK, hg, hr, hlk⟩ := id C
  unfold bM_set_90 at hf
  exact mr_vret C hR hS hf dX9_set_90
def bM_set_55 (N : Nat) (GP : Nat → Ms → Option Ms) (x1 : Int32) (x2 : Int32) (x3 : Int32) (x4 : Int32) (S : Ms) : Option (Ms) := (fM_takeSign N 61 S).bind fun o58 => (GP 5 o58).bind fun o62 => (fM_emit N 5 x3 x4 o62).bind fun o70 => if x2 = 0 then ((bM_set_90 N GP) o70.2) else ((fM_later N x1 (x1 + 2) o70.1 1 o70.2).bind fun o87 => (bM_set_90 N GP) o87)
set_option maxRecDepth 100000 in
set_option maxHeartbeats 4000000 in
theorem wbM_set_55 {p : Program} {l : Launch} {e : Env} {R : Room} {s : State} {m : MethodId} {args : Array Value} {below : List Frame} {meth : Method} {c : Code} {d : Dd} {g : Gm} {o : Ms} {fr lo : Nat} {N : Nat} {GP : Nat → Ms → Option Ms} (C : CM p s m args meth c d g cX9_set 6 none) (hRm : (fr + 1) ≤ R.frames ∧ (lo + 60) ≤ R.locals) (hGP : HP l d g GP fr lo) (hB : 30 ≤ fr ∧ 1659 ≤ lo) (x1 : Int32) (x2 : Int32) (x3 : Int32) (x4 : Int32) (S : Ms) (H : Heap) (locs : List Loc) (ls : Array Slot) (hf : bM_set_55 N GP x1 x2 x3 x4 S = some o) (hR : RM d g S H) (hS : va_S (AM g) s.heap H locs) (hl : lv_has ls 6 [(0, .ref g.1), (1, .int x1), (2, .int x2), (3, .int x3), (4, .int x4)]) : W p l e R s m args below meth c H locs 0 0 (MQ below (QV d g o) args s 0 0 (AM g)) (F0 m 55 ls []) := by
  obtain ⟨hx, hb, hml, hown, hts, hK, hg, hr, hlk⟩ := id C
  unfold bM_set_55 at hf
  refine lv_aload_n hx hb dX9_set_55 rfl (lv_at hl 0 rfl) ?_
  refine lv_bipush (v := 61) hx hb dX9_set_56 (by decide) ?_
  obtain ⟨o58, ho58, hf⟩ := bnd_some hf
  refine mr_callVv C hR hS (As := [.int 61]) (rest := []) (MM_takeSign l d g N 61 S o58 ho58) wv_357 ⟨by omega, by omega⟩ rfl rfl (Nat.le_of_ble_eq_true rfl) hl.1 dX9_set_58 ⟨Nat.zero_le _, Nat.zero_le _⟩ (fun H locs hR hS => ?_)
  refine lv_aload_n hx hb dX9_set_61 rfl (lv_at hl 0 rfl) ?_
  obtain ⟨o62, ho62, hf⟩ := bnd_some hf
  refine mr_callVv C hR hS (As := []) (rest := []) (hGP.2.2.2.2.2.1 _ _ ho62) wv_389 ⟨by omega, by omega⟩ rfl rfl (Nat.le_of_ble_eq_true rfl) hl.1 dX9_set_62 ⟨Nat.zero_le _, Nat.zero_le _⟩ (fun H locs hR hS => ?_)
  refine lv_aload_n hx hb dX9_set_65 rfl (lv_at hl 0 rfl) ?_
  refine lv_iconst (v := 5) hx hb dX9_set_66 (by decide) ?_
  refine lv_iload_n hx hb dX9_set_67 rfl (lv_at hl 3 rfl) ?_
  refine lv_iload hx hb dX9_set_68 (lv_at hl 4 rfl) ?_
  obtain ⟨o70, ho70, hf⟩ := bnd_some hf
  refine mr_callIv C hR hS (As := [.int 5, .int x3, .int x4]) (rest := []) (MM_emit l d g N 5 x3 x4 o62 o70 ho70) wv_379 ⟨by omega, by omega⟩ rfl rfl (Nat.le_of_ble_eq_true rfl) hl.1 dX9_set_70 ⟨Nat.zero_le _, Nat.zero_le _⟩ (fun H locs hR hS => ?_)
  refine lv_istore (lv' := [(5, .int o70.1), (0, .ref g.1), (1, .int x1), (2, .int x2), (3, .int x3), (4, .int x4)]) hx hb dX9_set_73 hl (by decide) rfl (fun ls hl => ?_)
  refine lv_iload_n hx hb dX9_set_75 rfl (lv_at hl 3 rfl) ?_
  refine lv_if_eq (tgt := 90) hx hb dX9_set_76 (by decide) (fun hc => ?_) (fun hc => ?_)
  · rw [if_pos hc] at hf
    exact (wbM_set_90 C hRm hGP hB) _ _ _ _ hf hR hS (lv_sub hl [1] rfl)
  · rw [if_neg hc] at hf
    refine lv_aload_n hx hb dX9_set_79 rfl (lv_at hl 1 rfl) ?_
    refine lv_iload_n hx hb dX9_set_80 rfl (lv_at hl 2 rfl) ?_
    refine lv_iload_n hx hb dX9_set_81 rfl (lv_at hl 2 rfl) ?_
    refine lv_iconst (v := 2) hx hb dX9_set_82 (by decide) ?_
    refine lv_iadd hx hb dX9_set_83 ?_
    refine lv_iload hx hb dX9_set_84 (lv_at hl 0 rfl) ?_
    refine lv_iconst (v := 1) hx hb dX9_set_86 (by decide) ?_
    obtain ⟨o87, ho87, hf⟩ := bnd_some hf
    refine mr_callVv C hR hS (As := [.int x1, .int (x1 + 2), .int o70.1, .int 1]) (rest := []) (MM_later l d g N x1 (x1 + 2) o70.1 1 o70.2 o87 ho87) wv_424 ⟨by omega, by omega⟩ rfl rfl (Nat.le_of_ble_eq_true rfl) hl.1 dX9_set_87 ⟨Nat.zero_le _, Nat.zero_le _⟩ (fun H locs hR hS => ?_)
    exact (wbM_set_90 C hRm hGP hB) _ _ _ _ hf hR hS (lv_sub hl [1] rfl)
def fM_set (N : Nat) (GP : Nat → Ms → Option Ms)  (S : Ms) : Option (Ms) := (fM_isName N S).bind fun o1 => if o1.1 = 0 then ((fM_wrong N 1 o1.2).bind fun o9 => some o9) else ((fM_isPoint N o1.2).bind fun o19 => if o19.1 = 0 then ((fM_nearName N 1 o19.2).bind fun o41 => (bM_set_55 N GP) (mF o1.2 7) o19.1 (mF o41 51) (mF o41 52) o41) else ((fM_farName N o19.2).bind fun o33 => (bM_set_55 N GP) (mF o1.2 7) o19.1 (-1) (-1) o33))
set_option maxRecDepth 100000 in
set_option maxHeartbeats 4000000 in
theorem wfM_set {p : Program} {l : Launch} {e : Env} {R : Room} {s : State} {m : MethodId} {args : Array Value} {below : List Frame} {meth : Method} {c : Code} {d : Dd} {g : Gm} {o : Ms} {fr lo : Nat} {N : Nat} {GP : Nat → Ms → Option Ms} (C : CM p s m args meth c d g cX9_set 6 none) (hRm : (fr + 1) ≤ R.frames ∧ (lo + 60) ≤ R.locals) (hGP : HP l d g GP fr lo) (hB : 30 ≤ fr ∧ 1659 ≤ lo)  (S : Ms) (H : Heap) (locs : List Loc) (ls : Array Slot) (hf : fM_set N GP  S = some o) (hR : RM d g S H) (hS : va_S (AM g) s.heap H locs) (hl : lv_has ls 6 [(0, .ref g.1)]) : W p l e R s m args below meth c H locs 0 0 (MQ below (QV d g o) args s 0 0 (AM g)) (F0 m 0 ls []) := by
  obtain ⟨hx, hb, hml, hown, hts, hK, hg, hr, hlk⟩ := id C
  unfold fM_set at hf
  refine lv_aload_n hx hb dX9_set_0 rfl (lv_at hl 0 rfl) ?_
  obtain ⟨o1, ho1, hf⟩ := bnd_some hf
  refine mr_callIv C hR hS (As := []) (rest := []) (MM_isName l d g N  S o1 ho1) wv_337 ⟨by omega, by omega⟩ rfl rfl (Nat.le_of_ble_eq_true rfl) hl.1 dX9_set_1 ⟨Nat.zero_le _, Nat.zero_le _⟩ (fun H locs hR hS => ?_)
  refine lv_if_ne (tgt := 13) hx hb dX9_set_4 (by decide) (fun hc => ?_) (fun hc => ?_)
  · rw [if_neg hc] at hf
    refine lv_aload_n hx hb dX9_set_13 rfl (lv_at hl 0 rfl) ?_
    refine mr_getI C hR fl_278 rfl dX9_set_14 ?_
    refine lv_istore_n (lv' := [(1, .int (mF o1.2 7)), (0, .ref g.1)]) hx hb dX9_set_17 rfl hl (by decide) rfl (fun ls hl => ?_)
    refine lv_aload_n hx hb dX9_set_18 rfl (lv_at hl 1 rfl) ?_
    obtain ⟨o19, ho19, hf⟩ := bnd_some hf
    refine mr_callIv C hR hS (As := []) (rest := []) (MM_isPoint l d g N  o1.2 o19 ho19) wv_436 ⟨by omega, by omega⟩ rfl rfl (Nat.le_of_ble_eq_true rfl) hl.1 dX9_set_19 ⟨Nat.zero_le _, Nat.zero_le _⟩ (fun H locs hR hS => ?_)
    refine lv_istore_n (lv' := [(2, .int o19.1), (1, .int (mF o1.2 7)), (0, .ref g.1)]) hx hb dX9_set_22 rfl hl (by decide) rfl (fun ls hl => ?_)
    refine lv_iconst (v := (-1)) hx hb dX9_set_23 (by decide) ?_
    refine lv_istore_n (lv' := [(3, .int (-1)), (2, .int o19.1), (1, .int (mF o1.2 7)), (0, .ref g.1)]) hx hb dX9_set_24 rfl hl (by decide) rfl (fun ls hl => ?_)
    refine lv_iconst (v := (-1)) hx hb dX9_set_25 (by decide) ?_
    refine lv_istore (lv' := [(4, .int (-1)), (3, .int (-1)), (2, .int o19.1), (1, .int (mF o1.2 7)), (0, .ref g.1)]) hx hb dX9_set_26 hl (by decide) rfl (fun ls hl => ?_)
    refine lv_iload_n hx hb dX9_set_28 rfl (lv_at hl 2 rfl) ?_
    refine lv_if_eq (tgt := 39) hx hb dX9_set_29 (by decide) (fun hc => ?_) (fun hc => ?_)
    · rw [if_pos hc] at hf
      refine lv_aload_n hx hb dX9_set_39 rfl (lv_at hl 4 rfl) ?_
      refine lv_iconst (v := 1) hx hb dX9_set_40 (by decide) ?_
      obtain ⟨o41, ho41, hf⟩ := bnd_some hf
      refine mr_callVv C hR hS (As := [.int 1]) (rest := []) (MM_nearName l d g N 1 o19.2 o41 ho41) wv_442 ⟨by omega, by omega⟩ rfl rfl (Nat.le_of_ble_eq_true rfl) hl.1 dX9_set_41 ⟨Nat.zero_le _, Nat.zero_le _⟩ (fun H locs hR hS => ?_)
      refine lv_aload_n hx hb dX9_set_44 rfl (lv_at hl 4 rfl) ?_
      refine mr_getI C hR fl_396 rfl dX9_set_45 ?_
      refine lv_istore_n (lv' := [(3, .int (mF o41 51)), (4, .int (-1)), (2, .int o19.1), (1, .int (mF o1.2 7)), (0, .ref g.1)]) hx hb dX9_set_48 rfl hl (by decide) rfl (fun ls hl => ?_)
      refine lv_aload_n hx hb dX9_set_49 rfl (lv_at hl 4 rfl) ?_
      refine mr_getI C hR fl_399 rfl dX9_set_50 ?_
      refine lv_istore (lv' := [(4, .int (mF o41 52)), (3, .int (mF o41 51)), (2, .int o19.1), (1, .int (mF o1.2 7)), (0, .ref g.1)]) hx hb dX9_set_53 hl (by decide) rfl (fun ls hl => ?_)
      exact (wbM_set_55 C hRm hGP hB) _ _ _ _ _ _ _ _ hf hR hS (lv_sub hl [4, 3, 2, 1, 0] rfl)
    · rw [if_neg hc] at hf
      refine lv_aload_n hx hb dX9_set_32 rfl (lv_at hl 4 rfl) ?_
      obtain ⟨o33, ho33, hf⟩ := bnd_some hf
      refine mr_callVv C hR hS (As := []) (rest := []) (MM_farName l d g N  o19.2 o33 ho33) wv_439 ⟨by omega, by omega⟩ rfl rfl (Nat.le_of_ble_eq_true rfl) hl.1 dX9_set_33 ⟨Nat.zero_le _, Nat.zero_le _⟩ (fun H locs hR hS => ?_)
      refine lv_goto (tgt := 55) hx hb dX9_set_36 (by decide) ?_
      exact (wbM_set_55 C hRm hGP hB) _ _ _ _ _ _ _ _ hf hR hS (lv_sub hl [4, 3, 2, 1, 0] rfl)
  · rw [if_pos hc] at hf
    refine lv_aload_n hx hb dX9_set_7 rfl (lv_at hl 0 rfl) ?_
    refine lv_iconst (v := 1) hx hb dX9_set_8 (by decide) ?_
    obtain ⟨o9, ho9, hf⟩ := bnd_some hf
    refine mr_callVv C hR hS (As := [.int 1]) (rest := []) (MM_wrong l d g N 1 o1.2 o9 ho9) wv_287 ⟨by omega, by omega⟩ rfl rfl (Nat.le_of_ble_eq_true rfl) hl.1 dX9_set_9 ⟨Nat.zero_le _, Nat.zero_le _⟩ (fun H locs hR hS => ?_)
    exact mr_vret C hR hS hf dX9_set_12
def bM_expression_56 (N : Nat) (GP : Nat → Ms → Option Ms)  (S : Ms) : Option (Ms) := some S
set_option maxRecDepth 100000 in
set_option maxHeartbeats 4000000 in
theorem wbM_expression_56 {p : Program} {l : Launch} {e : Env} {R : Room} {s : State} {m : MethodId} {args : Array Value} {below : List Frame} {meth : Method} {c : Code} {d : Dd} {g : Gm} {o : Ms} {fr lo : Nat} {N : Nat} {GP : Nat → Ms → Option Ms} (C : CM p s m args meth c d g cX9_expression 3 none) (hRm : (fr + 1) ≤ R.frames ∧ (lo + 60) ≤ R.locals) (hGP : HP l d g GP fr lo) (hB : 30 ≤ fr ∧ 1659 ≤ lo)  (S : Ms) (H : Heap) (locs : List Loc) (ls : Array Slot) (hf : bM_expression_56 N GP  S = some o) (hR : RM d g S H) (hS : va_S (AM g) s.heap H locs) (hl : lv_has ls 3 [(0, .ref g.1)]) : W p l e R s m args below meth c H locs 0 0 (MQ below (QV d g o) args s 0 0 (AM g)) (F0 m 56 ls []) := by
  obtain ⟨hx, hb, hml, hown, hts, hK, hg, hr, hlk⟩ := id C
  unfold bM_expression_56 at hf
  exact mr_vret C hR hS hf dX9_expression_56
def bM_expression_50 (N : Nat) (GP : Nat → Ms → Option Ms) (s1 : Int32) (S : Ms) : Option (Ms) := (fM_emit N s1 0 0 S).bind fun o52 => (bM_expression_56 N GP) o52.2
set_option maxRecDepth 100000 in
set_option maxHeartbeats 4000000 in
theorem wbM_expression_50 {p : Program} {l : Launch} {e : Env} {R : Room} {s : State} {m : MethodId} {args : Array Value} {below : List Frame} {meth : Method} {c : Code} {d : Dd} {g : Gm} {o : Ms} {fr lo : Nat} {N : Nat} {GP : Nat → Ms → Option Ms} (C : CM p s m args meth c d g cX9_expression 3 none) (hRm : (fr + 1) ≤ R.frames ∧ (lo + 60) ≤ R.locals) (hGP : HP l d g GP fr lo) (hB : 30 ≤ fr ∧ 1659 ≤ lo) (s1 : Int32) (S : Ms) (H : Heap) (locs : List Loc) (ls : Array Slot) (hf : bM_expression_50 N GP s1 S = some o) (hR : RM d g S H) (hS : va_S (AM g) s.heap H locs) (hl : lv_has ls 3 [(0, .ref g.1)]) : W p l e R s m args below meth c H locs 0 0 (MQ below (QV d g o) args s 0 0 (AM g)) (F0 m 50 ls [.int s1, .ref g.1]) := by
  obtain ⟨hx, hb, hml, hown, hts, hK, hg, hr, hlk⟩ := id C
  unfold bM_expression_50 at hf
  refine lv_iconst (v := 0) hx hb dX9_expression_50 (by decide) ?_
  refine lv_iconst (v := 0) hx hb dX9_expression_51 (by decide) ?_
  obtain ⟨o52, ho52, hf⟩ := bnd_some hf
  refine mr_callIv C hR hS (As := [.int s1, .int 0, .int 0]) (rest := []) (MM_emit l d g N s1 0 0 S o52 ho52) wv_379 ⟨by omega, by omega⟩ rfl rfl (Nat.le_of_ble_eq_true rfl) hl.1 dX9_expression_52 ⟨Nat.zero_le _, Nat.zero_le _⟩ (fun H locs hR hS => ?_)
  refine lv_istore_n (lv' := [(2, .int o52.1), (0, .ref g.1)]) hx hb dX9_expression_55 rfl hl (by decide) rfl (fun ls hl => ?_)
  exact (wbM_expression_56 C hRm hGP hB) _ _ _ _ hf hR hS (lv_sub hl [1] rfl)
def bM_expression_24 (N : Nat) (GP : Nat → Ms → Option Ms) (x1 : Int32) (S : Ms) : Option (Ms) := (GP 6 (pF S 7 ((mF S 7) + 1))).bind fun o35 => if x1 = 0 then ((bM_expression_50 N GP) 24 o35) else ((bM_expression_50 N GP) 23 o35)
set_option maxRecDepth 100000 in
set_option maxHeartbeats 4000000 in
theorem wbM_expression_24 {p : Program} {l : Launch} {e : Env} {R : Room} {s : State} {m : MethodId} {args : Array Value} {below : List Frame} {meth : Method} {c : Code} {d : Dd} {g : Gm} {o : Ms} {fr lo : Nat} {N : Nat} {GP : Nat → Ms → Option Ms} (C : CM p s m args meth c d g cX9_expression 3 none) (hRm : (fr + 1) ≤ R.frames ∧ (lo + 60) ≤ R.locals) (hGP : HP l d g GP fr lo) (hB : 30 ≤ fr ∧ 1659 ≤ lo) (x1 : Int32) (S : Ms) (H : Heap) (locs : List Loc) (ls : Array Slot) (hf : bM_expression_24 N GP x1 S = some o) (hR : RM d g S H) (hS : va_S (AM g) s.heap H locs) (hl : lv_has ls 3 [(0, .ref g.1), (1, .int x1)]) : W p l e R s m args below meth c H locs 0 0 (MQ below (QV d g o) args s 0 0 (AM g)) (F0 m 24 ls []) := by
  obtain ⟨hx, hb, hml, hown, hts, hK, hg, hr, hlk⟩ := id C
  unfold bM_expression_24 at hf
  refine lv_aload_n hx hb dX9_expression_24 rfl (lv_at hl 0 rfl) ?_
  refine lv_dup hx hb dX9_expression_25 rfl ?_
  refine mr_getI C hR fl_278 rfl dX9_expression_26 ?_
  refine lv_iconst (v := 1) hx hb dX9_expression_29 (by decide) ?_
  refine lv_iadd hx hb dX9_expression_30 ?_
  refine mr_putI C hR hS fl_278 ⟨rfl, rfl, rfl⟩ dX9_expression_31 (fun H locs hR hS => ?_)
  refine lv_aload_n hx hb dX9_expression_34 rfl (lv_at hl 0 rfl) ?_
  obtain ⟨o35, ho35, hf⟩ := bnd_some hf
  refine mr_callVv C hR hS (As := []) (rest := []) (hGP.2.2.2.2.2.2.1 _ _ ho35) wv_445 ⟨by omega, by omega⟩ rfl rfl (Nat.le_of_ble_eq_true rfl) hl.1 dX9_expression_35 ⟨Nat.zero_le _, Nat.zero_le _⟩ (fun H locs hR hS => ?_)
  refine lv_aload_n hx hb dX9_expression_38 rfl (lv_at hl 0 rfl) ?_
  refine lv_iload_n hx hb dX9_expression_39 rfl (lv_at hl 1 rfl) ?_
  refine lv_if_eq (tgt := 48) hx hb dX9_expression_40 (by decide) (fun hc => ?_) (fun hc => ?_)
  · rw [if_pos hc] at hf
    refine lv_bipush (v := 24) hx hb dX9_expression_48 (by decide) ?_
    exact (wbM_expression_50 C hRm hGP hB) _ _ _ _ _ hf hR hS (lv_sub hl [0] rfl)
  · rw [if_neg hc] at hf
    refine lv_bipush (v := 23) hx hb dX9_expression_43 (by decide) ?_
    refine lv_goto (tgt := 50) hx hb dX9_expression_45 (by decide) ?_
    exact (wbM_expression_50 C hRm hGP hB) _ _ _ _ _ hf hR hS (lv_sub hl [0] rfl)
def fM_expression (N : Nat) (GP : Nat → Ms → Option Ms)  (S : Ms) : Option (Ms) := (GP 6 S).bind fun o1 => (fM_isSign N 60 o1).bind fun o7 => if o7.1 = 0 then ((fM_isSign N 61 o7.2).bind fun o18 => if o18.1 = 0 then ((bM_expression_56 N GP) o18.2) else ((bM_expression_24 N GP) o7.1 o18.2)) else ((bM_expression_24 N GP) o7.1 o7.2)
set_option maxRecDepth 100000 in
set_option maxHeartbeats 4000000 in
theorem wfM_expression {p : Program} {l : Launch} {e : Env} {R : Room} {s : State} {m : MethodId} {args : Array Value} {below : List Frame} {meth : Method} {c : Code} {d : Dd} {g : Gm} {o : Ms} {fr lo : Nat} {N : Nat} {GP : Nat → Ms → Option Ms} (C : CM p s m args meth c d g cX9_expression 3 none) (hRm : (fr + 1) ≤ R.frames ∧ (lo + 60) ≤ R.locals) (hGP : HP l d g GP fr lo) (hB : 30 ≤ fr ∧ 1659 ≤ lo)  (S : Ms) (H : Heap) (locs : List Loc) (ls : Array Slot) (hf : fM_expression N GP  S = some o) (hR : RM d g S H) (hS : va_S (AM g) s.heap H locs) (hl : lv_has ls 3 [(0, .ref g.1)]) : W p l e R s m args below meth c H locs 0 0 (MQ below (QV d g o) args s 0 0 (AM g)) (F0 m 0 ls []) := by
  obtain ⟨hx, hb, hml, hown, hts, hK, hg, hr, hlk⟩ := id C
  unfold fM_expression at hf
  refine lv_aload_n hx hb dX9_expression_0 rfl (lv_at hl 0 rfl) ?_
  obtain ⟨o1, ho1, hf⟩ := bnd_some hf
  refine mr_callVv C hR hS (As := []) (rest := []) (hGP.2.2.2.2.2.2.1 _ _ ho1) wv_445 ⟨by omega, by omega⟩ rfl rfl (Nat.le_of_ble_eq_true rfl) hl.1 dX9_expression_1 ⟨Nat.zero_le _, Nat.zero_le _⟩ (fun H locs hR hS => ?_)
  refine lv_aload_n hx hb dX9_expression_4 rfl (lv_at hl 0 rfl) ?_
  refine lv_bipush (v := 60) hx hb dX9_expression_5 (by decide) ?_
  obtain ⟨o7, ho7, hf⟩ := bnd_some hf
  refine mr_callIv C hR hS (As := [.int 60]) (rest := []) (MM_isSign l d g N 60 o1 o7 ho7) wv_284 ⟨by omega, by omega⟩ rfl rfl (Nat.le_of_ble_eq_true rfl) hl.1 dX9_expression_7 ⟨Nat.zero_le _, Nat.zero_le _⟩ (fun H locs hR hS => ?_)
  refine lv_istore_n (lv' := [(1, .int o7.1), (0, .ref g.1)]) hx hb dX9_expression_10 rfl hl (by decide) rfl (fun ls hl => ?_)
  refine lv_iload_n hx hb dX9_expression_11 rfl (lv_at hl 0 rfl) ?_
  refine lv_if_ne (tgt := 24) hx hb dX9_expression_12 (by decide) (fun hc => ?_) (fun hc => ?_)
  · rw [if_neg hc] at hf
    exact (wbM_expression_24 C hRm hGP hB) _ _ _ _ _ hf hR hS (lv_sub hl [1, 0] rfl)
  · rw [if_pos hc] at hf
    refine lv_aload_n hx hb dX9_expression_15 rfl (lv_at hl 1 rfl) ?_
    refine lv_bipush (v := 61) hx hb dX9_expression_16 (by decide) ?_
    obtain ⟨o18, ho18, hf⟩ := bnd_some hf
    refine mr_callIv C hR hS (As := [.int 61]) (rest := []) (MM_isSign l d g N 61 o7.2 o18 ho18) wv_284 ⟨by omega, by omega⟩ rfl rfl (Nat.le_of_ble_eq_true rfl) hl.1 dX9_expression_18 ⟨Nat.zero_le _, Nat.zero_le _⟩ (fun H locs hR hS => ?_)
    refine lv_if_eq (tgt := 56) hx hb dX9_expression_21 (by decide) (fun hc => ?_) (fun hc => ?_)
    · rw [if_pos hc] at hf
      exact (wbM_expression_56 C hRm hGP hB) _ _ _ _ hf hR hS (lv_sub hl [1] rfl)
    · rw [if_neg hc] at hf
      exact (wbM_expression_24 C hRm hGP hB) _ _ _ _ _ hf hR hS (lv_sub hl [1, 0] rfl)
def bM_sum_38 (N : Nat) (GP : Nat → Ms → Option Ms) (r4 : Ms → Option (Ms)) (k64 : Ms → Option (Ms)) (s0 : Int32) (S : Ms) : Option (Ms) := (GP 7 (pF S 7 ((mF S 7) + 1))).bind fun o50 => (fM_emit N s0 0 0 o50).bind fun o57 => r4 o57.2
set_option maxRecDepth 100000 in
set_option maxHeartbeats 4000000 in
theorem wbM_sum_38 {p : Program} {l : Launch} {e : Env} {R : Room} {s : State} {m : MethodId} {args : Array Value} {below : List Frame} {meth : Method} {c : Code} {d : Dd} {g : Gm} {o : Ms} {fr lo : Nat} {N : Nat} {GP : Nat → Ms → Option Ms} {r4 : Ms → Option (Ms)} {k64 : Ms → Option (Ms)} (C : CM p s m args meth c d g cX9_sum 3 none) (hRm : (fr + 1) ≤ R.frames ∧ (lo + 60) ≤ R.locals) (hGP : HP l d g GP fr lo) (hB : 30 ≤ fr ∧ 1659 ≤ lo) (hr4 : ∀  (S : Ms) (H : Heap) (locs : List Loc) (ls : Array Slot), r4 S = some o → RM d g S H → va_S (AM g) s.heap H locs → lv_has ls 3 [(0, .ref g.1)] → W p l e R s m args below meth c H locs 0 0 (MQ below (QV d g o) args s 0 0 (AM g)) (F0 m 4 ls [])) (hk64 : ∀  (S : Ms) (H : Heap) (locs : List Loc) (ls : Array Slot), k64 S = some o → RM d g S H → va_S (AM g) s.heap H locs → lv_has ls 3 [(0, .ref g.1)] → W p l e R s m args below meth c H locs 0 0 (MQ below (QV d g o) args s 0 0 (AM g)) (F0 m 64 ls [])) (s0 : Int32) (S : Ms) (H : Heap) (locs : List Loc) (ls : Array Slot) (hf : bM_sum_38 N GP r4 k64 s0 S = some o) (hR : RM d g S H) (hS : va_S (AM g) s.heap H locs) (hl : lv_has ls 3 [(0, .ref g.1)]) : W p l e R s m args below meth c H locs 0 0 (MQ below (QV d g o) args s 0 0 (AM g)) (F0 m 38 ls [.int s0]) := by
  obtain ⟨hx, hb, hml, hown, hts, hK, hg, hr, hlk⟩ := id C
  unfold bM_sum_38 at hf
  refine lv_istore_n (lv' := [(1, .int s0), (0, .ref g.1)]) hx hb dX9_sum_38 rfl hl (by decide) rfl (fun ls hl => ?_)
  refine lv_aload_n hx hb dX9_sum_39 rfl (lv_at hl 1 rfl) ?_
  refine lv_dup hx hb dX9_sum_40 rfl ?_
  refine mr_getI C hR fl_278 rfl dX9_sum_41 ?_
  refine lv_iconst (v := 1) hx hb dX9_sum_44 (by decide) ?_
  refine lv_iadd hx hb dX9_sum_45 ?_
  refine mr_putI C hR hS fl_278 ⟨rfl, rfl, rfl⟩ dX9_sum_46 (fun H locs hR hS => ?_)
  refine lv_aload_n hx hb dX9_sum_49 rfl (lv_at hl 1 rfl) ?_
  obtain ⟨o50, ho50, hf⟩ := bnd_some hf
  refine mr_callVv C hR hS (As := []) (rest := []) (hGP.2.2.2.2.2.2.2.1 _ _ ho50) wv_448 ⟨by omega, by omega⟩ rfl rfl (Nat.le_of_ble_eq_true rfl) hl.1 dX9_sum_50 ⟨Nat.zero_le _, Nat.zero_le _⟩ (fun H locs hR hS => ?_)
  refine lv_aload_n hx hb dX9_sum_53 rfl (lv_at hl 1 rfl) ?_
  refine lv_iload_n hx hb dX9_sum_54 rfl (lv_at hl 0 rfl) ?_
  refine lv_iconst (v := 0) hx hb dX9_sum_55 (by decide) ?_
  refine lv_iconst (v := 0) hx hb dX9_sum_56 (by decide) ?_
  obtain ⟨o57, ho57, hf⟩ := bnd_some hf
  refine mr_callIv C hR hS (As := [.int s0, .int 0, .int 0]) (rest := []) (MM_emit l d g N s0 0 0 o50 o57 ho57) wv_379 ⟨by omega, by omega⟩ rfl rfl (Nat.le_of_ble_eq_true rfl) hl.1 dX9_sum_57 ⟨Nat.zero_le _, Nat.zero_le _⟩ (fun H locs hR hS => ?_)
  refine lv_istore_n (lv' := [(2, .int o57.1), (1, .int s0), (0, .ref g.1)]) hx hb dX9_sum_60 rfl hl (by decide) rfl (fun ls hl => ?_)
  refine lv_goto (tgt := 4) hx hb dX9_sum_61 (by decide) ?_
  exact hr4 _ _ _ _ hf hR hS (lv_sub hl [2] rfl)
def bM_sum_22 (N : Nat) (GP : Nat → Ms → Option Ms) (r4 : Ms → Option (Ms)) (k64 : Ms → Option (Ms))  (S : Ms) : Option (Ms) := (fM_isSign N 43 S).bind fun o25 => if o25.1 = 0 then ((bM_sum_38 N GP r4 k64) 22 o25.2) else ((bM_sum_38 N GP r4 k64) 21 o25.2)
set_option maxRecDepth 100000 in
set_option maxHeartbeats 4000000 in
theorem wbM_sum_22 {p : Program} {l : Launch} {e : Env} {R : Room} {s : State} {m : MethodId} {args : Array Value} {below : List Frame} {meth : Method} {c : Code} {d : Dd} {g : Gm} {o : Ms} {fr lo : Nat} {N : Nat} {GP : Nat → Ms → Option Ms} {r4 : Ms → Option (Ms)} {k64 : Ms → Option (Ms)} (C : CM p s m args meth c d g cX9_sum 3 none) (hRm : (fr + 1) ≤ R.frames ∧ (lo + 60) ≤ R.locals) (hGP : HP l d g GP fr lo) (hB : 30 ≤ fr ∧ 1659 ≤ lo) (hr4 : ∀  (S : Ms) (H : Heap) (locs : List Loc) (ls : Array Slot), r4 S = some o → RM d g S H → va_S (AM g) s.heap H locs → lv_has ls 3 [(0, .ref g.1)] → W p l e R s m args below meth c H locs 0 0 (MQ below (QV d g o) args s 0 0 (AM g)) (F0 m 4 ls [])) (hk64 : ∀  (S : Ms) (H : Heap) (locs : List Loc) (ls : Array Slot), k64 S = some o → RM d g S H → va_S (AM g) s.heap H locs → lv_has ls 3 [(0, .ref g.1)] → W p l e R s m args below meth c H locs 0 0 (MQ below (QV d g o) args s 0 0 (AM g)) (F0 m 64 ls []))  (S : Ms) (H : Heap) (locs : List Loc) (ls : Array Slot) (hf : bM_sum_22 N GP r4 k64  S = some o) (hR : RM d g S H) (hS : va_S (AM g) s.heap H locs) (hl : lv_has ls 3 [(0, .ref g.1)]) : W p l e R s m args below meth c H locs 0 0 (MQ below (QV d g o) args s 0 0 (AM g)) (F0 m 22 ls []) := by
  obtain ⟨hx, hb, hml, hown, hts, hK, hg, hr, hlk⟩ := id C
  unfold bM_sum_22 at hf
  refine lv_aload_n hx hb dX9_sum_22 rfl (lv_at hl 0 rfl) ?_
  refine lv_bipush (v := 43) hx hb dX9_sum_23 (by decide) ?_
  obtain ⟨o25, ho25, hf⟩ := bnd_some hf
  refine mr_callIv C hR hS (As := [.int 43]) (rest := []) (MM_isSign l d g N 43 S o25 ho25) wv_284 ⟨by omega, by omega⟩ rfl rfl (Nat.le_of_ble_eq_true rfl) hl.1 dX9_sum_25 ⟨Nat.zero_le _, Nat.zero_le _⟩ (fun H locs hR hS => ?_)
  refine lv_if_eq (tgt := 36) hx hb dX9_sum_28 (by decide) (fun hc => ?_) (fun hc => ?_)
  · rw [if_pos hc] at hf
    refine lv_bipush (v := 22) hx hb dX9_sum_36 (by decide) ?_
    exact (wbM_sum_38 C hRm hGP hB hr4 hk64) _ _ _ _ _ hf hR hS (lv_sub hl [0] rfl)
  · rw [if_neg hc] at hf
    refine lv_bipush (v := 21) hx hb dX9_sum_31 (by decide) ?_
    refine lv_goto (tgt := 38) hx hb dX9_sum_33 (by decide) ?_
    exact (wbM_sum_38 C hRm hGP hB hr4 hk64) _ _ _ _ _ hf hR hS (lv_sub hl [0] rfl)
def lM_sum_4 (N : Nat) (GP : Nat → Ms → Option Ms) (k64 : Ms → Option (Ms)) : Nat → Ms → Option (Ms)
  | 0, _ => none
  | n + 1, S => (fM_isSign N 43 S).bind fun o7 => if o7.1 = 0 then ((fM_isSign N 45 o7.2).bind fun o16 => if o16.1 = 0 then (k64 o16.2) else ((bM_sum_22 N GP (lM_sum_4 N GP k64 n) k64) o16.2)) else ((bM_sum_22 N GP (lM_sum_4 N GP k64 n) k64) o7.2)
set_option maxRecDepth 100000 in
set_option maxHeartbeats 4000000 in
theorem wlM_sum_4 {p : Program} {l : Launch} {e : Env} {R : Room} {s : State} {m : MethodId} {args : Array Value} {below : List Frame} {meth : Method} {c : Code} {d : Dd} {g : Gm} {o : Ms} {fr lo : Nat} {N : Nat} {GP : Nat → Ms → Option Ms} {k64 : Ms → Option (Ms)} (C : CM p s m args meth c d g cX9_sum 3 none) (hRm : (fr + 1) ≤ R.frames ∧ (lo + 60) ≤ R.locals) (hGP : HP l d g GP fr lo) (hB : 30 ≤ fr ∧ 1659 ≤ lo) (hk64 : ∀  (S : Ms) (H : Heap) (locs : List Loc) (ls : Array Slot), k64 S = some o → RM d g S H → va_S (AM g) s.heap H locs → lv_has ls 3 [(0, .ref g.1)] → W p l e R s m args below meth c H locs 0 0 (MQ below (QV d g o) args s 0 0 (AM g)) (F0 m 64 ls [])) : ∀ (n : Nat)  (S : Ms) (H : Heap) (locs : List Loc) (ls : Array Slot), lM_sum_4 N GP k64 n  S = some o → RM d g S H → va_S (AM g) s.heap H locs → lv_has ls 3 [(0, .ref g.1)] → W p l e R s m args below meth c H locs 0 0 (MQ below (QV d g o) args s 0 0 (AM g)) (F0 m 4 ls []) := by
  obtain ⟨hx, hb, hml, hown, hts, hK, hg, hr, hlk⟩ := id C
  intro n
  induction n with
  | zero => intro  S H locs ls hf; cases hf
  | succ n ih =>
    intro  S H locs ls hf hR hS hl
    rw [lM_sum_4] at hf
    refine lv_aload_n hx hb dX9_sum_4 rfl (lv_at hl 0 rfl) ?_
    refine lv_bipush (v := 43) hx hb dX9_sum_5 (by decide) ?_
    obtain ⟨o7, ho7, hf⟩ := bnd_some hf
    refine mr_callIv C hR hS (As := [.int 43]) (rest := []) (MM_isSign l d g N 43 S o7 ho7) wv_284 ⟨by omega, by omega⟩ rfl rfl (Nat.le_of_ble_eq_true rfl) hl.1 dX9_sum_7 ⟨Nat.zero_le _, Nat.zero_le _⟩ (fun H locs hR hS => ?_)
    refine lv_if_ne (tgt := 22) hx hb dX9_sum_10 (by decide) (fun hc => ?_) (fun hc => ?_)
    · rw [if_neg hc] at hf
      exact (wbM_sum_22 C hRm hGP hB ih hk64) _ _ _ _ hf hR hS (lv_sub hl [0] rfl)
    · rw [if_pos hc] at hf
      refine lv_aload_n hx hb dX9_sum_13 rfl (lv_at hl 0 rfl) ?_
      refine lv_bipush (v := 45) hx hb dX9_sum_14 (by decide) ?_
      obtain ⟨o16, ho16, hf⟩ := bnd_some hf
      refine mr_callIv C hR hS (As := [.int 45]) (rest := []) (MM_isSign l d g N 45 o7.2 o16 ho16) wv_284 ⟨by omega, by omega⟩ rfl rfl (Nat.le_of_ble_eq_true rfl) hl.1 dX9_sum_16 ⟨Nat.zero_le _, Nat.zero_le _⟩ (fun H locs hR hS => ?_)
      refine lv_if_eq (tgt := 64) hx hb dX9_sum_19 (by decide) (fun hc => ?_) (fun hc => ?_)
      · rw [if_pos hc] at hf
        exact hk64 _ _ _ _ hf hR hS (lv_sub hl [0] rfl)
      · rw [if_neg hc] at hf
        exact (wbM_sum_22 C hRm hGP hB ih hk64) _ _ _ _ hf hR hS (lv_sub hl [0] rfl)
def bM_sum_64 (N : Nat) (GP : Nat → Ms → Option Ms)  (S : Ms) : Option (Ms) := some S
set_option maxRecDepth 100000 in
set_option maxHeartbeats 4000000 in
theorem wbM_sum_64 {p : Program} {l : Launch} {e : Env} {R : Room} {s : State} {m : MethodId} {args : Array Value} {below : List Frame} {meth : Method} {c : Code} {d : Dd} {g : Gm} {o : Ms} {fr lo : Nat} {N : Nat} {GP : Nat → Ms → Option Ms} (C : CM p s m args meth c d g cX9_sum 3 none) (hRm : (fr + 1) ≤ R.frames ∧ (lo + 60) ≤ R.locals) (hGP : HP l d g GP fr lo) (hB : 30 ≤ fr ∧ 1659 ≤ lo)  (S : Ms) (H : Heap) (locs : List Loc) (ls : Array Slot) (hf : bM_sum_64 N GP  S = some o) (hR : RM d g S H) (hS : va_S (AM g) s.heap H locs) (hl : lv_has ls 3 [(0, .ref g.1)]) : W p l e R s m args below meth c H locs 0 0 (MQ below (QV d g o) args s 0 0 (AM g)) (F0 m 64 ls []) := by
  obtain ⟨hx, hb, hml, hown, hts, hK, hg, hr, hlk⟩ := id C
  unfold bM_sum_64 at hf
  exact mr_vret C hR hS hf dX9_sum_64
def fM_sum (N : Nat) (GP : Nat → Ms → Option Ms)  (S : Ms) : Option (Ms) := (GP 7 S).bind fun o1 => (lM_sum_4 N GP (bM_sum_64 N GP) N) o1
set_option maxRecDepth 100000 in
set_option maxHeartbeats 4000000 in
theorem wfM_sum {p : Program} {l : Launch} {e : Env} {R : Room} {s : State} {m : MethodId} {args : Array Value} {below : List Frame} {meth : Method} {c : Code} {d : Dd} {g : Gm} {o : Ms} {fr lo : Nat} {N : Nat} {GP : Nat → Ms → Option Ms} (C : CM p s m args meth c d g cX9_sum 3 none) (hRm : (fr + 1) ≤ R.frames ∧ (lo + 60) ≤ R.locals) (hGP : HP l d g GP fr lo) (hB : 30 ≤ fr ∧ 1659 ≤ lo)  (S : Ms) (H : Heap) (locs : List Loc) (ls : Array Slot) (hf : fM_sum N GP  S = some o) (hR : RM d g S H) (hS : va_S (AM g) s.heap H locs) (hl : lv_has ls 3 [(0, .ref g.1)]) : W p l e R s m args below meth c H locs 0 0 (MQ below (QV d g o) args s 0 0 (AM g)) (F0 m 0 ls []) := by
  obtain ⟨hx, hb, hml, hown, hts, hK, hg, hr, hlk⟩ := id C
  unfold fM_sum at hf
  refine lv_aload_n hx hb dX9_sum_0 rfl (lv_at hl 0 rfl) ?_
  obtain ⟨o1, ho1, hf⟩ := bnd_some hf
  refine mr_callVv C hR hS (As := []) (rest := []) (hGP.2.2.2.2.2.2.2.1 _ _ ho1) wv_448 ⟨by omega, by omega⟩ rfl rfl (Nat.le_of_ble_eq_true rfl) hl.1 dX9_sum_1 ⟨Nat.zero_le _, Nat.zero_le _⟩ (fun H locs hR hS => ?_)
  exact (wlM_sum_4 C hRm hGP hB (wbM_sum_64 C hRm hGP hB) N) _ _ _ _ hf hR hS (lv_sub hl [0] rfl)
def bM_product_61 (N : Nat) (GP : Nat → Ms → Option Ms) (r4 : Ms → Option (Ms)) (k87 : Ms → Option (Ms)) (s0 : Int32) (S : Ms) : Option (Ms) := (GP 8 (pF S 7 ((mF S 7) + 1))).bind fun o73 => (fM_emit N s0 0 0 o73).bind fun o80 => r4 o80.2
set_option maxRecDepth 100000 in
set_option maxHeartbeats 4000000 in
theorem wbM_product_61 {p : Program} {l : Launch} {e : Env} {R : Room} {s : State} {m : MethodId} {args : Array Value} {below : List Frame} {meth : Method} {c : Code} {d : Dd} {g : Gm} {o : Ms} {fr lo : Nat} {N : Nat} {GP : Nat → Ms → Option Ms} {r4 : Ms → Option (Ms)} {k87 : Ms → Option (Ms)} (C : CM p s m args meth c d g cX9_product 3 none) (hRm : (fr + 1) ≤ R.frames ∧ (lo + 60) ≤ R.locals) (hGP : HP l d g GP fr lo) (hB : 30 ≤ fr ∧ 1659 ≤ lo) (hr4 : ∀  (S : Ms) (H : Heap) (locs : List Loc) (ls : Array Slot), r4 S = some o → RM d g S H → va_S (AM g) s.heap H locs → lv_has ls 3 [(0, .ref g.1)] → W p l e R s m args below meth c H locs 0 0 (MQ below (QV d g o) args s 0 0 (AM g)) (F0 m 4 ls [])) (hk87 : ∀  (S : Ms) (H : Heap) (locs : List Loc) (ls : Array Slot), k87 S = some o → RM d g S H → va_S (AM g) s.heap H locs → lv_has ls 3 [(0, .ref g.1)] → W p l e R s m args below meth c H locs 0 0 (MQ below (QV d g o) args s 0 0 (AM g)) (F0 m 87 ls [])) (s0 : Int32) (S : Ms) (H : Heap) (locs : List Loc) (ls : Array Slot) (hf : bM_product_61 N GP r4 k87 s0 S = some o) (hR : RM d g S H) (hS : va_S (AM g) s.heap H locs) (hl : lv_has ls 3 [(0, .ref g.1)]) : W p l e R s m args below meth c H locs 0 0 (MQ below (QV d g o) args s 0 0 (AM g)) (F0 m 61 ls [.int s0]) := by
  obtain ⟨hx, hb, hml, hown, hts, hK, hg, hr, hlk⟩ := id C
  unfold bM_product_61 at hf
  refine lv_istore_n (lv' := [(1, .int s0), (0, .ref g.1)]) hx hb dX9_product_61 rfl hl (by decide) rfl (fun ls hl => ?_)
  refine lv_aload_n hx hb dX9_product_62 rfl (lv_at hl 1 rfl) ?_
  refine lv_dup hx hb dX9_product_63 rfl ?_
  refine mr_getI C hR fl_278 rfl dX9_product_64 ?_
  refine lv_iconst (v := 1) hx hb dX9_product_67 (by decide) ?_
  refine lv_iadd hx hb dX9_product_68 ?_
  refine mr_putI C hR hS fl_278 ⟨rfl, rfl, rfl⟩ dX9_product_69 (fun H locs hR hS => ?_)
  refine lv_aload_n hx hb dX9_product_72 rfl (lv_at hl 1 rfl) ?_
  obtain ⟨o73, ho73, hf⟩ := bnd_some hf
  refine mr_callVv C hR hS (As := []) (rest := []) (hGP.2.2.2.2.2.2.2.2.1 _ _ ho73) wv_451 ⟨by omega, by omega⟩ rfl rfl (Nat.le_of_ble_eq_true rfl) hl.1 dX9_product_73 ⟨Nat.zero_le _, Nat.zero_le _⟩ (fun H locs hR hS => ?_)
  refine lv_aload_n hx hb dX9_product_76 rfl (lv_at hl 1 rfl) ?_
  refine lv_iload_n hx hb dX9_product_77 rfl (lv_at hl 0 rfl) ?_
  refine lv_iconst (v := 0) hx hb dX9_product_78 (by decide) ?_
  refine lv_iconst (v := 0) hx hb dX9_product_79 (by decide) ?_
  obtain ⟨o80, ho80, hf⟩ := bnd_some hf
  refine mr_callIv C hR hS (As := [.int s0, .int 0, .int 0]) (rest := []) (MM_emit l d g N s0 0 0 o73 o80 ho80) wv_379 ⟨by omega, by omega⟩ rfl rfl (Nat.le_of_ble_eq_true rfl) hl.1 dX9_product_80 ⟨Nat.zero_le _, Nat.zero_le _⟩ (fun H locs hR hS => ?_)
  refine lv_istore_n (lv' := [(2, .int o80.1), (1, .int s0), (0, .ref g.1)]) hx hb dX9_product_83 rfl hl (by decide) rfl (fun ls hl => ?_)
  refine lv_goto (tgt := 4) hx hb dX9_product_84 (by decide) ?_
  exact hr4 _ _ _ _ hf hR hS (lv_sub hl [2] rfl)
def bM_product_31 (N : Nat) (GP : Nat → Ms → Option Ms) (r4 : Ms → Option (Ms)) (k87 : Ms → Option (Ms))  (S : Ms) : Option (Ms) := (fM_isSign N 42 S).bind fun o34 => if o34.1 = 0 then ((fM_isSign N 47 o34.2).bind fun o48 => if o48.1 = 0 then ((bM_product_61 N GP r4 k87) 20 o48.2) else ((bM_product_61 N GP r4 k87) 19 o48.2)) else ((bM_product_61 N GP r4 k87) 18 o34.2)
set_option maxRecDepth 100000 in
set_option maxHeartbeats 4000000 in
theorem wbM_product_31 {p : Program} {l : Launch} {e : Env} {R : Room} {s : State} {m : MethodId} {args : Array Value} {below : List Frame} {meth : Method} {c : Code} {d : Dd} {g : Gm} {o : Ms} {fr lo : Nat} {N : Nat} {GP : Nat → Ms → Option Ms} {r4 : Ms → Option (Ms)} {k87 : Ms → Option (Ms)} (C : CM p s m args meth c d g cX9_product 3 none) (hRm : (fr + 1) ≤ R.frames ∧ (lo + 60) ≤ R.locals) (hGP : HP l d g GP fr lo) (hB : 30 ≤ fr ∧ 1659 ≤ lo) (hr4 : ∀  (S : Ms) (H : Heap) (locs : List Loc) (ls : Array Slot), r4 S = some o → RM d g S H → va_S (AM g) s.heap H locs → lv_has ls 3 [(0, .ref g.1)] → W p l e R s m args below meth c H locs 0 0 (MQ below (QV d g o) args s 0 0 (AM g)) (F0 m 4 ls [])) (hk87 : ∀  (S : Ms) (H : Heap) (locs : List Loc) (ls : Array Slot), k87 S = some o → RM d g S H → va_S (AM g) s.heap H locs → lv_has ls 3 [(0, .ref g.1)] → W p l e R s m args below meth c H locs 0 0 (MQ below (QV d g o) args s 0 0 (AM g)) (F0 m 87 ls []))  (S : Ms) (H : Heap) (locs : List Loc) (ls : Array Slot) (hf : bM_product_31 N GP r4 k87  S = some o) (hR : RM d g S H) (hS : va_S (AM g) s.heap H locs) (hl : lv_has ls 3 [(0, .ref g.1)]) : W p l e R s m args below meth c H locs 0 0 (MQ below (QV d g o) args s 0 0 (AM g)) (F0 m 31 ls []) := by
  obtain ⟨hx, hb, hml, hown, hts, hK, hg, hr, hlk⟩ := id C
  unfold bM_product_31 at hf
  refine lv_aload_n hx hb dX9_product_31 rfl (lv_at hl 0 rfl) ?_
  refine lv_bipush (v := 42) hx hb dX9_product_32 (by decide) ?_
  obtain ⟨o34, ho34, hf⟩ := bnd_some hf
  refine mr_callIv C hR hS (As := [.int 42]) (rest := []) (MM_isSign l d g N 42 S o34 ho34) wv_284 ⟨by omega, by omega⟩ rfl rfl (Nat.le_of_ble_eq_true rfl) hl.1 dX9_product_34 ⟨Nat.zero_le _, Nat.zero_le _⟩ (fun H locs hR hS => ?_)
  refine lv_if_eq (tgt := 45) hx hb dX9_product_37 (by decide) (fun hc => ?_) (fun hc => ?_)
  · rw [if_pos hc] at hf
    refine lv_aload_n hx hb dX9_product_45 rfl (lv_at hl 0 rfl) ?_
    refine lv_bipush (v := 47) hx hb dX9_product_46 (by decide) ?_
    obtain ⟨o48, ho48, hf⟩ := bnd_some hf
    refine mr_callIv C hR hS (As := [.int 47]) (rest := []) (MM_isSign l d g N 47 o34.2 o48 ho48) wv_284 ⟨by omega, by omega⟩ rfl rfl (Nat.le_of_ble_eq_true rfl) hl.1 dX9_product_48 ⟨Nat.zero_le _, Nat.zero_le _⟩ (fun H locs hR hS => ?_)
    refine lv_if_eq (tgt := 59) hx hb dX9_product_51 (by decide) (fun hc => ?_) (fun hc => ?_)
    · rw [if_pos hc] at hf
      refine lv_bipush (v := 20) hx hb dX9_product_59 (by decide) ?_
      exact (wbM_product_61 C hRm hGP hB hr4 hk87) _ _ _ _ _ hf hR hS (lv_sub hl [0] rfl)
    · rw [if_neg hc] at hf
      refine lv_bipush (v := 19) hx hb dX9_product_54 (by decide) ?_
      refine lv_goto (tgt := 61) hx hb dX9_product_56 (by decide) ?_
      exact (wbM_product_61 C hRm hGP hB hr4 hk87) _ _ _ _ _ hf hR hS (lv_sub hl [0] rfl)
  · rw [if_neg hc] at hf
    refine lv_bipush (v := 18) hx hb dX9_product_40 (by decide) ?_
    refine lv_goto (tgt := 61) hx hb dX9_product_42 (by decide) ?_
    exact (wbM_product_61 C hRm hGP hB hr4 hk87) _ _ _ _ _ hf hR hS (lv_sub hl [0] rfl)
def lM_product_4 (N : Nat) (GP : Nat → Ms → Option Ms) (k87 : Ms → Option (Ms)) : Nat → Ms → Option (Ms)
  | 0, _ => none
  | n + 1, S => (fM_isSign N 42 S).bind fun o7 => if o7.1 = 0 then ((fM_isSign N 47 o7.2).bind fun o16 => if o16.1 = 0 then ((fM_isSign N 37 o16.2).bind fun o25 => if o25.1 = 0 then (k87 o25.2) else ((bM_product_31 N GP (lM_product_4 N GP k87 n) k87) o25.2)) else ((bM_product_31 N GP (lM_product_4 N GP k87 n) k87) o16.2)) else ((bM_product_31 N GP (lM_product_4 N GP k87 n) k87) o7.2)
set_option maxRecDepth 100000 in
set_option maxHeartbeats 4000000 in
theorem wlM_product_4 {p : Program} {l : Launch} {e : Env} {R : Room} {s : State} {m : MethodId} {args : Array Value} {below : List Frame} {meth : Method} {c : Code} {d : Dd} {g : Gm} {o : Ms} {fr lo : Nat} {N : Nat} {GP : Nat → Ms → Option Ms} {k87 : Ms → Option (Ms)} (C : CM p s m args meth c d g cX9_product 3 none) (hRm : (fr + 1) ≤ R.frames ∧ (lo + 60) ≤ R.locals) (hGP : HP l d g GP fr lo) (hB : 30 ≤ fr ∧ 1659 ≤ lo) (hk87 : ∀  (S : Ms) (H : Heap) (locs : List Loc) (ls : Array Slot), k87 S = some o → RM d g S H → va_S (AM g) s.heap H locs → lv_has ls 3 [(0, .ref g.1)] → W p l e R s m args below meth c H locs 0 0 (MQ below (QV d g o) args s 0 0 (AM g)) (F0 m 87 ls [])) : ∀ (n : Nat)  (S : Ms) (H : Heap) (locs : List Loc) (ls : Array Slot), lM_product_4 N GP k87 n  S = some o → RM d g S H → va_S (AM g) s.heap H locs → lv_has ls 3 [(0, .ref g.1)] → W p l e R s m args below meth c H locs 0 0 (MQ below (QV d g o) args s 0 0 (AM g)) (F0 m 4 ls []) := by
  obtain ⟨hx, hb, hml, hown, hts, hK, hg, hr, hlk⟩ := id C
  intro n
  induction n with
  | zero => intro  S H locs ls hf; cases hf
  | succ n ih =>
    intro  S H locs ls hf hR hS hl
    rw [lM_product_4] at hf
    refine lv_aload_n hx hb dX9_product_4 rfl (lv_at hl 0 rfl) ?_
    refine lv_bipush (v := 42) hx hb dX9_product_5 (by decide) ?_
    obtain ⟨o7, ho7, hf⟩ := bnd_some hf
    refine mr_callIv C hR hS (As := [.int 42]) (rest := []) (MM_isSign l d g N 42 S o7 ho7) wv_284 ⟨by omega, by omega⟩ rfl rfl (Nat.le_of_ble_eq_true rfl) hl.1 dX9_product_7 ⟨Nat.zero_le _, Nat.zero_le _⟩ (fun H locs hR hS => ?_)
    refine lv_if_ne (tgt := 31) hx hb dX9_product_10 (by decide) (fun hc => ?_) (fun hc => ?_)
    · rw [if_neg hc] at hf
      exact (wbM_product_31 C hRm hGP hB ih hk87) _ _ _ _ hf hR hS (lv_sub hl [0] rfl)
    · rw [if_pos hc] at hf
      refine lv_aload_n hx hb dX9_product_13 rfl (lv_at hl 0 rfl) ?_
      refine lv_bipush (v := 47) hx hb dX9_product_14 (by decide) ?_
      obtain ⟨o16, ho16, hf⟩ := bnd_some hf
      refine mr_callIv C hR hS (As := [.int 47]) (rest := []) (MM_isSign l d g N 47 o7.2 o16 ho16) wv_284 ⟨by omega, by omega⟩ rfl rfl (Nat.le_of_ble_eq_true rfl) hl.1 dX9_product_16 ⟨Nat.zero_le _, Nat.zero_le _⟩ (fun H locs hR hS => ?_)
      refine lv_if_ne (tgt := 31) hx hb dX9_product_19 (by decide) (fun hc => ?_) (fun hc => ?_)
      · rw [if_neg hc] at hf
        exact (wbM_product_31 C hRm hGP hB ih hk87) _ _ _ _ hf hR hS (lv_sub hl [0] rfl)
      · rw [if_pos hc] at hf
        refine lv_aload_n hx hb dX9_product_22 rfl (lv_at hl 0 rfl) ?_
        refine lv_bipush (v := 37) hx hb dX9_product_23 (by decide) ?_
        obtain ⟨o25, ho25, hf⟩ := bnd_some hf
        refine mr_callIv C hR hS (As := [.int 37]) (rest := []) (MM_isSign l d g N 37 o16.2 o25 ho25) wv_284 ⟨by omega, by omega⟩ rfl rfl (Nat.le_of_ble_eq_true rfl) hl.1 dX9_product_25 ⟨Nat.zero_le _, Nat.zero_le _⟩ (fun H locs hR hS => ?_)
        refine lv_if_eq (tgt := 87) hx hb dX9_product_28 (by decide) (fun hc => ?_) (fun hc => ?_)
        · rw [if_pos hc] at hf
          exact hk87 _ _ _ _ hf hR hS (lv_sub hl [0] rfl)
        · rw [if_neg hc] at hf
          exact (wbM_product_31 C hRm hGP hB ih hk87) _ _ _ _ hf hR hS (lv_sub hl [0] rfl)
def bM_product_87 (N : Nat) (GP : Nat → Ms → Option Ms)  (S : Ms) : Option (Ms) := some S
set_option maxRecDepth 100000 in
set_option maxHeartbeats 4000000 in
theorem wbM_product_87 {p : Program} {l : Launch} {e : Env} {R : Room} {s : State} {m : MethodId} {args : Array Value} {below : List Frame} {meth : Method} {c : Code} {d : Dd} {g : Gm} {o : Ms} {fr lo : Nat} {N : Nat} {GP : Nat → Ms → Option Ms} (C : CM p s m args meth c d g cX9_product 3 none) (hRm : (fr + 1) ≤ R.frames ∧ (lo + 60) ≤ R.locals) (hGP : HP l d g GP fr lo) (hB : 30 ≤ fr ∧ 1659 ≤ lo)  (S : Ms) (H : Heap) (locs : List Loc) (ls : Array Slot) (hf : bM_product_87 N GP  S = some o) (hR : RM d g S H) (hS : va_S (AM g) s.heap H locs) (hl : lv_has ls 3 [(0, .ref g.1)]) : W p l e R s m args below meth c H locs 0 0 (MQ below (QV d g o) args s 0 0 (AM g)) (F0 m 87 ls []) := by
  obtain ⟨hx, hb, hml, hown, hts, hK, hg, hr, hlk⟩ := id C
  unfold bM_product_87 at hf
  exact mr_vret C hR hS hf dX9_product_87
def fM_product (N : Nat) (GP : Nat → Ms → Option Ms)  (S : Ms) : Option (Ms) := (GP 8 S).bind fun o1 => (lM_product_4 N GP (bM_product_87 N GP) N) o1
set_option maxRecDepth 100000 in
set_option maxHeartbeats 4000000 in
theorem wfM_product {p : Program} {l : Launch} {e : Env} {R : Room} {s : State} {m : MethodId} {args : Array Value} {below : List Frame} {meth : Method} {c : Code} {d : Dd} {g : Gm} {o : Ms} {fr lo : Nat} {N : Nat} {GP : Nat → Ms → Option Ms} (C : CM p s m args meth c d g cX9_product 3 none) (hRm : (fr + 1) ≤ R.frames ∧ (lo + 60) ≤ R.locals) (hGP : HP l d g GP fr lo) (hB : 30 ≤ fr ∧ 1659 ≤ lo)  (S : Ms) (H : Heap) (locs : List Loc) (ls : Array Slot) (hf : fM_product N GP  S = some o) (hR : RM d g S H) (hS : va_S (AM g) s.heap H locs) (hl : lv_has ls 3 [(0, .ref g.1)]) : W p l e R s m args below meth c H locs 0 0 (MQ below (QV d g o) args s 0 0 (AM g)) (F0 m 0 ls []) := by
  obtain ⟨hx, hb, hml, hown, hts, hK, hg, hr, hlk⟩ := id C
  unfold fM_product at hf
  refine lv_aload_n hx hb dX9_product_0 rfl (lv_at hl 0 rfl) ?_
  obtain ⟨o1, ho1, hf⟩ := bnd_some hf
  refine mr_callVv C hR hS (As := []) (rest := []) (hGP.2.2.2.2.2.2.2.2.1 _ _ ho1) wv_451 ⟨by omega, by omega⟩ rfl rfl (Nat.le_of_ble_eq_true rfl) hl.1 dX9_product_1 ⟨Nat.zero_le _, Nat.zero_le _⟩ (fun H locs hR hS => ?_)
  exact (wlM_product_4 C hRm hGP hB (wbM_product_87 C hRm hGP hB) N) _ _ _ _ hf hR hS (lv_sub hl [0] rfl)
def bM_part_146 (N : Nat) (GP : Nat → Ms → Option Ms)  (S : Ms) : Option (Ms) := some (pF S 50 ((mF S 50) - 1))
set_option maxRecDepth 100000 in
set_option maxHeartbeats 4000000 in
theorem wbM_part_146 {p : Program} {l : Launch} {e : Env} {R : Room} {s : State} {m : MethodId} {args : Array Value} {below : List Frame} {meth : Method} {c : Code} {d : Dd} {g : Gm} {o : Ms} {fr lo : Nat} {N : Nat} {GP : Nat → Ms → Option Ms} (C : CM p s m args meth c d g cX9_part 2 none) (hRm : (fr + 1) ≤ R.frames ∧ (lo + 60) ≤ R.locals) (hGP : HP l d g GP fr lo) (hB : 30 ≤ fr ∧ 1659 ≤ lo)  (S : Ms) (H : Heap) (locs : List Loc) (ls : Array Slot) (hf : bM_part_146 N GP  S = some o) (hR : RM d g S H) (hS : va_S (AM g) s.heap H locs) (hl : lv_has ls 2 [(0, .ref g.1)]) : W p l e R s m args below meth c H locs 0 0 (MQ below (QV d g o) args s 0 0 (AM g)) (F0 m 146 ls []) := by
  obtain ⟨hx, hb, hml, hown, hts, hK, hg, hr, hlk⟩ := id C
  unfold bM_part_146 at hf
  refine lv_aload_n hx hb dX9_part_146 rfl (lv_at hl 0 rfl) ?_
  refine lv_dup hx hb dX9_part_147 rfl ?_
  refine mr_getI C hR fl_373 rfl dX9_part_148 ?_
  refine lv_iconst (v := 1) hx hb dX9_part_151 (by decide) ?_
  refine lv_isub hx hb dX9_part_152 ?_
  refine mr_putI C hR hS fl_373 ⟨rfl, rfl, rfl⟩ dX9_part_153 (fun H locs hR hS => ?_)
  exact mr_vret C hR hS hf dX9_part_156
def bM_part_124 (N : Nat) (GP : Nat → Ms → Option Ms) (s1 : Int32) (S : Ms) : Option (Ms) := (fM_within N s1 S).bind fun o124 => if (mF o124 8) = 0 then ((fM_emit N 1 0 0 o124).bind fun o138 => (GP 9 o138.2).bind fun o143 => (bM_part_146 N GP) o143) else ((bM_part_146 N GP) o124)
set_option maxRecDepth 100000 in
set_option maxHeartbeats 4000000 in
theorem wbM_part_124 {p : Program} {l : Launch} {e : Env} {R : Room} {s : State} {m : MethodId} {args : Array Value} {below : List Frame} {meth : Method} {c : Code} {d : Dd} {g : Gm} {o : Ms} {fr lo : Nat} {N : Nat} {GP : Nat → Ms → Option Ms} (C : CM p s m args meth c d g cX9_part 2 none) (hRm : (fr + 1) ≤ R.frames ∧ (lo + 60) ≤ R.locals) (hGP : HP l d g GP fr lo) (hB : 30 ≤ fr ∧ 1659 ≤ lo) (s1 : Int32) (S : Ms) (H : Heap) (locs : List Loc) (ls : Array Slot) (hf : bM_part_124 N GP s1 S = some o) (hR : RM d g S H) (hS : va_S (AM g) s.heap H locs) (hl : lv_has ls 2 [(0, .ref g.1)]) : W p l e R s m args below meth c H locs 0 0 (MQ below (QV d g o) args s 0 0 (AM g)) (F0 m 124 ls [.int s1, .ref g.1]) := by
  obtain ⟨hx, hb, hml, hown, hts, hK, hg, hr, hlk⟩ := id C
  unfold bM_part_124 at hf
  obtain ⟨o124, ho124, hf⟩ := bnd_some hf
  refine mr_callVv C hR hS (As := [.int s1]) (rest := []) (MM_within l d g N s1 S o124 ho124) wv_408 ⟨by omega, by omega⟩ rfl rfl (Nat.le_of_ble_eq_true rfl) hl.1 dX9_part_124 ⟨Nat.zero_le _, Nat.zero_le _⟩ (fun H locs hR hS => ?_)
  refine lv_aload_n hx hb dX9_part_127 rfl (lv_at hl 0 rfl) ?_
  refine mr_getI C hR fl_281 rfl dX9_part_128 ?_
  refine lv_if_ne (tgt := 146) hx hb dX9_part_131 (by decide) (fun hc => ?_) (fun hc => ?_)
  · rw [if_neg hc] at hf
    exact (wbM_part_146 C hRm hGP hB) _ _ _ _ hf hR hS (lv_sub hl [0] rfl)
  · rw [if_pos hc] at hf
    refine lv_aload_n hx hb dX9_part_134 rfl (lv_at hl 0 rfl) ?_
    refine lv_iconst (v := 1) hx hb dX9_part_135 (by decide) ?_
    refine lv_iconst (v := 0) hx hb dX9_part_136 (by decide) ?_
    refine lv_iconst (v := 0) hx hb dX9_part_137 (by decide) ?_
    obtain ⟨o138, ho138, hf⟩ := bnd_some hf
    refine mr_callIv C hR hS (As := [.int 1, .int 0, .int 0]) (rest := []) (MM_emit l d g N 1 0 0 o124 o138 ho138) wv_379 ⟨by omega, by omega⟩ rfl rfl (Nat.le_of_ble_eq_true rfl) hl.1 dX9_part_138 ⟨Nat.zero_le _, Nat.zero_le _⟩ (fun H locs hR hS => ?_)
    refine lv_istore_n (lv' := [(1, .int o138.1), (0, .ref g.1)]) hx hb dX9_part_141 rfl hl (by decide) rfl (fun ls hl => ?_)
    refine lv_aload_n hx hb dX9_part_142 rfl (lv_at hl 1 rfl) ?_
    obtain ⟨o143, ho143, hf⟩ := bnd_some hf
    refine mr_callVv C hR hS (As := []) (rest := []) (hGP.2.2.2.2.2.2.2.2.2 _ _ ho143) wv_454 ⟨by omega, by omega⟩ rfl rfl (Nat.le_of_ble_eq_true rfl) hl.1 dX9_part_143 ⟨Nat.zero_le _, Nat.zero_le _⟩ (fun H locs hR hS => ?_)
    exact (wbM_part_146 C hRm hGP hB) _ _ _ _ hf hR hS (lv_sub hl [1] rfl)
def bM_part_119 (N : Nat) (GP : Nat → Ms → Option Ms)  (S : Ms) : Option (Ms) := (bM_part_124 N GP) 1 S
set_option maxRecDepth 100000 in
set_option maxHeartbeats 4000000 in
theorem wbM_part_119 {p : Program} {l : Launch} {e : Env} {R : Room} {s : State} {m : MethodId} {args : Array Value} {below : List Frame} {meth : Method} {c : Code} {d : Dd} {g : Gm} {o : Ms} {fr lo : Nat} {N : Nat} {GP : Nat → Ms → Option Ms} (C : CM p s m args meth c d g cX9_part 2 none) (hRm : (fr + 1) ≤ R.frames ∧ (lo + 60) ≤ R.locals) (hGP : HP l d g GP fr lo) (hB : 30 ≤ fr ∧ 1659 ≤ lo)  (S : Ms) (H : Heap) (locs : List Loc) (ls : Array Slot) (hf : bM_part_119 N GP  S = some o) (hR : RM d g S H) (hS : va_S (AM g) s.heap H locs) (hl : lv_has ls 2 [(0, .ref g.1)]) : W p l e R s m args below meth c H locs 0 0 (MQ below (QV d g o) args s 0 0 (AM g)) (F0 m 119 ls [.ref g.1]) := by
  obtain ⟨hx, hb, hml, hown, hts, hK, hg, hr, hlk⟩ := id C
  unfold bM_part_119 at hf
  refine lv_iconst (v := 1) hx hb dX9_part_119 (by decide) ?_
  refine lv_goto (tgt := 124) hx hb dX9_part_120 (by decide) ?_
  exact (wbM_part_124 C hRm hGP hB) _ _ _ _ _ hf hR hS (lv_sub hl [0] rfl)
def bM_part_123 (N : Nat) (GP : Nat → Ms → Option Ms)  (S : Ms) : Option (Ms) := (bM_part_124 N GP) 0 S
set_option maxRecDepth 100000 in
set_option maxHeartbeats 4000000 in
theorem wbM_part_123 {p : Program} {l : Launch} {e : Env} {R : Room} {s : State} {m : MethodId} {args : Array Value} {below : List Frame} {meth : Method} {c : Code} {d : Dd} {g : Gm} {o : Ms} {fr lo : Nat} {N : Nat} {GP : Nat → Ms → Option Ms} (C : CM p s m args meth c d g cX9_part 2 none) (hRm : (fr + 1) ≤ R.frames ∧ (lo + 60) ≤ R.locals) (hGP : HP l d g GP fr lo) (hB : 30 ≤ fr ∧ 1659 ≤ lo)  (S : Ms) (H : Heap) (locs : List Loc) (ls : Array Slot) (hf : bM_part_123 N GP  S = some o) (hR : RM d g S H) (hS : va_S (AM g) s.heap H locs) (hl : lv_has ls 2 [(0, .ref g.1)]) : W p l e R s m args below meth c H locs 0 0 (MQ below (QV d g o) args s 0 0 (AM g)) (F0 m 123 ls [.ref g.1]) := by
  obtain ⟨hx, hb, hml, hown, hts, hK, hg, hr, hlk⟩ := id C
  unfold bM_part_123 at hf
  refine lv_iconst (v := 0) hx hb dX9_part_123 (by decide) ?_
  exact (wbM_part_124 C hRm hGP hB) _ _ _ _ _ hf hR hS (lv_sub hl [0] rfl)
def bM_part_46 (N : Nat) (GP : Nat → Ms → Option Ms)  (S : Ms) : Option (Ms) := if (mF S 8) = 0 then (ck (mF S 7) 4002 (if (mA S 4 (mF S 7 : Int32).toNatClampNeg) = 2 then ((bM_part_119 N GP) S) else ((fM_isSign N 40 S).bind fun o70 => if o70.1 = 0 then ((fM_isSign N 45 o70.2).bind fun o79 => if o79.1 = 0 then ((fM_isWord N 22 o79.2).bind fun o88 => if o88.1 = 0 then ((fM_isWord N 23 o88.2).bind fun o97 => if o97.1 = 0 then ((fM_isWord N 24 o97.2).bind fun o106 => if o106.1 = 0 then ((fM_isName N o106.2).bind fun o113 => if o113.1 = 0 then ((bM_part_123 N GP) o113.2) else ((bM_part_119 N GP) o113.2)) else ((bM_part_119 N GP) o106.2)) else ((bM_part_119 N GP) o97.2)) else ((bM_part_119 N GP) o88.2)) else ((bM_part_119 N GP) o79.2)) else ((bM_part_119 N GP) o70.2)))) else ((bM_part_123 N GP) S)
set_option maxRecDepth 100000 in
set_option maxHeartbeats 4000000 in
theorem wbM_part_46 {p : Program} {l : Launch} {e : Env} {R : Room} {s : State} {m : MethodId} {args : Array Value} {below : List Frame} {meth : Method} {c : Code} {d : Dd} {g : Gm} {o : Ms} {fr lo : Nat} {N : Nat} {GP : Nat → Ms → Option Ms} (C : CM p s m args meth c d g cX9_part 2 none) (hRm : (fr + 1) ≤ R.frames ∧ (lo + 60) ≤ R.locals) (hGP : HP l d g GP fr lo) (hB : 30 ≤ fr ∧ 1659 ≤ lo)  (S : Ms) (H : Heap) (locs : List Loc) (ls : Array Slot) (hf : bM_part_46 N GP  S = some o) (hR : RM d g S H) (hS : va_S (AM g) s.heap H locs) (hl : lv_has ls 2 [(0, .ref g.1)]) : W p l e R s m args below meth c H locs 0 0 (MQ below (QV d g o) args s 0 0 (AM g)) (F0 m 46 ls []) := by
  obtain ⟨hx, hb, hml, hown, hts, hK, hg, hr, hlk⟩ := id C
  unfold bM_part_46 at hf
  refine lv_aload_n hx hb dX9_part_46 rfl (lv_at hl 0 rfl) ?_
  refine lv_aload_n hx hb dX9_part_47 rfl (lv_at hl 0 rfl) ?_
  refine mr_getI C hR fl_281 rfl dX9_part_48 ?_
  refine lv_if_ne (tgt := 123) hx hb dX9_part_51 (by decide) (fun hc => ?_) (fun hc => ?_)
  · rw [if_neg hc] at hf
    exact (wbM_part_123 C hRm hGP hB) _ _ _ _ hf hR hS (lv_sub hl [0] rfl)
  · rw [if_pos hc] at hf
    refine lv_aload_n hx hb dX9_part_54 rfl (lv_at hl 0 rfl) ?_
    refine mr_getR C hR fl_24 (by decide) dX9_part_55 ?_
    refine lv_aload_n hx hb dX9_part_58 rfl (lv_at hl 0 rfl) ?_
    refine mr_getI C hR fl_278 rfl dX9_part_59 ?_
    obtain ⟨hi, hf⟩ := ck_some hf
    refine mr_iald C hR (k := 4) rfl hi dX9_part_62 ?_
    refine lv_iconst (v := 2) hx hb dX9_part_63 (by decide) ?_
    refine lv_icmp_eq (tgt := 119) hx hb dX9_part_64 (by decide) (fun hc => ?_) (fun hc => ?_)
    · rw [if_pos hc] at hf
      exact (wbM_part_119 C hRm hGP hB) _ _ _ _ hf hR hS (lv_sub hl [0] rfl)
    · rw [if_neg hc] at hf
      refine lv_aload_n hx hb dX9_part_67 rfl (lv_at hl 0 rfl) ?_
      refine lv_bipush (v := 40) hx hb dX9_part_68 (by decide) ?_
      obtain ⟨o70, ho70, hf⟩ := bnd_some hf
      refine mr_callIv C hR hS (As := [.int 40]) (rest := [.ref g.1]) (MM_isSign l d g N 40 S o70 ho70) wv_284 ⟨by omega, by omega⟩ rfl rfl (Nat.le_of_ble_eq_true rfl) hl.1 dX9_part_70 ⟨Nat.zero_le _, Nat.zero_le _⟩ (fun H locs hR hS => ?_)
      refine lv_if_ne (tgt := 119) hx hb dX9_part_73 (by decide) (fun hc => ?_) (fun hc => ?_)
      · rw [if_neg hc] at hf
        exact (wbM_part_119 C hRm hGP hB) _ _ _ _ hf hR hS (lv_sub hl [0] rfl)
      · rw [if_pos hc] at hf
        refine lv_aload_n hx hb dX9_part_76 rfl (lv_at hl 0 rfl) ?_
        refine lv_bipush (v := 45) hx hb dX9_part_77 (by decide) ?_
        obtain ⟨o79, ho79, hf⟩ := bnd_some hf
        refine mr_callIv C hR hS (As := [.int 45]) (rest := [.ref g.1]) (MM_isSign l d g N 45 o70.2 o79 ho79) wv_284 ⟨by omega, by omega⟩ rfl rfl (Nat.le_of_ble_eq_true rfl) hl.1 dX9_part_79 ⟨Nat.zero_le _, Nat.zero_le _⟩ (fun H locs hR hS => ?_)
        refine lv_if_ne (tgt := 119) hx hb dX9_part_82 (by decide) (fun hc => ?_) (fun hc => ?_)
        · rw [if_neg hc] at hf
          exact (wbM_part_119 C hRm hGP hB) _ _ _ _ hf hR hS (lv_sub hl [0] rfl)
        · rw [if_pos hc] at hf
          refine lv_aload_n hx hb dX9_part_85 rfl (lv_at hl 0 rfl) ?_
          refine lv_bipush (v := 22) hx hb dX9_part_86 (by decide) ?_
          obtain ⟨o88, ho88, hf⟩ := bnd_some hf
          refine mr_callIv C hR hS (As := [.int 22]) (rest := [.ref g.1]) (MM_isWord l d g N 22 o79.2 o88 ho88) wv_291 ⟨by omega, by omega⟩ rfl rfl (Nat.le_of_ble_eq_true rfl) hl.1 dX9_part_88 ⟨Nat.zero_le _, Nat.zero_le _⟩ (fun H locs hR hS => ?_)
          refine lv_if_ne (tgt := 119) hx hb dX9_part_91 (by decide) (fun hc => ?_) (fun hc => ?_)
          · rw [if_neg hc] at hf
            exact (wbM_part_119 C hRm hGP hB) _ _ _ _ hf hR hS (lv_sub hl [0] rfl)
          · rw [if_pos hc] at hf
            refine lv_aload_n hx hb dX9_part_94 rfl (lv_at hl 0 rfl) ?_
            refine lv_bipush (v := 23) hx hb dX9_part_95 (by decide) ?_
            obtain ⟨o97, ho97, hf⟩ := bnd_some hf
            refine mr_callIv C hR hS (As := [.int 23]) (rest := [.ref g.1]) (MM_isWord l d g N 23 o88.2 o97 ho97) wv_291 ⟨by omega, by omega⟩ rfl rfl (Nat.le_of_ble_eq_true rfl) hl.1 dX9_part_97 ⟨Nat.zero_le _, Nat.zero_le _⟩ (fun H locs hR hS => ?_)
            refine lv_if_ne (tgt := 119) hx hb dX9_part_100 (by decide) (fun hc => ?_) (fun hc => ?_)
            · rw [if_neg hc] at hf
              exact (wbM_part_119 C hRm hGP hB) _ _ _ _ hf hR hS (lv_sub hl [0] rfl)
            · rw [if_pos hc] at hf
              refine lv_aload_n hx hb dX9_part_103 rfl (lv_at hl 0 rfl) ?_
              refine lv_bipush (v := 24) hx hb dX9_part_104 (by decide) ?_
              obtain ⟨o106, ho106, hf⟩ := bnd_some hf
              refine mr_callIv C hR hS (As := [.int 24]) (rest := [.ref g.1]) (MM_isWord l d g N 24 o97.2 o106 ho106) wv_291 ⟨by omega, by omega⟩ rfl rfl (Nat.le_of_ble_eq_true rfl) hl.1 dX9_part_106 ⟨Nat.zero_le _, Nat.zero_le _⟩ (fun H locs hR hS => ?_)
              refine lv_if_ne (tgt := 119) hx hb dX9_part_109 (by decide) (fun hc => ?_) (fun hc => ?_)
              · rw [if_neg hc] at hf
                exact (wbM_part_119 C hRm hGP hB) _ _ _ _ hf hR hS (lv_sub hl [0] rfl)
              · rw [if_pos hc] at hf
                refine lv_aload_n hx hb dX9_part_112 rfl (lv_at hl 0 rfl) ?_
                obtain ⟨o113, ho113, hf⟩ := bnd_some hf
                refine mr_callIv C hR hS (As := []) (rest := [.ref g.1]) (MM_isName l d g N  o106.2 o113 ho113) wv_337 ⟨by omega, by omega⟩ rfl rfl (Nat.le_of_ble_eq_true rfl) hl.1 dX9_part_113 ⟨Nat.zero_le _, Nat.zero_le _⟩ (fun H locs hR hS => ?_)
                refine lv_if_eq (tgt := 123) hx hb dX9_part_116 (by decide) (fun hc => ?_) (fun hc => ?_)
                · rw [if_pos hc] at hf
                  exact (wbM_part_123 C hRm hGP hB) _ _ _ _ hf hR hS (lv_sub hl [0] rfl)
                · rw [if_neg hc] at hf
                  exact (wbM_part_119 C hRm hGP hB) _ _ _ _ hf hR hS (lv_sub hl [0] rfl)
def bM_part_41 (N : Nat) (GP : Nat → Ms → Option Ms)  (S : Ms) : Option (Ms) := (fM_wrong N 2 S).bind fun o43 => (bM_part_46 N GP) o43
set_option maxRecDepth 100000 in
set_option maxHeartbeats 4000000 in
theorem wbM_part_41 {p : Program} {l : Launch} {e : Env} {R : Room} {s : State} {m : MethodId} {args : Array Value} {below : List Frame} {meth : Method} {c : Code} {d : Dd} {g : Gm} {o : Ms} {fr lo : Nat} {N : Nat} {GP : Nat → Ms → Option Ms} (C : CM p s m args meth c d g cX9_part 2 none) (hRm : (fr + 1) ≤ R.frames ∧ (lo + 60) ≤ R.locals) (hGP : HP l d g GP fr lo) (hB : 30 ≤ fr ∧ 1659 ≤ lo)  (S : Ms) (H : Heap) (locs : List Loc) (ls : Array Slot) (hf : bM_part_41 N GP  S = some o) (hR : RM d g S H) (hS : va_S (AM g) s.heap H locs) (hl : lv_has ls 2 [(0, .ref g.1)]) : W p l e R s m args below meth c H locs 0 0 (MQ below (QV d g o) args s 0 0 (AM g)) (F0 m 41 ls []) := by
  obtain ⟨hx, hb, hml, hown, hts, hK, hg, hr, hlk⟩ := id C
  unfold bM_part_41 at hf
  refine lv_aload_n hx hb dX9_part_41 rfl (lv_at hl 0 rfl) ?_
  refine lv_iconst (v := 2) hx hb dX9_part_42 (by decide) ?_
  obtain ⟨o43, ho43, hf⟩ := bnd_some hf
  refine mr_callVv C hR hS (As := [.int 2]) (rest := []) (MM_wrong l d g N 2 S o43 ho43) wv_287 ⟨by omega, by omega⟩ rfl rfl (Nat.le_of_ble_eq_true rfl) hl.1 dX9_part_43 ⟨Nat.zero_le _, Nat.zero_le _⟩ (fun H locs hR hS => ?_)
  exact (wbM_part_46 C hRm hGP hB) _ _ _ _ hf hR hS (lv_sub hl [0] rfl)
def fM_part (N : Nat) (GP : Nat → Ms → Option Ms)  (S : Ms) : Option (Ms) := (fM_isName N S).bind fun o1 => if o1.1 = 0 then ((bM_part_46 N GP) o1.2) else ((fM_isPoint N o1.2).bind fun o8 => if o8.1 = 0 then (if (mF o8.2 49) < 0 then ((bM_part_41 N GP) o8.2) else (ck (mF o8.2 7) 4002 ((fM_looks N (mF o8.2 49) (mL o8.2 6 (mF o8.2 7 : Int32).toNatClampNeg) o8.2).bind fun o35 => if o35.1 = 0 then ((bM_part_41 N GP) o35.2) else ((bM_part_46 N GP) o35.2)))) else ((bM_part_46 N GP) o8.2))
set_option maxRecDepth 100000 in
set_option maxHeartbeats 4000000 in
theorem wfM_part {p : Program} {l : Launch} {e : Env} {R : Room} {s : State} {m : MethodId} {args : Array Value} {below : List Frame} {meth : Method} {c : Code} {d : Dd} {g : Gm} {o : Ms} {fr lo : Nat} {N : Nat} {GP : Nat → Ms → Option Ms} (C : CM p s m args meth c d g cX9_part 2 none) (hRm : (fr + 1) ≤ R.frames ∧ (lo + 60) ≤ R.locals) (hGP : HP l d g GP fr lo) (hB : 30 ≤ fr ∧ 1659 ≤ lo)  (S : Ms) (H : Heap) (locs : List Loc) (ls : Array Slot) (hf : fM_part N GP  S = some o) (hR : RM d g S H) (hS : va_S (AM g) s.heap H locs) (hl : lv_has ls 2 [(0, .ref g.1)]) : W p l e R s m args below meth c H locs 0 0 (MQ below (QV d g o) args s 0 0 (AM g)) (F0 m 0 ls []) := by
  obtain ⟨hx, hb, hml, hown, hts, hK, hg, hr, hlk⟩ := id C
  unfold fM_part at hf
  refine lv_aload_n hx hb dX9_part_0 rfl (lv_at hl 0 rfl) ?_
  obtain ⟨o1, ho1, hf⟩ := bnd_some hf
  refine mr_callIv C hR hS (As := []) (rest := []) (MM_isName l d g N  S o1 ho1) wv_337 ⟨by omega, by omega⟩ rfl rfl (Nat.le_of_ble_eq_true rfl) hl.1 dX9_part_1 ⟨Nat.zero_le _, Nat.zero_le _⟩ (fun H locs hR hS => ?_)
  refine lv_if_eq (tgt := 46) hx hb dX9_part_4 (by decide) (fun hc => ?_) (fun hc => ?_)
  · rw [if_pos hc] at hf
    exact (wbM_part_46 C hRm hGP hB) _ _ _ _ hf hR hS (lv_sub hl [0] rfl)
  · rw [if_neg hc] at hf
    refine lv_aload_n hx hb dX9_part_7 rfl (lv_at hl 0 rfl) ?_
    obtain ⟨o8, ho8, hf⟩ := bnd_some hf
    refine mr_callIv C hR hS (As := []) (rest := []) (MM_isPoint l d g N  o1.2 o8 ho8) wv_436 ⟨by omega, by omega⟩ rfl rfl (Nat.le_of_ble_eq_true rfl) hl.1 dX9_part_8 ⟨Nat.zero_le _, Nat.zero_le _⟩ (fun H locs hR hS => ?_)
    refine lv_if_ne (tgt := 46) hx hb dX9_part_11 (by decide) (fun hc => ?_) (fun hc => ?_)
    · rw [if_neg hc] at hf
      exact (wbM_part_46 C hRm hGP hB) _ _ _ _ hf hR hS (lv_sub hl [0] rfl)
    · rw [if_pos hc] at hf
      refine lv_aload_n hx hb dX9_part_14 rfl (lv_at hl 0 rfl) ?_
      refine mr_getI C hR fl_370 rfl dX9_part_15 ?_
      refine lv_if_lt (tgt := 41) hx hb dX9_part_18 (by decide) (fun hc => ?_) (fun hc => ?_)
      · rw [if_pos hc] at hf
        exact (wbM_part_41 C hRm hGP hB) _ _ _ _ hf hR hS (lv_sub hl [0] rfl)
      · rw [if_neg hc] at hf
        refine lv_aload_n hx hb dX9_part_21 rfl (lv_at hl 0 rfl) ?_
        refine lv_aload_n hx hb dX9_part_22 rfl (lv_at hl 0 rfl) ?_
        refine mr_getI C hR fl_370 rfl dX9_part_23 ?_
        refine lv_aload_n hx hb dX9_part_26 rfl (lv_at hl 0 rfl) ?_
        refine mr_getR C hR fl_30 (by decide) dX9_part_27 ?_
        refine lv_aload_n hx hb dX9_part_30 rfl (lv_at hl 0 rfl) ?_
        refine mr_getI C hR fl_278 rfl dX9_part_31 ?_
        obtain ⟨hi, hf⟩ := ck_some hf
        refine mr_lald C hR (k := 6) rfl hi dX9_part_34 ?_
        obtain ⟨o35, ho35, hf⟩ := bnd_some hf
        refine mr_callIv C hR hS (As := [.int (mF o8.2 49), .long (mL o8.2 6 (mF o8.2 7 : Int32).toNatClampNeg)]) (rest := []) (MM_looks l d g N (mF o8.2 49) (mL o8.2 6 (mF o8.2 7 : Int32).toNatClampNeg) o8.2 o35 ho35) wv_402 ⟨by omega, by omega⟩ rfl rfl (Nat.le_of_ble_eq_true rfl) hl.1 dX9_part_35 ⟨Nat.zero_le _, Nat.zero_le _⟩ (fun H locs hR hS => ?_)
        refine lv_if_ne (tgt := 46) hx hb dX9_part_38 (by decide) (fun hc => ?_) (fun hc => ?_)
        · rw [if_neg hc] at hf
          exact (wbM_part_46 C hRm hGP hB) _ _ _ _ hf hR hS (lv_sub hl [0] rfl)
        · rw [if_pos hc] at hf
          exact (wbM_part_41 C hRm hGP hB) _ _ _ _ hf hR hS (lv_sub hl [0] rfl)
def bM_partWithin_222 (N : Nat) (GP : Nat → Ms → Option Ms)  (S : Ms) : Option (Ms) := some S
set_option maxRecDepth 100000 in
set_option maxHeartbeats 4000000 in
theorem wbM_partWithin_222 {p : Program} {l : Launch} {e : Env} {R : Room} {s : State} {m : MethodId} {args : Array Value} {below : List Frame} {meth : Method} {c : Code} {d : Dd} {g : Gm} {o : Ms} {fr lo : Nat} {N : Nat} {GP : Nat → Ms → Option Ms} (C : CM p s m args meth c d g cX9_partWithin 3 none) (hRm : (fr + 1) ≤ R.frames ∧ (lo + 60) ≤ R.locals) (hGP : HP l d g GP fr lo) (hB : 30 ≤ fr ∧ 1659 ≤ lo)  (S : Ms) (H : Heap) (locs : List Loc) (ls : Array Slot) (hf : bM_partWithin_222 N GP  S = some o) (hR : RM d g S H) (hS : va_S (AM g) s.heap H locs) (hl : lv_has ls 3 [(0, .ref g.1)]) : W p l e R s m args below meth c H locs 0 0 (MQ below (QV d g o) args s 0 0 (AM g)) (F0 m 222 ls []) := by
  obtain ⟨hx, hb, hml, hown, hts, hK, hg, hr, hlk⟩ := id C
  unfold bM_partWithin_222 at hf
  exact mr_vret C hR hS hf dX9_partWithin_222
def fM_partWithin (N : Nat) (GP : Nat → Ms → Option Ms)  (S : Ms) : Option (Ms) := ck (mF S 7) 4002 (if (mA S 4 (mF S 7 : Int32).toNatClampNeg) = 2 then (ck (mF S 7) 4002 ((fM_emit N 2 ((mL S 6 (mF S 7 : Int32).toNatClampNeg : Int64).toInt32) 0 S).bind fun o26 => (bM_partWithin_222 N GP) (pF o26.2 7 ((mF o26.2 7) + 1)))) else ((fM_hasSign N 40 S).bind fun o46 => if o46.1 = 0 then ((fM_hasSign N 45 o46.2).bind fun o68 => if o68.1 = 0 then ((fM_hasWord N 22 o68.2).bind fun o93 => if o93.1 = 0 then ((fM_hasWord N 23 o93.2).bind fun o117 => if o117.1 = 0 then ((fM_hasWord N 24 o117.2).bind fun o138 => if o138.1 = 0 then ((fM_isPoint N o138.2).bind fun o157 => if o157.1 = 0 then ((fM_nearName N 0 o157.2).bind fun o193 => (fM_emit N 4 0 0 o193).bind fun o200 => if (mF o200.2 8) = 0 then ((fM_place N ((mF o200.2 42) + o200.1) 0 o200.2).bind fun o219 => (bM_partWithin_222 N GP) o219) else ((bM_partWithin_222 N GP) o200.2)) else ((fM_farName N o157.2).bind fun o169 => (fM_emit N 4 0 0 o169).bind fun o181 => (fM_later N (mF o157.2 7) ((mF o157.2 7) + 2) o181.1 0 o181.2).bind fun o185 => (bM_partWithin_222 N GP) o185)) else ((fM_emit N 16 0 0 o138.2).bind fun o149 => (bM_partWithin_222 N GP) o149.2)) else ((fM_emit N 15 0 0 o117.2).bind fun o128 => (bM_partWithin_222 N GP) o128.2)) else ((fM_takeDevice N o93.2).bind fun o103 => (fM_emit N 14 o103.1 0 o103.2).bind fun o107 => (bM_partWithin_222 N GP) o107.2)) else ((GP 8 o68.2).bind fun o75 => (fM_emit N 17 0 0 o75).bind fun o83 => (bM_partWithin_222 N GP) o83.2)) else ((GP 5 o46.2).bind fun o53 => (fM_takeSign N 41 o53).bind fun o59 => (bM_partWithin_222 N GP) o59)))
set_option maxRecDepth 100000 in
set_option maxHeartbeats 4000000 in
theorem wfM_partWithin {p : Program} {l : Launch} {e : Env} {R : Room} {s : State} {m : MethodId} {args : Array Value} {below : List Frame} {meth : Method} {c : Code} {d : Dd} {g : Gm} {o : Ms} {fr lo : Nat} {N : Nat} {GP : Nat → Ms → Option Ms} (C : CM p s m args meth c d g cX9_partWithin 3 none) (hRm : (fr + 1) ≤ R.frames ∧ (lo + 60) ≤ R.locals) (hGP : HP l d g GP fr lo) (hB : 30 ≤ fr ∧ 1659 ≤ lo)  (S : Ms) (H : Heap) (locs : List Loc) (ls : Array Slot) (hf : fM_partWithin N GP  S = some o) (hR : RM d g S H) (hS : va_S (AM g) s.heap H locs) (hl : lv_has ls 3 [(0, .ref g.1)]) : W p l e R s m args below meth c H locs 0 0 (MQ below (QV d g o) args s 0 0 (AM g)) (F0 m 0 ls []) := by
  obtain ⟨hx, hb, hml, hown, hts, hK, hg, hr, hlk⟩ := id C
  unfold fM_partWithin at hf
  refine lv_aload_n hx hb dX9_partWithin_0 rfl (lv_at hl 0 rfl) ?_
  refine mr_getR C hR fl_24 (by decide) dX9_partWithin_1 ?_
  refine lv_aload_n hx hb dX9_partWithin_4 rfl (lv_at hl 0 rfl) ?_
  refine mr_getI C hR fl_278 rfl dX9_partWithin_5 ?_
  obtain ⟨hi, hf⟩ := ck_some hf
  refine mr_iald C hR (k := 4) rfl hi dX9_partWithin_8 ?_
  refine lv_iconst (v := 2) hx hb dX9_partWithin_9 (by decide) ?_
  refine lv_icmp_ne (tgt := 43) hx hb dX9_partWithin_10 (by decide) (fun hc => ?_) (fun hc => ?_)
  · rw [if_neg hc] at hf
    refine lv_aload_n hx hb dX9_partWithin_43 rfl (lv_at hl 0 rfl) ?_
    refine lv_bipush (v := 40) hx hb dX9_partWithin_44 (by decide) ?_
    obtain ⟨o46, ho46, hf⟩ := bnd_some hf
    refine mr_callIv C hR hS (As := [.int 40]) (rest := []) (MM_hasSign l d g N 40 S o46 ho46) wv_364 ⟨by omega, by omega⟩ rfl rfl (Nat.le_of_ble_eq_true rfl) hl.1 dX9_partWithin_46 ⟨Nat.zero_le _, Nat.zero_le _⟩ (fun H locs hR hS => ?_)
    refine lv_if_eq (tgt := 65) hx hb dX9_partWithin_49 (by decide) (fun hc => ?_) (fun hc => ?_)
    · rw [if_pos hc] at hf
      refine lv_aload_n hx hb dX9_partWithin_65 rfl (lv_at hl 0 rfl) ?_
      refine lv_bipush (v := 45) hx hb dX9_partWithin_66 (by decide) ?_
      obtain ⟨o68, ho68, hf⟩ := bnd_some hf
      refine mr_callIv C hR hS (As := [.int 45]) (rest := []) (MM_hasSign l d g N 45 o46.2 o68 ho68) wv_364 ⟨by omega, by omega⟩ rfl rfl (Nat.le_of_ble_eq_true rfl) hl.1 dX9_partWithin_68 ⟨Nat.zero_le _, Nat.zero_le _⟩ (fun H locs hR hS => ?_)
      refine lv_if_eq (tgt := 90) hx hb dX9_partWithin_71 (by decide) (fun hc => ?_) (fun hc => ?_)
      · rw [if_pos hc] at hf
        refine lv_aload_n hx hb dX9_partWithin_90 rfl (lv_at hl 0 rfl) ?_
        refine lv_bipush (v := 22) hx hb dX9_partWithin_91 (by decide) ?_
        obtain ⟨o93, ho93, hf⟩ := bnd_some hf
        refine mr_callIv C hR hS (As := [.int 22]) (rest := []) (MM_hasWord l d g N 22 o68.2 o93 ho93) wv_294 ⟨by omega, by omega⟩ rfl rfl (Nat.le_of_ble_eq_true rfl) hl.1 dX9_partWithin_93 ⟨Nat.zero_le _, Nat.zero_le _⟩ (fun H locs hR hS => ?_)
        refine lv_if_eq (tgt := 114) hx hb dX9_partWithin_96 (by decide) (fun hc => ?_) (fun hc => ?_)
        · rw [if_pos hc] at hf
          refine lv_aload_n hx hb dX9_partWithin_114 rfl (lv_at hl 0 rfl) ?_
          refine lv_bipush (v := 23) hx hb dX9_partWithin_115 (by decide) ?_
          obtain ⟨o117, ho117, hf⟩ := bnd_some hf
          refine mr_callIv C hR hS (As := [.int 23]) (rest := []) (MM_hasWord l d g N 23 o93.2 o117 ho117) wv_294 ⟨by omega, by omega⟩ rfl rfl (Nat.le_of_ble_eq_true rfl) hl.1 dX9_partWithin_117 ⟨Nat.zero_le _, Nat.zero_le _⟩ (fun H locs hR hS => ?_)
          refine lv_if_eq (tgt := 135) hx hb dX9_partWithin_120 (by decide) (fun hc => ?_) (fun hc => ?_)
          · rw [if_pos hc] at hf
            refine lv_aload_n hx hb dX9_partWithin_135 rfl (lv_at hl 0 rfl) ?_
            refine lv_bipush (v := 24) hx hb dX9_partWithin_136 (by decide) ?_
            obtain ⟨o138, ho138, hf⟩ := bnd_some hf
            refine mr_callIv C hR hS (As := [.int 24]) (rest := []) (MM_hasWord l d g N 24 o117.2 o138 ho138) wv_294 ⟨by omega, by omega⟩ rfl rfl (Nat.le_of_ble_eq_true rfl) hl.1 dX9_partWithin_138 ⟨Nat.zero_le _, Nat.zero_le _⟩ (fun H locs hR hS => ?_)
            refine lv_if_eq (tgt := 156) hx hb dX9_partWithin_141 (by decide) (fun hc => ?_) (fun hc => ?_)
            · rw [if_pos hc] at hf
              refine lv_aload_n hx hb dX9_partWithin_156 rfl (lv_at hl 0 rfl) ?_
              obtain ⟨o157, ho157, hf⟩ := bnd_some hf
              refine mr_callIv C hR hS (As := []) (rest := []) (MM_isPoint l d g N  o138.2 o157 ho157) wv_436 ⟨by omega, by omega⟩ rfl rfl (Nat.le_of_ble_eq_true rfl) hl.1 dX9_partWithin_157 ⟨Nat.zero_le _, Nat.zero_le _⟩ (fun H locs hR hS => ?_)
              refine lv_if_eq (tgt := 191) hx hb dX9_partWithin_160 (by decide) (fun hc => ?_) (fun hc => ?_)
              · rw [if_pos hc] at hf
                refine lv_aload_n hx hb dX9_partWithin_191 rfl (lv_at hl 0 rfl) ?_
                refine lv_iconst (v := 0) hx hb dX9_partWithin_192 (by decide) ?_
                obtain ⟨o193, ho193, hf⟩ := bnd_some hf
                refine mr_callVv C hR hS (As := [.int 0]) (rest := []) (MM_nearName l d g N 0 o157.2 o193 ho193) wv_442 ⟨by omega, by omega⟩ rfl rfl (Nat.le_of_ble_eq_true rfl) hl.1 dX9_partWithin_193 ⟨Nat.zero_le _, Nat.zero_le _⟩ (fun H locs hR hS => ?_)
                refine lv_aload_n hx hb dX9_partWithin_196 rfl (lv_at hl 0 rfl) ?_
                refine lv_iconst (v := 4) hx hb dX9_partWithin_197 (by decide) ?_
                refine lv_iconst (v := 0) hx hb dX9_partWithin_198 (by decide) ?_
                refine lv_iconst (v := 0) hx hb dX9_partWithin_199 (by decide) ?_
                obtain ⟨o200, ho200, hf⟩ := bnd_some hf
                refine mr_callIv C hR hS (As := [.int 4, .int 0, .int 0]) (rest := []) (MM_emit l d g N 4 0 0 o193 o200 ho200) wv_379 ⟨by omega, by omega⟩ rfl rfl (Nat.le_of_ble_eq_true rfl) hl.1 dX9_partWithin_200 ⟨Nat.zero_le _, Nat.zero_le _⟩ (fun H locs hR hS => ?_)
                refine lv_istore_n (lv' := [(2, .int o200.1), (0, .ref g.1)]) hx hb dX9_partWithin_203 rfl hl (by decide) rfl (fun ls hl => ?_)
                refine lv_aload_n hx hb dX9_partWithin_204 rfl (lv_at hl 1 rfl) ?_
                refine mr_getI C hR fl_281 rfl dX9_partWithin_205 ?_
                refine lv_if_ne (tgt := 222) hx hb dX9_partWithin_208 (by decide) (fun hc => ?_) (fun hc => ?_)
                · rw [if_neg hc] at hf
                  exact (wbM_partWithin_222 C hRm hGP hB) _ _ _ _ hf hR hS (lv_sub hl [1] rfl)
                · rw [if_pos hc] at hf
                  refine lv_aload_n hx hb dX9_partWithin_211 rfl (lv_at hl 1 rfl) ?_
                  refine lv_aload_n hx hb dX9_partWithin_212 rfl (lv_at hl 1 rfl) ?_
                  refine mr_getI C hR fl_313 rfl dX9_partWithin_213 ?_
                  refine lv_iload_n hx hb dX9_partWithin_216 rfl (lv_at hl 0 rfl) ?_
                  refine lv_iadd hx hb dX9_partWithin_217 ?_
                  refine lv_iconst (v := 0) hx hb dX9_partWithin_218 (by decide) ?_
                  obtain ⟨o219, ho219, hf⟩ := bnd_some hf
                  refine mr_callVv C hR hS (As := [.int ((mF o200.2 42) + o200.1), .int 0]) (rest := []) (MM_place l d g N ((mF o200.2 42) + o200.1) 0 o200.2 o219 ho219) wv_405 ⟨by omega, by omega⟩ rfl rfl (Nat.le_of_ble_eq_true rfl) hl.1 dX9_partWithin_219 ⟨Nat.zero_le _, Nat.zero_le _⟩ (fun H locs hR hS => ?_)
                  exact (wbM_partWithin_222 C hRm hGP hB) _ _ _ _ hf hR hS (lv_sub hl [1] rfl)
              · rw [if_neg hc] at hf
                refine lv_aload_n hx hb dX9_partWithin_163 rfl (lv_at hl 0 rfl) ?_
                refine mr_getI C hR fl_278 rfl dX9_partWithin_164 ?_
                refine lv_istore_n (lv' := [(2, .int (mF o157.2 7)), (0, .ref g.1)]) hx hb dX9_partWithin_167 rfl hl (by decide) rfl (fun ls hl => ?_)
                refine lv_aload_n hx hb dX9_partWithin_168 rfl (lv_at hl 1 rfl) ?_
                obtain ⟨o169, ho169, hf⟩ := bnd_some hf
                refine mr_callVv C hR hS (As := []) (rest := []) (MM_farName l d g N  o157.2 o169 ho169) wv_439 ⟨by omega, by omega⟩ rfl rfl (Nat.le_of_ble_eq_true rfl) hl.1 dX9_partWithin_169 ⟨Nat.zero_le _, Nat.zero_le _⟩ (fun H locs hR hS => ?_)
                refine lv_aload_n hx hb dX9_partWithin_172 rfl (lv_at hl 1 rfl) ?_
                refine lv_iload_n hx hb dX9_partWithin_173 rfl (lv_at hl 0 rfl) ?_
                refine lv_iload_n hx hb dX9_partWithin_174 rfl (lv_at hl 0 rfl) ?_
                refine lv_iconst (v := 2) hx hb dX9_partWithin_175 (by decide) ?_
                refine lv_iadd hx hb dX9_partWithin_176 ?_
                refine lv_aload_n hx hb dX9_partWithin_177 rfl (lv_at hl 1 rfl) ?_
                refine lv_iconst (v := 4) hx hb dX9_partWithin_178 (by decide) ?_
                refine lv_iconst (v := 0) hx hb dX9_partWithin_179 (by decide) ?_
                refine lv_iconst (v := 0) hx hb dX9_partWithin_180 (by decide) ?_
                obtain ⟨o181, ho181, hf⟩ := bnd_some hf
                refine mr_callIv C hR hS (As := [.int 4, .int 0, .int 0]) (rest := [.int ((mF o157.2 7) + 2), .int (mF o157.2 7), .ref g.1]) (MM_emit l d g N 4 0 0 o169 o181 ho181) wv_379 ⟨by omega, by omega⟩ rfl rfl (Nat.le_of_ble_eq_true rfl) hl.1 dX9_partWithin_181 ⟨Nat.zero_le _, Nat.zero_le _⟩ (fun H locs hR hS => ?_)
                refine lv_iconst (v := 0) hx hb dX9_partWithin_184 (by decide) ?_
                obtain ⟨o185, ho185, hf⟩ := bnd_some hf
                refine mr_callVv C hR hS (As := [.int (mF o157.2 7), .int ((mF o157.2 7) + 2), .int o181.1, .int 0]) (rest := []) (MM_later l d g N (mF o157.2 7) ((mF o157.2 7) + 2) o181.1 0 o181.2 o185 ho185) wv_424 ⟨by omega, by omega⟩ rfl rfl (Nat.le_of_ble_eq_true rfl) hl.1 dX9_partWithin_185 ⟨Nat.zero_le _, Nat.zero_le _⟩ (fun H locs hR hS => ?_)
                refine lv_goto (tgt := 222) hx hb dX9_partWithin_188 (by decide) ?_
                exact (wbM_partWithin_222 C hRm hGP hB) _ _ _ _ hf hR hS (lv_sub hl [1] rfl)
            · rw [if_neg hc] at hf
              refine lv_aload_n hx hb dX9_partWithin_144 rfl (lv_at hl 0 rfl) ?_
              refine lv_bipush (v := 16) hx hb dX9_partWithin_145 (by decide) ?_
              refine lv_iconst (v := 0) hx hb dX9_partWithin_147 (by decide) ?_
              refine lv_iconst (v := 0) hx hb dX9_partWithin_148 (by decide) ?_
              obtain ⟨o149, ho149, hf⟩ := bnd_some hf
              refine mr_callIv C hR hS (As := [.int 16, .int 0, .int 0]) (rest := []) (MM_emit l d g N 16 0 0 o138.2 o149 ho149) wv_379 ⟨by omega, by omega⟩ rfl rfl (Nat.le_of_ble_eq_true rfl) hl.1 dX9_partWithin_149 ⟨Nat.zero_le _, Nat.zero_le _⟩ (fun H locs hR hS => ?_)
              refine lv_istore_n (lv' := [(1, .int o149.1), (0, .ref g.1)]) hx hb dX9_partWithin_152 rfl hl (by decide) rfl (fun ls hl => ?_)
              refine lv_goto (tgt := 222) hx hb dX9_partWithin_153 (by decide) ?_
              exact (wbM_partWithin_222 C hRm hGP hB) _ _ _ _ hf hR hS (lv_sub hl [1] rfl)
          · rw [if_neg hc] at hf
            refine lv_aload_n hx hb dX9_partWithin_123 rfl (lv_at hl 0 rfl) ?_
            refine lv_bipush (v := 15) hx hb dX9_partWithin_124 (by decide) ?_
            refine lv_iconst (v := 0) hx hb dX9_partWithin_126 (by decide) ?_
            refine lv_iconst (v := 0) hx hb dX9_partWithin_127 (by decide) ?_
            obtain ⟨o128, ho128, hf⟩ := bnd_some hf
            refine mr_callIv C hR hS (As := [.int 15, .int 0, .int 0]) (rest := []) (MM_emit l d g N 15 0 0 o117.2 o128 ho128) wv_379 ⟨by omega, by omega⟩ rfl rfl (Nat.le_of_ble_eq_true rfl) hl.1 dX9_partWithin_128 ⟨Nat.zero_le _, Nat.zero_le _⟩ (fun H locs hR hS => ?_)
            refine lv_istore_n (lv' := [(1, .int o128.1), (0, .ref g.1)]) hx hb dX9_partWithin_131 rfl hl (by decide) rfl (fun ls hl => ?_)
            refine lv_goto (tgt := 222) hx hb dX9_partWithin_132 (by decide) ?_
            exact (wbM_partWithin_222 C hRm hGP hB) _ _ _ _ hf hR hS (lv_sub hl [1] rfl)
        · rw [if_neg hc] at hf
          refine lv_aload_n hx hb dX9_partWithin_99 rfl (lv_at hl 0 rfl) ?_
          refine lv_bipush (v := 14) hx hb dX9_partWithin_100 (by decide) ?_
          refine lv_aload_n hx hb dX9_partWithin_102 rfl (lv_at hl 0 rfl) ?_
          obtain ⟨o103, ho103, hf⟩ := bnd_some hf
          refine mr_callIv C hR hS (As := []) (rest := [.int 14, .ref g.1]) (MM_takeDevice l d g N  o93.2 o103 ho103) wv_428 ⟨by omega, by omega⟩ rfl rfl (Nat.le_of_ble_eq_true rfl) hl.1 dX9_partWithin_103 ⟨Nat.zero_le _, Nat.zero_le _⟩ (fun H locs hR hS => ?_)
          refine lv_iconst (v := 0) hx hb dX9_partWithin_106 (by decide) ?_
          obtain ⟨o107, ho107, hf⟩ := bnd_some hf
          refine mr_callIv C hR hS (As := [.int 14, .int o103.1, .int 0]) (rest := []) (MM_emit l d g N 14 o103.1 0 o103.2 o107 ho107) wv_379 ⟨by omega, by omega⟩ rfl rfl (Nat.le_of_ble_eq_true rfl) hl.1 dX9_partWithin_107 ⟨Nat.zero_le _, Nat.zero_le _⟩ (fun H locs hR hS => ?_)
          refine lv_istore_n (lv' := [(1, .int o107.1), (0, .ref g.1)]) hx hb dX9_partWithin_110 rfl hl (by decide) rfl (fun ls hl => ?_)
          refine lv_goto (tgt := 222) hx hb dX9_partWithin_111 (by decide) ?_
          exact (wbM_partWithin_222 C hRm hGP hB) _ _ _ _ hf hR hS (lv_sub hl [1] rfl)
      · rw [if_neg hc] at hf
        refine lv_aload_n hx hb dX9_partWithin_74 rfl (lv_at hl 0 rfl) ?_
        obtain ⟨o75, ho75, hf⟩ := bnd_some hf
        refine mr_callVv C hR hS (As := []) (rest := []) (hGP.2.2.2.2.2.2.2.2.1 _ _ ho75) wv_451 ⟨by omega, by omega⟩ rfl rfl (Nat.le_of_ble_eq_true rfl) hl.1 dX9_partWithin_75 ⟨Nat.zero_le _, Nat.zero_le _⟩ (fun H locs hR hS => ?_)
        refine lv_aload_n hx hb dX9_partWithin_78 rfl (lv_at hl 0 rfl) ?_
        refine lv_bipush (v := 17) hx hb dX9_partWithin_79 (by decide) ?_
        refine lv_iconst (v := 0) hx hb dX9_partWithin_81 (by decide) ?_
        refine lv_iconst (v := 0) hx hb dX9_partWithin_82 (by decide) ?_
        obtain ⟨o83, ho83, hf⟩ := bnd_some hf
        refine mr_callIv C hR hS (As := [.int 17, .int 0, .int 0]) (rest := []) (MM_emit l d g N 17 0 0 o75 o83 ho83) wv_379 ⟨by omega, by omega⟩ rfl rfl (Nat.le_of_ble_eq_true rfl) hl.1 dX9_partWithin_83 ⟨Nat.zero_le _, Nat.zero_le _⟩ (fun H locs hR hS => ?_)
        refine lv_istore_n (lv' := [(1, .int o83.1), (0, .ref g.1)]) hx hb dX9_partWithin_86 rfl hl (by decide) rfl (fun ls hl => ?_)
        refine lv_goto (tgt := 222) hx hb dX9_partWithin_87 (by decide) ?_
        exact (wbM_partWithin_222 C hRm hGP hB) _ _ _ _ hf hR hS (lv_sub hl [1] rfl)
    · rw [if_neg hc] at hf
      refine lv_aload_n hx hb dX9_partWithin_52 rfl (lv_at hl 0 rfl) ?_
      obtain ⟨o53, ho53, hf⟩ := bnd_some hf
      refine mr_callVv C hR hS (As := []) (rest := []) (hGP.2.2.2.2.2.1 _ _ ho53) wv_389 ⟨by omega, by omega⟩ rfl rfl (Nat.le_of_ble_eq_true rfl) hl.1 dX9_partWithin_53 ⟨Nat.zero_le _, Nat.zero_le _⟩ (fun H locs hR hS => ?_)
      refine lv_aload_n hx hb dX9_partWithin_56 rfl (lv_at hl 0 rfl) ?_
      refine lv_bipush (v := 41) hx hb dX9_partWithin_57 (by decide) ?_
      obtain ⟨o59, ho59, hf⟩ := bnd_some hf
      refine mr_callVv C hR hS (As := [.int 41]) (rest := []) (MM_takeSign l d g N 41 o53 o59 ho59) wv_357 ⟨by omega, by omega⟩ rfl rfl (Nat.le_of_ble_eq_true rfl) hl.1 dX9_partWithin_59 ⟨Nat.zero_le _, Nat.zero_le _⟩ (fun H locs hR hS => ?_)
      refine lv_goto (tgt := 222) hx hb dX9_partWithin_62 (by decide) ?_
      exact (wbM_partWithin_222 C hRm hGP hB) _ _ _ _ hf hR hS (lv_sub hl [0] rfl)
  · rw [if_pos hc] at hf
    refine lv_aload_n hx hb dX9_partWithin_13 rfl (lv_at hl 0 rfl) ?_
    refine lv_iconst (v := 2) hx hb dX9_partWithin_14 (by decide) ?_
    refine lv_aload_n hx hb dX9_partWithin_15 rfl (lv_at hl 0 rfl) ?_
    refine mr_getR C hR fl_30 (by decide) dX9_partWithin_16 ?_
    refine lv_aload_n hx hb dX9_partWithin_19 rfl (lv_at hl 0 rfl) ?_
    refine mr_getI C hR fl_278 rfl dX9_partWithin_20 ?_
    obtain ⟨hi, hf⟩ := ck_some hf
    refine mr_lald C hR (k := 6) rfl hi dX9_partWithin_23 ?_
    refine lv_l2i (v := (mL S 6 (mF S 7 : Int32).toNatClampNeg : Int64).toInt32) hx hb dX9_partWithin_24 rfl ?_
    refine lv_iconst (v := 0) hx hb dX9_partWithin_25 (by decide) ?_
    obtain ⟨o26, ho26, hf⟩ := bnd_some hf
    refine mr_callIv C hR hS (As := [.int 2, .int ((mL S 6 (mF S 7 : Int32).toNatClampNeg : Int64).toInt32), .int 0]) (rest := []) (MM_emit l d g N 2 ((mL S 6 (mF S 7 : Int32).toNatClampNeg : Int64).toInt32) 0 S o26 ho26) wv_379 ⟨by omega, by omega⟩ rfl rfl (Nat.le_of_ble_eq_true rfl) hl.1 dX9_partWithin_26 ⟨Nat.zero_le _, Nat.zero_le _⟩ (fun H locs hR hS => ?_)
    refine lv_istore_n (lv' := [(1, .int o26.1), (0, .ref g.1)]) hx hb dX9_partWithin_29 rfl hl (by decide) rfl (fun ls hl => ?_)
    refine lv_aload_n hx hb dX9_partWithin_30 rfl (lv_at hl 1 rfl) ?_
    refine lv_dup hx hb dX9_partWithin_31 rfl ?_
    refine mr_getI C hR fl_278 rfl dX9_partWithin_32 ?_
    refine lv_iconst (v := 1) hx hb dX9_partWithin_35 (by decide) ?_
    refine lv_iadd hx hb dX9_partWithin_36 ?_
    refine mr_putI C hR hS fl_278 ⟨rfl, rfl, rfl⟩ dX9_partWithin_37 (fun H locs hR hS => ?_)
    refine lv_goto (tgt := 222) hx hb dX9_partWithin_40 (by decide) ?_
    exact (wbM_partWithin_222 C hRm hGP hB) _ _ _ _ hf hR hS (lv_sub hl [1] rfl)
def gP (N : Nat) : Nat → Nat → Ms → Option Ms
  | 0, _, _ => none
  | k + 1, t, S => if t = 0 then fM_block N (gP N k) S else if t = 1 then fM_statement N (gP N k) S else if t = 2 then fM_choice N (gP N k) S else if t = 3 then fM_plain N (gP N k) S else if t = 4 then fM_set N (gP N k) S else if t = 5 then fM_expression N (gP N k) S else if t = 6 then fM_sum N (gP N k) S else if t = 7 then fM_product N (gP N k) S else if t = 8 then fM_part N (gP N k) S else if t = 9 then fM_partWithin N (gP N k) S else none
theorem uP_9 (N k : Nat)  (S : Ms) : gP N (k + 1) 9 S = fM_partWithin N (gP N k)  S := by rw [gP, if_neg (by decide), if_neg (by decide), if_neg (by decide), if_neg (by decide), if_neg (by decide), if_neg (by decide), if_neg (by decide), if_neg (by decide), if_neg (by decide), if_pos rfl]
theorem uP_8 (N k : Nat)  (S : Ms) : gP N (k + 1) 8 S = fM_part N (gP N k)  S := by rw [gP, if_neg (by decide), if_neg (by decide), if_neg (by decide), if_neg (by decide), if_neg (by decide), if_neg (by decide), if_neg (by decide), if_neg (by decide), if_pos rfl]
theorem uP_7 (N k : Nat)  (S : Ms) : gP N (k + 1) 7 S = fM_product N (gP N k)  S := by rw [gP, if_neg (by decide), if_neg (by decide), if_neg (by decide), if_neg (by decide), if_neg (by decide), if_neg (by decide), if_neg (by decide), if_pos rfl]
theorem uP_6 (N k : Nat)  (S : Ms) : gP N (k + 1) 6 S = fM_sum N (gP N k)  S := by rw [gP, if_neg (by decide), if_neg (by decide), if_neg (by decide), if_neg (by decide), if_neg (by decide), if_neg (by decide), if_pos rfl]
theorem uP_5 (N k : Nat)  (S : Ms) : gP N (k + 1) 5 S = fM_expression N (gP N k)  S := by rw [gP, if_neg (by decide), if_neg (by decide), if_neg (by decide), if_neg (by decide), if_neg (by decide), if_pos rfl]
theorem uP_4 (N k : Nat)  (S : Ms) : gP N (k + 1) 4 S = fM_set N (gP N k)  S := by rw [gP, if_neg (by decide), if_neg (by decide), if_neg (by decide), if_neg (by decide), if_pos rfl]
theorem uP_3 (N k : Nat)  (S : Ms) : gP N (k + 1) 3 S = fM_plain N (gP N k)  S := by rw [gP, if_neg (by decide), if_neg (by decide), if_neg (by decide), if_pos rfl]
theorem uP_2 (N k : Nat)  (S : Ms) : gP N (k + 1) 2 S = fM_choice N (gP N k)  S := by rw [gP, if_neg (by decide), if_neg (by decide), if_pos rfl]
theorem uP_1 (N k : Nat)  (S : Ms) : gP N (k + 1) 1 S = fM_statement N (gP N k)  S := by rw [gP, if_neg (by decide), if_pos rfl]
theorem uP_0 (N k : Nat)  (S : Ms) : gP N (k + 1) 0 S = fM_block N (gP N k)  S := by rw [gP, if_pos rfl]
theorem hgP (l : Launch) (d : Dd) (g : Gm) (N : Nat) : ∀ k : Nat, HP l d g (gP N k) (30 + k) (1659 + 60 * k) := by
  intro k
  induction k with
  | zero => exact ⟨(fun  S o h => nomatch (show none = some o from h)), (fun  S o h => nomatch (show none = some o from h)), (fun  S o h => nomatch (show none = some o from h)), (fun  S o h => nomatch (show none = some o from h)), (fun  S o h => nomatch (show none = some o from h)), (fun  S o h => nomatch (show none = some o from h)), (fun  S o h => nomatch (show none = some o from h)), (fun  S o h => nomatch (show none = some o from h)), (fun  S o h => nomatch (show none = some o from h)), (fun  S o h => nomatch (show none = some o from h))⟩
  | succ k ih => exact ⟨fun  S o h => mr_metV (by decide) rfl (Nat.le_of_ble_eq_true rfl) (fun p e s m args below meth c ls C hR hl => wfM_block C ⟨Nat.le_refl _, Nat.le_refl _⟩ ih ⟨Nat.le_add_right _ _, Nat.le_add_right _ _⟩  S s.heap [] ls (uP_0 N k  S ▸ h) hR va_S.rf hl), fun  S o h => mr_metV (by decide) rfl (Nat.le_of_ble_eq_true rfl) (fun p e s m args below meth c ls C hR hl => wfM_statement C ⟨Nat.le_refl _, Nat.le_refl _⟩ ih ⟨Nat.le_add_right _ _, Nat.le_add_right _ _⟩  S s.heap [] ls (uP_1 N k  S ▸ h) hR va_S.rf hl), fun  S o h => mr_metV (by decide) rfl (Nat.le_of_ble_eq_true rfl) (fun p e s m args below meth c ls C hR hl => wfM_choice C ⟨Nat.le_refl _, Nat.le_refl _⟩ ih ⟨Nat.le_add_right _ _, Nat.le_add_right _ _⟩  S s.heap [] ls (uP_2 N k  S ▸ h) hR va_S.rf hl), fun  S o h => mr_metV (by decide) rfl (Nat.le_of_ble_eq_true rfl) (fun p e s m args below meth c ls C hR hl => wfM_plain C ⟨Nat.le_refl _, Nat.le_refl _⟩ ih ⟨Nat.le_add_right _ _, Nat.le_add_right _ _⟩  S s.heap [] ls (uP_3 N k  S ▸ h) hR va_S.rf hl), fun  S o h => mr_metV (by decide) rfl (Nat.le_of_ble_eq_true rfl) (fun p e s m args below meth c ls C hR hl => wfM_set C ⟨Nat.le_refl _, Nat.le_refl _⟩ ih ⟨Nat.le_add_right _ _, Nat.le_add_right _ _⟩  S s.heap [] ls (uP_4 N k  S ▸ h) hR va_S.rf hl), fun  S o h => mr_metV (by decide) rfl (Nat.le_of_ble_eq_true rfl) (fun p e s m args below meth c ls C hR hl => wfM_expression C ⟨Nat.le_refl _, Nat.le_refl _⟩ ih ⟨Nat.le_add_right _ _, Nat.le_add_right _ _⟩  S s.heap [] ls (uP_5 N k  S ▸ h) hR va_S.rf hl), fun  S o h => mr_metV (by decide) rfl (Nat.le_of_ble_eq_true rfl) (fun p e s m args below meth c ls C hR hl => wfM_sum C ⟨Nat.le_refl _, Nat.le_refl _⟩ ih ⟨Nat.le_add_right _ _, Nat.le_add_right _ _⟩  S s.heap [] ls (uP_6 N k  S ▸ h) hR va_S.rf hl), fun  S o h => mr_metV (by decide) rfl (Nat.le_of_ble_eq_true rfl) (fun p e s m args below meth c ls C hR hl => wfM_product C ⟨Nat.le_refl _, Nat.le_refl _⟩ ih ⟨Nat.le_add_right _ _, Nat.le_add_right _ _⟩  S s.heap [] ls (uP_7 N k  S ▸ h) hR va_S.rf hl), fun  S o h => mr_metV (by decide) rfl (Nat.le_of_ble_eq_true rfl) (fun p e s m args below meth c ls C hR hl => wfM_part C ⟨Nat.le_refl _, Nat.le_refl _⟩ ih ⟨Nat.le_add_right _ _, Nat.le_add_right _ _⟩  S s.heap [] ls (uP_8 N k  S ▸ h) hR va_S.rf hl), fun  S o h => mr_metV (by decide) rfl (Nat.le_of_ble_eq_true rfl) (fun p e s m args below meth c ls C hR hl => wfM_partWithin C ⟨Nat.le_refl _, Nat.le_refl _⟩ ih ⟨Nat.le_add_right _ _, Nat.le_add_right _ _⟩  S s.heap [] ls (uP_9 N k  S ▸ h) hR va_S.rf hl)⟩
def fG_block (N : Nat)  (S : Ms) : Option (Ms) := gP N 120 0 S
theorem MG_block (l : Launch) (d : Dd) (g : Gm) (N : Nat)  (S : Ms) (o : Ms) (hf : fG_block N  S = some o) : MtV l d g yX9_block cX9_block 1 150 8859 [.ref g.1] S o := (hgP l d g N 120).1  S o hf
def fG_statement (N : Nat)  (S : Ms) : Option (Ms) := gP N 120 1 S
theorem MG_statement (l : Launch) (d : Dd) (g : Gm) (N : Nat)  (S : Ms) (o : Ms) (hf : fG_statement N  S = some o) : MtV l d g yX9_statement cX9_statement 4 150 8859 [.ref g.1] S o := (hgP l d g N 120).2.1  S o hf
def fG_choice (N : Nat)  (S : Ms) : Option (Ms) := gP N 120 2 S
theorem MG_choice (l : Launch) (d : Dd) (g : Gm) (N : Nat)  (S : Ms) (o : Ms) (hf : fG_choice N  S = some o) : MtV l d g yX9_choice cX9_choice 3 150 8859 [.ref g.1] S o := (hgP l d g N 120).2.2.1  S o hf
def fG_plain (N : Nat)  (S : Ms) : Option (Ms) := gP N 120 3 S
theorem MG_plain (l : Launch) (d : Dd) (g : Gm) (N : Nat)  (S : Ms) (o : Ms) (hf : fG_plain N  S = some o) : MtV l d g yX9_plain cX9_plain 3 150 8859 [.ref g.1] S o := (hgP l d g N 120).2.2.2.1  S o hf
def fG_set (N : Nat)  (S : Ms) : Option (Ms) := gP N 120 4 S
theorem MG_set (l : Launch) (d : Dd) (g : Gm) (N : Nat)  (S : Ms) (o : Ms) (hf : fG_set N  S = some o) : MtV l d g yX9_set cX9_set 6 150 8859 [.ref g.1] S o := (hgP l d g N 120).2.2.2.2.1  S o hf
def fG_expression (N : Nat)  (S : Ms) : Option (Ms) := gP N 120 5 S
theorem MG_expression (l : Launch) (d : Dd) (g : Gm) (N : Nat)  (S : Ms) (o : Ms) (hf : fG_expression N  S = some o) : MtV l d g yX9_expression cX9_expression 3 150 8859 [.ref g.1] S o := (hgP l d g N 120).2.2.2.2.2.1  S o hf
def fG_sum (N : Nat)  (S : Ms) : Option (Ms) := gP N 120 6 S
theorem MG_sum (l : Launch) (d : Dd) (g : Gm) (N : Nat)  (S : Ms) (o : Ms) (hf : fG_sum N  S = some o) : MtV l d g yX9_sum cX9_sum 3 150 8859 [.ref g.1] S o := (hgP l d g N 120).2.2.2.2.2.2.1  S o hf
def fG_product (N : Nat)  (S : Ms) : Option (Ms) := gP N 120 7 S
theorem MG_product (l : Launch) (d : Dd) (g : Gm) (N : Nat)  (S : Ms) (o : Ms) (hf : fG_product N  S = some o) : MtV l d g yX9_product cX9_product 3 150 8859 [.ref g.1] S o := (hgP l d g N 120).2.2.2.2.2.2.2.1  S o hf
def fG_part (N : Nat)  (S : Ms) : Option (Ms) := gP N 120 8 S
theorem MG_part (l : Launch) (d : Dd) (g : Gm) (N : Nat)  (S : Ms) (o : Ms) (hf : fG_part N  S = some o) : MtV l d g yX9_part cX9_part 2 150 8859 [.ref g.1] S o := (hgP l d g N 120).2.2.2.2.2.2.2.2.1  S o hf
def fG_partWithin (N : Nat)  (S : Ms) : Option (Ms) := gP N 120 9 S
theorem MG_partWithin (l : Launch) (d : Dd) (g : Gm) (N : Nat)  (S : Ms) (o : Ms) (hf : fG_partWithin N  S = some o) : MtV l d g yX9_partWithin cX9_partWithin 3 150 8859 [.ref g.1] S o := (hgP l d g N 120).2.2.2.2.2.2.2.2.2  S o hf
def bM_newName_122 (N : Nat)  (S : Ms) : Option (Int64 × Ms) := ck ((mF (pF S 7 ((mF S 7) + 1)) 7) - 1) 4002 (some (mL (pF S 7 ((mF S 7) + 1)) 6 ((mF (pF S 7 ((mF S 7) + 1)) 7) - 1 : Int32).toNatClampNeg, pF S 7 ((mF S 7) + 1)))
set_option maxRecDepth 100000 in
set_option maxHeartbeats 4000000 in
theorem wbM_newName_122 {p : Program} {l : Launch} {e : Env} {R : Room} {s : State} {m : MethodId} {args : Array Value} {below : List Frame} {meth : Method} {c : Code} {d : Dd} {g : Gm} {o : Int64 × Ms} {N : Nat} (C : CM p s m args meth c d g cX9_newName 1 (some .long)) (hRm : 2 ≤ R.frames ∧ 49 ≤ R.locals)  (S : Ms) (H : Heap) (locs : List Loc) (ls : Array Slot) (hf : bM_newName_122 N  S = some o) (hR : RM d g S H) (hS : va_S (AM g) s.heap H locs) (hl : lv_has ls 1 [(0, .ref g.1)]) : W p l e R s m args below meth c H locs 0 0 (MQ below (QL d g o) args s 0 0 (AM g)) (F0 m 122 ls []) := by
  obtain ⟨hx, hb, hml, hown, hts, hK, hg, hr, hlk⟩ := id C
  unfold bM_newName_122 at hf
  refine lv_aload_n hx hb dX9_newName_122 rfl (lv_at hl 0 rfl) ?_
  refine lv_dup hx hb dX9_newName_123 rfl ?_
  refine mr_getI C hR fl_278 rfl dX9_newName_124 ?_
  refine lv_iconst (v := 1) hx hb dX9_newName_127 (by decide) ?_
  refine lv_iadd hx hb dX9_newName_128 ?_
  refine mr_putI C hR hS fl_278 ⟨rfl, rfl, rfl⟩ dX9_newName_129 (fun H locs hR hS => ?_)
  refine lv_aload_n hx hb dX9_newName_132 rfl (lv_at hl 0 rfl) ?_
  refine mr_getR C hR fl_30 (by decide) dX9_newName_133 ?_
  refine lv_aload_n hx hb dX9_newName_136 rfl (lv_at hl 0 rfl) ?_
  refine mr_getI C hR fl_278 rfl dX9_newName_137 ?_
  refine lv_iconst (v := 1) hx hb dX9_newName_140 (by decide) ?_
  refine lv_isub hx hb dX9_newName_141 ?_
  obtain ⟨hi, hf⟩ := ck_some hf
  refine mr_lald C hR (k := 6) rfl hi dX9_newName_142 ?_
  exact mr_lret C hR hS hf dX9_newName_143
def bM_newName_117 (N : Nat)  (S : Ms) : Option (Int64 × Ms) := (fM_wrong N 3 S).bind fun o119 => (bM_newName_122 N) o119
set_option maxRecDepth 100000 in
set_option maxHeartbeats 4000000 in
theorem wbM_newName_117 {p : Program} {l : Launch} {e : Env} {R : Room} {s : State} {m : MethodId} {args : Array Value} {below : List Frame} {meth : Method} {c : Code} {d : Dd} {g : Gm} {o : Int64 × Ms} {N : Nat} (C : CM p s m args meth c d g cX9_newName 1 (some .long)) (hRm : 2 ≤ R.frames ∧ 49 ≤ R.locals)  (S : Ms) (H : Heap) (locs : List Loc) (ls : Array Slot) (hf : bM_newName_117 N  S = some o) (hR : RM d g S H) (hS : va_S (AM g) s.heap H locs) (hl : lv_has ls 1 [(0, .ref g.1)]) : W p l e R s m args below meth c H locs 0 0 (MQ below (QL d g o) args s 0 0 (AM g)) (F0 m 117 ls []) := by
  obtain ⟨hx, hb, hml, hown, hts, hK, hg, hr, hlk⟩ := id C
  unfold bM_newName_117 at hf
  refine lv_aload_n hx hb dX9_newName_117 rfl (lv_at hl 0 rfl) ?_
  refine lv_iconst (v := 3) hx hb dX9_newName_118 (by decide) ?_
  obtain ⟨o119, ho119, hf⟩ := bnd_some hf
  refine mr_callVv C hR hS (As := [.int 3]) (rest := []) (MM_wrong l d g N 3 S o119 ho119) wv_287 ⟨by omega, by omega⟩ rfl rfl (Nat.le_of_ble_eq_true rfl) hl.1 dX9_newName_119 ⟨Nat.zero_le _, Nat.zero_le _⟩ (fun H locs hR hS => ?_)
  exact (wbM_newName_122 C hRm) _ _ _ _ hf hR hS (lv_sub hl [0] rfl)
def bM_newName_22 (N : Nat)  (S : Ms) : Option (Int64 × Ms) := if (mF S 8) = 0 then (ck (mF S 12) 2 (ck (mF S 7) 4002 ((fM_find N 14 (24 * (mF S 12)) (mA S 13 (mF S 12 : Int32).toNatClampNeg) (mL S 6 (mF S 7 : Int32).toNatClampNeg) S).bind fun o59 => if 0 ≤ o59.1 then ((bM_newName_117 N) o59.2) else (ck (mF o59.2 7) 4002 ((fM_findUnit N (mL o59.2 6 (mF o59.2 7 : Int32).toNatClampNeg) o59.2).bind fun o75 => if 0 ≤ o75.1 then ((bM_newName_117 N) o75.2) else (ck (mF o75.2 12) 2 (ck (mF o75.2 7) 4002 ((fM_find N 36 (20 * (mF o75.2 12)) (mA o75.2 35 (mF o75.2 12 : Int32).toNatClampNeg) (mL o75.2 6 (mF o75.2 7 : Int32).toNatClampNeg) o75.2).bind fun o111 => if o111.1 < 0 then ((bM_newName_122 N) o111.2) else ((bM_newName_117 N) o111.2))))))))) else ((bM_newName_122 N) S)
set_option maxRecDepth 100000 in
set_option maxHeartbeats 4000000 in
theorem wbM_newName_22 {p : Program} {l : Launch} {e : Env} {R : Room} {s : State} {m : MethodId} {args : Array Value} {below : List Frame} {meth : Method} {c : Code} {d : Dd} {g : Gm} {o : Int64 × Ms} {N : Nat} (C : CM p s m args meth c d g cX9_newName 1 (some .long)) (hRm : 2 ≤ R.frames ∧ 49 ≤ R.locals)  (S : Ms) (H : Heap) (locs : List Loc) (ls : Array Slot) (hf : bM_newName_22 N  S = some o) (hR : RM d g S H) (hS : va_S (AM g) s.heap H locs) (hl : lv_has ls 1 [(0, .ref g.1)]) : W p l e R s m args below meth c H locs 0 0 (MQ below (QL d g o) args s 0 0 (AM g)) (F0 m 22 ls []) := by
  obtain ⟨hx, hb, hml, hown, hts, hK, hg, hr, hlk⟩ := id C
  unfold bM_newName_22 at hf
  refine lv_aload_n hx hb dX9_newName_22 rfl (lv_at hl 0 rfl) ?_
  refine mr_getI C hR fl_281 rfl dX9_newName_23 ?_
  refine lv_if_ne (tgt := 122) hx hb dX9_newName_26 (by decide) (fun hc => ?_) (fun hc => ?_)
  · rw [if_neg hc] at hf
    exact (wbM_newName_122 C hRm) _ _ _ _ hf hR hS (lv_sub hl [0] rfl)
  · rw [if_pos hc] at hf
    refine lv_aload_n hx hb dX9_newName_29 rfl (lv_at hl 0 rfl) ?_
    refine lv_aload_n hx hb dX9_newName_30 rfl (lv_at hl 0 rfl) ?_
    refine mr_getR C hR fl_46 (by decide) dX9_newName_31 ?_
    refine lv_bipush (v := 24) hx hb dX9_newName_34 (by decide) ?_
    refine lv_aload_n hx hb dX9_newName_36 rfl (lv_at hl 0 rfl) ?_
    refine mr_getI C hR fl_297 rfl dX9_newName_37 ?_
    refine lv_imul hx hb dX9_newName_40 ?_
    refine lv_aload_n hx hb dX9_newName_41 rfl (lv_at hl 0 rfl) ?_
    refine mr_getR C hR fl_43 (by decide) dX9_newName_42 ?_
    refine lv_aload_n hx hb dX9_newName_45 rfl (lv_at hl 0 rfl) ?_
    refine mr_getI C hR fl_297 rfl dX9_newName_46 ?_
    obtain ⟨hi, hf⟩ := ck_some hf
    refine mr_iald C hR (k := 13) rfl hi dX9_newName_49 ?_
    refine lv_aload_n hx hb dX9_newName_50 rfl (lv_at hl 0 rfl) ?_
    refine mr_getR C hR fl_30 (by decide) dX9_newName_51 ?_
    refine lv_aload_n hx hb dX9_newName_54 rfl (lv_at hl 0 rfl) ?_
    refine mr_getI C hR fl_278 rfl dX9_newName_55 ?_
    obtain ⟨hi, hf⟩ := ck_some hf
    refine mr_lald C hR (k := 6) rfl hi dX9_newName_58 ?_
    obtain ⟨o59, ho59, hf⟩ := bnd_some hf
    refine mr_callIv C hR hS (As := [.ref (g.2 14), .int (24 * (mF S 12)), .int (mA S 13 (mF S 12 : Int32).toNatClampNeg), .long (mL S 6 (mF S 7 : Int32).toNatClampNeg)]) (rest := []) (MM_find l d g N 14 (24 * (mF S 12)) (mA S 13 (mF S 12 : Int32).toNatClampNeg) (mL S 6 (mF S 7 : Int32).toNatClampNeg) S o59 ho59) wv_300 ⟨by omega, by omega⟩ rfl rfl (Nat.le_of_ble_eq_true rfl) hl.1 dX9_newName_59 ⟨Nat.zero_le _, Nat.zero_le _⟩ (fun H locs hR hS => ?_)
    refine lv_if_ge (tgt := 117) hx hb dX9_newName_62 (by decide) (fun hc => ?_) (fun hc => ?_)
    · rw [if_pos hc] at hf
      exact (wbM_newName_117 C hRm) _ _ _ _ hf hR hS (lv_sub hl [0] rfl)
    · rw [if_neg hc] at hf
      refine lv_aload_n hx hb dX9_newName_65 rfl (lv_at hl 0 rfl) ?_
      refine lv_aload_n hx hb dX9_newName_66 rfl (lv_at hl 0 rfl) ?_
      refine mr_getR C hR fl_30 (by decide) dX9_newName_67 ?_
      refine lv_aload_n hx hb dX9_newName_70 rfl (lv_at hl 0 rfl) ?_
      refine mr_getI C hR fl_278 rfl dX9_newName_71 ?_
      obtain ⟨hi, hf⟩ := ck_some hf
      refine mr_lald C hR (k := 6) rfl hi dX9_newName_74 ?_
      obtain ⟨o75, ho75, hf⟩ := bnd_some hf
      refine mr_callIv C hR hS (As := [.long (mL o59.2 6 (mF o59.2 7 : Int32).toNatClampNeg)]) (rest := []) (MM_findUnit l d g N (mL o59.2 6 (mF o59.2 7 : Int32).toNatClampNeg) o59.2 o75 ho75) wv_341 ⟨by omega, by omega⟩ rfl rfl (Nat.le_of_ble_eq_true rfl) hl.1 dX9_newName_75 ⟨Nat.zero_le _, Nat.zero_le _⟩ (fun H locs hR hS => ?_)
      refine lv_if_ge (tgt := 117) hx hb dX9_newName_78 (by decide) (fun hc => ?_) (fun hc => ?_)
      · rw [if_pos hc] at hf
        exact (wbM_newName_117 C hRm) _ _ _ _ hf hR hS (lv_sub hl [0] rfl)
      · rw [if_neg hc] at hf
        refine lv_aload_n hx hb dX9_newName_81 rfl (lv_at hl 0 rfl) ?_
        refine lv_aload_n hx hb dX9_newName_82 rfl (lv_at hl 0 rfl) ?_
        refine mr_getR C hR fl_113 (by decide) dX9_newName_83 ?_
        refine lv_bipush (v := 20) hx hb dX9_newName_86 (by decide) ?_
        refine lv_aload_n hx hb dX9_newName_88 rfl (lv_at hl 0 rfl) ?_
        refine mr_getI C hR fl_297 rfl dX9_newName_89 ?_
        refine lv_imul hx hb dX9_newName_92 ?_
        refine lv_aload_n hx hb dX9_newName_93 rfl (lv_at hl 0 rfl) ?_
        refine mr_getR C hR fl_110 (by decide) dX9_newName_94 ?_
        refine lv_aload_n hx hb dX9_newName_97 rfl (lv_at hl 0 rfl) ?_
        refine mr_getI C hR fl_297 rfl dX9_newName_98 ?_
        obtain ⟨hi, hf⟩ := ck_some hf
        refine mr_iald C hR (k := 35) rfl hi dX9_newName_101 ?_
        refine lv_aload_n hx hb dX9_newName_102 rfl (lv_at hl 0 rfl) ?_
        refine mr_getR C hR fl_30 (by decide) dX9_newName_103 ?_
        refine lv_aload_n hx hb dX9_newName_106 rfl (lv_at hl 0 rfl) ?_
        refine mr_getI C hR fl_278 rfl dX9_newName_107 ?_
        obtain ⟨hi, hf⟩ := ck_some hf
        refine mr_lald C hR (k := 6) rfl hi dX9_newName_110 ?_
        obtain ⟨o111, ho111, hf⟩ := bnd_some hf
        refine mr_callIv C hR hS (As := [.ref (g.2 36), .int (20 * (mF o75.2 12)), .int (mA o75.2 35 (mF o75.2 12 : Int32).toNatClampNeg), .long (mL o75.2 6 (mF o75.2 7 : Int32).toNatClampNeg)]) (rest := []) (MM_find l d g N 36 (20 * (mF o75.2 12)) (mA o75.2 35 (mF o75.2 12 : Int32).toNatClampNeg) (mL o75.2 6 (mF o75.2 7 : Int32).toNatClampNeg) o75.2 o111 ho111) wv_300 ⟨by omega, by omega⟩ rfl rfl (Nat.le_of_ble_eq_true rfl) hl.1 dX9_newName_111 ⟨Nat.zero_le _, Nat.zero_le _⟩ (fun H locs hR hS => ?_)
        refine lv_if_lt (tgt := 122) hx hb dX9_newName_114 (by decide) (fun hc => ?_) (fun hc => ?_)
        · rw [if_pos hc] at hf
          exact (wbM_newName_122 C hRm) _ _ _ _ hf hR hS (lv_sub hl [0] rfl)
        · rw [if_neg hc] at hf
          exact (wbM_newName_117 C hRm) _ _ _ _ hf hR hS (lv_sub hl [0] rfl)
def fM_newName (N : Nat)  (S : Ms) : Option (Int64 × Ms) := if (mF S 8) = 0 then ((fM_isName N S).bind fun o8 => if o8.1 = 0 then ((fM_wrong N 1 o8.2).bind fun o16 => (bM_newName_122 N) o16) else ((bM_newName_22 N) o8.2)) else ((bM_newName_22 N) S)
set_option maxRecDepth 100000 in
set_option maxHeartbeats 4000000 in
theorem wfM_newName {p : Program} {l : Launch} {e : Env} {R : Room} {s : State} {m : MethodId} {args : Array Value} {below : List Frame} {meth : Method} {c : Code} {d : Dd} {g : Gm} {o : Int64 × Ms} {N : Nat} (C : CM p s m args meth c d g cX9_newName 1 (some .long)) (hRm : 2 ≤ R.frames ∧ 49 ≤ R.locals)  (S : Ms) (H : Heap) (locs : List Loc) (ls : Array Slot) (hf : fM_newName N  S = some o) (hR : RM d g S H) (hS : va_S (AM g) s.heap H locs) (hl : lv_has ls 1 [(0, .ref g.1)]) : W p l e R s m args below meth c H locs 0 0 (MQ below (QL d g o) args s 0 0 (AM g)) (F0 m 0 ls []) := by
  obtain ⟨hx, hb, hml, hown, hts, hK, hg, hr, hlk⟩ := id C
  unfold fM_newName at hf
  refine lv_aload_n hx hb dX9_newName_0 rfl (lv_at hl 0 rfl) ?_
  refine mr_getI C hR fl_281 rfl dX9_newName_1 ?_
  refine lv_if_ne (tgt := 22) hx hb dX9_newName_4 (by decide) (fun hc => ?_) (fun hc => ?_)
  · rw [if_neg hc] at hf
    exact (wbM_newName_22 C hRm) _ _ _ _ hf hR hS (lv_sub hl [0] rfl)
  · rw [if_pos hc] at hf
    refine lv_aload_n hx hb dX9_newName_7 rfl (lv_at hl 0 rfl) ?_
    obtain ⟨o8, ho8, hf⟩ := bnd_some hf
    refine mr_callIv C hR hS (As := []) (rest := []) (MM_isName l d g N  S o8 ho8) wv_337 ⟨by omega, by omega⟩ rfl rfl (Nat.le_of_ble_eq_true rfl) hl.1 dX9_newName_8 ⟨Nat.zero_le _, Nat.zero_le _⟩ (fun H locs hR hS => ?_)
    refine lv_if_ne (tgt := 22) hx hb dX9_newName_11 (by decide) (fun hc => ?_) (fun hc => ?_)
    · rw [if_neg hc] at hf
      exact (wbM_newName_22 C hRm) _ _ _ _ hf hR hS (lv_sub hl [0] rfl)
    · rw [if_pos hc] at hf
      refine lv_aload_n hx hb dX9_newName_14 rfl (lv_at hl 0 rfl) ?_
      refine lv_iconst (v := 1) hx hb dX9_newName_15 (by decide) ?_
      obtain ⟨o16, ho16, hf⟩ := bnd_some hf
      refine mr_callVv C hR hS (As := [.int 1]) (rest := []) (MM_wrong l d g N 1 o8.2 o16 ho16) wv_287 ⟨by omega, by omega⟩ rfl rfl (Nat.le_of_ble_eq_true rfl) hl.1 dX9_newName_16 ⟨Nat.zero_le _, Nat.zero_le _⟩ (fun H locs hR hS => ?_)
      refine lv_goto (tgt := 122) hx hb dX9_newName_19 (by decide) ?_
      exact (wbM_newName_122 C hRm) _ _ _ _ hf hR hS (lv_sub hl [0] rfl)
theorem MM_newName (l : Launch) (d : Dd) (g : Gm) (N : Nat)  (S : Ms) (o : Int64 × Ms) (hf : fM_newName N  S = some o) : MtL l d g yX9_newName cX9_newName 1 2 49 [.ref g.1] S o :=
  mr_metL (by decide) rfl (Nat.le_of_ble_eq_true rfl) (fun p e s m args below meth c ls C hR hl => wfM_newName C ⟨Nat.le_refl _, Nat.le_refl _⟩  S s.heap [] ls hf hR va_S.rf hl)
def fM_toldDemand (N : Nat)  (S : Ms) : Option (Ms) := ck (mF S 12) 2 (ck (mF S 12) 2 (if (mA S 35 (mF S 12 : Int32).toNatClampNeg) = 20 then ((fM_wrong N 5 S).bind fun o34 => some o34) else ((fM_newName N (pF S 7 ((mF S 7) + 1))).bind fun o54 => ck ((20 * (mF S 12)) + (mA S 35 (mF S 12 : Int32).toNatClampNeg)) 40 (ck ((20 * (mF S 12)) + (mA S 35 (mF S 12 : Int32).toNatClampNeg)) 40 ((fG_block N  (pA (pF (pF (pL o54.2 36 ((20 * (mF S 12)) + (mA S 35 (mF S 12 : Int32).toNatClampNeg) : Int32).toNatClampNeg o54.1) 49 (-1)) 50 0) 37 ((20 * (mF S 12)) + (mA S 35 (mF S 12 : Int32).toNatClampNeg) : Int32).toNatClampNeg ((mF (pF (pF (pL o54.2 36 ((20 * (mF S 12)) + (mA S 35 (mF S 12 : Int32).toNatClampNeg) : Int32).toNatClampNeg o54.1) 49 (-1)) 50 0) 42) + (mF (pF (pF (pL o54.2 36 ((20 * (mF S 12)) + (mA S 35 (mF S 12 : Int32).toNatClampNeg) : Int32).toNatClampNeg o54.1) 49 (-1)) 50 0) 38)))).bind fun o84 => (fM_emit N 0 0 0 o84).bind fun o91 => ck (mF o91.2 12) 2 (ck (mF o91.2 12) 2 (some (pA o91.2 35 (mF o91.2 12 : Int32).toNatClampNeg ((mA o91.2 35 (mF o91.2 12 : Int32).toNatClampNeg) + 1)))))))))
set_option maxRecDepth 100000 in
set_option maxHeartbeats 4000000 in
theorem wfM_toldDemand {p : Program} {l : Launch} {e : Env} {R : Room} {s : State} {m : MethodId} {args : Array Value} {below : List Frame} {meth : Method} {c : Code} {d : Dd} {g : Gm} {o : Ms} {N : Nat} (C : CM p s m args meth c d g cX9_toldDemand 2 none) (hRm : 151 ≤ R.frames ∧ 8879 ≤ R.locals)  (S : Ms) (H : Heap) (locs : List Loc) (ls : Array Slot) (hf : fM_toldDemand N  S = some o) (hR : RM d g S H) (hS : va_S (AM g) s.heap H locs) (hl : lv_has ls 2 [(0, .ref g.1)]) : W p l e R s m args below meth c H locs 0 0 (MQ below (QV d g o) args s 0 0 (AM g)) (F0 m 0 ls []) := by
  obtain ⟨hx, hb, hml, hown, hts, hK, hg, hr, hlk⟩ := id C
  unfold fM_toldDemand at hf
  refine lv_bipush (v := 20) hx hb dX9_toldDemand_0 (by decide) ?_
  refine lv_aload_n hx hb dX9_toldDemand_2 rfl (lv_at hl 0 rfl) ?_
  refine mr_getI C hR fl_297 rfl dX9_toldDemand_3 ?_
  refine lv_imul hx hb dX9_toldDemand_6 ?_
  refine lv_aload_n hx hb dX9_toldDemand_7 rfl (lv_at hl 0 rfl) ?_
  refine mr_getR C hR fl_110 (by decide) dX9_toldDemand_8 ?_
  refine lv_aload_n hx hb dX9_toldDemand_11 rfl (lv_at hl 0 rfl) ?_
  refine mr_getI C hR fl_297 rfl dX9_toldDemand_12 ?_
  obtain ⟨hi, hf⟩ := ck_some hf
  refine mr_iald C hR (k := 35) rfl hi dX9_toldDemand_15 ?_
  refine lv_iadd hx hb dX9_toldDemand_16 ?_
  refine lv_istore_n (lv' := [(1, .int ((20 * (mF S 12)) + (mA S 35 (mF S 12 : Int32).toNatClampNeg))), (0, .ref g.1)]) hx hb dX9_toldDemand_17 rfl hl (by decide) rfl (fun ls hl => ?_)
  refine lv_aload_n hx hb dX9_toldDemand_18 rfl (lv_at hl 1 rfl) ?_
  refine mr_getR C hR fl_110 (by decide) dX9_toldDemand_19 ?_
  refine lv_aload_n hx hb dX9_toldDemand_22 rfl (lv_at hl 1 rfl) ?_
  refine mr_getI C hR fl_297 rfl dX9_toldDemand_23 ?_
  obtain ⟨hi, hf⟩ := ck_some hf
  refine mr_iald C hR (k := 35) rfl hi dX9_toldDemand_26 ?_
  refine lv_bipush (v := 20) hx hb dX9_toldDemand_27 (by decide) ?_
  refine lv_icmp_ne (tgt := 38) hx hb dX9_toldDemand_29 (by decide) (fun hc => ?_) (fun hc => ?_)
  · rw [if_neg hc] at hf
    refine lv_aload_n hx hb dX9_toldDemand_38 rfl (lv_at hl 1 rfl) ?_
    refine lv_dup hx hb dX9_toldDemand_39 rfl ?_
    refine mr_getI C hR fl_278 rfl dX9_toldDemand_40 ?_
    refine lv_iconst (v := 1) hx hb dX9_toldDemand_43 (by decide) ?_
    refine lv_iadd hx hb dX9_toldDemand_44 ?_
    refine mr_putI C hR hS fl_278 ⟨rfl, rfl, rfl⟩ dX9_toldDemand_45 (fun H locs hR hS => ?_)
    refine lv_aload_n hx hb dX9_toldDemand_48 rfl (lv_at hl 1 rfl) ?_
    refine mr_getR C hR fl_113 (by decide) dX9_toldDemand_49 ?_
    refine lv_iload_n hx hb dX9_toldDemand_52 rfl (lv_at hl 0 rfl) ?_
    refine lv_aload_n hx hb dX9_toldDemand_53 rfl (lv_at hl 1 rfl) ?_
    obtain ⟨o54, ho54, hf⟩ := bnd_some hf
    refine mr_callLv C hR hS (As := []) (rest := [.int ((20 * (mF S 12)) + (mA S 35 (mF S 12 : Int32).toNatClampNeg)), .ref (g.2 36)]) (MM_newName l d g N  (pF S 7 ((mF S 7) + 1)) o54 ho54) wv_345 ⟨by omega, by omega⟩ rfl rfl (Nat.le_of_ble_eq_true rfl) hl.1 dX9_toldDemand_54 ⟨Nat.zero_le _, Nat.zero_le _⟩ (fun H locs hR hS => ?_)
    obtain ⟨hi, hf⟩ := ck_some hf
    refine mr_last C hR hS (k := 36) rfl hi dX9_toldDemand_57 (fun H locs hR hS => ?_)
    refine lv_aload_n hx hb dX9_toldDemand_58 rfl (lv_at hl 1 rfl) ?_
    refine lv_iconst (v := (-1)) hx hb dX9_toldDemand_59 (by decide) ?_
    refine mr_putI C hR hS fl_370 ⟨rfl, rfl, rfl⟩ dX9_toldDemand_60 (fun H locs hR hS => ?_)
    refine lv_aload_n hx hb dX9_toldDemand_63 rfl (lv_at hl 1 rfl) ?_
    refine lv_iconst (v := 0) hx hb dX9_toldDemand_64 (by decide) ?_
    refine mr_putI C hR hS fl_373 ⟨rfl, rfl, rfl⟩ dX9_toldDemand_65 (fun H locs hR hS => ?_)
    refine lv_aload_n hx hb dX9_toldDemand_68 rfl (lv_at hl 1 rfl) ?_
    refine mr_getR C hR fl_116 (by decide) dX9_toldDemand_69 ?_
    refine lv_iload_n hx hb dX9_toldDemand_72 rfl (lv_at hl 0 rfl) ?_
    refine lv_aload_n hx hb dX9_toldDemand_73 rfl (lv_at hl 1 rfl) ?_
    refine mr_getI C hR fl_313 rfl dX9_toldDemand_74 ?_
    refine lv_aload_n hx hb dX9_toldDemand_77 rfl (lv_at hl 1 rfl) ?_
    refine mr_getI C hR fl_310 rfl dX9_toldDemand_78 ?_
    refine lv_iadd hx hb dX9_toldDemand_81 ?_
    obtain ⟨hi, hf⟩ := ck_some hf
    refine mr_iast C hR hS (k := 37) rfl hi dX9_toldDemand_82 (fun H locs hR hS => ?_)
    refine lv_aload_n hx hb dX9_toldDemand_83 rfl (lv_at hl 1 rfl) ?_
    obtain ⟨o84, ho84, hf⟩ := bnd_some hf
    refine mr_callVv C hR hS (As := []) (rest := []) (MG_block l d g N  (pA (pF (pF (pL o54.2 36 ((20 * (mF S 12)) + (mA S 35 (mF S 12 : Int32).toNatClampNeg) : Int32).toNatClampNeg o54.1) 49 (-1)) 50 0) 37 ((20 * (mF S 12)) + (mA S 35 (mF S 12 : Int32).toNatClampNeg) : Int32).toNatClampNeg ((mF (pF (pF (pL o54.2 36 ((20 * (mF S 12)) + (mA S 35 (mF S 12 : Int32).toNatClampNeg) : Int32).toNatClampNeg o54.1) 49 (-1)) 50 0) 42) + (mF (pF (pF (pL o54.2 36 ((20 * (mF S 12)) + (mA S 35 (mF S 12 : Int32).toNatClampNeg) : Int32).toNatClampNeg o54.1) 49 (-1)) 50 0) 38))) o84 ho84) wv_383 ⟨by omega, by omega⟩ rfl rfl (Nat.le_of_ble_eq_true rfl) hl.1 dX9_toldDemand_84 ⟨Nat.zero_le _, Nat.zero_le _⟩ (fun H locs hR hS => ?_)
    refine lv_aload_n hx hb dX9_toldDemand_87 rfl (lv_at hl 1 rfl) ?_
    refine lv_iconst (v := 0) hx hb dX9_toldDemand_88 (by decide) ?_
    refine lv_iconst (v := 0) hx hb dX9_toldDemand_89 (by decide) ?_
    refine lv_iconst (v := 0) hx hb dX9_toldDemand_90 (by decide) ?_
    obtain ⟨o91, ho91, hf⟩ := bnd_some hf
    refine mr_callIv C hR hS (As := [.int 0, .int 0, .int 0]) (rest := []) (MM_emit l d g N 0 0 0 o84 o91 ho91) wv_379 ⟨by omega, by omega⟩ rfl rfl (Nat.le_of_ble_eq_true rfl) hl.1 dX9_toldDemand_91 ⟨Nat.zero_le _, Nat.zero_le _⟩ (fun H locs hR hS => ?_)
    refine lv_pop hx hb dX9_toldDemand_94 rfl ?_
    refine lv_aload_n hx hb dX9_toldDemand_95 rfl (lv_at hl 1 rfl) ?_
    refine mr_getR C hR fl_110 (by decide) dX9_toldDemand_96 ?_
    refine lv_aload_n hx hb dX9_toldDemand_99 rfl (lv_at hl 1 rfl) ?_
    refine mr_getI C hR fl_297 rfl dX9_toldDemand_100 ?_
    refine lv_dup2_11 hx hb dX9_toldDemand_103 rfl rfl ?_
    obtain ⟨hi, hf⟩ := ck_some hf
    refine mr_iald C hR (k := 35) rfl hi dX9_toldDemand_104 ?_
    refine lv_iconst (v := 1) hx hb dX9_toldDemand_105 (by decide) ?_
    refine lv_iadd hx hb dX9_toldDemand_106 ?_
    obtain ⟨hi, hf⟩ := ck_some hf
    refine mr_iast C hR hS (k := 35) rfl hi dX9_toldDemand_107 (fun H locs hR hS => ?_)
    exact mr_vret C hR hS hf dX9_toldDemand_108
  · rw [if_pos hc] at hf
    refine lv_aload_n hx hb dX9_toldDemand_32 rfl (lv_at hl 1 rfl) ?_
    refine lv_iconst (v := 5) hx hb dX9_toldDemand_33 (by decide) ?_
    obtain ⟨o34, ho34, hf⟩ := bnd_some hf
    refine mr_callVv C hR hS (As := [.int 5]) (rest := []) (MM_wrong l d g N 5 S o34 ho34) wv_287 ⟨by omega, by omega⟩ rfl rfl (Nat.le_of_ble_eq_true rfl) hl.1 dX9_toldDemand_34 ⟨Nat.zero_le _, Nat.zero_le _⟩ (fun H locs hR hS => ?_)
    exact mr_vret C hR hS hf dX9_toldDemand_37
theorem MM_toldDemand (l : Launch) (d : Dd) (g : Gm) (N : Nat)  (S : Ms) (o : Ms) (hf : fM_toldDemand N  S = some o) : MtV l d g yX9_toldDemand cX9_toldDemand 2 151 8879 [.ref g.1] S o :=
  mr_metV (by decide) rfl (Nat.le_of_ble_eq_true rfl) (fun p e s m args below meth c ls C hR hl => wfM_toldDemand C ⟨Nat.le_refl _, Nat.le_refl _⟩  S s.heap [] ls hf hR va_S.rf hl)
def fM_toldDevice (N : Nat)  (S : Ms) : Option (Ms) := ck (mF S 12) 2 (ck (mF S 12) 2 (if (mA S 13 (mF S 12 : Int32).toNatClampNeg) = 24 then ((fM_wrong N 5 S).bind fun o34 => some o34) else ((fM_newName N (pF S 7 ((mF S 7) + 1))).bind fun o54 => ck ((24 * (mF S 12)) + (mA S 13 (mF S 12 : Int32).toNatClampNeg)) 48 ((fM_takeWord N 1 (pL o54.2 14 ((24 * (mF S 12)) + (mA S 13 (mF S 12 : Int32).toNatClampNeg) : Int32).toNatClampNeg o54.1)).bind fun o60 => (fM_takeNumber N 0 999999999 o60).bind fun o73 => ck ((24 * (mF S 12)) + (mA S 13 (mF S 12 : Int32).toNatClampNeg)) 48 ((fM_takeWord N 2 (pA o73.2 15 ((24 * (mF S 12)) + (mA S 13 (mF S 12 : Int32).toNatClampNeg) : Int32).toNatClampNeg o73.1)).bind fun o79 => ck ((24 * (mF S 12)) + (mA S 13 (mF S 12 : Int32).toNatClampNeg)) 48 ((fM_takeNumber N (mA o79 15 ((24 * (mF S 12)) + (mA S 13 (mF S 12 : Int32).toNatClampNeg) : Int32).toNatClampNeg) 999999999 o79).bind fun o97 => ck ((24 * (mF S 12)) + (mA S 13 (mF S 12 : Int32).toNatClampNeg)) 48 ((fM_takeWord N 3 (pA o97.2 16 ((24 * (mF S 12)) + (mA S 13 (mF S 12 : Int32).toNatClampNeg) : Int32).toNatClampNeg o97.1)).bind fun o103 => (fM_takeNumber N 1 999999999 o103).bind fun o116 => ck ((24 * (mF S 12)) + (mA S 13 (mF S 12 : Int32).toNatClampNeg)) 48 ((fM_takeSign N 59 (pA o116.2 17 ((24 * (mF S 12)) + (mA S 13 (mF S 12 : Int32).toNatClampNeg) : Int32).toNatClampNeg o116.1)).bind fun o123 => ck (mF o123 12) 2 (ck (mF o123 12) 2 (some (pA o123 13 (mF o123 12 : Int32).toNatClampNeg ((mA o123 13 (mF o123 12 : Int32).toNatClampNeg) + 1))))))))))))
set_option maxRecDepth 100000 in
set_option maxHeartbeats 4000000 in
theorem wfM_toldDevice {p : Program} {l : Launch} {e : Env} {R : Room} {s : State} {m : MethodId} {args : Array Value} {below : List Frame} {meth : Method} {c : Code} {d : Dd} {g : Gm} {o : Ms} {N : Nat} (C : CM p s m args meth c d g cX9_toldDevice 2 none) (hRm : 3 ≤ R.frames ∧ 69 ≤ R.locals)  (S : Ms) (H : Heap) (locs : List Loc) (ls : Array Slot) (hf : fM_toldDevice N  S = some o) (hR : RM d g S H) (hS : va_S (AM g) s.heap H locs) (hl : lv_has ls 2 [(0, .ref g.1)]) : W p l e R s m args below meth c H locs 0 0 (MQ below (QV d g o) args s 0 0 (AM g)) (F0 m 0 ls []) := by
  obtain ⟨hx, hb, hml, hown, hts, hK, hg, hr, hlk⟩ := id C
  unfold fM_toldDevice at hf
  refine lv_bipush (v := 24) hx hb dX9_toldDevice_0 (by decide) ?_
  refine lv_aload_n hx hb dX9_toldDevice_2 rfl (lv_at hl 0 rfl) ?_
  refine mr_getI C hR fl_297 rfl dX9_toldDevice_3 ?_
  refine lv_imul hx hb dX9_toldDevice_6 ?_
  refine lv_aload_n hx hb dX9_toldDevice_7 rfl (lv_at hl 0 rfl) ?_
  refine mr_getR C hR fl_43 (by decide) dX9_toldDevice_8 ?_
  refine lv_aload_n hx hb dX9_toldDevice_11 rfl (lv_at hl 0 rfl) ?_
  refine mr_getI C hR fl_297 rfl dX9_toldDevice_12 ?_
  obtain ⟨hi, hf⟩ := ck_some hf
  refine mr_iald C hR (k := 13) rfl hi dX9_toldDevice_15 ?_
  refine lv_iadd hx hb dX9_toldDevice_16 ?_
  refine lv_istore_n (lv' := [(1, .int ((24 * (mF S 12)) + (mA S 13 (mF S 12 : Int32).toNatClampNeg))), (0, .ref g.1)]) hx hb dX9_toldDevice_17 rfl hl (by decide) rfl (fun ls hl => ?_)
  refine lv_aload_n hx hb dX9_toldDevice_18 rfl (lv_at hl 1 rfl) ?_
  refine mr_getR C hR fl_43 (by decide) dX9_toldDevice_19 ?_
  refine lv_aload_n hx hb dX9_toldDevice_22 rfl (lv_at hl 1 rfl) ?_
  refine mr_getI C hR fl_297 rfl dX9_toldDevice_23 ?_
  obtain ⟨hi, hf⟩ := ck_some hf
  refine mr_iald C hR (k := 13) rfl hi dX9_toldDevice_26 ?_
  refine lv_bipush (v := 24) hx hb dX9_toldDevice_27 (by decide) ?_
  refine lv_icmp_ne (tgt := 38) hx hb dX9_toldDevice_29 (by decide) (fun hc => ?_) (fun hc => ?_)
  · rw [if_neg hc] at hf
    refine lv_aload_n hx hb dX9_toldDevice_38 rfl (lv_at hl 1 rfl) ?_
    refine lv_dup hx hb dX9_toldDevice_39 rfl ?_
    refine mr_getI C hR fl_278 rfl dX9_toldDevice_40 ?_
    refine lv_iconst (v := 1) hx hb dX9_toldDevice_43 (by decide) ?_
    refine lv_iadd hx hb dX9_toldDevice_44 ?_
    refine mr_putI C hR hS fl_278 ⟨rfl, rfl, rfl⟩ dX9_toldDevice_45 (fun H locs hR hS => ?_)
    refine lv_aload_n hx hb dX9_toldDevice_48 rfl (lv_at hl 1 rfl) ?_
    refine mr_getR C hR fl_46 (by decide) dX9_toldDevice_49 ?_
    refine lv_iload_n hx hb dX9_toldDevice_52 rfl (lv_at hl 0 rfl) ?_
    refine lv_aload_n hx hb dX9_toldDevice_53 rfl (lv_at hl 1 rfl) ?_
    obtain ⟨o54, ho54, hf⟩ := bnd_some hf
    refine mr_callLv C hR hS (As := []) (rest := [.int ((24 * (mF S 12)) + (mA S 13 (mF S 12 : Int32).toNatClampNeg)), .ref (g.2 14)]) (MM_newName l d g N  (pF S 7 ((mF S 7) + 1)) o54 ho54) wv_345 ⟨by omega, by omega⟩ rfl rfl (Nat.le_of_ble_eq_true rfl) hl.1 dX9_toldDevice_54 ⟨Nat.zero_le _, Nat.zero_le _⟩ (fun H locs hR hS => ?_)
    obtain ⟨hi, hf⟩ := ck_some hf
    refine mr_last C hR hS (k := 14) rfl hi dX9_toldDevice_57 (fun H locs hR hS => ?_)
    refine lv_aload_n hx hb dX9_toldDevice_58 rfl (lv_at hl 1 rfl) ?_
    refine lv_iconst (v := 1) hx hb dX9_toldDevice_59 (by decide) ?_
    obtain ⟨o60, ho60, hf⟩ := bnd_some hf
    refine mr_callVv C hR hS (As := [.int 1]) (rest := []) (MM_takeWord l d g N 1 (pL o54.2 14 ((24 * (mF S 12)) + (mA S 13 (mF S 12 : Int32).toNatClampNeg) : Int32).toNatClampNeg o54.1) o60 ho60) wv_349 ⟨by omega, by omega⟩ rfl rfl (Nat.le_of_ble_eq_true rfl) hl.1 dX9_toldDevice_60 ⟨Nat.zero_le _, Nat.zero_le _⟩ (fun H locs hR hS => ?_)
    refine lv_aload_n hx hb dX9_toldDevice_63 rfl (lv_at hl 1 rfl) ?_
    refine mr_getR C hR fl_49 (by decide) dX9_toldDevice_64 ?_
    refine lv_iload_n hx hb dX9_toldDevice_67 rfl (lv_at hl 0 rfl) ?_
    refine lv_aload_n hx hb dX9_toldDevice_68 rfl (lv_at hl 1 rfl) ?_
    refine lv_iconst (v := 0) hx hb dX9_toldDevice_69 (by decide) ?_
    refine lv_ldcw hx hb hown (hts _ wd_1786) dX9_toldDevice_70 ?_
    obtain ⟨o73, ho73, hf⟩ := bnd_some hf
    refine mr_callIv C hR hS (As := [.int 0, .int 999999999]) (rest := [.int ((24 * (mF S 12)) + (mA S 13 (mF S 12 : Int32).toNatClampNeg)), .ref (g.2 15)]) (MM_takeNumber l d g N 0 999999999 o60 o73 ho73) wv_353 ⟨by omega, by omega⟩ rfl rfl (Nat.le_of_ble_eq_true rfl) hl.1 dX9_toldDevice_73 ⟨Nat.zero_le _, Nat.zero_le _⟩ (fun H locs hR hS => ?_)
    obtain ⟨hi, hf⟩ := ck_some hf
    refine mr_iast C hR hS (k := 15) rfl hi dX9_toldDevice_76 (fun H locs hR hS => ?_)
    refine lv_aload_n hx hb dX9_toldDevice_77 rfl (lv_at hl 1 rfl) ?_
    refine lv_iconst (v := 2) hx hb dX9_toldDevice_78 (by decide) ?_
    obtain ⟨o79, ho79, hf⟩ := bnd_some hf
    refine mr_callVv C hR hS (As := [.int 2]) (rest := []) (MM_takeWord l d g N 2 (pA o73.2 15 ((24 * (mF S 12)) + (mA S 13 (mF S 12 : Int32).toNatClampNeg) : Int32).toNatClampNeg o73.1) o79 ho79) wv_349 ⟨by omega, by omega⟩ rfl rfl (Nat.le_of_ble_eq_true rfl) hl.1 dX9_toldDevice_79 ⟨Nat.zero_le _, Nat.zero_le _⟩ (fun H locs hR hS => ?_)
    refine lv_aload_n hx hb dX9_toldDevice_82 rfl (lv_at hl 1 rfl) ?_
    refine mr_getR C hR fl_52 (by decide) dX9_toldDevice_83 ?_
    refine lv_iload_n hx hb dX9_toldDevice_86 rfl (lv_at hl 0 rfl) ?_
    refine lv_aload_n hx hb dX9_toldDevice_87 rfl (lv_at hl 1 rfl) ?_
    refine lv_aload_n hx hb dX9_toldDevice_88 rfl (lv_at hl 1 rfl) ?_
    refine mr_getR C hR fl_49 (by decide) dX9_toldDevice_89 ?_
    refine lv_iload_n hx hb dX9_toldDevice_92 rfl (lv_at hl 0 rfl) ?_
    obtain ⟨hi, hf⟩ := ck_some hf
    refine mr_iald C hR (k := 15) rfl hi dX9_toldDevice_93 ?_
    refine lv_ldcw hx hb hown (hts _ wd_1786) dX9_toldDevice_94 ?_
    obtain ⟨o97, ho97, hf⟩ := bnd_some hf
    refine mr_callIv C hR hS (As := [.int (mA o79 15 ((24 * (mF S 12)) + (mA S 13 (mF S 12 : Int32).toNatClampNeg) : Int32).toNatClampNeg), .int 999999999]) (rest := [.int ((24 * (mF S 12)) + (mA S 13 (mF S 12 : Int32).toNatClampNeg)), .ref (g.2 16)]) (MM_takeNumber l d g N (mA o79 15 ((24 * (mF S 12)) + (mA S 13 (mF S 12 : Int32).toNatClampNeg) : Int32).toNatClampNeg) 999999999 o79 o97 ho97) wv_353 ⟨by omega, by omega⟩ rfl rfl (Nat.le_of_ble_eq_true rfl) hl.1 dX9_toldDevice_97 ⟨Nat.zero_le _, Nat.zero_le _⟩ (fun H locs hR hS => ?_)
    obtain ⟨hi, hf⟩ := ck_some hf
    refine mr_iast C hR hS (k := 16) rfl hi dX9_toldDevice_100 (fun H locs hR hS => ?_)
    refine lv_aload_n hx hb dX9_toldDevice_101 rfl (lv_at hl 1 rfl) ?_
    refine lv_iconst (v := 3) hx hb dX9_toldDevice_102 (by decide) ?_
    obtain ⟨o103, ho103, hf⟩ := bnd_some hf
    refine mr_callVv C hR hS (As := [.int 3]) (rest := []) (MM_takeWord l d g N 3 (pA o97.2 16 ((24 * (mF S 12)) + (mA S 13 (mF S 12 : Int32).toNatClampNeg) : Int32).toNatClampNeg o97.1) o103 ho103) wv_349 ⟨by omega, by omega⟩ rfl rfl (Nat.le_of_ble_eq_true rfl) hl.1 dX9_toldDevice_103 ⟨Nat.zero_le _, Nat.zero_le _⟩ (fun H locs hR hS => ?_)
    refine lv_aload_n hx hb dX9_toldDevice_106 rfl (lv_at hl 1 rfl) ?_
    refine mr_getR C hR fl_55 (by decide) dX9_toldDevice_107 ?_
    refine lv_iload_n hx hb dX9_toldDevice_110 rfl (lv_at hl 0 rfl) ?_
    refine lv_aload_n hx hb dX9_toldDevice_111 rfl (lv_at hl 1 rfl) ?_
    refine lv_iconst (v := 1) hx hb dX9_toldDevice_112 (by decide) ?_
    refine lv_ldcw hx hb hown (hts _ wd_1786) dX9_toldDevice_113 ?_
    obtain ⟨o116, ho116, hf⟩ := bnd_some hf
    refine mr_callIv C hR hS (As := [.int 1, .int 999999999]) (rest := [.int ((24 * (mF S 12)) + (mA S 13 (mF S 12 : Int32).toNatClampNeg)), .ref (g.2 17)]) (MM_takeNumber l d g N 1 999999999 o103 o116 ho116) wv_353 ⟨by omega, by omega⟩ rfl rfl (Nat.le_of_ble_eq_true rfl) hl.1 dX9_toldDevice_116 ⟨Nat.zero_le _, Nat.zero_le _⟩ (fun H locs hR hS => ?_)
    obtain ⟨hi, hf⟩ := ck_some hf
    refine mr_iast C hR hS (k := 17) rfl hi dX9_toldDevice_119 (fun H locs hR hS => ?_)
    refine lv_aload_n hx hb dX9_toldDevice_120 rfl (lv_at hl 1 rfl) ?_
    refine lv_bipush (v := 59) hx hb dX9_toldDevice_121 (by decide) ?_
    obtain ⟨o123, ho123, hf⟩ := bnd_some hf
    refine mr_callVv C hR hS (As := [.int 59]) (rest := []) (MM_takeSign l d g N 59 (pA o116.2 17 ((24 * (mF S 12)) + (mA S 13 (mF S 12 : Int32).toNatClampNeg) : Int32).toNatClampNeg o116.1) o123 ho123) wv_357 ⟨by omega, by omega⟩ rfl rfl (Nat.le_of_ble_eq_true rfl) hl.1 dX9_toldDevice_123 ⟨Nat.zero_le _, Nat.zero_le _⟩ (fun H locs hR hS => ?_)
    refine lv_aload_n hx hb dX9_toldDevice_126 rfl (lv_at hl 1 rfl) ?_
    refine mr_getR C hR fl_43 (by decide) dX9_toldDevice_127 ?_
    refine lv_aload_n hx hb dX9_toldDevice_130 rfl (lv_at hl 1 rfl) ?_
    refine mr_getI C hR fl_297 rfl dX9_toldDevice_131 ?_
    refine lv_dup2_11 hx hb dX9_toldDevice_134 rfl rfl ?_
    obtain ⟨hi, hf⟩ := ck_some hf
    refine mr_iald C hR (k := 13) rfl hi dX9_toldDevice_135 ?_
    refine lv_iconst (v := 1) hx hb dX9_toldDevice_136 (by decide) ?_
    refine lv_iadd hx hb dX9_toldDevice_137 ?_
    obtain ⟨hi, hf⟩ := ck_some hf
    refine mr_iast C hR hS (k := 13) rfl hi dX9_toldDevice_138 (fun H locs hR hS => ?_)
    exact mr_vret C hR hS hf dX9_toldDevice_139
  · rw [if_pos hc] at hf
    refine lv_aload_n hx hb dX9_toldDevice_32 rfl (lv_at hl 1 rfl) ?_
    refine lv_iconst (v := 5) hx hb dX9_toldDevice_33 (by decide) ?_
    obtain ⟨o34, ho34, hf⟩ := bnd_some hf
    refine mr_callVv C hR hS (As := [.int 5]) (rest := []) (MM_wrong l d g N 5 S o34 ho34) wv_287 ⟨by omega, by omega⟩ rfl rfl (Nat.le_of_ble_eq_true rfl) hl.1 dX9_toldDevice_34 ⟨Nat.zero_le _, Nat.zero_le _⟩ (fun H locs hR hS => ?_)
    exact mr_vret C hR hS hf dX9_toldDevice_37
theorem MM_toldDevice (l : Launch) (d : Dd) (g : Gm) (N : Nat)  (S : Ms) (o : Ms) (hf : fM_toldDevice N  S = some o) : MtV l d g yX9_toldDevice cX9_toldDevice 2 3 69 [.ref g.1] S o :=
  mr_metV (by decide) rfl (Nat.le_of_ble_eq_true rfl) (fun p e s m args below meth c ls C hR hl => wfM_toldDevice C ⟨Nat.le_refl _, Nat.le_refl _⟩  S s.heap [] ls hf hR va_S.rf hl)
