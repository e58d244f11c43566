def bT_X3_readUnit_157 (N : Nat) (r74 : Nat → Nat → Int32 → Ka → Cm → Option ((Ka × Cm) ⊕ (Ka × Cm))) (k163 : Nat → Nat → Ka → Cm → Option ((Ka × Cm) ⊕ (Ka × Cm))) (x0 : Nat) (x1 : Nat) (x2 : Int32) (K : Ka) (M : Cm) : Option ((Ka × Cm) ⊕ (Ka × Cm)) := r74 x0 x1 (x2 + 1) K M
theorem mbT_X3_readUnit_157 {o : (Ka × Cm) ⊕ (Ka × Cm)} {N : Nat} {r74 : Nat → Nat → Int32 → Ka → Cm → Option ((Ka × Cm) ⊕ (Ka × Cm))} {k163 : Nat → Nat → Ka → Cm → Option ((Ka × Cm) ⊕ (Ka × Cm))} (mr74 : ∀ (x0 : Nat) (x1 : Nat) (x2 : Int32) (K : Ka) (M : Cm) , r74 x0 x1 x2 K M = some o → KLe K (oK sV o)) (mk163 : ∀ (x0 : Nat) (x1 : Nat) (K : Ka) (M : Cm) , k163 x0 x1 K M = some o → KLe K (oK sV o)) (x0 : Nat) (x1 : Nat) (x2 : Int32) (K : Ka) (M : Cm) (hf : bT_X3_readUnit_157 N r74 k163 x0 x1 x2 K M = some o) : KLe K (oK sV o) := by
  unfold bT_X3_readUnit_157 at hf
  exact mr74 _ _ _ _ _ hf
set_option maxRecDepth 100000 in
set_option maxHeartbeats 4000000 in
theorem wbT_X3_readUnit_157 {p : Program} {l : Launch} {e : Env} {R : Room} {s : State} {m : MethodId} {args : Array Value} {below : List Frame} {meth : Method} {c : Code} {x : Xc} {K0 : Ka} {o : (Ka × Cm) ⊕ (Ka × Cm)} {N : Nat} {r74 : Nat → Nat → Int32 → Ka → Cm → Option ((Ka × Cm) ⊕ (Ka × Cm))} {k163 : Nat → Nat → Ka → Cm → Option ((Ka × Cm) ⊕ (Ka × Cm))} (CTX : CT p l s m args meth c x K0 RX3 "readUnit" cX3_readUnit 3 none) (hRm : 162 ≤ R.frames ∧ 9231 ≤ R.locals) (hRc : nz sV K0 o ≤ R.cells ∧ nu sV K0 o ≤ R.slots) (mr74 : ∀ (x0 : Nat) (x1 : Nat) (x2 : Int32) (K : Ka) (M : Cm) , r74 x0 x1 x2 K M = some o → KLe K (oK sV o)) (mk163 : ∀ (x0 : Nat) (x1 : Nat) (K : Ka) (M : Cm) , k163 x0 x1 K M = some o → KLe K (oK sV o)) (hr74 : ∀ (x0 : Nat) (x1 : Nat) (x2 : Int32) (K : Ka) (M : Cm) (H : Heap) (locs : List Loc) (ls : Array Slot), r74 x0 x1 x2 K M = some o → KLe K0 K → RC x K M H → va_S (AC K0) s.heap H locs → lv_has ls 3 [(0, .ref x0), (1, .ref x1), (2, .int x2)] → W p l e R s m args below meth c H locs (kz K - kz K0) (ku K - ku K0) (TQ sV (aQV x K0) (zQV K0) "java/lang/IllegalStateException" x K0 below args s o) (F0 m 74 ls [])) (hk163 : ∀ (x0 : Nat) (x1 : Nat) (K : Ka) (M : Cm) (H : Heap) (locs : List Loc) (ls : Array Slot), k163 x0 x1 K M = some o → KLe K0 K → RC x K M H → va_S (AC K0) s.heap H locs → lv_has ls 3 [(0, .ref x0), (1, .ref x1)] → W p l e R s m args below meth c H locs (kz K - kz K0) (ku K - ku K0) (TQ sV (aQV x K0) (zQV K0) "java/lang/IllegalStateException" x K0 below args s o) (F0 m 163 ls [])) (x0 : Nat) (x1 : Nat) (x2 : Int32) (K : Ka) (M : Cm) (H : Heap) (locs : List Loc) (ls : Array Slot) (hf : bT_X3_readUnit_157 N r74 k163 x0 x1 x2 K M = some o) (hL : KLe K0 K) (hR : RC x K M H) (hS : va_S (AC K0) s.heap H locs) (hl : lv_has ls 3 [(0, .ref x0), (1, .ref x1), (2, .int x2)]) : W p l e R s m args below meth c H locs (kz K - kz K0) (ku K - ku K0) (TQ sV (aQV x K0) (zQV K0) "java/lang/IllegalStateException" x K0 below args s o) (F0 m 157 ls []) := by
  obtain ⟨CX, hno, hlt, hmn⟩ := id CTX
  obtain ⟨hx, hb, hml, hown, hts, hE, hB, hr, hlk⟩ := id CX
  have hcs := nz_le (mbT_X3_readUnit_157 mr74 mk163 x0 x1 x2 K M hf) hRc
  unfold bT_X3_readUnit_157 at hf
  refine lv_iinc (v := x2 + 1) (lv' := [(2, .int (x2 + 1)), (0, .ref x0), (1, .ref x1)]) hx hb dX3_readUnit_157 hl (k := 2) rfl rfl (by decide) rfl (fun ls hl => ?_)
  refine lv_goto (tgt := 74) hx hb dX3_readUnit_160 (by decide) ?_
  exact hr74 _ _ _ _ _ _ _ _ hf hL hR hS (lv_sub hl [1, 2, 0] rfl)
def bT_X3_readUnit_141 (N : Nat) (r74 : Nat → Nat → Int32 → Ka → Cm → Option ((Ka × Cm) ⊕ (Ka × Cm))) (k163 : Nat → Nat → Ka → Cm → Option ((Ka × Cm) ⊕ (Ka × Cm))) (x0 : Nat) (x1 : Nat) (x2 : Int32) (K : Ka) (M : Cm) : Option ((Ka × Cm) ⊕ (Ka × Cm)) := (bT_X3_readUnit_157 N r74 k163) x0 x1 x2 K M
theorem mbT_X3_readUnit_141 {o : (Ka × Cm) ⊕ (Ka × Cm)} {N : Nat} {r74 : Nat → Nat → Int32 → Ka → Cm → Option ((Ka × Cm) ⊕ (Ka × Cm))} {k163 : Nat → Nat → Ka → Cm → Option ((Ka × Cm) ⊕ (Ka × Cm))} (mr74 : ∀ (x0 : Nat) (x1 : Nat) (x2 : Int32) (K : Ka) (M : Cm) , r74 x0 x1 x2 K M = some o → KLe K (oK sV o)) (mk163 : ∀ (x0 : Nat) (x1 : Nat) (K : Ka) (M : Cm) , k163 x0 x1 K M = some o → KLe K (oK sV o)) (x0 : Nat) (x1 : Nat) (x2 : Int32) (K : Ka) (M : Cm) (hf : bT_X3_readUnit_141 N r74 k163 x0 x1 x2 K M = some o) : KLe K (oK sV o) := by
  unfold bT_X3_readUnit_141 at hf
  exact (mbT_X3_readUnit_157 mr74 mk163) _ _ _ _ _ hf
set_option maxRecDepth 100000 in
set_option maxHeartbeats 4000000 in
theorem wbT_X3_readUnit_141 {p : Program} {l : Launch} {e : Env} {R : Room} {s : State} {m : MethodId} {args : Array Value} {below : List Frame} {meth : Method} {c : Code} {x : Xc} {K0 : Ka} {o : (Ka × Cm) ⊕ (Ka × Cm)} {N : Nat} {r74 : Nat → Nat → Int32 → Ka → Cm → Option ((Ka × Cm) ⊕ (Ka × Cm))} {k163 : Nat → Nat → Ka → Cm → Option ((Ka × Cm) ⊕ (Ka × Cm))} (CTX : CT p l s m args meth c x K0 RX3 "readUnit" cX3_readUnit 3 none) (hRm : 162 ≤ R.frames ∧ 9231 ≤ R.locals) (hRc : nz sV K0 o ≤ R.cells ∧ nu sV K0 o ≤ R.slots) (mr74 : ∀ (x0 : Nat) (x1 : Nat) (x2 : Int32) (K : Ka) (M : Cm) , r74 x0 x1 x2 K M = some o → KLe K (oK sV o)) (mk163 : ∀ (x0 : Nat) (x1 : Nat) (K : Ka) (M : Cm) , k163 x0 x1 K M = some o → KLe K (oK sV o)) (hr74 : ∀ (x0 : Nat) (x1 : Nat) (x2 : Int32) (K : Ka) (M : Cm) (H : Heap) (locs : List Loc) (ls : Array Slot), r74 x0 x1 x2 K M = some o → KLe K0 K → RC x K M H → va_S (AC K0) s.heap H locs → lv_has ls 3 [(0, .ref x0), (1, .ref x1), (2, .int x2)] → W p l e R s m args below meth c H locs (kz K - kz K0) (ku K - ku K0) (TQ sV (aQV x K0) (zQV K0) "java/lang/IllegalStateException" x K0 below args s o) (F0 m 74 ls [])) (hk163 : ∀ (x0 : Nat) (x1 : Nat) (K : Ka) (M : Cm) (H : Heap) (locs : List Loc) (ls : Array Slot), k163 x0 x1 K M = some o → KLe K0 K → RC x K M H → va_S (AC K0) s.heap H locs → lv_has ls 3 [(0, .ref x0), (1, .ref x1)] → W p l e R s m args below meth c H locs (kz K - kz K0) (ku K - ku K0) (TQ sV (aQV x K0) (zQV K0) "java/lang/IllegalStateException" x K0 below args s o) (F0 m 163 ls [])) (x0 : Nat) (x1 : Nat) (x2 : Int32) (K : Ka) (M : Cm) (H : Heap) (locs : List Loc) (ls : Array Slot) (hf : bT_X3_readUnit_141 N r74 k163 x0 x1 x2 K M = some o) (hL : KLe K0 K) (hR : RC x K M H) (hS : va_S (AC K0) s.heap H locs) (hl : lv_has ls 3 [(0, .ref x0), (1, .ref x1), (2, .int x2)]) : W p l e R s m args below meth c H locs (kz K - kz K0) (ku K - ku K0) (TQ sV (aQV x K0) (zQV K0) "java/lang/IllegalStateException" x K0 below args s o) (F0 m 141 ls []) := by
  obtain ⟨CX, hno, hlt, hmn⟩ := id CTX
  obtain ⟨hx, hb, hml, hown, hts, hE, hB, hr, hlk⟩ := id CX
  have hcs := nz_le (mbT_X3_readUnit_141 mr74 mk163 x0 x1 x2 K M hf) hRc
  unfold bT_X3_readUnit_141 at hf
  refine lv_goto (tgt := 157) hx hb dX3_readUnit_141 (by decide) ?_
  exact (wbT_X3_readUnit_157 CTX hRm hRc mr74 mk163 hr74 hk163) _ _ _ _ _ _ _ _ hf hL hR hS (lv_sub hl [0, 1, 2] rfl)
def bT_X3_readUnit_149 (N : Nat) (r74 : Nat → Nat → Int32 → Ka → Cm → Option ((Ka × Cm) ⊕ (Ka × Cm))) (k163 : Nat → Nat → Ka → Cm → Option ((Ka × Cm) ⊕ (Ka × Cm))) (x0 : Nat) (x1 : Nat) (x2 : Int32) (K : Ka) (M : Cm) : Option ((Ka × Cm) ⊕ (Ka × Cm)) := (bT_X3_readUnit_157 N r74 k163) x0 x1 x2 K M
theorem mbT_X3_readUnit_149 {o : (Ka × Cm) ⊕ (Ka × Cm)} {N : Nat} {r74 : Nat → Nat → Int32 → Ka → Cm → Option ((Ka × Cm) ⊕ (Ka × Cm))} {k163 : Nat → Nat → Ka → Cm → Option ((Ka × Cm) ⊕ (Ka × Cm))} (mr74 : ∀ (x0 : Nat) (x1 : Nat) (x2 : Int32) (K : Ka) (M : Cm) , r74 x0 x1 x2 K M = some o → KLe K (oK sV o)) (mk163 : ∀ (x0 : Nat) (x1 : Nat) (K : Ka) (M : Cm) , k163 x0 x1 K M = some o → KLe K (oK sV o)) (x0 : Nat) (x1 : Nat) (x2 : Int32) (K : Ka) (M : Cm) (hf : bT_X3_readUnit_149 N r74 k163 x0 x1 x2 K M = some o) : KLe K (oK sV o) := by
  unfold bT_X3_readUnit_149 at hf
  exact (mbT_X3_readUnit_157 mr74 mk163) _ _ _ _ _ hf
set_option maxRecDepth 100000 in
set_option maxHeartbeats 4000000 in
theorem wbT_X3_readUnit_149 {p : Program} {l : Launch} {e : Env} {R : Room} {s : State} {m : MethodId} {args : Array Value} {below : List Frame} {meth : Method} {c : Code} {x : Xc} {K0 : Ka} {o : (Ka × Cm) ⊕ (Ka × Cm)} {N : Nat} {r74 : Nat → Nat → Int32 → Ka → Cm → Option ((Ka × Cm) ⊕ (Ka × Cm))} {k163 : Nat → Nat → Ka → Cm → Option ((Ka × Cm) ⊕ (Ka × Cm))} (CTX : CT p l s m args meth c x K0 RX3 "readUnit" cX3_readUnit 3 none) (hRm : 162 ≤ R.frames ∧ 9231 ≤ R.locals) (hRc : nz sV K0 o ≤ R.cells ∧ nu sV K0 o ≤ R.slots) (mr74 : ∀ (x0 : Nat) (x1 : Nat) (x2 : Int32) (K : Ka) (M : Cm) , r74 x0 x1 x2 K M = some o → KLe K (oK sV o)) (mk163 : ∀ (x0 : Nat) (x1 : Nat) (K : Ka) (M : Cm) , k163 x0 x1 K M = some o → KLe K (oK sV o)) (hr74 : ∀ (x0 : Nat) (x1 : Nat) (x2 : Int32) (K : Ka) (M : Cm) (H : Heap) (locs : List Loc) (ls : Array Slot), r74 x0 x1 x2 K M = some o → KLe K0 K → RC x K M H → va_S (AC K0) s.heap H locs → lv_has ls 3 [(0, .ref x0), (1, .ref x1), (2, .int x2)] → W p l e R s m args below meth c H locs (kz K - kz K0) (ku K - ku K0) (TQ sV (aQV x K0) (zQV K0) "java/lang/IllegalStateException" x K0 below args s o) (F0 m 74 ls [])) (hk163 : ∀ (x0 : Nat) (x1 : Nat) (K : Ka) (M : Cm) (H : Heap) (locs : List Loc) (ls : Array Slot), k163 x0 x1 K M = some o → KLe K0 K → RC x K M H → va_S (AC K0) s.heap H locs → lv_has ls 3 [(0, .ref x0), (1, .ref x1)] → W p l e R s m args below meth c H locs (kz K - kz K0) (ku K - ku K0) (TQ sV (aQV x K0) (zQV K0) "java/lang/IllegalStateException" x K0 below args s o) (F0 m 163 ls [])) (x0 : Nat) (x1 : Nat) (x2 : Int32) (K : Ka) (M : Cm) (H : Heap) (locs : List Loc) (ls : Array Slot) (hf : bT_X3_readUnit_149 N r74 k163 x0 x1 x2 K M = some o) (hL : KLe K0 K) (hR : RC x K M H) (hS : va_S (AC K0) s.heap H locs) (hl : lv_has ls 3 [(0, .ref x0), (1, .ref x1), (2, .int x2)]) : W p l e R s m args below meth c H locs (kz K - kz K0) (ku K - ku K0) (TQ sV (aQV x K0) (zQV K0) "java/lang/IllegalStateException" x K0 below args s o) (F0 m 149 ls []) := by
  obtain ⟨CX, hno, hlt, hmn⟩ := id CTX
  obtain ⟨hx, hb, hml, hown, hts, hE, hB, hr, hlk⟩ := id CX
  have hcs := nz_le (mbT_X3_readUnit_149 mr74 mk163 x0 x1 x2 K M hf) hRc
  unfold bT_X3_readUnit_149 at hf
  refine lv_goto (tgt := 157) hx hb dX3_readUnit_149 (by decide) ?_
  exact (wbT_X3_readUnit_157 CTX hRm hRc mr74 mk163 hr74 hk163) _ _ _ _ _ _ _ _ hf hL hR hS (lv_sub hl [0, 1, 2] rfl)
def lT_X3_readUnit_74 (N : Nat) (k163 : Nat → Nat → Ka → Cm → Option ((Ka × Cm) ⊕ (Ka × Cm))) : Nat → Nat → Nat → Int32 → Ka → Cm → Option ((Ka × Cm) ⊕ (Ka × Cm))
  | 0, _, _, _, _, _ => none
  | n + 1, x0, x1, x2, K, M => gd (kd K x0 == 4) (nn (cR M x0 0) fun a1 => gd (kd K a1 == 7) (if (cI M a1 6) ≤ x2 then (k163 x0 x1 K M) else (if (cI M x0 3) = 125 then (k163 x0 x1 K M) else (if (cI M x0 3) = 139 then (k163 x0 x1 K M) else (if (cI M x0 3) = 140 then (tb (fT_X3_readSetting N x0 x1 K M) fun o138 => (bT_X3_readUnit_141 N (lT_X3_readUnit_74 N k163 n) k163) x0 x1 x2 o138.1 o138.2) else if (cI M x0 3) = 141 then (tb (fT_X3_readStatic N x0 x1 K M) fun o146 => (bT_X3_readUnit_149 N (lT_X3_readUnit_74 N k163 n) k163) x0 x1 x2 o146.1 o146.2) else (tb (fGT_X3_readStatement N x0 0 K M) fun o154 => (bT_X3_readUnit_157 N (lT_X3_readUnit_74 N k163 n) k163) x0 x1 x2 o154.1 o154.2))))))
theorem mlT_X3_readUnit_74 {o : (Ka × Cm) ⊕ (Ka × Cm)} {N : Nat} {k163 : Nat → Nat → Ka → Cm → Option ((Ka × Cm) ⊕ (Ka × Cm))} (mk163 : ∀ (x0 : Nat) (x1 : Nat) (K : Ka) (M : Cm) , k163 x0 x1 K M = some o → KLe K (oK sV o)) : ∀ (n : Nat) (x0 : Nat) (x1 : Nat) (x2 : Int32) (K : Ka) (M : Cm), lT_X3_readUnit_74 N k163 n x0 x1 x2 K M = some o → KLe K (oK sV o) := by
  intro n
  induction n with
  | zero => intro x0 x1 x2 K M hf; cases hf
  | succ n ih =>
    intro x0 x1 x2 K M hf
    rw [lT_X3_readUnit_74] at hf
    obtain ⟨-, hf⟩ := gd_some hf
    obtain ⟨a1, -, hf⟩ := nn_some hf
    obtain ⟨-, hf⟩ := gd_some hf
    by_cases hc : (cI M a1 6) ≤ x2
    · rw [if_pos hc] at hf
      exact mk163 _ _ _ _ hf
    · rw [if_neg hc] at hf
      by_cases hc : (cI M x0 3) = 125
      · rw [if_pos hc] at hf
        exact mk163 _ _ _ _ hf
      · rw [if_neg hc] at hf
        by_cases hc : (cI M x0 3) = 139
        · rw [if_pos hc] at hf
          exact mk163 _ _ _ _ hf
        · rw [if_neg hc] at hf
          by_cases hc0 : (cI M x0 3) = 140
          · rw [if_pos hc0] at hf
            rcases tb_some hf with ⟨o138, ho, hf⟩ | ⟨q, ho, rfl⟩
            · exact KLe.tr (mfT_X3_readSetting _ _ _ _ ho) ((mbT_X3_readUnit_141 ih mk163) _ _ _ _ _ hf)
            · exact (mfT_X3_readSetting _ _ _ _ ho)
          · rw [if_neg hc0] at hf
            by_cases hc1 : (cI M x0 3) = 141
            · rw [if_pos hc1] at hf
              rcases tb_some hf with ⟨o146, ho, hf⟩ | ⟨q, ho, rfl⟩
              · exact KLe.tr (mfT_X3_readStatic _ _ _ _ ho) ((mbT_X3_readUnit_149 ih mk163) _ _ _ _ _ hf)
              · exact (mfT_X3_readStatic _ _ _ _ ho)
            · rw [if_neg hc1] at hf
              rcases tb_some hf with ⟨o154, ho, hf⟩ | ⟨q, ho, rfl⟩
              · exact KLe.tr (mGT_X3_readStatement ho) ((mbT_X3_readUnit_157 ih mk163) _ _ _ _ _ hf)
              · exact (mGT_X3_readStatement ho)
set_option maxRecDepth 100000 in
set_option maxHeartbeats 4000000 in
theorem wlT_X3_readUnit_74 {p : Program} {l : Launch} {e : Env} {R : Room} {s : State} {m : MethodId} {args : Array Value} {below : List Frame} {meth : Method} {c : Code} {x : Xc} {K0 : Ka} {o : (Ka × Cm) ⊕ (Ka × Cm)} {N : Nat} {k163 : Nat → Nat → Ka → Cm → Option ((Ka × Cm) ⊕ (Ka × Cm))} (CTX : CT p l s m args meth c x K0 RX3 "readUnit" cX3_readUnit 3 none) (hRm : 162 ≤ R.frames ∧ 9231 ≤ R.locals) (hRc : nz sV K0 o ≤ R.cells ∧ nu sV K0 o ≤ R.slots) (mk163 : ∀ (x0 : Nat) (x1 : Nat) (K : Ka) (M : Cm) , k163 x0 x1 K M = some o → KLe K (oK sV o)) (hk163 : ∀ (x0 : Nat) (x1 : Nat) (K : Ka) (M : Cm) (H : Heap) (locs : List Loc) (ls : Array Slot), k163 x0 x1 K M = some o → KLe K0 K → RC x K M H → va_S (AC K0) s.heap H locs → lv_has ls 3 [(0, .ref x0), (1, .ref x1)] → W p l e R s m args below meth c H locs (kz K - kz K0) (ku K - ku K0) (TQ sV (aQV x K0) (zQV K0) "java/lang/IllegalStateException" x K0 below args s o) (F0 m 163 ls [])) : ∀ (n : Nat) (x0 : Nat) (x1 : Nat) (x2 : Int32) (K : Ka) (M : Cm) (H : Heap) (locs : List Loc) (ls : Array Slot), lT_X3_readUnit_74 N k163 n x0 x1 x2 K M = some o → KLe K0 K → RC x K M H → va_S (AC K0) s.heap H locs → lv_has ls 3 [(0, .ref x0), (1, .ref x1), (2, .int x2)] → W p l e R s m args below meth c H locs (kz K - kz K0) (ku K - ku K0) (TQ sV (aQV x K0) (zQV K0) "java/lang/IllegalStateException" x K0 below args s o) (F0 m 74 ls []) := by
  obtain ⟨CX, hno, hlt, hmn⟩ := id CTX
  obtain ⟨hx, hb, hml, hown, hts, hE, hB, hr, hlk⟩ := id CX
  intro n
  induction n with
  | zero => intro x0 x1 x2 K M H locs ls hf; cases hf
  | succ n ih =>
    intro x0 x1 x2 K M H locs ls hf hL hR hS hl
    have hcs := nz_le (mlT_X3_readUnit_74 mk163 (n + 1) x0 x1 x2 K M hf) hRc
    rw [lT_X3_readUnit_74] at hf
    refine lv_iload_n hx hb dX3_readUnit_74 rfl (lv_at hl 2 rfl) ?_
    refine lv_aload_n hx hb dX3_readUnit_75 rfl (lv_at hl 0 rfl) ?_
    obtain ⟨hk_x0_4, hf⟩ := gd_some hf
    refine cr_getR kc_3 CX hR fa_X3_28 rfl hk_x0_4 dX3_readUnit_76 ?_
    obtain ⟨a1, ha1, hf⟩ := nn_some hf
    refine rf_0 ha1 ?_
    obtain ⟨hk_a1_7, hf⟩ := gd_some hf
    refine cr_getI kc_6 CX hR fa_X3_34 rfl hk_a1_7 dX3_readUnit_79 ?_
    refine lv_icmp_ge (tgt := 163) hx hb dX3_readUnit_82 (by decide) (fun hc => ?_) (fun hc => ?_)
    · rw [if_pos hc] at hf
      exact hk163 _ _ _ _ _ _ _ hf hL hR hS (lv_sub hl [0, 1] rfl)
    · rw [if_neg hc] at hf
      refine lv_aload_n hx hb dX3_readUnit_85 rfl (lv_at hl 0 rfl) ?_
      refine cr_getI kc_3 CX hR fa_X3_19 rfl hk_x0_4 dX3_readUnit_86 ?_
      refine lv_bipush (v := 125) hx hb dX3_readUnit_89 (by decide) ?_
      refine lv_icmp_eq (tgt := 163) hx hb dX3_readUnit_91 (by decide) (fun hc => ?_) (fun hc => ?_)
      · rw [if_pos hc] at hf
        exact hk163 _ _ _ _ _ _ _ hf hL hR hS (lv_sub hl [0, 1] rfl)
      · rw [if_neg hc] at hf
        refine lv_aload_n hx hb dX3_readUnit_94 rfl (lv_at hl 0 rfl) ?_
        refine cr_getI kc_3 CX hR fa_X3_19 rfl hk_x0_4 dX3_readUnit_95 ?_
        refine lv_sipush (v := 139) hx hb dX3_readUnit_98 (by decide) ?_
        refine lv_icmp_eq (tgt := 163) hx hb dX3_readUnit_101 (by decide) (fun hc => ?_) (fun hc => ?_)
        · rw [if_pos hc] at hf
          exact hk163 _ _ _ _ _ _ _ hf hL hR hS (lv_sub hl [0, 1] rfl)
        · rw [if_neg hc] at hf
          refine lv_aload_n hx hb dX3_readUnit_104 rfl (lv_at hl 0 rfl) ?_
          refine cr_getI kc_3 CX hR fa_X3_19 rfl hk_x0_4 dX3_readUnit_105 ?_
          by_cases hc0 : (cI M x0 3) = 140
          · rw [if_pos hc0] at hf
            refine lv_lookup (off := 28) (tgt := 136) hx hb dX3_readUnit_108 (by decide) (by rw [hc0]; decide) (by decide) ?_
            refine lv_aload_n hx hb dX3_readUnit_136 rfl (lv_at hl 0 rfl) ?_
            refine lv_aload_n hx hb dX3_readUnit_137 rfl (lv_at hl 1 rfl) ?_
            rcases tb_some hf with ⟨o138, ho, hf⟩ | ⟨q, ho, rfl⟩
            · have hm1 := (mbT_X3_readUnit_141 (mlT_X3_readUnit_74 mk163 n) mk163) _ _ _ _ _ hf
              have hb1 := nz_le hm1 hRc
              have hq1 := (mfT_X3_readSetting _ _ _ _ ho)
              refine ta_callVv kc_3 CX hL hR hS (As := [.ref x1]) (rest := []) hk_x0_4 (MT_X3_readSetting l x hlt N _ _ _ _ _ ho) cv_X3_164 ⟨by omega, by omega⟩ rfl (Nat.le_of_ble_eq_true rfl) hl.1 hq1 hb1 rfl dX3_readUnit_138 (fun H locs hR hS => ?_)
              exact (wbT_X3_readUnit_141 CTX hRm hRc (mlT_X3_readUnit_74 mk163 n) mk163 ih hk163) _ _ _ _ _ _ _ _ hf (hL.tr hq1) hR hS (lv_sub hl [0, 1, 2] rfl)
            · exact tx_callv kc_3 CTX hL hR hS (As := [.ref x1]) (rest := []) hk_x0_4 (MT_X3_readSetting l x hlt N _ _ _ _ _ ho) cv_X3_164 ⟨by omega, by omega⟩ rfl (Nat.le_of_ble_eq_true rfl) hl.1 (mfT_X3_readSetting _ _ _ _ ho) hRc rfl dX3_readUnit_138
          · rw [if_neg hc0] at hf
            by_cases hc1 : (cI M x0 3) = 141
            · rw [if_pos hc1] at hf
              refine lv_lookup (off := 36) (tgt := 144) hx hb dX3_readUnit_108 (by decide) (by rw [hc1]; decide) (by decide) ?_
              refine lv_aload_n hx hb dX3_readUnit_144 rfl (lv_at hl 0 rfl) ?_
              refine lv_aload_n hx hb dX3_readUnit_145 rfl (lv_at hl 1 rfl) ?_
              rcases tb_some hf with ⟨o146, ho, hf⟩ | ⟨q, ho, rfl⟩
              · have hm1 := (mbT_X3_readUnit_149 (mlT_X3_readUnit_74 mk163 n) mk163) _ _ _ _ _ hf
                have hb1 := nz_le hm1 hRc
                have hq1 := (mfT_X3_readStatic _ _ _ _ ho)
                refine ta_callVv kc_3 CX hL hR hS (As := [.ref x1]) (rest := []) hk_x0_4 (MT_X3_readStatic l x hlt N _ _ _ _ _ ho) cv_X3_167 ⟨by omega, by omega⟩ rfl (Nat.le_of_ble_eq_true rfl) hl.1 hq1 hb1 rfl dX3_readUnit_146 (fun H locs hR hS => ?_)
                exact (wbT_X3_readUnit_149 CTX hRm hRc (mlT_X3_readUnit_74 mk163 n) mk163 ih hk163) _ _ _ _ _ _ _ _ hf (hL.tr hq1) hR hS (lv_sub hl [0, 1, 2] rfl)
              · exact tx_callv kc_3 CTX hL hR hS (As := [.ref x1]) (rest := []) hk_x0_4 (MT_X3_readStatic l x hlt N _ _ _ _ _ ho) cv_X3_167 ⟨by omega, by omega⟩ rfl (Nat.le_of_ble_eq_true rfl) hl.1 (mfT_X3_readStatic _ _ _ _ ho) hRc rfl dX3_readUnit_146
            · rw [if_neg hc1] at hf
              have hn0 := tsw_ne (k := 140) rfl hc0
              have hn1 := tsw_ne (k := 141) rfl hc1
              refine lv_lookup (off := 44) (tgt := 152) hx hb dX3_readUnit_108 (by decide) (by simp only [Op.lookupswitch.offset, List.toList_toArray, Ne.symm hn0, Ne.symm hn1, if_false]) (by decide) ?_
              refine lv_aload_n hx hb dX3_readUnit_152 rfl (lv_at hl 0 rfl) ?_
              refine lv_iconst (v := 0) hx hb dX3_readUnit_153 (by decide) ?_
              rcases tb_some hf with ⟨o154, ho, hf⟩ | ⟨q, ho, rfl⟩
              · have hm1 := (mbT_X3_readUnit_157 (mlT_X3_readUnit_74 mk163 n) mk163) _ _ _ _ _ hf
                have hb1 := nz_le hm1 hRc
                have hq1 := (mGT_X3_readStatement ho)
                refine ta_callVv kc_3 CX hL hR hS (As := [.int 0]) (rest := []) hk_x0_4 (MGT_X3_readStatement l x hlt N _ _ _ _ _ ho) cv_X3_170 ⟨by omega, by omega⟩ rfl (Nat.le_of_ble_eq_true rfl) hl.1 hq1 hb1 rfl dX3_readUnit_154 (fun H locs hR hS => ?_)
                exact (wbT_X3_readUnit_157 CTX hRm hRc (mlT_X3_readUnit_74 mk163 n) mk163 ih hk163) _ _ _ _ _ _ _ _ hf (hL.tr hq1) hR hS (lv_sub hl [0, 1, 2] rfl)
              · exact tx_callv kc_3 CTX hL hR hS (As := [.int 0]) (rest := []) hk_x0_4 (MGT_X3_readStatement l x hlt N _ _ _ _ _ ho) cv_X3_170 ⟨by omega, by omega⟩ rfl (Nat.le_of_ble_eq_true rfl) hl.1 (mGT_X3_readStatement ho) hRc rfl dX3_readUnit_154
def bT_X3_readUnit_230 (N : Nat) (x0 : Nat) (K : Ka) (M : Cm) : Option ((Ka × Cm) ⊕ (Ka × Cm)) := some (.inl (K, M))
theorem mbT_X3_readUnit_230 {o : (Ka × Cm) ⊕ (Ka × Cm)} {N : Nat}  (x0 : Nat) (K : Ka) (M : Cm) (hf : bT_X3_readUnit_230 N x0 K M = some o) : KLe K (oK sV o) := by
  unfold bT_X3_readUnit_230 at hf
  cases hf
  exact KLe.rf _
set_option maxRecDepth 100000 in
set_option maxHeartbeats 4000000 in
theorem wbT_X3_readUnit_230 {p : Program} {l : Launch} {e : Env} {R : Room} {s : State} {m : MethodId} {args : Array Value} {below : List Frame} {meth : Method} {c : Code} {x : Xc} {K0 : Ka} {o : (Ka × Cm) ⊕ (Ka × Cm)} {N : Nat} (CTX : CT p l s m args meth c x K0 RX3 "readUnit" cX3_readUnit 3 none) (hRm : 162 ≤ R.frames ∧ 9231 ≤ R.locals) (hRc : nz sV K0 o ≤ R.cells ∧ nu sV K0 o ≤ R.slots) (x0 : Nat) (K : Ka) (M : Cm) (H : Heap) (locs : List Loc) (ls : Array Slot) (hf : bT_X3_readUnit_230 N x0 K M = some o) (hL : KLe K0 K) (hR : RC x K M H) (hS : va_S (AC K0) s.heap H locs) (hl : lv_has ls 3 [(0, .ref x0)]) : W p l e R s m args below meth c H locs (kz K - kz K0) (ku K - ku K0) (TQ sV (aQV x K0) (zQV K0) "java/lang/IllegalStateException" x K0 below args s o) (F0 m 230 ls []) := by
  obtain ⟨CX, hno, hlt, hmn⟩ := id CTX
  obtain ⟨hx, hb, hml, hown, hts, hE, hB, hr, hlk⟩ := id CX
  have hcs := nz_le (mbT_X3_readUnit_230  x0 K M hf) hRc
  unfold bT_X3_readUnit_230 at hf
  exact tr_vret CX hR hS hf dX3_readUnit_230
def bT_X3_readUnit_224 (N : Nat) (x0 : Nat) (K : Ka) (M : Cm) : Option ((Ka × Cm) ⊕ (Ka × Cm)) := gd (kd K x0 == 4) (tb (fT_X3_take N x0 125 K M) fun o227 => (bT_X3_readUnit_230 N) x0 o227.1 o227.2)
theorem mbT_X3_readUnit_224 {o : (Ka × Cm) ⊕ (Ka × Cm)} {N : Nat}  (x0 : Nat) (K : Ka) (M : Cm) (hf : bT_X3_readUnit_224 N x0 K M = some o) : KLe K (oK sV o) := by
  unfold bT_X3_readUnit_224 at hf
  obtain ⟨-, hf⟩ := gd_some hf
  rcases tb_some hf with ⟨o227, ho, hf⟩ | ⟨q, ho, rfl⟩
  · exact KLe.tr (mfT_X3_take _ _ _ _ ho) (mbT_X3_readUnit_230 _ _ _ hf)
  · exact (mfT_X3_take _ _ _ _ ho)
set_option maxRecDepth 100000 in
set_option maxHeartbeats 4000000 in
theorem wbT_X3_readUnit_224 {p : Program} {l : Launch} {e : Env} {R : Room} {s : State} {m : MethodId} {args : Array Value} {below : List Frame} {meth : Method} {c : Code} {x : Xc} {K0 : Ka} {o : (Ka × Cm) ⊕ (Ka × Cm)} {N : Nat} (CTX : CT p l s m args meth c x K0 RX3 "readUnit" cX3_readUnit 3 none) (hRm : 162 ≤ R.frames ∧ 9231 ≤ R.locals) (hRc : nz sV K0 o ≤ R.cells ∧ nu sV K0 o ≤ R.slots) (x0 : Nat) (K : Ka) (M : Cm) (H : Heap) (locs : List Loc) (ls : Array Slot) (hf : bT_X3_readUnit_224 N x0 K M = some o) (hL : KLe K0 K) (hR : RC x K M H) (hS : va_S (AC K0) s.heap H locs) (hl : lv_has ls 3 [(0, .ref x0)]) : W p l e R s m args below meth c H locs (kz K - kz K0) (ku K - ku K0) (TQ sV (aQV x K0) (zQV K0) "java/lang/IllegalStateException" x K0 below args s o) (F0 m 224 ls []) := by
  obtain ⟨CX, hno, hlt, hmn⟩ := id CTX
  obtain ⟨hx, hb, hml, hown, hts, hE, hB, hr, hlk⟩ := id CX
  have hcs := nz_le (mbT_X3_readUnit_224  x0 K M hf) hRc
  unfold bT_X3_readUnit_224 at hf
  refine lv_aload_n hx hb dX3_readUnit_224 rfl (lv_at hl 0 rfl) ?_
  refine lv_bipush (v := 125) hx hb dX3_readUnit_225 (by decide) ?_
  obtain ⟨hk_x0_4, hf⟩ := gd_some hf
  rcases tb_some hf with ⟨o227, ho, hf⟩ | ⟨q, ho, rfl⟩
  · have hm1 := mbT_X3_readUnit_230 _ _ _ hf
    have hb1 := nz_le hm1 hRc
    have hq1 := (mfT_X3_take _ _ _ _ ho)
    refine ta_callVv kc_3 CX hL hR hS (As := [.int 125]) (rest := []) hk_x0_4 (MT_X3_take l x hlt N _ _ _ _ _ ho) cv_X3_119 ⟨by omega, by omega⟩ rfl (Nat.le_of_ble_eq_true rfl) hl.1 hq1 hb1 rfl dX3_readUnit_227 (fun H locs hR hS => ?_)
    exact (wbT_X3_readUnit_230 CTX hRm hRc) _ _ _ _ _ _ hf (hL.tr hq1) hR hS (lv_sub hl [0] rfl)
  · exact tx_callv kc_3 CTX hL hR hS (As := [.int 125]) (rest := []) hk_x0_4 (MT_X3_take l x hlt N _ _ _ _ _ ho) cv_X3_119 ⟨by omega, by omega⟩ rfl (Nat.le_of_ble_eq_true rfl) hl.1 (mfT_X3_take _ _ _ _ ho) hRc rfl dX3_readUnit_227
def bT_X3_readUnit_223 (N : Nat) (x0 : Nat) (s0 : Int32) (K : Ka) (M : Cm) : Option ((Ka × Cm) ⊕ (Ka × Cm)) := (bT_X3_readUnit_224 N) x0 K M
theorem mbT_X3_readUnit_223 {o : (Ka × Cm) ⊕ (Ka × Cm)} {N : Nat}  (x0 : Nat) (s0 : Int32) (K : Ka) (M : Cm) (hf : bT_X3_readUnit_223 N x0 s0 K M = some o) : KLe K (oK sV o) := by
  unfold bT_X3_readUnit_223 at hf
  exact mbT_X3_readUnit_224 _ _ _ hf
set_option maxRecDepth 100000 in
set_option maxHeartbeats 4000000 in
theorem wbT_X3_readUnit_223 {p : Program} {l : Launch} {e : Env} {R : Room} {s : State} {m : MethodId} {args : Array Value} {below : List Frame} {meth : Method} {c : Code} {x : Xc} {K0 : Ka} {o : (Ka × Cm) ⊕ (Ka × Cm)} {N : Nat} (CTX : CT p l s m args meth c x K0 RX3 "readUnit" cX3_readUnit 3 none) (hRm : 162 ≤ R.frames ∧ 9231 ≤ R.locals) (hRc : nz sV K0 o ≤ R.cells ∧ nu sV K0 o ≤ R.slots) (x0 : Nat) (s0 : Int32) (K : Ka) (M : Cm) (H : Heap) (locs : List Loc) (ls : Array Slot) (hf : bT_X3_readUnit_223 N x0 s0 K M = some o) (hL : KLe K0 K) (hR : RC x K M H) (hS : va_S (AC K0) s.heap H locs) (hl : lv_has ls 3 [(0, .ref x0)]) : W p l e R s m args below meth c H locs (kz K - kz K0) (ku K - ku K0) (TQ sV (aQV x K0) (zQV K0) "java/lang/IllegalStateException" x K0 below args s o) (F0 m 223 ls [.int s0]) := by
  obtain ⟨CX, hno, hlt, hmn⟩ := id CTX
  obtain ⟨hx, hb, hml, hown, hts, hE, hB, hr, hlk⟩ := id CX
  have hcs := nz_le (mbT_X3_readUnit_223  x0 s0 K M hf) hRc
  unfold bT_X3_readUnit_223 at hf
  refine lv_pop hx hb dX3_readUnit_223 rfl ?_
  exact (wbT_X3_readUnit_224 CTX hRm hRc) _ _ _ _ _ _ hf hL hR hS (lv_sub hl [0] rfl)
def bT_X3_readUnit_215 (N : Nat) (x0 : Nat) (K : Ka) (M : Cm) : Option ((Ka × Cm) ⊕ (Ka × Cm)) := gd (kd K x0 == 4) (ta (fT_X3_emit N x0 20 0 0 K M) fun o220 => (bT_X3_readUnit_223 N) x0 o220.1 o220.2.1 o220.2.2)
theorem mbT_X3_readUnit_215 {o : (Ka × Cm) ⊕ (Ka × Cm)} {N : Nat}  (x0 : Nat) (K : Ka) (M : Cm) (hf : bT_X3_readUnit_215 N x0 K M = some o) : KLe K (oK sV o) := by
  unfold bT_X3_readUnit_215 at hf
  obtain ⟨-, hf⟩ := gd_some hf
  obtain ⟨o220, ho, hf⟩ := ta_some hf
  exact KLe.tr (mfT_X3_emit _ _ _ _ _ _ ho) (mbT_X3_readUnit_223 _ _ _ _ hf)
set_option maxRecDepth 100000 in
set_option maxHeartbeats 4000000 in
theorem wbT_X3_readUnit_215 {p : Program} {l : Launch} {e : Env} {R : Room} {s : State} {m : MethodId} {args : Array Value} {below : List Frame} {meth : Method} {c : Code} {x : Xc} {K0 : Ka} {o : (Ka × Cm) ⊕ (Ka × Cm)} {N : Nat} (CTX : CT p l s m args meth c x K0 RX3 "readUnit" cX3_readUnit 3 none) (hRm : 162 ≤ R.frames ∧ 9231 ≤ R.locals) (hRc : nz sV K0 o ≤ R.cells ∧ nu sV K0 o ≤ R.slots) (x0 : Nat) (K : Ka) (M : Cm) (H : Heap) (locs : List Loc) (ls : Array Slot) (hf : bT_X3_readUnit_215 N x0 K M = some o) (hL : KLe K0 K) (hR : RC x K M H) (hS : va_S (AC K0) s.heap H locs) (hl : lv_has ls 3 [(0, .ref x0)]) : W p l e R s m args below meth c H locs (kz K - kz K0) (ku K - ku K0) (TQ sV (aQV x K0) (zQV K0) "java/lang/IllegalStateException" x K0 below args s o) (F0 m 215 ls []) := by
  obtain ⟨CX, hno, hlt, hmn⟩ := id CTX
  obtain ⟨hx, hb, hml, hown, hts, hE, hB, hr, hlk⟩ := id CX
  have hcs := nz_le (mbT_X3_readUnit_215  x0 K M hf) hRc
  unfold bT_X3_readUnit_215 at hf
  refine lv_aload_n hx hb dX3_readUnit_215 rfl (lv_at hl 0 rfl) ?_
  refine lv_bipush (v := 20) hx hb dX3_readUnit_216 (by decide) ?_
  refine lv_iconst (v := 0) hx hb dX3_readUnit_218 (by decide) ?_
  refine lv_iconst (v := 0) hx hb dX3_readUnit_219 (by decide) ?_
  obtain ⟨hk_x0_4, hf⟩ := gd_some hf
  obtain ⟨o220, ho, hf⟩ := ta_some hf
  have hm1 := mbT_X3_readUnit_223 _ _ _ _ hf
  have hb1 := nz_le hm1 hRc
  have hq1 := (mfT_X3_emit _ _ _ _ _ _ ho)
  refine ta_callIv kc_3 CX hL hR hS (As := [.int 20, .int 0, .int 0]) (rest := []) hk_x0_4 (MT_X3_emit l x hlt N _ _ _ _ _ _ _ ho) cv_X3_144 ⟨by omega, by omega⟩ rfl (Nat.le_of_ble_eq_true rfl) hl.1 hq1 hb1 rfl dX3_readUnit_220 (fun H locs hR hS => ?_)
  exact (wbT_X3_readUnit_223 CTX hRm hRc) _ _ _ _ _ _ _ hf (hL.tr hq1) hR hS (lv_sub hl [0] rfl)
def bT_X3_readUnit_171 (N : Nat) (x0 : Nat) (x1 : Nat) (s0 : Int32) (K : Ka) (M : Cm) : Option ((Ka × Cm) ⊕ (Ka × Cm)) := gd (kd K x0 == 4) (if (cI M x0 3) = 139 then (gd (kd K x1 == 8) (if (cI M x1 0) = 0 then ((bT_X3_readUnit_224 N) x0 K M) else ((fC_X3_moveTo N K x0 ((cI M x0 2) + 1) M).bind fun o196 => nn (cR o196 x0 1) fun a1 => gd (kd K a1 == 6) (tb (fGT_X3_readBlock N x0 0 K (wI o196 x1 13 (cI o196 a1 13))) fun o212 => (bT_X3_readUnit_215 N) x0 o212.1 o212.2)))) else ((bT_X3_readUnit_224 N) x0 K M))
theorem mbT_X3_readUnit_171 {o : (Ka × Cm) ⊕ (Ka × Cm)} {N : Nat}  (x0 : Nat) (x1 : Nat) (s0 : Int32) (K : Ka) (M : Cm) (hf : bT_X3_readUnit_171 N x0 x1 s0 K M = some o) : KLe K (oK sV o) := by
  unfold bT_X3_readUnit_171 at hf
  obtain ⟨-, hf⟩ := gd_some hf
  by_cases hc : (cI M x0 3) = 139
  · rw [if_pos hc] at hf
    obtain ⟨-, hf⟩ := gd_some hf
    by_cases hc : (cI M x1 0) = 0
    · rw [if_pos hc] at hf
      exact mbT_X3_readUnit_224 _ _ _ hf
    · rw [if_neg hc] at hf
      obtain ⟨o196, -, hf⟩ := bnd_some hf
      obtain ⟨a1, -, hf⟩ := nn_some hf
      obtain ⟨-, hf⟩ := gd_some hf
      rcases tb_some hf with ⟨o212, ho, hf⟩ | ⟨q, ho, rfl⟩
      · exact KLe.tr (mGT_X3_readBlock ho) (mbT_X3_readUnit_215 _ _ _ hf)
      · exact (mGT_X3_readBlock ho)
  · rw [if_neg hc] at hf
    exact mbT_X3_readUnit_224 _ _ _ hf
set_option maxRecDepth 100000 in
set_option maxHeartbeats 4000000 in
theorem wbT_X3_readUnit_171 {p : Program} {l : Launch} {e : Env} {R : Room} {s : State} {m : MethodId} {args : Array Value} {below : List Frame} {meth : Method} {c : Code} {x : Xc} {K0 : Ka} {o : (Ka × Cm) ⊕ (Ka × Cm)} {N : Nat} (CTX : CT p l s m args meth c x K0 RX3 "readUnit" cX3_readUnit 3 none) (hRm : 162 ≤ R.frames ∧ 9231 ≤ R.locals) (hRc : nz sV K0 o ≤ R.cells ∧ nu sV K0 o ≤ R.slots) (x0 : Nat) (x1 : Nat) (s0 : Int32) (K : Ka) (M : Cm) (H : Heap) (locs : List Loc) (ls : Array Slot) (hf : bT_X3_readUnit_171 N x0 x1 s0 K M = some o) (hL : KLe K0 K) (hR : RC x K M H) (hS : va_S (AC K0) s.heap H locs) (hl : lv_has ls 3 [(0, .ref x0), (1, .ref x1)]) : W p l e R s m args below meth c H locs (kz K - kz K0) (ku K - ku K0) (TQ sV (aQV x K0) (zQV K0) "java/lang/IllegalStateException" x K0 below args s o) (F0 m 171 ls [.int s0]) := by
  obtain ⟨CX, hno, hlt, hmn⟩ := id CTX
  obtain ⟨hx, hb, hml, hown, hts, hE, hB, hr, hlk⟩ := id CX
  have hcs := nz_le (mbT_X3_readUnit_171  x0 x1 s0 K M hf) hRc
  unfold bT_X3_readUnit_171 at hf
  refine lv_pop hx hb dX3_readUnit_171 rfl ?_
  refine lv_aload_n hx hb dX3_readUnit_172 rfl (lv_at hl 0 rfl) ?_
  obtain ⟨hk_x0_4, hf⟩ := gd_some hf
  refine cr_getI kc_3 CX hR fa_X3_19 rfl hk_x0_4 dX3_readUnit_173 ?_
  refine lv_sipush (v := 139) hx hb dX3_readUnit_176 (by decide) ?_
  refine lv_icmp_ne (tgt := 224) hx hb dX3_readUnit_179 (by decide) (fun hc => ?_) (fun hc => ?_)
  · rw [if_neg hc] at hf
    exact (wbT_X3_readUnit_224 CTX hRm hRc) _ _ _ _ _ _ hf hL hR hS (lv_sub hl [0] rfl)
  · rw [if_pos hc] at hf
    refine lv_aload_n hx hb dX3_readUnit_182 rfl (lv_at hl 1 rfl) ?_
    obtain ⟨hk_x1_8, hf⟩ := gd_some hf
    refine cr_getI kc_7 CX hR fa_X3_173 rfl hk_x1_8 dX3_readUnit_183 ?_
    refine lv_if_eq (tgt := 224) hx hb dX3_readUnit_186 (by decide) (fun hc => ?_) (fun hc => ?_)
    · rw [if_pos hc] at hf
      exact (wbT_X3_readUnit_224 CTX hRm hRc) _ _ _ _ _ _ hf hL hR hS (lv_sub hl [0] rfl)
    · rw [if_neg hc] at hf
      refine lv_aload_n hx hb dX3_readUnit_189 rfl (lv_at hl 0 rfl) ?_
      refine lv_aload_n hx hb dX3_readUnit_190 rfl (lv_at hl 0 rfl) ?_
      refine cr_getI kc_3 CX hR fa_X3_15 rfl hk_x0_4 dX3_readUnit_191 ?_
      refine lv_iconst (v := 1) hx hb dX3_readUnit_194 (by decide) ?_
      refine lv_iadd hx hb dX3_readUnit_195 ?_
      obtain ⟨o196, ho196, hf⟩ := bnd_some hf
      refine cr_callVv kc_3 CX hR hL hS (As := [.int ((cI M x0 2) + 1)]) (rest := []) hk_x0_4 (MC_X3_moveTo l x N K x0 ((cI M x0 2) + 1) M o196 ho196) cv_X3_42 ⟨by omega, by omega⟩ rfl rfl (Nat.le_of_ble_eq_true rfl) hl.1 dX3_readUnit_196 hcs (fun H locs hR hS => ?_)
      refine lv_aload_n hx hb dX3_readUnit_199 rfl (lv_at hl 1 rfl) ?_
      refine lv_aload_n hx hb dX3_readUnit_200 rfl (lv_at hl 0 rfl) ?_
      refine cr_getR kc_3 CX hR fa_X3_9 rfl hk_x0_4 dX3_readUnit_201 ?_
      obtain ⟨a1, ha1, hf⟩ := nn_some hf
      refine rf_0 ha1 ?_
      obtain ⟨hk_a1_6, hf⟩ := gd_some hf
      refine cr_getI kc_5 CX hR fa_X3_134 rfl hk_a1_6 dX3_readUnit_204 ?_
      refine cr_putI kc_7 CX hR hL hS fa_X3_177 ⟨rfl, rfl, rfl⟩ hk_x1_8 dX3_readUnit_207 (fun H locs hR hS => ?_)
      refine lv_aload_n hx hb dX3_readUnit_210 rfl (lv_at hl 0 rfl) ?_
      refine lv_iconst (v := 0) hx hb dX3_readUnit_211 (by decide) ?_
      rcases tb_some hf with ⟨o212, ho, hf⟩ | ⟨q, ho, rfl⟩
      · have hm1 := mbT_X3_readUnit_215 _ _ _ hf
        have hb1 := nz_le hm1 hRc
        have hq1 := (mGT_X3_readBlock ho)
        refine ta_callVv kc_3 CX hL hR hS (As := [.int 0]) (rest := []) hk_x0_4 (MGT_X3_readBlock l x hlt N _ _ _ _ _ ho) cv_X3_141 ⟨by omega, by omega⟩ rfl (Nat.le_of_ble_eq_true rfl) hl.1 hq1 hb1 rfl dX3_readUnit_212 (fun H locs hR hS => ?_)
        exact (wbT_X3_readUnit_215 CTX hRm hRc) _ _ _ _ _ _ hf (hL.tr hq1) hR hS (lv_sub hl [0] rfl)
      · exact tx_callv kc_3 CTX hL hR hS (As := [.int 0]) (rest := []) hk_x0_4 (MGT_X3_readBlock l x hlt N _ _ _ _ _ ho) cv_X3_141 ⟨by omega, by omega⟩ rfl (Nat.le_of_ble_eq_true rfl) hl.1 (mGT_X3_readBlock ho) hRc rfl dX3_readUnit_212
def bT_X3_readUnit_163 (N : Nat) (x0 : Nat) (x1 : Nat) (K : Ka) (M : Cm) : Option ((Ka × Cm) ⊕ (Ka × Cm)) := gd (kd K x0 == 4) (ta (fT_X3_emit N x0 20 0 0 K M) fun o168 => (bT_X3_readUnit_171 N) x0 x1 o168.1 o168.2.1 o168.2.2)
theorem mbT_X3_readUnit_163 {o : (Ka × Cm) ⊕ (Ka × Cm)} {N : Nat}  (x0 : Nat) (x1 : Nat) (K : Ka) (M : Cm) (hf : bT_X3_readUnit_163 N x0 x1 K M = some o) : KLe K (oK sV o) := by
  unfold bT_X3_readUnit_163 at hf
  obtain ⟨-, hf⟩ := gd_some hf
  obtain ⟨o168, ho, hf⟩ := ta_some hf
  exact KLe.tr (mfT_X3_emit _ _ _ _ _ _ ho) (mbT_X3_readUnit_171 _ _ _ _ _ hf)
set_option maxRecDepth 100000 in
set_option maxHeartbeats 4000000 in
theorem wbT_X3_readUnit_163 {p : Program} {l : Launch} {e : Env} {R : Room} {s : State} {m : MethodId} {args : Array Value} {below : List Frame} {meth : Method} {c : Code} {x : Xc} {K0 : Ka} {o : (Ka × Cm) ⊕ (Ka × Cm)} {N : Nat} (CTX : CT p l s m args meth c x K0 RX3 "readUnit" cX3_readUnit 3 none) (hRm : 162 ≤ R.frames ∧ 9231 ≤ R.locals) (hRc : nz sV K0 o ≤ R.cells ∧ nu sV K0 o ≤ R.slots) (x0 : Nat) (x1 : Nat) (K : Ka) (M : Cm) (H : Heap) (locs : List Loc) (ls : Array Slot) (hf : bT_X3_readUnit_163 N x0 x1 K M = some o) (hL : KLe K0 K) (hR : RC x K M H) (hS : va_S (AC K0) s.heap H locs) (hl : lv_has ls 3 [(0, .ref x0), (1, .ref x1)]) : W p l e R s m args below meth c H locs (kz K - kz K0) (ku K - ku K0) (TQ sV (aQV x K0) (zQV K0) "java/lang/IllegalStateException" x K0 below args s o) (F0 m 163 ls []) := by
  obtain ⟨CX, hno, hlt, hmn⟩ := id CTX
  obtain ⟨hx, hb, hml, hown, hts, hE, hB, hr, hlk⟩ := id CX
  have hcs := nz_le (mbT_X3_readUnit_163  x0 x1 K M hf) hRc
  unfold bT_X3_readUnit_163 at hf
  refine lv_aload_n hx hb dX3_readUnit_163 rfl (lv_at hl 0 rfl) ?_
  refine lv_bipush (v := 20) hx hb dX3_readUnit_164 (by decide) ?_
  refine lv_iconst (v := 0) hx hb dX3_readUnit_166 (by decide) ?_
  refine lv_iconst (v := 0) hx hb dX3_readUnit_167 (by decide) ?_
  obtain ⟨hk_x0_4, hf⟩ := gd_some hf
  obtain ⟨o168, ho, hf⟩ := ta_some hf
  have hm1 := mbT_X3_readUnit_171 _ _ _ _ _ hf
  have hb1 := nz_le hm1 hRc
  have hq1 := (mfT_X3_emit _ _ _ _ _ _ ho)
  refine ta_callIv kc_3 CX hL hR hS (As := [.int 20, .int 0, .int 0]) (rest := []) hk_x0_4 (MT_X3_emit l x hlt N _ _ _ _ _ _ _ ho) cv_X3_144 ⟨by omega, by omega⟩ rfl (Nat.le_of_ble_eq_true rfl) hl.1 hq1 hb1 rfl dX3_readUnit_168 (fun H locs hR hS => ?_)
  exact (wbT_X3_readUnit_171 CTX hRm hRc) _ _ _ _ _ _ _ _ hf (hL.tr hq1) hR hS (lv_sub hl [0, 1] rfl)
def bT_X3_readUnit_72 (N : Nat) (x0 : Nat) (x1 : Nat) (K : Ka) (M : Cm) : Option ((Ka × Cm) ⊕ (Ka × Cm)) := (lT_X3_readUnit_74 N (bT_X3_readUnit_163 N) N) x0 x1 0 K M
theorem mbT_X3_readUnit_72 {o : (Ka × Cm) ⊕ (Ka × Cm)} {N : Nat}  (x0 : Nat) (x1 : Nat) (K : Ka) (M : Cm) (hf : bT_X3_readUnit_72 N x0 x1 K M = some o) : KLe K (oK sV o) := by
  unfold bT_X3_readUnit_72 at hf
  exact (mlT_X3_readUnit_74 mbT_X3_readUnit_163 N) _ _ _ _ _ hf
set_option maxRecDepth 100000 in
set_option maxHeartbeats 4000000 in
theorem wbT_X3_readUnit_72 {p : Program} {l : Launch} {e : Env} {R : Room} {s : State} {m : MethodId} {args : Array Value} {below : List Frame} {meth : Method} {c : Code} {x : Xc} {K0 : Ka} {o : (Ka × Cm) ⊕ (Ka × Cm)} {N : Nat} (CTX : CT p l s m args meth c x K0 RX3 "readUnit" cX3_readUnit 3 none) (hRm : 162 ≤ R.frames ∧ 9231 ≤ R.locals) (hRc : nz sV K0 o ≤ R.cells ∧ nu sV K0 o ≤ R.slots) (x0 : Nat) (x1 : Nat) (K : Ka) (M : Cm) (H : Heap) (locs : List Loc) (ls : Array Slot) (hf : bT_X3_readUnit_72 N x0 x1 K M = some o) (hL : KLe K0 K) (hR : RC x K M H) (hS : va_S (AC K0) s.heap H locs) (hl : lv_has ls 3 [(0, .ref x0), (1, .ref x1)]) : W p l e R s m args below meth c H locs (kz K - kz K0) (ku K - ku K0) (TQ sV (aQV x K0) (zQV K0) "java/lang/IllegalStateException" x K0 below args s o) (F0 m 72 ls []) := by
  obtain ⟨CX, hno, hlt, hmn⟩ := id CTX
  obtain ⟨hx, hb, hml, hown, hts, hE, hB, hr, hlk⟩ := id CX
  have hcs := nz_le (mbT_X3_readUnit_72  x0 x1 K M hf) hRc
  unfold bT_X3_readUnit_72 at hf
  refine lv_iconst (v := 0) hx hb dX3_readUnit_72 (by decide) ?_
  refine lv_istore_n (lv' := [(2, .int 0), (0, .ref x0), (1, .ref x1)]) hx hb dX3_readUnit_73 rfl hl (by decide) rfl (fun ls hl => ?_)
  exact (wlT_X3_readUnit_74 CTX hRm hRc mbT_X3_readUnit_163 (wbT_X3_readUnit_163 CTX hRm hRc) N) _ _ _ _ _ _ _ _ hf hL hR hS (lv_sub hl [1, 2, 0] rfl)
def bT_X3_readUnit_66 (N : Nat) (x0 : Nat) (x1 : Nat) (K : Ka) (M : Cm) : Option ((Ka × Cm) ⊕ (Ka × Cm)) := gd (kd K x0 == 4) (tb (fT_X3_take N x0 123 K M) fun o69 => (bT_X3_readUnit_72 N) x0 x1 o69.1 o69.2)
theorem mbT_X3_readUnit_66 {o : (Ka × Cm) ⊕ (Ka × Cm)} {N : Nat}  (x0 : Nat) (x1 : Nat) (K : Ka) (M : Cm) (hf : bT_X3_readUnit_66 N x0 x1 K M = some o) : KLe K (oK sV o) := by
  unfold bT_X3_readUnit_66 at hf
  obtain ⟨-, hf⟩ := gd_some hf
  rcases tb_some hf with ⟨o69, ho, hf⟩ | ⟨q, ho, rfl⟩
  · exact KLe.tr (mfT_X3_take _ _ _ _ ho) (mbT_X3_readUnit_72 _ _ _ _ hf)
  · exact (mfT_X3_take _ _ _ _ ho)
set_option maxRecDepth 100000 in
set_option maxHeartbeats 4000000 in
theorem wbT_X3_readUnit_66 {p : Program} {l : Launch} {e : Env} {R : Room} {s : State} {m : MethodId} {args : Array Value} {below : List Frame} {meth : Method} {c : Code} {x : Xc} {K0 : Ka} {o : (Ka × Cm) ⊕ (Ka × Cm)} {N : Nat} (CTX : CT p l s m args meth c x K0 RX3 "readUnit" cX3_readUnit 3 none) (hRm : 162 ≤ R.frames ∧ 9231 ≤ R.locals) (hRc : nz sV K0 o ≤ R.cells ∧ nu sV K0 o ≤ R.slots) (x0 : Nat) (x1 : Nat) (K : Ka) (M : Cm) (H : Heap) (locs : List Loc) (ls : Array Slot) (hf : bT_X3_readUnit_66 N x0 x1 K M = some o) (hL : KLe K0 K) (hR : RC x K M H) (hS : va_S (AC K0) s.heap H locs) (hl : lv_has ls 3 [(0, .ref x0), (1, .ref x1)]) : W p l e R s m args below meth c H locs (kz K - kz K0) (ku K - ku K0) (TQ sV (aQV x K0) (zQV K0) "java/lang/IllegalStateException" x K0 below args s o) (F0 m 66 ls []) := by
  obtain ⟨CX, hno, hlt, hmn⟩ := id CTX
  obtain ⟨hx, hb, hml, hown, hts, hE, hB, hr, hlk⟩ := id CX
  have hcs := nz_le (mbT_X3_readUnit_66  x0 x1 K M hf) hRc
  unfold bT_X3_readUnit_66 at hf
  refine lv_aload_n hx hb dX3_readUnit_66 rfl (lv_at hl 0 rfl) ?_
  refine lv_bipush (v := 123) hx hb dX3_readUnit_67 (by decide) ?_
  obtain ⟨hk_x0_4, hf⟩ := gd_some hf
  rcases tb_some hf with ⟨o69, ho, hf⟩ | ⟨q, ho, rfl⟩
  · have hm1 := mbT_X3_readUnit_72 _ _ _ _ hf
    have hb1 := nz_le hm1 hRc
    have hq1 := (mfT_X3_take _ _ _ _ ho)
    refine ta_callVv kc_3 CX hL hR hS (As := [.int 123]) (rest := []) hk_x0_4 (MT_X3_take l x hlt N _ _ _ _ _ ho) cv_X3_119 ⟨by omega, by omega⟩ rfl (Nat.le_of_ble_eq_true rfl) hl.1 hq1 hb1 rfl dX3_readUnit_69 (fun H locs hR hS => ?_)
    exact (wbT_X3_readUnit_72 CTX hRm hRc) _ _ _ _ _ _ _ hf (hL.tr hq1) hR hS (lv_sub hl [0, 1] rfl)
  · exact tx_callv kc_3 CTX hL hR hS (As := [.int 123]) (rest := []) hk_x0_4 (MT_X3_take l x hlt N _ _ _ _ _ ho) cv_X3_119 ⟨by omega, by omega⟩ rfl (Nat.le_of_ble_eq_true rfl) hl.1 (mfT_X3_take _ _ _ _ ho) hRc rfl dX3_readUnit_69
def bT_X3_readUnit_49 (N : Nat) (x0 : Nat) (s0 : Nat) (K : Ka) (M : Cm) : Option ((Ka × Cm) ⊕ (Ka × Cm)) := gd (kd K x0 == 4) (nn (cR M x0 1) fun a1 => gd (kd K a1 == 6) (gd (kd K s0 == 8) (ta (fT_X3_emitBringing N x0 s0 K (wI M s0 12 (cI M a1 13))) fun o63 => (bT_X3_readUnit_66 N) x0 s0 o63.1 o63.2)))
theorem mbT_X3_readUnit_49 {o : (Ka × Cm) ⊕ (Ka × Cm)} {N : Nat}  (x0 : Nat) (s0 : Nat) (K : Ka) (M : Cm) (hf : bT_X3_readUnit_49 N x0 s0 K M = some o) : KLe K (oK sV o) := by
  unfold bT_X3_readUnit_49 at hf
  obtain ⟨-, hf⟩ := gd_some hf
  obtain ⟨a1, -, hf⟩ := nn_some hf
  obtain ⟨-, hf⟩ := gd_some hf
  obtain ⟨-, hf⟩ := gd_some hf
  obtain ⟨o63, ho, hf⟩ := ta_some hf
  exact KLe.tr (mfT_X3_emitBringing _ _ _ _ ho) (mbT_X3_readUnit_66 _ _ _ _ hf)
set_option maxRecDepth 100000 in
set_option maxHeartbeats 4000000 in
theorem wbT_X3_readUnit_49 {p : Program} {l : Launch} {e : Env} {R : Room} {s : State} {m : MethodId} {args : Array Value} {below : List Frame} {meth : Method} {c : Code} {x : Xc} {K0 : Ka} {o : (Ka × Cm) ⊕ (Ka × Cm)} {N : Nat} (CTX : CT p l s m args meth c x K0 RX3 "readUnit" cX3_readUnit 3 none) (hRm : 162 ≤ R.frames ∧ 9231 ≤ R.locals) (hRc : nz sV K0 o ≤ R.cells ∧ nu sV K0 o ≤ R.slots) (x0 : Nat) (s0 : Nat) (K : Ka) (M : Cm) (H : Heap) (locs : List Loc) (ls : Array Slot) (hf : bT_X3_readUnit_49 N x0 s0 K M = some o) (hL : KLe K0 K) (hR : RC x K M H) (hS : va_S (AC K0) s.heap H locs) (hl : lv_has ls 3 [(0, .ref x0)]) : W p l e R s m args below meth c H locs (kz K - kz K0) (ku K - ku K0) (TQ sV (aQV x K0) (zQV K0) "java/lang/IllegalStateException" x K0 below args s o) (F0 m 49 ls [.ref s0]) := by
  obtain ⟨CX, hno, hlt, hmn⟩ := id CTX
  obtain ⟨hx, hb, hml, hown, hts, hE, hB, hr, hlk⟩ := id CX
  have hcs := nz_le (mbT_X3_readUnit_49  x0 s0 K M hf) hRc
  unfold bT_X3_readUnit_49 at hf
  refine lv_astore_n (lv' := [(1, .ref s0), (0, .ref x0)]) hx hb dX3_readUnit_49 rfl hl (by decide) rfl (fun ls hl => ?_)
  refine lv_aload_n hx hb dX3_readUnit_50 rfl (lv_at hl 0 rfl) ?_
  refine lv_aload_n hx hb dX3_readUnit_51 rfl (lv_at hl 1 rfl) ?_
  obtain ⟨hk_x0_4, hf⟩ := gd_some hf
  refine cr_getR kc_3 CX hR fa_X3_9 rfl hk_x0_4 dX3_readUnit_52 ?_
  obtain ⟨a1, ha1, hf⟩ := nn_some hf
  refine rf_0 ha1 ?_
  obtain ⟨hk_a1_6, hf⟩ := gd_some hf
  refine cr_getI kc_5 CX hR fa_X3_134 rfl hk_a1_6 dX3_readUnit_55 ?_
  obtain ⟨hk_s0_8, hf⟩ := gd_some hf
  refine cr_putI kc_7 CX hR hL hS fa_X3_157 ⟨rfl, rfl, rfl⟩ hk_s0_8 dX3_readUnit_58 (fun H locs hR hS => ?_)
  refine lv_aload_n hx hb dX3_readUnit_61 rfl (lv_at hl 1 rfl) ?_
  refine lv_aload_n hx hb dX3_readUnit_62 rfl (lv_at hl 0 rfl) ?_
  obtain ⟨o63, ho, hf⟩ := ta_some hf
  have hm1 := mbT_X3_readUnit_66 _ _ _ _ hf
  have hb1 := nz_le hm1 hRc
  have hq1 := (mfT_X3_emitBringing _ _ _ _ ho)
  refine ta_callVv kc_3 CX hL hR hS (As := [.ref s0]) (rest := []) hk_x0_4 (MT_X3_emitBringing l x hlt N _ _ _ _ _ ho) cv_X3_160 ⟨by omega, by omega⟩ rfl (Nat.le_of_ble_eq_true rfl) hl.1 hq1 hb1 rfl dX3_readUnit_63 (fun H locs hR hS => ?_)
  exact (wbT_X3_readUnit_66 CTX hRm hRc) _ _ _ _ _ _ _ hf (hL.tr hq1) hR hS (lv_sub hl [1, 0] rfl)
def bT_X3_readUnit_42 (N : Nat) (x0 : Nat) (s0 : Nat) (K : Ka) (M : Cm) : Option ((Ka × Cm) ⊕ (Ka × Cm)) := (bT_X3_readUnit_49 N) x0 s0 K M
theorem mbT_X3_readUnit_42 {o : (Ka × Cm) ⊕ (Ka × Cm)} {N : Nat}  (x0 : Nat) (s0 : Nat) (K : Ka) (M : Cm) (hf : bT_X3_readUnit_42 N x0 s0 K M = some o) : KLe K (oK sV o) := by
  unfold bT_X3_readUnit_42 at hf
  exact mbT_X3_readUnit_49 _ _ _ _ hf
set_option maxRecDepth 100000 in
set_option maxHeartbeats 4000000 in
theorem wbT_X3_readUnit_42 {p : Program} {l : Launch} {e : Env} {R : Room} {s : State} {m : MethodId} {args : Array Value} {below : List Frame} {meth : Method} {c : Code} {x : Xc} {K0 : Ka} {o : (Ka × Cm) ⊕ (Ka × Cm)} {N : Nat} (CTX : CT p l s m args meth c x K0 RX3 "readUnit" cX3_readUnit 3 none) (hRm : 162 ≤ R.frames ∧ 9231 ≤ R.locals) (hRc : nz sV K0 o ≤ R.cells ∧ nu sV K0 o ≤ R.slots) (x0 : Nat) (s0 : Nat) (K : Ka) (M : Cm) (H : Heap) (locs : List Loc) (ls : Array Slot) (hf : bT_X3_readUnit_42 N x0 s0 K M = some o) (hL : KLe K0 K) (hR : RC x K M H) (hS : va_S (AC K0) s.heap H locs) (hl : lv_has ls 3 [(0, .ref x0)]) : W p l e R s m args below meth c H locs (kz K - kz K0) (ku K - ku K0) (TQ sV (aQV x K0) (zQV K0) "java/lang/IllegalStateException" x K0 below args s o) (F0 m 42 ls [.ref s0]) := by
  obtain ⟨CX, hno, hlt, hmn⟩ := id CTX
  obtain ⟨hx, hb, hml, hown, hts, hE, hB, hr, hlk⟩ := id CX
  have hcs := nz_le (mbT_X3_readUnit_42  x0 s0 K M hf) hRc
  unfold bT_X3_readUnit_42 at hf
  refine lv_goto (tgt := 49) hx hb dX3_readUnit_42 (by decide) ?_
  exact (wbT_X3_readUnit_49 CTX hRm hRc) _ _ _ _ _ _ _ hf hL hR hS (lv_sub hl [0] rfl)
def bT_X3_readUnit_17 (N : Nat) (x0 : Nat) (K : Ka) (M : Cm) : Option ((Ka × Cm) ⊕ (Ka × Cm)) := gd (kd K x0 == 4) (nn (cR M x0 1) fun a1 => gd (kd K a1 == 6) (if (cI (wI M x0 4 (cI M a1 11)) x0 3) = 135 then (tb (fT_X3_readModuleHead N x0 K (wI M x0 4 (cI M a1 11))) fun o39 => (bT_X3_readUnit_42 N) x0 o39.1 o39.2.1 o39.2.2) else (tb (fT_X3_readRoleHead N x0 K (wI M x0 4 (cI M a1 11))) fun o46 => (bT_X3_readUnit_49 N) x0 o46.1 o46.2.1 o46.2.2)))
theorem mbT_X3_readUnit_17 {o : (Ka × Cm) ⊕ (Ka × Cm)} {N : Nat}  (x0 : Nat) (K : Ka) (M : Cm) (hf : bT_X3_readUnit_17 N x0 K M = some o) : KLe K (oK sV o) := by
  unfold bT_X3_readUnit_17 at hf
  obtain ⟨-, hf⟩ := gd_some hf
  obtain ⟨a1, -, hf⟩ := nn_some hf
  obtain ⟨-, hf⟩ := gd_some hf
  by_cases hc : (cI (wI M x0 4 (cI M a1 11)) x0 3) = 135
  · rw [if_pos hc] at hf
    rcases tb_some hf with ⟨o39, ho, hf⟩ | ⟨q, ho, rfl⟩
    · exact KLe.tr (mfT_X3_readModuleHead _ _ _ ho) (mbT_X3_readUnit_42 _ _ _ _ hf)
    · exact (mfT_X3_readModuleHead _ _ _ ho)
  · rw [if_neg hc] at hf
    rcases tb_some hf with ⟨o46, ho, hf⟩ | ⟨q, ho, rfl⟩
    · exact KLe.tr (mfT_X3_readRoleHead _ _ _ ho) (mbT_X3_readUnit_49 _ _ _ _ hf)
    · exact (mfT_X3_readRoleHead _ _ _ ho)
set_option maxRecDepth 100000 in
set_option maxHeartbeats 4000000 in
theorem wbT_X3_readUnit_17 {p : Program} {l : Launch} {e : Env} {R : Room} {s : State} {m : MethodId} {args : Array Value} {below : List Frame} {meth : Method} {c : Code} {x : Xc} {K0 : Ka} {o : (Ka × Cm) ⊕ (Ka × Cm)} {N : Nat} (CTX : CT p l s m args meth c x K0 RX3 "readUnit" cX3_readUnit 3 none) (hRm : 162 ≤ R.frames ∧ 9231 ≤ R.locals) (hRc : nz sV K0 o ≤ R.cells ∧ nu sV K0 o ≤ R.slots) (x0 : Nat) (K : Ka) (M : Cm) (H : Heap) (locs : List Loc) (ls : Array Slot) (hf : bT_X3_readUnit_17 N x0 K M = some o) (hL : KLe K0 K) (hR : RC x K M H) (hS : va_S (AC K0) s.heap H locs) (hl : lv_has ls 3 [(0, .ref x0)]) : W p l e R s m args below meth c H locs (kz K - kz K0) (ku K - ku K0) (TQ sV (aQV x K0) (zQV K0) "java/lang/IllegalStateException" x K0 below args s o) (F0 m 17 ls []) := by
  obtain ⟨CX, hno, hlt, hmn⟩ := id CTX
  obtain ⟨hx, hb, hml, hown, hts, hE, hB, hr, hlk⟩ := id CX
  have hcs := nz_le (mbT_X3_readUnit_17  x0 K M hf) hRc
  unfold bT_X3_readUnit_17 at hf
  refine lv_aload_n hx hb dX3_readUnit_17 rfl (lv_at hl 0 rfl) ?_
  refine lv_aload_n hx hb dX3_readUnit_18 rfl (lv_at hl 0 rfl) ?_
  obtain ⟨hk_x0_4, hf⟩ := gd_some hf
  refine cr_getR kc_3 CX hR fa_X3_9 rfl hk_x0_4 dX3_readUnit_19 ?_
  obtain ⟨a1, ha1, hf⟩ := nn_some hf
  refine rf_0 ha1 ?_
  obtain ⟨hk_a1_6, hf⟩ := gd_some hf
  refine cr_getI kc_5 CX hR fa_X3_147 rfl hk_a1_6 dX3_readUnit_22 ?_
  refine cr_putI kc_3 CX hR hL hS fa_X3_22 ⟨rfl, rfl, rfl⟩ hk_x0_4 dX3_readUnit_25 (fun H locs hR hS => ?_)
  refine lv_aload_n hx hb dX3_readUnit_28 rfl (lv_at hl 0 rfl) ?_
  refine cr_getI kc_3 CX hR fa_X3_19 rfl hk_x0_4 dX3_readUnit_29 ?_
  refine lv_sipush (v := 135) hx hb dX3_readUnit_32 (by decide) ?_
  refine lv_icmp_ne (tgt := 45) hx hb dX3_readUnit_35 (by decide) (fun hc => ?_) (fun hc => ?_)
  · rw [if_neg hc] at hf
    refine lv_aload_n hx hb dX3_readUnit_45 rfl (lv_at hl 0 rfl) ?_
    rcases tb_some hf with ⟨o46, ho, hf⟩ | ⟨q, ho, rfl⟩
    · have hm1 := mbT_X3_readUnit_49 _ _ _ _ hf
      have hb1 := nz_le hm1 hRc
      have hq1 := (mfT_X3_readRoleHead _ _ _ ho)
      refine ta_callAv kc_3 CX hL hR hS (As := []) (rest := []) hk_x0_4 (MT_X3_readRoleHead l x hlt N _ _ _ _ ho) cv_X3_154 ⟨by omega, by omega⟩ rfl (Nat.le_of_ble_eq_true rfl) hl.1 hq1 hb1 rfl dX3_readUnit_46 (fun H locs hR hS => ?_)
      exact (wbT_X3_readUnit_49 CTX hRm hRc) _ _ _ _ _ _ _ hf (hL.tr hq1) hR hS (lv_sub hl [0] rfl)
    · exact tx_callv kc_3 CTX hL hR hS (As := []) (rest := []) hk_x0_4 (MT_X3_readRoleHead l x hlt N _ _ _ _ ho) cv_X3_154 ⟨by omega, by omega⟩ rfl (Nat.le_of_ble_eq_true rfl) hl.1 (mfT_X3_readRoleHead _ _ _ ho) hRc rfl dX3_readUnit_46
  · rw [if_pos hc] at hf
    refine lv_aload_n hx hb dX3_readUnit_38 rfl (lv_at hl 0 rfl) ?_
    rcases tb_some hf with ⟨o39, ho, hf⟩ | ⟨q, ho, rfl⟩
    · have hm1 := mbT_X3_readUnit_42 _ _ _ _ hf
      have hb1 := nz_le hm1 hRc
      have hq1 := (mfT_X3_readModuleHead _ _ _ ho)
      refine ta_callAv kc_3 CX hL hR hS (As := []) (rest := []) hk_x0_4 (MT_X3_readModuleHead l x hlt N _ _ _ _ ho) cv_X3_150 ⟨by omega, by omega⟩ rfl (Nat.le_of_ble_eq_true rfl) hl.1 hq1 hb1 rfl dX3_readUnit_39 (fun H locs hR hS => ?_)
      exact (wbT_X3_readUnit_42 CTX hRm hRc) _ _ _ _ _ _ _ hf (hL.tr hq1) hR hS (lv_sub hl [0] rfl)
    · exact tx_callv kc_3 CTX hL hR hS (As := []) (rest := []) hk_x0_4 (MT_X3_readModuleHead l x hlt N _ _ _ _ ho) cv_X3_150 ⟨by omega, by omega⟩ rfl (Nat.le_of_ble_eq_true rfl) hl.1 (mfT_X3_readModuleHead _ _ _ ho) hRc rfl dX3_readUnit_39
def fT_X3_readUnit (N : Nat) (x0 : Nat) (K : Ka) (M : Cm) : Option ((Ka × Cm) ⊕ (Ka × Cm)) := gd (kd K x0 == 4) (nn (cR M x0 1) fun a1 => gd (kd K a1 == 6) (if (cI M a1 11) < 24 then ((bT_X3_readUnit_17 N) x0 K M) else (tb (fT_X3_refuse N x0 5 K M) fun o14 => (bT_X3_readUnit_17 N) x0 o14.1 o14.2)))
theorem mfT_X3_readUnit {o : (Ka × Cm) ⊕ (Ka × Cm)} {N : Nat}  (x0 : Nat) (K : Ka) (M : Cm) (hf : fT_X3_readUnit N x0 K M = some o) : KLe K (oK sV o) := by
  unfold fT_X3_readUnit at hf
  obtain ⟨-, hf⟩ := gd_some hf
  obtain ⟨a1, -, hf⟩ := nn_some hf
  obtain ⟨-, hf⟩ := gd_some hf
  by_cases hc : (cI M a1 11) < 24
  · rw [if_pos hc] at hf
    exact mbT_X3_readUnit_17 _ _ _ hf
  · rw [if_neg hc] at hf
    rcases tb_some hf with ⟨o14, ho, hf⟩ | ⟨q, ho, rfl⟩
    · exact KLe.tr (mfT_X3_refuse _ _ _ _ ho) (mbT_X3_readUnit_17 _ _ _ hf)
    · exact (mfT_X3_refuse _ _ _ _ ho)
set_option maxRecDepth 100000 in
set_option maxHeartbeats 4000000 in
theorem wfT_X3_readUnit {p : Program} {l : Launch} {e : Env} {R : Room} {s : State} {m : MethodId} {args : Array Value} {below : List Frame} {meth : Method} {c : Code} {x : Xc} {K0 : Ka} {o : (Ka × Cm) ⊕ (Ka × Cm)} {N : Nat} (CTX : CT p l s m args meth c x K0 RX3 "readUnit" cX3_readUnit 3 none) (hRm : 162 ≤ R.frames ∧ 9231 ≤ R.locals) (hRc : nz sV K0 o ≤ R.cells ∧ nu sV K0 o ≤ R.slots) (x0 : Nat) (K : Ka) (M : Cm) (H : Heap) (locs : List Loc) (ls : Array Slot) (hf : fT_X3_readUnit N x0 K M = some o) (hL : KLe K0 K) (hR : RC x K M H) (hS : va_S (AC K0) s.heap H locs) (hl : lv_has ls 3 [(0, .ref x0)]) : W p l e R s m args below meth c H locs (kz K - kz K0) (ku K - ku K0) (TQ sV (aQV x K0) (zQV K0) "java/lang/IllegalStateException" x K0 below args s o) (F0 m 0 ls []) := by
  obtain ⟨CX, hno, hlt, hmn⟩ := id CTX
  obtain ⟨hx, hb, hml, hown, hts, hE, hB, hr, hlk⟩ := id CX
  have hcs := nz_le (mfT_X3_readUnit  x0 K M hf) hRc
  unfold fT_X3_readUnit at hf
  refine lv_aload_n hx hb dX3_readUnit_0 rfl (lv_at hl 0 rfl) ?_
  obtain ⟨hk_x0_4, hf⟩ := gd_some hf
  refine cr_getR kc_3 CX hR fa_X3_9 rfl hk_x0_4 dX3_readUnit_1 ?_
  obtain ⟨a1, ha1, hf⟩ := nn_some hf
  refine rf_0 ha1 ?_
  obtain ⟨hk_a1_6, hf⟩ := gd_some hf
  refine cr_getI kc_5 CX hR fa_X3_147 rfl hk_a1_6 dX3_readUnit_4 ?_
  refine lv_bipush (v := 24) hx hb dX3_readUnit_7 (by decide) ?_
  refine lv_icmp_lt (tgt := 17) hx hb dX3_readUnit_9 (by decide) (fun hc => ?_) (fun hc => ?_)
  · rw [if_pos hc] at hf
    exact (wbT_X3_readUnit_17 CTX hRm hRc) _ _ _ _ _ _ hf hL hR hS (lv_sub hl [0] rfl)
  · rw [if_neg hc] at hf
    refine lv_aload_n hx hb dX3_readUnit_12 rfl (lv_at hl 0 rfl) ?_
    refine lv_iconst (v := 5) hx hb dX3_readUnit_13 (by decide) ?_
    rcases tb_some hf with ⟨o14, ho, hf⟩ | ⟨q, ho, rfl⟩
    · have hm1 := mbT_X3_readUnit_17 _ _ _ hf
      have hb1 := nz_le hm1 hRc
      have hq1 := (mfT_X3_refuse _ _ _ _ ho)
      refine ta_callVv kc_3 CX hL hR hS (As := [.int 5]) (rest := []) hk_x0_4 (MT_X3_refuse l x hlt N _ _ _ _ _ ho) cv_X3_54 ⟨by omega, by omega⟩ rfl (Nat.le_of_ble_eq_true rfl) hl.1 hq1 hb1 rfl dX3_readUnit_14 (fun H locs hR hS => ?_)
      exact (wbT_X3_readUnit_17 CTX hRm hRc) _ _ _ _ _ _ hf (hL.tr hq1) hR hS (lv_sub hl [0] rfl)
    · exact tx_callv kc_3 CTX hL hR hS (As := [.int 5]) (rest := []) hk_x0_4 (MT_X3_refuse l x hlt N _ _ _ _ _ ho) cv_X3_54 ⟨by omega, by omega⟩ rfl (Nat.le_of_ble_eq_true rfl) hl.1 (mfT_X3_refuse _ _ _ _ ho) hRc rfl dX3_readUnit_14
theorem MT_X3_readUnit (l : Launch) (x : Xc) (hlt : l.stackTraces = false) (N : Nat) (x0 : Nat) (K : Ka) (M : Cm) (o : (Ka × Cm) ⊕ (Ka × Cm)) (hf : fT_X3_readUnit N x0 K M = some o) : Tc sV (aQV x K) (zQV K) "java/lang/IllegalStateException" l x yX3_readUnit cX3_readUnit 3 none 162 9231 [.ref x0] K M o :=
  tr_met RX3 "readUnit" hlt (by decide) rfl rfl (Nat.le_of_ble_eq_true rfl) (fun p e s m args below meth c ls CTX hR hl => wfT_X3_readUnit CTX ⟨Nat.le_refl _, Nat.le_refl _⟩ ⟨Nat.le_refl _, Nat.le_refl _⟩ x0 K M s.heap [] ls hf (KLe.rf K) hR va_S.rf hl)
def bT_X3_settle_96 (N : Nat) (r12 : Nat → Int32 → Int32 → Int32 → Ka → Cm → Option ((Ka × Cm) ⊕ (Ka × Cm))) (k102 : Nat → Int32 → Int32 → Ka → Cm → Option ((Ka × Cm) ⊕ (Ka × Cm))) (x0 : Nat) (x1 : Int32) (x2 : Int32) (x3 : Int32) (K : Ka) (M : Cm) : Option ((Ka × Cm) ⊕ (Ka × Cm)) := r12 x0 x1 x2 (x3 + 1) K M
theorem mbT_X3_settle_96 {o : (Ka × Cm) ⊕ (Ka × Cm)} {N : Nat} {r12 : Nat → Int32 → Int32 → Int32 → Ka → Cm → Option ((Ka × Cm) ⊕ (Ka × Cm))} {k102 : Nat → Int32 → Int32 → Ka → Cm → Option ((Ka × Cm) ⊕ (Ka × Cm))} (mr12 : ∀ (x0 : Nat) (x1 : Int32) (x2 : Int32) (x3 : Int32) (K : Ka) (M : Cm) , r12 x0 x1 x2 x3 K M = some o → KLe K (oK sV o)) (mk102 : ∀ (x0 : Nat) (x1 : Int32) (x2 : Int32) (K : Ka) (M : Cm) , k102 x0 x1 x2 K M = some o → KLe K (oK sV o)) (x0 : Nat) (x1 : Int32) (x2 : Int32) (x3 : Int32) (K : Ka) (M : Cm) (hf : bT_X3_settle_96 N r12 k102 x0 x1 x2 x3 K M = some o) : KLe K (oK sV o) := by
  unfold bT_X3_settle_96 at hf
  exact mr12 _ _ _ _ _ _ hf
set_option maxRecDepth 100000 in
set_option maxHeartbeats 4000000 in
theorem wbT_X3_settle_96 {p : Program} {l : Launch} {e : Env} {R : Room} {s : State} {m : MethodId} {args : Array Value} {below : List Frame} {meth : Method} {c : Code} {x : Xc} {K0 : Ka} {o : (Ka × Cm) ⊕ (Ka × Cm)} {N : Nat} {r12 : Nat → Int32 → Int32 → Int32 → Ka → Cm → Option ((Ka × Cm) ⊕ (Ka × Cm))} {k102 : Nat → Int32 → Int32 → Ka → Cm → Option ((Ka × Cm) ⊕ (Ka × Cm))} (CTX : CT p l s m args meth c x K0 RX3 "settle" cX3_settle 7 none) (hRm : 7 ≤ R.frames ∧ 116 ≤ R.locals) (hRc : nz sV K0 o ≤ R.cells ∧ nu sV K0 o ≤ R.slots) (mr12 : ∀ (x0 : Nat) (x1 : Int32) (x2 : Int32) (x3 : Int32) (K : Ka) (M : Cm) , r12 x0 x1 x2 x3 K M = some o → KLe K (oK sV o)) (mk102 : ∀ (x0 : Nat) (x1 : Int32) (x2 : Int32) (K : Ka) (M : Cm) , k102 x0 x1 x2 K M = some o → KLe K (oK sV o)) (hr12 : ∀ (x0 : Nat) (x1 : Int32) (x2 : Int32) (x3 : Int32) (K : Ka) (M : Cm) (H : Heap) (locs : List Loc) (ls : Array Slot), r12 x0 x1 x2 x3 K M = some o → KLe K0 K → RC x K M H → va_S (AC K0) s.heap H locs → lv_has ls 7 [(0, .ref x0), (1, .int x1), (2, .int x2), (3, .int x3)] → W p l e R s m args below meth c H locs (kz K - kz K0) (ku K - ku K0) (TQ sV (aQV x K0) (zQV K0) "java/lang/IllegalStateException" x K0 below args s o) (F0 m 12 ls [])) (hk102 : ∀ (x0 : Nat) (x1 : Int32) (x2 : Int32) (K : Ka) (M : Cm) (H : Heap) (locs : List Loc) (ls : Array Slot), k102 x0 x1 x2 K M = some o → KLe K0 K → RC x K M H → va_S (AC K0) s.heap H locs → lv_has ls 7 [(0, .ref x0), (1, .int x1), (2, .int x2)] → W p l e R s m args below meth c H locs (kz K - kz K0) (ku K - ku K0) (TQ sV (aQV x K0) (zQV K0) "java/lang/IllegalStateException" x K0 below args s o) (F0 m 102 ls [])) (x0 : Nat) (x1 : Int32) (x2 : Int32) (x3 : Int32) (K : Ka) (M : Cm) (H : Heap) (locs : List Loc) (ls : Array Slot) (hf : bT_X3_settle_96 N r12 k102 x0 x1 x2 x3 K M = some o) (hL : KLe K0 K) (hR : RC x K M H) (hS : va_S (AC K0) s.heap H locs) (hl : lv_has ls 7 [(0, .ref x0), (1, .int x1), (2, .int x2), (3, .int x3)]) : W p l e R s m args below meth c H locs (kz K - kz K0) (ku K - ku K0) (TQ sV (aQV x K0) (zQV K0) "java/lang/IllegalStateException" x K0 below args s o) (F0 m 96 ls []) := by
  obtain ⟨CX, hno, hlt, hmn⟩ := id CTX
  obtain ⟨hx, hb, hml, hown, hts, hE, hB, hr, hlk⟩ := id CX
  have hcs := nz_le (mbT_X3_settle_96 mr12 mk102 x0 x1 x2 x3 K M hf) hRc
  unfold bT_X3_settle_96 at hf
  refine lv_iinc (v := x3 + 1) (lv' := [(3, .int (x3 + 1)), (0, .ref x0), (1, .int x1), (2, .int x2)]) hx hb dX3_settle_96 hl (k := 3) rfl rfl (by decide) rfl (fun ls hl => ?_)
  refine lv_goto (tgt := 12) hx hb dX3_settle_99 (by decide) ?_
  exact hr12 _ _ _ _ _ _ _ _ _ hf hL hR hS (lv_sub hl [1, 2, 3, 0] rfl)
def bT_X3_settle_60 (N : Nat) (r12 : Nat → Int32 → Int32 → Int32 → Ka → Cm → Option ((Ka × Cm) ⊕ (Ka × Cm))) (k102 : Nat → Int32 → Int32 → Ka → Cm → Option ((Ka × Cm) ⊕ (Ka × Cm))) (x0 : Nat) (x1 : Int32) (x2 : Int32) (x3 : Int32) (x4 : Int32) (K : Ka) (M : Cm) : Option ((Ka × Cm) ⊕ (Ka × Cm)) := gd (kd K x0 == 4) ((fC_X3_settleOne N K x0 x3 x4 M).bind fun o64 => gd (16 != 0) (if o64.1 ≤ 0 then ((bT_X3_settle_96 N r12 k102) x0 x1 x2 x3 K o64.2) else (if x1 ≤ (o64.1 / 16) then ((bT_X3_settle_96 N r12 k102) x0 x1 x2 x3 K o64.2) else (gd (16 != 0) ((bT_X3_settle_96 N r12 k102) x0 (o64.1 / 16) (o64.1 - o64.1 / 16 * 16) x3 K o64.2)))))
theorem mbT_X3_settle_60 {o : (Ka × Cm) ⊕ (Ka × Cm)} {N : Nat} {r12 : Nat → Int32 → Int32 → Int32 → Ka → Cm → Option ((Ka × Cm) ⊕ (Ka × Cm))} {k102 : Nat → Int32 → Int32 → Ka → Cm → Option ((Ka × Cm) ⊕ (Ka × Cm))} (mr12 : ∀ (x0 : Nat) (x1 : Int32) (x2 : Int32) (x3 : Int32) (K : Ka) (M : Cm) , r12 x0 x1 x2 x3 K M = some o → KLe K (oK sV o)) (mk102 : ∀ (x0 : Nat) (x1 : Int32) (x2 : Int32) (K : Ka) (M : Cm) , k102 x0 x1 x2 K M = some o → KLe K (oK sV o)) (x0 : Nat) (x1 : Int32) (x2 : Int32) (x3 : Int32) (x4 : Int32) (K : Ka) (M : Cm) (hf : bT_X3_settle_60 N r12 k102 x0 x1 x2 x3 x4 K M = some o) : KLe K (oK sV o) := by
  unfold bT_X3_settle_60 at hf
  obtain ⟨-, hf⟩ := gd_some hf
  obtain ⟨o64, -, hf⟩ := bnd_some hf
  obtain ⟨-, hf⟩ := gd_some hf
  by_cases hc : o64.1 ≤ 0
  · rw [if_pos hc] at hf
    exact (mbT_X3_settle_96 mr12 mk102) _ _ _ _ _ _ hf
  · rw [if_neg hc] at hf
    by_cases hc : x1 ≤ (o64.1 / 16)
    · rw [if_pos hc] at hf
      exact (mbT_X3_settle_96 mr12 mk102) _ _ _ _ _ _ hf
    · rw [if_neg hc] at hf
      obtain ⟨-, hf⟩ := gd_some hf
      exact (mbT_X3_settle_96 mr12 mk102) _ _ _ _ _ _ hf
set_option maxRecDepth 100000 in
set_option maxHeartbeats 4000000 in
theorem wbT_X3_settle_60 {p : Program} {l : Launch} {e : Env} {R : Room} {s : State} {m : MethodId} {args : Array Value} {below : List Frame} {meth : Method} {c : Code} {x : Xc} {K0 : Ka} {o : (Ka × Cm) ⊕ (Ka × Cm)} {N : Nat} {r12 : Nat → Int32 → Int32 → Int32 → Ka → Cm → Option ((Ka × Cm) ⊕ (Ka × Cm))} {k102 : Nat → Int32 → Int32 → Ka → Cm → Option ((Ka × Cm) ⊕ (Ka × Cm))} (CTX : CT p l s m args meth c x K0 RX3 "settle" cX3_settle 7 none) (hRm : 7 ≤ R.frames ∧ 116 ≤ R.locals) (hRc : nz sV K0 o ≤ R.cells ∧ nu sV K0 o ≤ R.slots) (mr12 : ∀ (x0 : Nat) (x1 : Int32) (x2 : Int32) (x3 : Int32) (K : Ka) (M : Cm) , r12 x0 x1 x2 x3 K M = some o → KLe K (oK sV o)) (mk102 : ∀ (x0 : Nat) (x1 : Int32) (x2 : Int32) (K : Ka) (M : Cm) , k102 x0 x1 x2 K M = some o → KLe K (oK sV o)) (hr12 : ∀ (x0 : Nat) (x1 : Int32) (x2 : Int32) (x3 : Int32) (K : Ka) (M : Cm) (H : Heap) (locs : List Loc) (ls : Array Slot), r12 x0 x1 x2 x3 K M = some o → KLe K0 K → RC x K M H → va_S (AC K0) s.heap H locs → lv_has ls 7 [(0, .ref x0), (1, .int x1), (2, .int x2), (3, .int x3)] → W p l e R s m args below meth c H locs (kz K - kz K0) (ku K - ku K0) (TQ sV (aQV x K0) (zQV K0) "java/lang/IllegalStateException" x K0 below args s o) (F0 m 12 ls [])) (hk102 : ∀ (x0 : Nat) (x1 : Int32) (x2 : Int32) (K : Ka) (M : Cm) (H : Heap) (locs : List Loc) (ls : Array Slot), k102 x0 x1 x2 K M = some o → KLe K0 K → RC x K M H → va_S (AC K0) s.heap H locs → lv_has ls 7 [(0, .ref x0), (1, .int x1), (2, .int x2)] → W p l e R s m args below meth c H locs (kz K - kz K0) (ku K - ku K0) (TQ sV (aQV x K0) (zQV K0) "java/lang/IllegalStateException" x K0 below args s o) (F0 m 102 ls [])) (x0 : Nat) (x1 : Int32) (x2 : Int32) (x3 : Int32) (x4 : Int32) (K : Ka) (M : Cm) (H : Heap) (locs : List Loc) (ls : Array Slot) (hf : bT_X3_settle_60 N r12 k102 x0 x1 x2 x3 x4 K M = some o) (hL : KLe K0 K) (hR : RC x K M H) (hS : va_S (AC K0) s.heap H locs) (hl : lv_has ls 7 [(0, .ref x0), (1, .int x1), (2, .int x2), (3, .int x3), (4, .int x4)]) : W p l e R s m args below meth c H locs (kz K - kz K0) (ku K - ku K0) (TQ sV (aQV x K0) (zQV K0) "java/lang/IllegalStateException" x K0 below args s o) (F0 m 60 ls []) := by
  obtain ⟨CX, hno, hlt, hmn⟩ := id CTX
  obtain ⟨hx, hb, hml, hown, hts, hE, hB, hr, hlk⟩ := id CX
  have hcs := nz_le (mbT_X3_settle_60 mr12 mk102 x0 x1 x2 x3 x4 K M hf) hRc
  unfold bT_X3_settle_60 at hf
  refine lv_aload_n hx hb dX3_settle_60 rfl (lv_at hl 0 rfl) ?_
  refine lv_iload_n hx hb dX3_settle_61 rfl (lv_at hl 3 rfl) ?_
  refine lv_iload hx hb dX3_settle_62 (lv_at hl 4 rfl) ?_
  obtain ⟨hk_x0_4, hf⟩ := gd_some hf
  obtain ⟨o64, ho64, hf⟩ := bnd_some hf
  refine cr_callIv kc_3 CX hR hL hS (As := [.int x3, .int x4]) (rest := []) hk_x0_4 (MC_X3_settleOne l x N K x0 x3 x4 M o64 ho64) cv_X3_287 ⟨by omega, by omega⟩ rfl rfl (Nat.le_of_ble_eq_true rfl) hl.1 dX3_settle_64 hcs (fun H locs hR hS => ?_)
  refine lv_istore (lv' := [(5, .int o64.1), (0, .ref x0), (1, .int x1), (2, .int x2), (3, .int x3), (4, .int x4)]) hx hb dX3_settle_67 hl (by decide) rfl (fun ls hl => ?_)
  refine lv_iload hx hb dX3_settle_69 (lv_at hl 0 rfl) ?_
  refine lv_bipush (v := 16) hx hb dX3_settle_71 (by decide) ?_
  obtain ⟨hq, hf⟩ := gd_some hf
  refine lv_idiv hx hb dX3_settle_73 (by simpa using hq) ?_
  refine lv_istore (lv' := [(6, .int (o64.1 / 16)), (5, .int o64.1), (0, .ref x0), (1, .int x1), (2, .int x2), (3, .int x3), (4, .int x4)]) hx hb dX3_settle_74 hl (by decide) rfl (fun ls hl => ?_)
  refine lv_iload hx hb dX3_settle_76 (lv_at hl 1 rfl) ?_
  refine lv_if_le (tgt := 96) hx hb dX3_settle_78 (by decide) (fun hc => ?_) (fun hc => ?_)
  · rw [if_pos hc] at hf
    exact (wbT_X3_settle_96 CTX hRm hRc mr12 mk102 hr12 hk102) _ _ _ _ _ _ _ _ _ hf hL hR hS (lv_sub hl [2, 3, 4, 5] rfl)
  · rw [if_neg hc] at hf
    refine lv_iload hx hb dX3_settle_81 (lv_at hl 0 rfl) ?_
    refine lv_iload_n hx hb dX3_settle_83 rfl (lv_at hl 3 rfl) ?_
    refine lv_icmp_ge (tgt := 96) hx hb dX3_settle_84 (by decide) (fun hc => ?_) (fun hc => ?_)
    · rw [if_pos hc] at hf
      exact (wbT_X3_settle_96 CTX hRm hRc mr12 mk102 hr12 hk102) _ _ _ _ _ _ _ _ _ hf hL hR hS (lv_sub hl [2, 3, 4, 5] rfl)
    · rw [if_neg hc] at hf
      refine lv_iload hx hb dX3_settle_87 (lv_at hl 0 rfl) ?_
      refine lv_istore_n (lv' := [(1, .int (o64.1 / 16)), (6, .int (o64.1 / 16)), (5, .int o64.1), (0, .ref x0), (2, .int x2), (3, .int x3), (4, .int x4)]) hx hb dX3_settle_89 rfl hl (by decide) rfl (fun ls hl => ?_)
      refine lv_iload hx hb dX3_settle_90 (lv_at hl 2 rfl) ?_
      refine lv_bipush (v := 16) hx hb dX3_settle_92 (by decide) ?_
      obtain ⟨hq, hf⟩ := gd_some hf
      refine lv_irem hx hb dX3_settle_94 (by simpa using hq) ?_
      refine lv_istore_n (lv' := [(2, .int (o64.1 - o64.1 / 16 * 16)), (1, .int (o64.1 / 16)), (6, .int (o64.1 / 16)), (5, .int o64.1), (0, .ref x0), (3, .int x3), (4, .int x4)]) hx hb dX3_settle_95 rfl hl (by decide) rfl (fun ls hl => ?_)
      exact (wbT_X3_settle_96 CTX hRm hRc mr12 mk102 hr12 hk102) _ _ _ _ _ _ _ _ _ hf hL hR hS (lv_sub hl [4, 1, 0, 5] rfl)
def lT_X3_settle_12 (N : Nat) (k102 : Nat → Int32 → Int32 → Ka → Cm → Option ((Ka × Cm) ⊕ (Ka × Cm))) : Nat → Nat → Int32 → Int32 → Int32 → Ka → Cm → Option ((Ka × Cm) ⊕ (Ka × Cm))
  | 0, _, _, _, _, _, _ => none
  | n + 1, x0, x1, x2, x3, K, M => gd (kd K x0 == 4) (nn (cR M x0 1) fun a1 => gd (kd K a1 == 6) (if (cI M a1 13) ≤ x3 then (k102 x0 x1 x2 K M) else (nn (cR M x0 1) fun a2 => gd (kd K a2 == 6) (nn (cR M a2 9) fun a3 => gd (kd K a3 == 23) (ck x3 (le K a3) (if (((cL M a3 (x3 : Int32).toNatClampNeg : Int64).toInt32) &&& 255) = 21 then ((bT_X3_settle_60 N (lT_X3_settle_12 N k102 n) k102) x0 x1 x2 x3 (((cL M a3 (x3 : Int32).toNatClampNeg : Int64).toInt32) &&& 255) K M) else (if (((cL M a3 (x3 : Int32).toNatClampNeg : Int64).toInt32) &&& 255) = 22 then ((bT_X3_settle_60 N (lT_X3_settle_12 N k102 n) k102) x0 x1 x2 x3 (((cL M a3 (x3 : Int32).toNatClampNeg : Int64).toInt32) &&& 255) K M) else (if (((cL M a3 (x3 : Int32).toNatClampNeg : Int64).toInt32) &&& 255) = 23 then ((bT_X3_settle_60 N (lT_X3_settle_12 N k102 n) k102) x0 x1 x2 x3 (((cL M a3 (x3 : Int32).toNatClampNeg : Int64).toInt32) &&& 255) K M) else ((bT_X3_settle_96 N (lT_X3_settle_12 N k102 n) k102) x0 x1 x2 x3 K M)))))))))
theorem mlT_X3_settle_12 {o : (Ka × Cm) ⊕ (Ka × Cm)} {N : Nat} {k102 : Nat → Int32 → Int32 → Ka → Cm → Option ((Ka × Cm) ⊕ (Ka × Cm))} (mk102 : ∀ (x0 : Nat) (x1 : Int32) (x2 : Int32) (K : Ka) (M : Cm) , k102 x0 x1 x2 K M = some o → KLe K (oK sV o)) : ∀ (n : Nat) (x0 : Nat) (x1 : Int32) (x2 : Int32) (x3 : Int32) (K : Ka) (M : Cm), lT_X3_settle_12 N k102 n x0 x1 x2 x3 K M = some o → KLe K (oK sV o) := by
  intro n
  induction n with
  | zero => intro x0 x1 x2 x3 K M hf; cases hf
  | succ n ih =>
    intro x0 x1 x2 x3 K M hf
    rw [lT_X3_settle_12] at hf
    obtain ⟨-, hf⟩ := gd_some hf
    obtain ⟨a1, -, hf⟩ := nn_some hf
    obtain ⟨-, hf⟩ := gd_some hf
    by_cases hc : (cI M a1 13) ≤ x3
    · rw [if_pos hc] at hf
      exact mk102 _ _ _ _ _ hf
    · rw [if_neg hc] at hf
      obtain ⟨a2, -, hf⟩ := nn_some hf
      obtain ⟨-, hf⟩ := gd_some hf
      obtain ⟨a3, -, hf⟩ := nn_some hf
      obtain ⟨-, hf⟩ := gd_some hf
      obtain ⟨-, hf⟩ := ck_some hf
      by_cases hc : (((cL M a3 (x3 : Int32).toNatClampNeg : Int64).toInt32) &&& 255) = 21
      · rw [if_pos hc] at hf
        exact (mbT_X3_settle_60 ih mk102) _ _ _ _ _ _ _ hf
      · rw [if_neg hc] at hf
        by_cases hc : (((cL M a3 (x3 : Int32).toNatClampNeg : Int64).toInt32) &&& 255) = 22
        · rw [if_pos hc] at hf
          exact (mbT_X3_settle_60 ih mk102) _ _ _ _ _ _ _ hf
        · rw [if_neg hc] at hf
          by_cases hc : (((cL M a3 (x3 : Int32).toNatClampNeg : Int64).toInt32) &&& 255) = 23
          · rw [if_pos hc] at hf
            exact (mbT_X3_settle_60 ih mk102) _ _ _ _ _ _ _ hf
          · rw [if_neg hc] at hf
            exact (mbT_X3_settle_96 ih mk102) _ _ _ _ _ _ hf
set_option maxRecDepth 100000 in
set_option maxHeartbeats 4000000 in
theorem wlT_X3_settle_12 {p : Program} {l : Launch} {e : Env} {R : Room} {s : State} {m : MethodId} {args : Array Value} {below : List Frame} {meth : Method} {c : Code} {x : Xc} {K0 : Ka} {o : (Ka × Cm) ⊕ (Ka × Cm)} {N : Nat} {k102 : Nat → Int32 → Int32 → Ka → Cm → Option ((Ka × Cm) ⊕ (Ka × Cm))} (CTX : CT p l s m args meth c x K0 RX3 "settle" cX3_settle 7 none) (hRm : 7 ≤ R.frames ∧ 116 ≤ R.locals) (hRc : nz sV K0 o ≤ R.cells ∧ nu sV K0 o ≤ R.slots) (mk102 : ∀ (x0 : Nat) (x1 : Int32) (x2 : Int32) (K : Ka) (M : Cm) , k102 x0 x1 x2 K M = some o → KLe K (oK sV o)) (hk102 : ∀ (x0 : Nat) (x1 : Int32) (x2 : Int32) (K : Ka) (M : Cm) (H : Heap) (locs : List Loc) (ls : Array Slot), k102 x0 x1 x2 K M = some o → KLe K0 K → RC x K M H → va_S (AC K0) s.heap H locs → lv_has ls 7 [(0, .ref x0), (1, .int x1), (2, .int x2)] → W p l e R s m args below meth c H locs (kz K - kz K0) (ku K - ku K0) (TQ sV (aQV x K0) (zQV K0) "java/lang/IllegalStateException" x K0 below args s o) (F0 m 102 ls [])) : ∀ (n : Nat) (x0 : Nat) (x1 : Int32) (x2 : Int32) (x3 : Int32) (K : Ka) (M : Cm) (H : Heap) (locs : List Loc) (ls : Array Slot), lT_X3_settle_12 N k102 n x0 x1 x2 x3 K M = some o → KLe K0 K → RC x K M H → va_S (AC K0) s.heap H locs → lv_has ls 7 [(0, .ref x0), (1, .int x1), (2, .int x2), (3, .int x3)] → W p l e R s m args below meth c H locs (kz K - kz K0) (ku K - ku K0) (TQ sV (aQV x K0) (zQV K0) "java/lang/IllegalStateException" x K0 below args s o) (F0 m 12 ls []) := by
  obtain ⟨CX, hno, hlt, hmn⟩ := id CTX
  obtain ⟨hx, hb, hml, hown, hts, hE, hB, hr, hlk⟩ := id CX
  intro n
  induction n with
  | zero => intro x0 x1 x2 x3 K M H locs ls hf; cases hf
  | succ n ih =>
    intro x0 x1 x2 x3 K M H locs ls hf hL hR hS hl
    have hcs := nz_le (mlT_X3_settle_12 mk102 (n + 1) x0 x1 x2 x3 K M hf) hRc
    rw [lT_X3_settle_12] at hf
    refine lv_iload_n hx hb dX3_settle_12 rfl (lv_at hl 3 rfl) ?_
    refine lv_aload_n hx hb dX3_settle_13 rfl (lv_at hl 0 rfl) ?_
    obtain ⟨hk_x0_4, hf⟩ := gd_some hf
    refine cr_getR kc_3 CX hR fa_X3_9 rfl hk_x0_4 dX3_settle_14 ?_
    obtain ⟨a1, ha1, hf⟩ := nn_some hf
    refine rf_0 ha1 ?_
    obtain ⟨hk_a1_6, hf⟩ := gd_some hf
    refine cr_getI kc_5 CX hR fa_X3_134 rfl hk_a1_6 dX3_settle_17 ?_
    refine lv_icmp_ge (tgt := 102) hx hb dX3_settle_20 (by decide) (fun hc => ?_) (fun hc => ?_)
    · rw [if_pos hc] at hf
      exact hk102 _ _ _ _ _ _ _ _ hf hL hR hS (lv_sub hl [0, 1, 2] rfl)
    · rw [if_neg hc] at hf
      refine lv_aload_n hx hb dX3_settle_23 rfl (lv_at hl 0 rfl) ?_
      refine cr_getR kc_3 CX hR fa_X3_9 rfl hk_x0_4 dX3_settle_24 ?_
      obtain ⟨a2, ha2, hf⟩ := nn_some hf
      refine rf_0 ha2 ?_
      obtain ⟨hk_a2_6, hf⟩ := gd_some hf
      refine cr_getR kc_5 CX hR fa_X3_284 rfl hk_a2_6 dX3_settle_27 ?_
      refine lv_iload_n hx hb dX3_settle_30 rfl (lv_at hl 3 rfl) ?_
      obtain ⟨a3, ha3, hf⟩ := nn_some hf
      refine rf_1 ha3 ?_
      obtain ⟨hk_a3_23, hf⟩ := gd_some hf
      obtain ⟨hi, hf⟩ := ck_some hf
      refine cr_lald CX hR hk_a3_23 hi dX3_settle_31 ?_
      refine lv_l2i (v := (cL M a3 (x3 : Int32).toNatClampNeg : Int64).toInt32) hx hb dX3_settle_32 rfl ?_
      refine lv_sipush (v := 255) hx hb dX3_settle_33 (by decide) ?_
      refine lv_iand hx hb dX3_settle_36 ?_
      refine lv_istore (lv' := [(4, .int (((cL M a3 (x3 : Int32).toNatClampNeg : Int64).toInt32) &&& 255)), (0, .ref x0), (1, .int x1), (2, .int x2), (3, .int x3)]) hx hb dX3_settle_37 hl (by decide) rfl (fun ls hl => ?_)
      refine lv_iload hx hb dX3_settle_39 (lv_at hl 0 rfl) ?_
      refine lv_bipush (v := 21) hx hb dX3_settle_41 (by decide) ?_
      refine lv_icmp_eq (tgt := 60) hx hb dX3_settle_43 (by decide) (fun hc => ?_) (fun hc => ?_)
      · rw [if_pos hc] at hf
        exact (wbT_X3_settle_60 CTX hRm hRc (mlT_X3_settle_12 mk102 n) mk102 ih hk102) _ _ _ _ _ _ _ _ _ _ hf hL hR hS (lv_sub hl [1, 2, 3, 4, 0] rfl)
      · rw [if_neg hc] at hf
        refine lv_iload hx hb dX3_settle_46 (lv_at hl 0 rfl) ?_
        refine lv_bipush (v := 22) hx hb dX3_settle_48 (by decide) ?_
        refine lv_icmp_eq (tgt := 60) hx hb dX3_settle_50 (by decide) (fun hc => ?_) (fun hc => ?_)
        · rw [if_pos hc] at hf
          exact (wbT_X3_settle_60 CTX hRm hRc (mlT_X3_settle_12 mk102 n) mk102 ih hk102) _ _ _ _ _ _ _ _ _ _ hf hL hR hS (lv_sub hl [1, 2, 3, 4, 0] rfl)
        · rw [if_neg hc] at hf
          refine lv_iload hx hb dX3_settle_53 (lv_at hl 0 rfl) ?_
          refine lv_bipush (v := 23) hx hb dX3_settle_55 (by decide) ?_
          refine lv_icmp_ne (tgt := 96) hx hb dX3_settle_57 (by decide) (fun hc => ?_) (fun hc => ?_)
          · rw [if_neg hc] at hf
            exact (wbT_X3_settle_96 CTX hRm hRc (mlT_X3_settle_12 mk102 n) mk102 ih hk102) _ _ _ _ _ _ _ _ _ hf hL hR hS (lv_sub hl [1, 2, 3, 4] rfl)
          · rw [if_pos hc] at hf
            exact (wbT_X3_settle_60 CTX hRm hRc (mlT_X3_settle_12 mk102 n) mk102 ih hk102) _ _ _ _ _ _ _ _ _ _ hf hL hR hS (lv_sub hl [1, 2, 3, 4, 0] rfl)
def bT_X3_settle_116 (N : Nat) (x0 : Nat) (K : Ka) (M : Cm) : Option ((Ka × Cm) ⊕ (Ka × Cm)) := some (.inl (K, M))
theorem mbT_X3_settle_116 {o : (Ka × Cm) ⊕ (Ka × Cm)} {N : Nat}  (x0 : Nat) (K : Ka) (M : Cm) (hf : bT_X3_settle_116 N x0 K M = some o) : KLe K (oK sV o) := by
  unfold bT_X3_settle_116 at hf
  cases hf
  exact KLe.rf _
set_option maxRecDepth 100000 in
set_option maxHeartbeats 4000000 in
theorem wbT_X3_settle_116 {p : Program} {l : Launch} {e : Env} {R : Room} {s : State} {m : MethodId} {args : Array Value} {below : List Frame} {meth : Method} {c : Code} {x : Xc} {K0 : Ka} {o : (Ka × Cm) ⊕ (Ka × Cm)} {N : Nat} (CTX : CT p l s m args meth c x K0 RX3 "settle" cX3_settle 7 none) (hRm : 7 ≤ R.frames ∧ 116 ≤ R.locals) (hRc : nz sV K0 o ≤ R.cells ∧ nu sV K0 o ≤ R.slots) (x0 : Nat) (K : Ka) (M : Cm) (H : Heap) (locs : List Loc) (ls : Array Slot) (hf : bT_X3_settle_116 N x0 K M = some o) (hL : KLe K0 K) (hR : RC x K M H) (hS : va_S (AC K0) s.heap H locs) (hl : lv_has ls 7 [(0, .ref x0)]) : W p l e R s m args below meth c H locs (kz K - kz K0) (ku K - ku K0) (TQ sV (aQV x K0) (zQV K0) "java/lang/IllegalStateException" x K0 below args s o) (F0 m 116 ls []) := by
  obtain ⟨CX, hno, hlt, hmn⟩ := id CTX
  obtain ⟨hx, hb, hml, hown, hts, hE, hB, hr, hlk⟩ := id CX
  have hcs := nz_le (mbT_X3_settle_116  x0 K M hf) hRc
  unfold bT_X3_settle_116 at hf
  exact tr_vret CX hR hS hf dX3_settle_116
def bT_X3_settle_102 (N : Nat) (x0 : Nat) (x1 : Int32) (x2 : Int32) (K : Ka) (M : Cm) : Option ((Ka × Cm) ⊕ (Ka × Cm)) := if x2 ≤ 0 then ((bT_X3_settle_116 N) x0 K M) else (gd (kd K x0 == 4) ((fC_X3_moveTo N K x0 x1 M).bind fun o108 => tb (fT_X3_refuse N x0 x2 K o108) fun o113 => (bT_X3_settle_116 N) x0 o113.1 o113.2))
theorem mbT_X3_settle_102 {o : (Ka × Cm) ⊕ (Ka × Cm)} {N : Nat}  (x0 : Nat) (x1 : Int32) (x2 : Int32) (K : Ka) (M : Cm) (hf : bT_X3_settle_102 N x0 x1 x2 K M = some o) : KLe K (oK sV o) := by
  unfold bT_X3_settle_102 at hf
  by_cases hc : x2 ≤ 0
  · rw [if_pos hc] at hf
    exact mbT_X3_settle_116 _ _ _ hf
  · rw [if_neg hc] at hf
    obtain ⟨-, hf⟩ := gd_some hf
    obtain ⟨o108, -, hf⟩ := bnd_some hf
    rcases tb_some hf with ⟨o113, ho, hf⟩ | ⟨q, ho, rfl⟩
    · exact KLe.tr (mfT_X3_refuse _ _ _ _ ho) (mbT_X3_settle_116 _ _ _ hf)
    · exact (mfT_X3_refuse _ _ _ _ ho)
set_option maxRecDepth 100000 in
set_option maxHeartbeats 4000000 in
theorem wbT_X3_settle_102 {p : Program} {l : Launch} {e : Env} {R : Room} {s : State} {m : MethodId} {args : Array Value} {below : List Frame} {meth : Method} {c : Code} {x : Xc} {K0 : Ka} {o : (Ka × Cm) ⊕ (Ka × Cm)} {N : Nat} (CTX : CT p l s m args meth c x K0 RX3 "settle" cX3_settle 7 none) (hRm : 7 ≤ R.frames ∧ 116 ≤ R.locals) (hRc : nz sV K0 o ≤ R.cells ∧ nu sV K0 o ≤ R.slots) (x0 : Nat) (x1 : Int32) (x2 : Int32) (K : Ka) (M : Cm) (H : Heap) (locs : List Loc) (ls : Array Slot) (hf : bT_X3_settle_102 N x0 x1 x2 K M = some o) (hL : KLe K0 K) (hR : RC x K M H) (hS : va_S (AC K0) s.heap H locs) (hl : lv_has ls 7 [(0, .ref x0), (1, .int x1), (2, .int x2)]) : W p l e R s m args below meth c H locs (kz K - kz K0) (ku K - ku K0) (TQ sV (aQV x K0) (zQV K0) "java/lang/IllegalStateException" x K0 below args s o) (F0 m 102 ls []) := by
  obtain ⟨CX, hno, hlt, hmn⟩ := id CTX
  obtain ⟨hx, hb, hml, hown, hts, hE, hB, hr, hlk⟩ := id CX
  have hcs := nz_le (mbT_X3_settle_102  x0 x1 x2 K M hf) hRc
  unfold bT_X3_settle_102 at hf
  refine lv_iload_n hx hb dX3_settle_102 rfl (lv_at hl 2 rfl) ?_
  refine lv_if_le (tgt := 116) hx hb dX3_settle_103 (by decide) (fun hc => ?_) (fun hc => ?_)
  · rw [if_pos hc] at hf
    exact (wbT_X3_settle_116 CTX hRm hRc) _ _ _ _ _ _ hf hL hR hS (lv_sub hl [0] rfl)
  · rw [if_neg hc] at hf
    refine lv_aload_n hx hb dX3_settle_106 rfl (lv_at hl 0 rfl) ?_
    refine lv_iload_n hx hb dX3_settle_107 rfl (lv_at hl 1 rfl) ?_
    obtain ⟨hk_x0_4, hf⟩ := gd_some hf
    obtain ⟨o108, ho108, hf⟩ := bnd_some hf
    refine cr_callVv kc_3 CX hR hL hS (As := [.int x1]) (rest := []) hk_x0_4 (MC_X3_moveTo l x N K x0 x1 M o108 ho108) cv_X3_42 ⟨by omega, by omega⟩ rfl rfl (Nat.le_of_ble_eq_true rfl) hl.1 dX3_settle_108 hcs (fun H locs hR hS => ?_)
    refine lv_aload_n hx hb dX3_settle_111 rfl (lv_at hl 0 rfl) ?_
    refine lv_iload_n hx hb dX3_settle_112 rfl (lv_at hl 2 rfl) ?_
    rcases tb_some hf with ⟨o113, ho, hf⟩ | ⟨q, ho, rfl⟩
    · have hm1 := mbT_X3_settle_116 _ _ _ hf
      have hb1 := nz_le hm1 hRc
      have hq1 := (mfT_X3_refuse _ _ _ _ ho)
      refine ta_callVv kc_3 CX hL hR hS (As := [.int x2]) (rest := []) hk_x0_4 (MT_X3_refuse l x hlt N _ _ _ _ _ ho) cv_X3_54 ⟨by omega, by omega⟩ rfl (Nat.le_of_ble_eq_true rfl) hl.1 hq1 hb1 rfl dX3_settle_113 (fun H locs hR hS => ?_)
      exact (wbT_X3_settle_116 CTX hRm hRc) _ _ _ _ _ _ hf (hL.tr hq1) hR hS (lv_sub hl [0] rfl)
    · exact tx_callv kc_3 CTX hL hR hS (As := [.int x2]) (rest := []) hk_x0_4 (MT_X3_refuse l x hlt N _ _ _ _ _ ho) cv_X3_54 ⟨by omega, by omega⟩ rfl (Nat.le_of_ble_eq_true rfl) hl.1 (mfT_X3_refuse _ _ _ _ ho) hRc rfl dX3_settle_113
def fT_X3_settle (N : Nat) (x0 : Nat) (K : Ka) (M : Cm) : Option ((Ka × Cm) ⊕ (Ka × Cm)) := gd (kd K x0 == 4) (nn (cR M x0 0) fun a1 => gd (kd K a1 == 7) ((lT_X3_settle_12 N (bT_X3_settle_102 N) N) x0 (cI M a1 6) 0 0 K M))
theorem mfT_X3_settle {o : (Ka × Cm) ⊕ (Ka × Cm)} {N : Nat}  (x0 : Nat) (K : Ka) (M : Cm) (hf : fT_X3_settle N x0 K M = some o) : KLe K (oK sV o) := by
  unfold fT_X3_settle at hf
  obtain ⟨-, hf⟩ := gd_some hf
  obtain ⟨a1, -, hf⟩ := nn_some hf
  obtain ⟨-, hf⟩ := gd_some hf
  exact (mlT_X3_settle_12 mbT_X3_settle_102 N) _ _ _ _ _ _ hf
set_option maxRecDepth 100000 in
set_option maxHeartbeats 4000000 in
theorem wfT_X3_settle {p : Program} {l : Launch} {e : Env} {R : Room} {s : State} {m : MethodId} {args : Array Value} {below : List Frame} {meth : Method} {c : Code} {x : Xc} {K0 : Ka} {o : (Ka × Cm) ⊕ (Ka × Cm)} {N : Nat} (CTX : CT p l s m args meth c x K0 RX3 "settle" cX3_settle 7 none) (hRm : 7 ≤ R.frames ∧ 116 ≤ R.locals) (hRc : nz sV K0 o ≤ R.cells ∧ nu sV K0 o ≤ R.slots) (x0 : Nat) (K : Ka) (M : Cm) (H : Heap) (locs : List Loc) (ls : Array Slot) (hf : fT_X3_settle N x0 K M = some o) (hL : KLe K0 K) (hR : RC x K M H) (hS : va_S (AC K0) s.heap H locs) (hl : lv_has ls 7 [(0, .ref x0)]) : W p l e R s m args below meth c H locs (kz K - kz K0) (ku K - ku K0) (TQ sV (aQV x K0) (zQV K0) "java/lang/IllegalStateException" x K0 below args s o) (F0 m 0 ls []) := by
  obtain ⟨CX, hno, hlt, hmn⟩ := id CTX
  obtain ⟨hx, hb, hml, hown, hts, hE, hB, hr, hlk⟩ := id CX
  have hcs := nz_le (mfT_X3_settle  x0 K M hf) hRc
  unfold fT_X3_settle at hf
  refine lv_aload_n hx hb dX3_settle_0 rfl (lv_at hl 0 rfl) ?_
  obtain ⟨hk_x0_4, hf⟩ := gd_some hf
  refine cr_getR kc_3 CX hR fa_X3_28 rfl hk_x0_4 dX3_settle_1 ?_
  obtain ⟨a1, ha1, hf⟩ := nn_some hf
  refine rf_0 ha1 ?_
  obtain ⟨hk_a1_7, hf⟩ := gd_some hf
  refine cr_getI kc_6 CX hR fa_X3_34 rfl hk_a1_7 dX3_settle_4 ?_
  refine lv_istore_n (lv' := [(1, .int (cI M a1 6)), (0, .ref x0)]) hx hb dX3_settle_7 rfl hl (by decide) rfl (fun ls hl => ?_)
  refine lv_iconst (v := 0) hx hb dX3_settle_8 (by decide) ?_
  refine lv_istore_n (lv' := [(2, .int 0), (1, .int (cI M a1 6)), (0, .ref x0)]) hx hb dX3_settle_9 rfl hl (by decide) rfl (fun ls hl => ?_)
  refine lv_iconst (v := 0) hx hb dX3_settle_10 (by decide) ?_
  refine lv_istore_n (lv' := [(3, .int 0), (2, .int 0), (1, .int (cI M a1 6)), (0, .ref x0)]) hx hb dX3_settle_11 rfl hl (by decide) rfl (fun ls hl => ?_)
  exact (wlT_X3_settle_12 CTX hRm hRc mbT_X3_settle_102 (wbT_X3_settle_102 CTX hRm hRc) N) _ _ _ _ _ _ _ _ _ hf hL hR hS (lv_sub hl [3, 2, 1, 0] rfl)
theorem MT_X3_settle (l : Launch) (x : Xc) (hlt : l.stackTraces = false) (N : Nat) (x0 : Nat) (K : Ka) (M : Cm) (o : (Ka × Cm) ⊕ (Ka × Cm)) (hf : fT_X3_settle N x0 K M = some o) : Tc sV (aQV x K) (zQV K) "java/lang/IllegalStateException" l x yX3_settle cX3_settle 7 none 7 116 [.ref x0] K M o :=
  tr_met RX3 "settle" hlt (by decide) rfl rfl (Nat.le_of_ble_eq_true rfl) (fun p e s m args below meth c ls CTX hR hl => wfT_X3_settle CTX ⟨Nat.le_refl _, Nat.le_refl _⟩ ⟨Nat.le_refl _, Nat.le_refl _⟩ x0 K M s.heap [] ls hf (KLe.rf K) hR va_S.rf hl)
def bT_X5_init_134 (N : Nat) (x0 : Nat) (s0 : Nat) (s1 : Nat) (K : Ka) (M : Cm) : Option ((Ka × Cm) ⊕ (Ka × Cm)) := gd (kd K s0 == 6) (some (.inl (K, wR M s0 9 (some s1))))
theorem mbT_X5_init_134 {o : (Ka × Cm) ⊕ (Ka × Cm)} {N : Nat}  (x0 : Nat) (s0 : Nat) (s1 : Nat) (K : Ka) (M : Cm) (hf : bT_X5_init_134 N x0 s0 s1 K M = some o) : KLe K (oK sV o) := by
  unfold bT_X5_init_134 at hf
  obtain ⟨-, hf⟩ := gd_some hf
  cases hf
  exact KLe.rf _
set_option maxRecDepth 100000 in
set_option maxHeartbeats 4000000 in
theorem wbT_X5_init_134 {p : Program} {l : Launch} {e : Env} {R : Room} {s : State} {m : MethodId} {args : Array Value} {below : List Frame} {meth : Method} {c : Code} {x : Xc} {K0 : Ka} {o : (Ka × Cm) ⊕ (Ka × Cm)} {N : Nat} (CTX : CT p l s m args meth c x K0 RX5 "<init>" cX5_init 5 none) (hRm : 6 ≤ R.frames ∧ 95 ≤ R.locals) (hRc : nz sV K0 o ≤ R.cells ∧ nu sV K0 o ≤ R.slots) (x0 : Nat) (s0 : Nat) (s1 : Nat) (K : Ka) (M : Cm) (H : Heap) (locs : List Loc) (ls : Array Slot) (hf : bT_X5_init_134 N x0 s0 s1 K M = some o) (hL : KLe K0 K) (hR : RC x K M H) (hS : va_S (AC K0) s.heap H locs) (hl : lv_has ls 5 [(0, .ref x0)]) : W p l e R s m args below meth c H locs (kz K - kz K0) (ku K - ku K0) (TQ sV (aQV x K0) (zQV K0) "java/lang/IllegalStateException" x K0 below args s o) (F0 m 134 ls [.ref s1, .ref s0]) := by
  obtain ⟨CX, hno, hlt, hmn⟩ := id CTX
  obtain ⟨hx, hb, hml, hown, hts, hE, hB, hr, hlk⟩ := id CX
  have hcs := nz_le (mbT_X5_init_134  x0 s0 s1 K M hf) hRc
  unfold bT_X5_init_134 at hf
  obtain ⟨hk_s0_6, hf⟩ := gd_some hf
  refine cr_putR kc_5 CX hR hL hS (v := some s1) fa_X5_62 ⟨rfl, rfl, .inr ⟨_, rfl⟩⟩ hk_s0_6 dX5_init_134 (fun H locs hR hS => ?_)
  exact tr_vret CX hR hS hf dX5_init_137
def bT_X5_init_122 (N : Nat) (x0 : Nat) (x1 : Int32) (s0 : Nat) (s1 : Nat) (K : Ka) (M : Cm) : Option ((Ka × Cm) ⊕ (Ka × Cm)) := gd (kd K s0 == 6) (gd (decide (¬ ((x1 * 2) + 8 : Int32) < 0 ∧ ((x1 * 2) + 8 : Int32).toNatClampNeg ≤ 1000000)) ((bT_X5_init_134 N) x0 x0 (kz K) (kNew K 23 ((x1 * 2) + 8 : Int32).toNatClampNeg ((x1 * 2) + 8 : Int32).toNatClampNeg) (mZ (wR M s0 8 (some s1)) (kz K))))
theorem mbT_X5_init_122 {o : (Ka × Cm) ⊕ (Ka × Cm)} {N : Nat}  (x0 : Nat) (x1 : Int32) (s0 : Nat) (s1 : Nat) (K : Ka) (M : Cm) (hf : bT_X5_init_122 N x0 x1 s0 s1 K M = some o) : KLe K (oK sV o) := by
  unfold bT_X5_init_122 at hf
  obtain ⟨-, hf⟩ := gd_some hf
  obtain ⟨-, hf⟩ := gd_some hf
  exact (kNew_le _ _ _ _).tr (mbT_X5_init_134 _ _ _ _ _ hf)
set_option maxRecDepth 100000 in
set_option maxHeartbeats 4000000 in
theorem wbT_X5_init_122 {p : Program} {l : Launch} {e : Env} {R : Room} {s : State} {m : MethodId} {args : Array Value} {below : List Frame} {meth : Method} {c : Code} {x : Xc} {K0 : Ka} {o : (Ka × Cm) ⊕ (Ka × Cm)} {N : Nat} (CTX : CT p l s m args meth c x K0 RX5 "<init>" cX5_init 5 none) (hRm : 6 ≤ R.frames ∧ 95 ≤ R.locals) (hRc : nz sV K0 o ≤ R.cells ∧ nu sV K0 o ≤ R.slots) (x0 : Nat) (x1 : Int32) (s0 : Nat) (s1 : Nat) (K : Ka) (M : Cm) (H : Heap) (locs : List Loc) (ls : Array Slot) (hf : bT_X5_init_122 N x0 x1 s0 s1 K M = some o) (hL : KLe K0 K) (hR : RC x K M H) (hS : va_S (AC K0) s.heap H locs) (hl : lv_has ls 5 [(0, .ref x0), (1, .int x1)]) : W p l e R s m args below meth c H locs (kz K - kz K0) (ku K - ku K0) (TQ sV (aQV x K0) (zQV K0) "java/lang/IllegalStateException" x K0 below args s o) (F0 m 122 ls [.ref s1, .ref s0]) := by
  obtain ⟨CX, hno, hlt, hmn⟩ := id CTX
  obtain ⟨hx, hb, hml, hown, hts, hE, hB, hr, hlk⟩ := id CX
  have hcs := nz_le (mbT_X5_init_122  x0 x1 s0 s1 K M hf) hRc
  unfold bT_X5_init_122 at hf
  obtain ⟨hk_s0_6, hf⟩ := gd_some hf
  refine tr_putFR kc_5 CX hmn hR hL hS (v := some s1) ff_X5_59 ⟨rfl, rfl, .inr ⟨_, rfl⟩⟩ hk_s0_6 dX5_init_122 (fun H locs hR hS => ?_)
  refine lv_aload_n hx hb dX5_init_125 rfl (lv_at hl 0 rfl) ?_
  refine lv_iload_n hx hb dX5_init_126 rfl (lv_at hl 1 rfl) ?_
  refine lv_iconst (v := 2) hx hb dX5_init_127 (by decide) ?_
  refine lv_imul hx hb dX5_init_128 ?_
  refine lv_bipush (v := 8) hx hb dX5_init_129 (by decide) ?_
  refine lv_iadd hx hb dX5_init_131 ?_
  obtain ⟨hq, hf⟩ := gd_some hf
  have hm1 := mbT_X5_init_134 _ _ _ _ _ hf
  have hb1 := nz_le hm1 hRc
  refine tr_newal CX hL hR hS hq hb1 dX5_init_132 (fun H hR hS => ?_)
  exact (wbT_X5_init_134 CTX hRm hRc) _ _ _ _ _ _ _ _ hf (hL.tr (kNew_le _ _ _ _)) hR hS (lv_sub hl [0] rfl)
def bT_X5_init_114 (N : Nat) (x0 : Nat) (x1 : Int32) (x4 : Int32) (s0 : Nat) (s1 : Nat) (K : Ka) (M : Cm) : Option ((Ka × Cm) ⊕ (Ka × Cm)) := gd (kd K s0 == 6) (gd (decide (¬ (x4 : Int32) < 0 ∧ (x4 : Int32).toNatClampNeg ≤ 1000000)) ((bT_X5_init_122 N) x0 x1 x0 (kz K) (kNew K 22 (x4 : Int32).toNatClampNeg (x4 : Int32).toNatClampNeg) (mZ (wR M s0 7 (some s1)) (kz K))))
theorem mbT_X5_init_114 {o : (Ka × Cm) ⊕ (Ka × Cm)} {N : Nat}  (x0 : Nat) (x1 : Int32) (x4 : Int32) (s0 : Nat) (s1 : Nat) (K : Ka) (M : Cm) (hf : bT_X5_init_114 N x0 x1 x4 s0 s1 K M = some o) : KLe K (oK sV o) := by
  unfold bT_X5_init_114 at hf
  obtain ⟨-, hf⟩ := gd_some hf
  obtain ⟨-, hf⟩ := gd_some hf
  exact (kNew_le _ _ _ _).tr (mbT_X5_init_122 _ _ _ _ _ _ hf)
set_option maxRecDepth 100000 in
set_option maxHeartbeats 4000000 in
theorem wbT_X5_init_114 {p : Program} {l : Launch} {e : Env} {R : Room} {s : State} {m : MethodId} {args : Array Value} {below : List Frame} {meth : Method} {c : Code} {x : Xc} {K0 : Ka} {o : (Ka × Cm) ⊕ (Ka × Cm)} {N : Nat} (CTX : CT p l s m args meth c x K0 RX5 "<init>" cX5_init 5 none) (hRm : 6 ≤ R.frames ∧ 95 ≤ R.locals) (hRc : nz sV K0 o ≤ R.cells ∧ nu sV K0 o ≤ R.slots) (x0 : Nat) (x1 : Int32) (x4 : Int32) (s0 : Nat) (s1 : Nat) (K : Ka) (M : Cm) (H : Heap) (locs : List Loc) (ls : Array Slot) (hf : bT_X5_init_114 N x0 x1 x4 s0 s1 K M = some o) (hL : KLe K0 K) (hR : RC x K M H) (hS : va_S (AC K0) s.heap H locs) (hl : lv_has ls 5 [(0, .ref x0), (1, .int x1), (4, .int x4)]) : W p l e R s m args below meth c H locs (kz K - kz K0) (ku K - ku K0) (TQ sV (aQV x K0) (zQV K0) "java/lang/IllegalStateException" x K0 below args s o) (F0 m 114 ls [.ref s1, .ref s0]) := by
  obtain ⟨CX, hno, hlt, hmn⟩ := id CTX
  obtain ⟨hx, hb, hml, hown, hts, hE, hB, hr, hlk⟩ := id CX
  have hcs := nz_le (mbT_X5_init_114  x0 x1 x4 s0 s1 K M hf) hRc
  unfold bT_X5_init_114 at hf
  obtain ⟨hk_s0_6, hf⟩ := gd_some hf
  refine tr_putFR kc_5 CX hmn hR hL hS (v := some s1) ff_X5_56 ⟨rfl, rfl, .inr ⟨_, rfl⟩⟩ hk_s0_6 dX5_init_114 (fun H locs hR hS => ?_)
  refine lv_aload_n hx hb dX5_init_117 rfl (lv_at hl 0 rfl) ?_
  refine lv_iload hx hb dX5_init_118 (lv_at hl 2 rfl) ?_
  obtain ⟨hq, hf⟩ := gd_some hf
  have hm1 := mbT_X5_init_122 _ _ _ _ _ _ hf
  have hb1 := nz_le hm1 hRc
  refine tr_newai CX hL hR hS hq hb1 dX5_init_120 (fun H hR hS => ?_)
  exact (wbT_X5_init_122 CTX hRm hRc) _ _ _ _ _ _ _ _ _ hf (hL.tr (kNew_le _ _ _ _)) hR hS (lv_sub hl [0, 1] rfl)
def bT_X5_init_106 (N : Nat) (x0 : Nat) (x1 : Int32) (x4 : Int32) (s0 : Nat) (s1 : Nat) (K : Ka) (M : Cm) : Option ((Ka × Cm) ⊕ (Ka × Cm)) := gd (kd K s0 == 6) (gd (decide (¬ (x4 : Int32) < 0 ∧ (x4 : Int32).toNatClampNeg ≤ 1000000)) ((bT_X5_init_114 N) x0 x1 x4 x0 (kz K) (kNew K 23 (x4 : Int32).toNatClampNeg (x4 : Int32).toNatClampNeg) (mZ (wR M s0 6 (some s1)) (kz K))))
theorem mbT_X5_init_106 {o : (Ka × Cm) ⊕ (Ka × Cm)} {N : Nat}  (x0 : Nat) (x1 : Int32) (x4 : Int32) (s0 : Nat) (s1 : Nat) (K : Ka) (M : Cm) (hf : bT_X5_init_106 N x0 x1 x4 s0 s1 K M = some o) : KLe K (oK sV o) := by
  unfold bT_X5_init_106 at hf
  obtain ⟨-, hf⟩ := gd_some hf
  obtain ⟨-, hf⟩ := gd_some hf
  exact (kNew_le _ _ _ _).tr (mbT_X5_init_114 _ _ _ _ _ _ _ hf)
set_option maxRecDepth 100000 in
set_option maxHeartbeats 4000000 in
theorem wbT_X5_init_106 {p : Program} {l : Launch} {e : Env} {R : Room} {s : State} {m : MethodId} {args : Array Value} {below : List Frame} {meth : Method} {c : Code} {x : Xc} {K0 : Ka} {o : (Ka × Cm) ⊕ (Ka × Cm)} {N : Nat} (CTX : CT p l s m args meth c x K0 RX5 "<init>" cX5_init 5 none) (hRm : 6 ≤ R.frames ∧ 95 ≤ R.locals) (hRc : nz sV K0 o ≤ R.cells ∧ nu sV K0 o ≤ R.slots) (x0 : Nat) (x1 : Int32) (x4 : Int32) (s0 : Nat) (s1 : Nat) (K : Ka) (M : Cm) (H : Heap) (locs : List Loc) (ls : Array Slot) (hf : bT_X5_init_106 N x0 x1 x4 s0 s1 K M = some o) (hL : KLe K0 K) (hR : RC x K M H) (hS : va_S (AC K0) s.heap H locs) (hl : lv_has ls 5 [(0, .ref x0), (1, .int x1), (4, .int x4)]) : W p l e R s m args below meth c H locs (kz K - kz K0) (ku K - ku K0) (TQ sV (aQV x K0) (zQV K0) "java/lang/IllegalStateException" x K0 below args s o) (F0 m 106 ls [.ref s1, .ref s0]) := by
  obtain ⟨CX, hno, hlt, hmn⟩ := id CTX
  obtain ⟨hx, hb, hml, hown, hts, hE, hB, hr, hlk⟩ := id CX
  have hcs := nz_le (mbT_X5_init_106  x0 x1 x4 s0 s1 K M hf) hRc
  unfold bT_X5_init_106 at hf
  obtain ⟨hk_s0_6, hf⟩ := gd_some hf
  refine tr_putFR kc_5 CX hmn hR hL hS (v := some s1) ff_X5_53 ⟨rfl, rfl, .inr ⟨_, rfl⟩⟩ hk_s0_6 dX5_init_106 (fun H locs hR hS => ?_)
  refine lv_aload_n hx hb dX5_init_109 rfl (lv_at hl 0 rfl) ?_
  refine lv_iload hx hb dX5_init_110 (lv_at hl 2 rfl) ?_
  obtain ⟨hq, hf⟩ := gd_some hf
  have hm1 := mbT_X5_init_114 _ _ _ _ _ _ _ hf
  have hb1 := nz_le hm1 hRc
  refine tr_newal CX hL hR hS hq hb1 dX5_init_112 (fun H hR hS => ?_)
  exact (wbT_X5_init_114 CTX hRm hRc) _ _ _ _ _ _ _ _ _ _ hf (hL.tr (kNew_le _ _ _ _)) hR hS (lv_sub hl [0, 1, 2] rfl)
def bT_X5_init_99 (N : Nat) (x0 : Nat) (x1 : Int32) (x3 : Int32) (x4 : Int32) (s0 : Nat) (s1 : Nat) (K : Ka) (M : Cm) : Option ((Ka × Cm) ⊕ (Ka × Cm)) := gd (kd K s0 == 6) (gd (decide (¬ (x3 : Int32) < 0 ∧ (x3 : Int32).toNatClampNeg ≤ 1000000)) ((bT_X5_init_106 N) x0 x1 x4 x0 (kz K) (kNew K 22 (x3 : Int32).toNatClampNeg (x3 : Int32).toNatClampNeg) (mZ (wR M s0 5 (some s1)) (kz K))))
theorem mbT_X5_init_99 {o : (Ka × Cm) ⊕ (Ka × Cm)} {N : Nat}  (x0 : Nat) (x1 : Int32) (x3 : Int32) (x4 : Int32) (s0 : Nat) (s1 : Nat) (K : Ka) (M : Cm) (hf : bT_X5_init_99 N x0 x1 x3 x4 s0 s1 K M = some o) : KLe K (oK sV o) := by
  unfold bT_X5_init_99 at hf
  obtain ⟨-, hf⟩ := gd_some hf
  obtain ⟨-, hf⟩ := gd_some hf
  exact (kNew_le _ _ _ _).tr (mbT_X5_init_106 _ _ _ _ _ _ _ hf)
set_option maxRecDepth 100000 in
set_option maxHeartbeats 4000000 in
theorem wbT_X5_init_99 {p : Program} {l : Launch} {e : Env} {R : Room} {s : State} {m : MethodId} {args : Array Value} {below : List Frame} {meth : Method} {c : Code} {x : Xc} {K0 : Ka} {o : (Ka × Cm) ⊕ (Ka × Cm)} {N : Nat} (CTX : CT p l s m args meth c x K0 RX5 "<init>" cX5_init 5 none) (hRm : 6 ≤ R.frames ∧ 95 ≤ R.locals) (hRc : nz sV K0 o ≤ R.cells ∧ nu sV K0 o ≤ R.slots) (x0 : Nat) (x1 : Int32) (x3 : Int32) (x4 : Int32) (s0 : Nat) (s1 : Nat) (K : Ka) (M : Cm) (H : Heap) (locs : List Loc) (ls : Array Slot) (hf : bT_X5_init_99 N x0 x1 x3 x4 s0 s1 K M = some o) (hL : KLe K0 K) (hR : RC x K M H) (hS : va_S (AC K0) s.heap H locs) (hl : lv_has ls 5 [(0, .ref x0), (1, .int x1), (3, .int x3), (4, .int x4)]) : W p l e R s m args below meth c H locs (kz K - kz K0) (ku K - ku K0) (TQ sV (aQV x K0) (zQV K0) "java/lang/IllegalStateException" x K0 below args s o) (F0 m 99 ls [.ref s1, .ref s0]) := by
  obtain ⟨CX, hno, hlt, hmn⟩ := id CTX
  obtain ⟨hx, hb, hml, hown, hts, hE, hB, hr, hlk⟩ := id CX
  have hcs := nz_le (mbT_X5_init_99  x0 x1 x3 x4 s0 s1 K M hf) hRc
  unfold bT_X5_init_99 at hf
  obtain ⟨hk_s0_6, hf⟩ := gd_some hf
  refine tr_putFR kc_5 CX hmn hR hL hS (v := some s1) ff_X5_49 ⟨rfl, rfl, .inr ⟨_, rfl⟩⟩ hk_s0_6 dX5_init_99 (fun H locs hR hS => ?_)
  refine lv_aload_n hx hb dX5_init_102 rfl (lv_at hl 0 rfl) ?_
  refine lv_iload_n hx hb dX5_init_103 rfl (lv_at hl 2 rfl) ?_
  obtain ⟨hq, hf⟩ := gd_some hf
  have hm1 := mbT_X5_init_106 _ _ _ _ _ _ _ hf
  have hb1 := nz_le hm1 hRc
  refine tr_newai CX hL hR hS hq hb1 dX5_init_104 (fun H hR hS => ?_)
  exact (wbT_X5_init_106 CTX hRm hRc) _ _ _ _ _ _ _ _ _ _ hf (hL.tr (kNew_le _ _ _ _)) hR hS (lv_sub hl [0, 1, 3] rfl)
def bT_X5_init_91 (N : Nat) (x0 : Nat) (x1 : Int32) (x3 : Int32) (x4 : Int32) (s0 : Nat) (s1 : Nat) (K : Ka) (M : Cm) : Option ((Ka × Cm) ⊕ (Ka × Cm)) := gd (kd K s0 == 6) (gd (decide (¬ (x3 : Int32) < 0 ∧ (x3 : Int32).toNatClampNeg ≤ 1000000)) ((bT_X5_init_99 N) x0 x1 x3 x4 x0 (kz K) (kNew K 26 (x3 : Int32).toNatClampNeg (x3 : Int32).toNatClampNeg) (mZ (wR M s0 4 (some s1)) (kz K))))
theorem mbT_X5_init_91 {o : (Ka × Cm) ⊕ (Ka × Cm)} {N : Nat}  (x0 : Nat) (x1 : Int32) (x3 : Int32) (x4 : Int32) (s0 : Nat) (s1 : Nat) (K : Ka) (M : Cm) (hf : bT_X5_init_91 N x0 x1 x3 x4 s0 s1 K M = some o) : KLe K (oK sV o) := by
  unfold bT_X5_init_91 at hf
  obtain ⟨-, hf⟩ := gd_some hf
  obtain ⟨-, hf⟩ := gd_some hf
  exact (kNew_le _ _ _ _).tr (mbT_X5_init_99 _ _ _ _ _ _ _ _ hf)
set_option maxRecDepth 100000 in
set_option maxHeartbeats 4000000 in
theorem wbT_X5_init_91 {p : Program} {l : Launch} {e : Env} {R : Room} {s : State} {m : MethodId} {args : Array Value} {below : List Frame} {meth : Method} {c : Code} {x : Xc} {K0 : Ka} {o : (Ka × Cm) ⊕ (Ka × Cm)} {N : Nat} (CTX : CT p l s m args meth c x K0 RX5 "<init>" cX5_init 5 none) (hRm : 6 ≤ R.frames ∧ 95 ≤ R.locals) (hRc : nz sV K0 o ≤ R.cells ∧ nu sV K0 o ≤ R.slots) (x0 : Nat) (x1 : Int32) (x3 : Int32) (x4 : Int32) (s0 : Nat) (s1 : Nat) (K : Ka) (M : Cm) (H : Heap) (locs : List Loc) (ls : Array Slot) (hf : bT_X5_init_91 N x0 x1 x3 x4 s0 s1 K M = some o) (hL : KLe K0 K) (hR : RC x K M H) (hS : va_S (AC K0) s.heap H locs) (hl : lv_has ls 5 [(0, .ref x0), (1, .int x1), (3, .int x3), (4, .int x4)]) : W p l e R s m args below meth c H locs (kz K - kz K0) (ku K - ku K0) (TQ sV (aQV x K0) (zQV K0) "java/lang/IllegalStateException" x K0 below args s o) (F0 m 91 ls [.ref s1, .ref s0]) := by
  obtain ⟨CX, hno, hlt, hmn⟩ := id CTX
  obtain ⟨hx, hb, hml, hown, hts, hE, hB, hr, hlk⟩ := id CX
  have hcs := nz_le (mbT_X5_init_91  x0 x1 x3 x4 s0 s1 K M hf) hRc
  unfold bT_X5_init_91 at hf
  obtain ⟨hk_s0_6, hf⟩ := gd_some hf
  refine tr_putFR kc_5 CX hmn hR hL hS (v := some s1) ff_X5_44 ⟨rfl, rfl, .inr ⟨_, rfl⟩⟩ hk_s0_6 dX5_init_91 (fun H locs hR hS => ?_)
  refine lv_aload_n hx hb dX5_init_94 rfl (lv_at hl 0 rfl) ?_
  refine lv_iload_n hx hb dX5_init_95 rfl (lv_at hl 2 rfl) ?_
  obtain ⟨hq, hf⟩ := gd_some hf
  have hm1 := mbT_X5_init_99 _ _ _ _ _ _ _ _ hf
  have hb1 := nz_le hm1 hRc
  refine tr_anewu CX hL hR hS ac_X5_47 hq hb1 dX5_init_96 (fun H hR hS => ?_)
  exact (wbT_X5_init_99 CTX hRm hRc) _ _ _ _ _ _ _ _ _ _ _ hf (hL.tr (kNew_le _ _ _ _)) hR hS (lv_sub hl [0, 1, 2, 3] rfl)
def bT_X5_init_84 (N : Nat) (x0 : Nat) (x1 : Int32) (x3 : Int32) (x4 : Int32) (s0 : Nat) (s1 : Nat) (K : Ka) (M : Cm) : Option ((Ka × Cm) ⊕ (Ka × Cm)) := gd (kd K s0 == 6) (gd (decide (¬ (x3 : Int32) < 0 ∧ (x3 : Int32).toNatClampNeg ≤ 1000000)) ((bT_X5_init_91 N) x0 x1 x3 x4 x0 (kz K) (kNew K 23 (x3 : Int32).toNatClampNeg (x3 : Int32).toNatClampNeg) (mZ (wR M s0 3 (some s1)) (kz K))))
theorem mbT_X5_init_84 {o : (Ka × Cm) ⊕ (Ka × Cm)} {N : Nat}  (x0 : Nat) (x1 : Int32) (x3 : Int32) (x4 : Int32) (s0 : Nat) (s1 : Nat) (K : Ka) (M : Cm) (hf : bT_X5_init_84 N x0 x1 x3 x4 s0 s1 K M = some o) : KLe K (oK sV o) := by
  unfold bT_X5_init_84 at hf
  obtain ⟨-, hf⟩ := gd_some hf
  obtain ⟨-, hf⟩ := gd_some hf
  exact (kNew_le _ _ _ _).tr (mbT_X5_init_91 _ _ _ _ _ _ _ _ hf)
set_option maxRecDepth 100000 in
set_option maxHeartbeats 4000000 in
theorem wbT_X5_init_84 {p : Program} {l : Launch} {e : Env} {R : Room} {s : State} {m : MethodId} {args : Array Value} {below : List Frame} {meth : Method} {c : Code} {x : Xc} {K0 : Ka} {o : (Ka × Cm) ⊕ (Ka × Cm)} {N : Nat} (CTX : CT p l s m args meth c x K0 RX5 "<init>" cX5_init 5 none) (hRm : 6 ≤ R.frames ∧ 95 ≤ R.locals) (hRc : nz sV K0 o ≤ R.cells ∧ nu sV K0 o ≤ R.slots) (x0 : Nat) (x1 : Int32) (x3 : Int32) (x4 : Int32) (s0 : Nat) (s1 : Nat) (K : Ka) (M : Cm) (H : Heap) (locs : List Loc) (ls : Array Slot) (hf : bT_X5_init_84 N x0 x1 x3 x4 s0 s1 K M = some o) (hL : KLe K0 K) (hR : RC x K M H) (hS : va_S (AC K0) s.heap H locs) (hl : lv_has ls 5 [(0, .ref x0), (1, .int x1), (3, .int x3), (4, .int x4)]) : W p l e R s m args below meth c H locs (kz K - kz K0) (ku K - ku K0) (TQ sV (aQV x K0) (zQV K0) "java/lang/IllegalStateException" x K0 below args s o) (F0 m 84 ls [.ref s1, .ref s0]) := by
  obtain ⟨CX, hno, hlt, hmn⟩ := id CTX
  obtain ⟨hx, hb, hml, hown, hts, hE, hB, hr, hlk⟩ := id CX
  have hcs := nz_le (mbT_X5_init_84  x0 x1 x3 x4 s0 s1 K M hf) hRc
  unfold bT_X5_init_84 at hf
  obtain ⟨hk_s0_6, hf⟩ := gd_some hf
  refine tr_putFR kc_5 CX hmn hR hL hS (v := some s1) ff_X5_41 ⟨rfl, rfl, .inr ⟨_, rfl⟩⟩ hk_s0_6 dX5_init_84 (fun H locs hR hS => ?_)
  refine lv_aload_n hx hb dX5_init_87 rfl (lv_at hl 0 rfl) ?_
  refine lv_iload_n hx hb dX5_init_88 rfl (lv_at hl 2 rfl) ?_
  obtain ⟨hq, hf⟩ := gd_some hf
  have hm1 := mbT_X5_init_91 _ _ _ _ _ _ _ _ hf
  have hb1 := nz_le hm1 hRc
  refine tr_newal CX hL hR hS hq hb1 dX5_init_89 (fun H hR hS => ?_)
  exact (wbT_X5_init_91 CTX hRm hRc) _ _ _ _ _ _ _ _ _ _ _ hf (hL.tr (kNew_le _ _ _ _)) hR hS (lv_sub hl [0, 1, 2, 3] rfl)
def bT_X5_init_77 (N : Nat) (x0 : Nat) (x1 : Int32) (x2 : Int32) (x3 : Int32) (x4 : Int32) (s0 : Nat) (s1 : Nat) (K : Ka) (M : Cm) : Option ((Ka × Cm) ⊕ (Ka × Cm)) := gd (kd K s0 == 6) (gd (decide (¬ (x2 : Int32) < 0 ∧ (x2 : Int32).toNatClampNeg ≤ 1000000)) ((bT_X5_init_84 N) x0 x1 x3 x4 x0 (kz K) (kNew K 22 (x2 : Int32).toNatClampNeg (x2 : Int32).toNatClampNeg) (mZ (wR M s0 2 (some s1)) (kz K))))
theorem mbT_X5_init_77 {o : (Ka × Cm) ⊕ (Ka × Cm)} {N : Nat}  (x0 : Nat) (x1 : Int32) (x2 : Int32) (x3 : Int32) (x4 : Int32) (s0 : Nat) (s1 : Nat) (K : Ka) (M : Cm) (hf : bT_X5_init_77 N x0 x1 x2 x3 x4 s0 s1 K M = some o) : KLe K (oK sV o) := by
  unfold bT_X5_init_77 at hf
  obtain ⟨-, hf⟩ := gd_some hf
  obtain ⟨-, hf⟩ := gd_some hf
  exact (kNew_le _ _ _ _).tr (mbT_X5_init_84 _ _ _ _ _ _ _ _ hf)
set_option maxRecDepth 100000 in
set_option maxHeartbeats 4000000 in
theorem wbT_X5_init_77 {p : Program} {l : Launch} {e : Env} {R : Room} {s : State} {m : MethodId} {args : Array Value} {below : List Frame} {meth : Method} {c : Code} {x : Xc} {K0 : Ka} {o : (Ka × Cm) ⊕ (Ka × Cm)} {N : Nat} (CTX : CT p l s m args meth c x K0 RX5 "<init>" cX5_init 5 none) (hRm : 6 ≤ R.frames ∧ 95 ≤ R.locals) (hRc : nz sV K0 o ≤ R.cells ∧ nu sV K0 o ≤ R.slots) (x0 : Nat) (x1 : Int32) (x2 : Int32) (x3 : Int32) (x4 : Int32) (s0 : Nat) (s1 : Nat) (K : Ka) (M : Cm) (H : Heap) (locs : List Loc) (ls : Array Slot) (hf : bT_X5_init_77 N x0 x1 x2 x3 x4 s0 s1 K M = some o) (hL : KLe K0 K) (hR : RC x K M H) (hS : va_S (AC K0) s.heap H locs) (hl : lv_has ls 5 [(0, .ref x0), (1, .int x1), (2, .int x2), (3, .int x3), (4, .int x4)]) : W p l e R s m args below meth c H locs (kz K - kz K0) (ku K - ku K0) (TQ sV (aQV x K0) (zQV K0) "java/lang/IllegalStateException" x K0 below args s o) (F0 m 77 ls [.ref s1, .ref s0]) := by
  obtain ⟨CX, hno, hlt, hmn⟩ := id CTX
  obtain ⟨hx, hb, hml, hown, hts, hE, hB, hr, hlk⟩ := id CX
  have hcs := nz_le (mbT_X5_init_77  x0 x1 x2 x3 x4 s0 s1 K M hf) hRc
  unfold bT_X5_init_77 at hf
  obtain ⟨hk_s0_6, hf⟩ := gd_some hf
  refine tr_putFR kc_5 CX hmn hR hL hS (v := some s1) ff_X5_38 ⟨rfl, rfl, .inr ⟨_, rfl⟩⟩ hk_s0_6 dX5_init_77 (fun H locs hR hS => ?_)
  refine lv_aload_n hx hb dX5_init_80 rfl (lv_at hl 0 rfl) ?_
  refine lv_iload_n hx hb dX5_init_81 rfl (lv_at hl 2 rfl) ?_
  obtain ⟨hq, hf⟩ := gd_some hf
  have hm1 := mbT_X5_init_84 _ _ _ _ _ _ _ _ hf
  have hb1 := nz_le hm1 hRc
  refine tr_newai CX hL hR hS hq hb1 dX5_init_82 (fun H hR hS => ?_)
  exact (wbT_X5_init_84 CTX hRm hRc) _ _ _ _ _ _ _ _ _ _ _ hf (hL.tr (kNew_le _ _ _ _)) hR hS (lv_sub hl [0, 1, 3, 4] rfl)
def bT_X5_init_70 (N : Nat) (x0 : Nat) (x1 : Int32) (x2 : Int32) (x3 : Int32) (x4 : Int32) (s0 : Nat) (s1 : Nat) (K : Ka) (M : Cm) : Option ((Ka × Cm) ⊕ (Ka × Cm)) := gd (kd K s0 == 6) (gd (decide (¬ (x2 : Int32) < 0 ∧ (x2 : Int32).toNatClampNeg ≤ 1000000)) ((bT_X5_init_77 N) x0 x1 x2 x3 x4 x0 (kz K) (kNew K 22 (x2 : Int32).toNatClampNeg (x2 : Int32).toNatClampNeg) (mZ (wR M s0 1 (some s1)) (kz K))))
theorem mbT_X5_init_70 {o : (Ka × Cm) ⊕ (Ka × Cm)} {N : Nat}  (x0 : Nat) (x1 : Int32) (x2 : Int32) (x3 : Int32) (x4 : Int32) (s0 : Nat) (s1 : Nat) (K : Ka) (M : Cm) (hf : bT_X5_init_70 N x0 x1 x2 x3 x4 s0 s1 K M = some o) : KLe K (oK sV o) := by
  unfold bT_X5_init_70 at hf
  obtain ⟨-, hf⟩ := gd_some hf
  obtain ⟨-, hf⟩ := gd_some hf
  exact (kNew_le _ _ _ _).tr (mbT_X5_init_77 _ _ _ _ _ _ _ _ _ hf)
set_option maxRecDepth 100000 in
set_option maxHeartbeats 4000000 in
theorem wbT_X5_init_70 {p : Program} {l : Launch} {e : Env} {R : Room} {s : State} {m : MethodId} {args : Array Value} {below : List Frame} {meth : Method} {c : Code} {x : Xc} {K0 : Ka} {o : (Ka × Cm) ⊕ (Ka × Cm)} {N : Nat} (CTX : CT p l s m args meth c x K0 RX5 "<init>" cX5_init 5 none) (hRm : 6 ≤ R.frames ∧ 95 ≤ R.locals) (hRc : nz sV K0 o ≤ R.cells ∧ nu sV K0 o ≤ R.slots) (x0 : Nat) (x1 : Int32) (x2 : Int32) (x3 : Int32) (x4 : Int32) (s0 : Nat) (s1 : Nat) (K : Ka) (M : Cm) (H : Heap) (locs : List Loc) (ls : Array Slot) (hf : bT_X5_init_70 N x0 x1 x2 x3 x4 s0 s1 K M = some o) (hL : KLe K0 K) (hR : RC x K M H) (hS : va_S (AC K0) s.heap H locs) (hl : lv_has ls 5 [(0, .ref x0), (1, .int x1), (2, .int x2), (3, .int x3), (4, .int x4)]) : W p l e R s m args below meth c H locs (kz K - kz K0) (ku K - ku K0) (TQ sV (aQV x K0) (zQV K0) "java/lang/IllegalStateException" x K0 below args s o) (F0 m 70 ls [.ref s1, .ref s0]) := by
  obtain ⟨CX, hno, hlt, hmn⟩ := id CTX
  obtain ⟨hx, hb, hml, hown, hts, hE, hB, hr, hlk⟩ := id CX
  have hcs := nz_le (mbT_X5_init_70  x0 x1 x2 x3 x4 s0 s1 K M hf) hRc
  unfold bT_X5_init_70 at hf
  obtain ⟨hk_s0_6, hf⟩ := gd_some hf
  refine tr_putFR kc_5 CX hmn hR hL hS (v := some s1) ff_X5_34 ⟨rfl, rfl, .inr ⟨_, rfl⟩⟩ hk_s0_6 dX5_init_70 (fun H locs hR hS => ?_)
  refine lv_aload_n hx hb dX5_init_73 rfl (lv_at hl 0 rfl) ?_
  refine lv_iload_n hx hb dX5_init_74 rfl (lv_at hl 2 rfl) ?_
  obtain ⟨hq, hf⟩ := gd_some hf
  have hm1 := mbT_X5_init_77 _ _ _ _ _ _ _ _ _ hf
  have hb1 := nz_le hm1 hRc
  refine tr_newai CX hL hR hS hq hb1 dX5_init_75 (fun H hR hS => ?_)
  exact (wbT_X5_init_77 CTX hRm hRc) _ _ _ _ _ _ _ _ _ _ _ _ hf (hL.tr (kNew_le _ _ _ _)) hR hS (lv_sub hl [0, 1, 2, 3, 4] rfl)
def bT_X5_init_63 (N : Nat) (x0 : Nat) (x1 : Int32) (x2 : Int32) (x3 : Int32) (x4 : Int32) (s0 : Nat) (s1 : Nat) (K : Ka) (M : Cm) : Option ((Ka × Cm) ⊕ (Ka × Cm)) := gd (kd K s0 == 6) (gd (decide (¬ (x2 : Int32) < 0 ∧ (x2 : Int32).toNatClampNeg ≤ 1000000)) ((bT_X5_init_70 N) x0 x1 x2 x3 x4 x0 (kz K) (kNew K 22 (x2 : Int32).toNatClampNeg (x2 : Int32).toNatClampNeg) (mZ (wR M s0 0 (some s1)) (kz K))))
theorem mbT_X5_init_63 {o : (Ka × Cm) ⊕ (Ka × Cm)} {N : Nat}  (x0 : Nat) (x1 : Int32) (x2 : Int32) (x3 : Int32) (x4 : Int32) (s0 : Nat) (s1 : Nat) (K : Ka) (M : Cm) (hf : bT_X5_init_63 N x0 x1 x2 x3 x4 s0 s1 K M = some o) : KLe K (oK sV o) := by
  unfold bT_X5_init_63 at hf
  obtain ⟨-, hf⟩ := gd_some hf
  obtain ⟨-, hf⟩ := gd_some hf
  exact (kNew_le _ _ _ _).tr (mbT_X5_init_70 _ _ _ _ _ _ _ _ _ hf)
set_option maxRecDepth 100000 in
set_option maxHeartbeats 4000000 in
theorem wbT_X5_init_63 {p : Program} {l : Launch} {e : Env} {R : Room} {s : State} {m : MethodId} {args : Array Value} {below : List Frame} {meth : Method} {c : Code} {x : Xc} {K0 : Ka} {o : (Ka × Cm) ⊕ (Ka × Cm)} {N : Nat} (CTX : CT p l s m args meth c x K0 RX5 "<init>" cX5_init 5 none) (hRm : 6 ≤ R.frames ∧ 95 ≤ R.locals) (hRc : nz sV K0 o ≤ R.cells ∧ nu sV K0 o ≤ R.slots) (x0 : Nat) (x1 : Int32) (x2 : Int32) (x3 : Int32) (x4 : Int32) (s0 : Nat) (s1 : Nat) (K : Ka) (M : Cm) (H : Heap) (locs : List Loc) (ls : Array Slot) (hf : bT_X5_init_63 N x0 x1 x2 x3 x4 s0 s1 K M = some o) (hL : KLe K0 K) (hR : RC x K M H) (hS : va_S (AC K0) s.heap H locs) (hl : lv_has ls 5 [(0, .ref x0), (1, .int x1), (2, .int x2), (3, .int x3), (4, .int x4)]) : W p l e R s m args below meth c H locs (kz K - kz K0) (ku K - ku K0) (TQ sV (aQV x K0) (zQV K0) "java/lang/IllegalStateException" x K0 below args s o) (F0 m 63 ls [.ref s1, .ref s0]) := by
  obtain ⟨CX, hno, hlt, hmn⟩ := id CTX
  obtain ⟨hx, hb, hml, hown, hts, hE, hB, hr, hlk⟩ := id CX
  have hcs := nz_le (mbT_X5_init_63  x0 x1 x2 x3 x4 s0 s1 K M hf) hRc
  unfold bT_X5_init_63 at hf
  obtain ⟨hk_s0_6, hf⟩ := gd_some hf
  refine tr_putFR kc_5 CX hmn hR hL hS (v := some s1) ff_X5_30 ⟨rfl, rfl, .inr ⟨_, rfl⟩⟩ hk_s0_6 dX5_init_63 (fun H locs hR hS => ?_)
  refine lv_aload_n hx hb dX5_init_66 rfl (lv_at hl 0 rfl) ?_
  refine lv_iload_n hx hb dX5_init_67 rfl (lv_at hl 2 rfl) ?_
  obtain ⟨hq, hf⟩ := gd_some hf
  have hm1 := mbT_X5_init_70 _ _ _ _ _ _ _ _ _ hf
  have hb1 := nz_le hm1 hRc
  refine tr_newai CX hL hR hS hq hb1 dX5_init_68 (fun H hR hS => ?_)
  exact (wbT_X5_init_70 CTX hRm hRc) _ _ _ _ _ _ _ _ _ _ _ _ hf (hL.tr (kNew_le _ _ _ _)) hR hS (lv_sub hl [0, 1, 2, 3, 4] rfl)
def fT_X5_init (N : Nat) (x0 : Nat) (x1 : Int32) (K : Ka) (M : Cm) : Option ((Ka × Cm) ⊕ (Ka × Cm)) := gd (kd K x0 == 6) (gd (9 != 0) (gd (4 != 0) (gd (4 != 0) (gd (decide (¬ ((if ((x1 / 9) + 1) < 24 then ((x1 / 9) + 1) else 24) : Int32) < 0 ∧ ((if ((x1 / 9) + 1) < 24 then ((x1 / 9) + 1) else 24) : Int32).toNatClampNeg ≤ 1000000)) ((bT_X5_init_63 N) x0 x1 (if ((x1 / 9) + 1) < 24 then ((x1 / 9) + 1) else 24) (if ((x1 / 4) + 1) < 24 then ((x1 / 4) + 1) else 24) (if ((x1 / 4) + 1) < 20 then ((x1 / 4) + 1) else 20) x0 (kz K) (kNew K 23 ((if ((x1 / 9) + 1) < 24 then ((x1 / 9) + 1) else 24) : Int32).toNatClampNeg ((if ((x1 / 9) + 1) < 24 then ((x1 / 9) + 1) else 24) : Int32).toNatClampNeg) (mZ (wI (wI (wI (wI M x0 10 0) x0 11 0) x0 12 0) x0 13 0) (kz K)))))))
theorem mfT_X5_init {o : (Ka × Cm) ⊕ (Ka × Cm)} {N : Nat}  (x0 : Nat) (x1 : Int32) (K : Ka) (M : Cm) (hf : fT_X5_init N x0 x1 K M = some o) : KLe K (oK sV o) := by
  unfold fT_X5_init at hf
  obtain ⟨-, hf⟩ := gd_some hf
  obtain ⟨-, hf⟩ := gd_some hf
  obtain ⟨-, hf⟩ := gd_some hf
  obtain ⟨-, hf⟩ := gd_some hf
  obtain ⟨-, hf⟩ := gd_some hf
  exact (kNew_le _ _ _ _).tr (mbT_X5_init_63 _ _ _ _ _ _ _ _ _ hf)
set_option maxRecDepth 100000 in
set_option maxHeartbeats 4000000 in
theorem wfT_X5_init {p : Program} {l : Launch} {e : Env} {R : Room} {s : State} {m : MethodId} {args : Array Value} {below : List Frame} {meth : Method} {c : Code} {x : Xc} {K0 : Ka} {o : (Ka × Cm) ⊕ (Ka × Cm)} {N : Nat} (CTX : CT p l s m args meth c x K0 RX5 "<init>" cX5_init 5 none) (hRm : 6 ≤ R.frames ∧ 95 ≤ R.locals) (hRc : nz sV K0 o ≤ R.cells ∧ nu sV K0 o ≤ R.slots) (x0 : Nat) (x1 : Int32) (K : Ka) (M : Cm) (H : Heap) (locs : List Loc) (ls : Array Slot) (hf : fT_X5_init N x0 x1 K M = some o) (hL : KLe K0 K) (hR : RC x K M H) (hS : va_S (AC K0) s.heap H locs) (hl : lv_has ls 5 [(0, .ref x0), (1, .int x1)]) : W p l e R s m args below meth c H locs (kz K - kz K0) (ku K - ku K0) (TQ sV (aQV x K0) (zQV K0) "java/lang/IllegalStateException" x K0 below args s o) (F0 m 0 ls []) := by
  obtain ⟨CX, hno, hlt, hmn⟩ := id CTX
  obtain ⟨hx, hb, hml, hown, hts, hE, hB, hr, hlk⟩ := id CX
  have hcs := nz_le (mfT_X5_init  x0 x1 K M hf) hRc
  unfold fT_X5_init at hf
  refine lv_aload_n hx hb dX5_init_0 rfl (lv_at hl 0 rfl) ?_
  refine tr_objInit CX wi_X5_3 hl.1 (by omega) (by omega) (Nat.le_of_ble_eq_true rfl) dX5_init_1 ?_
  refine lv_aload_n hx hb dX5_init_4 rfl (lv_at hl 0 rfl) ?_
  refine lv_iconst (v := 0) hx hb dX5_init_5 (by decide) ?_
  obtain ⟨hk_x0_6, hf⟩ := gd_some hf
  refine cr_putI kc_5 CX hR hL hS fa_X5_9 ⟨rfl, rfl, rfl⟩ hk_x0_6 dX5_init_6 (fun H locs hR hS => ?_)
  refine lv_aload_n hx hb dX5_init_9 rfl (lv_at hl 0 rfl) ?_
  refine lv_iconst (v := 0) hx hb dX5_init_10 (by decide) ?_
  refine cr_putI kc_5 CX hR hL hS fa_X5_15 ⟨rfl, rfl, rfl⟩ hk_x0_6 dX5_init_11 (fun H locs hR hS => ?_)
  refine lv_aload_n hx hb dX5_init_14 rfl (lv_at hl 0 rfl) ?_
  refine lv_iconst (v := 0) hx hb dX5_init_15 (by decide) ?_
  refine cr_putI kc_5 CX hR hL hS fa_X5_18 ⟨rfl, rfl, rfl⟩ hk_x0_6 dX5_init_16 (fun H locs hR hS => ?_)
  refine lv_aload_n hx hb dX5_init_19 rfl (lv_at hl 0 rfl) ?_
  refine lv_iconst (v := 0) hx hb dX5_init_20 (by decide) ?_
  refine cr_putI kc_5 CX hR hL hS fa_X5_21 ⟨rfl, rfl, rfl⟩ hk_x0_6 dX5_init_21 (fun H locs hR hS => ?_)
  refine lv_bipush (v := 24) hx hb dX5_init_24 (by decide) ?_
  refine lv_iload_n hx hb dX5_init_26 rfl (lv_at hl 1 rfl) ?_
  refine lv_bipush (v := 9) hx hb dX5_init_27 (by decide) ?_
  obtain ⟨hq, hf⟩ := gd_some hf
  refine lv_idiv hx hb dX5_init_29 (by simpa using hq) ?_
  refine lv_iconst (v := 1) hx hb dX5_init_30 (by decide) ?_
  refine lv_iadd hx hb dX5_init_31 ?_
  refine cr_minI CX wl_X5_24 hl.1 (by omega) (by omega) (Nat.le_of_ble_eq_true rfl) hcs dX5_init_32 ?_
  refine lv_istore_n (lv' := [(2, .int (if ((x1 / 9) + 1) < 24 then ((x1 / 9) + 1) else 24)), (0, .ref x0), (1, .int x1)]) hx hb dX5_init_35 rfl hl (by decide) rfl (fun ls hl => ?_)
  refine lv_bipush (v := 24) hx hb dX5_init_36 (by decide) ?_
  refine lv_iload_n hx hb dX5_init_38 rfl (lv_at hl 2 rfl) ?_
  refine lv_iconst (v := 4) hx hb dX5_init_39 (by decide) ?_
  obtain ⟨hq, hf⟩ := gd_some hf
  refine lv_idiv hx hb dX5_init_40 (by simpa using hq) ?_
  refine lv_iconst (v := 1) hx hb dX5_init_41 (by decide) ?_
  refine lv_iadd hx hb dX5_init_42 ?_
  refine cr_minI CX wl_X5_24 hl.1 (by omega) (by omega) (Nat.le_of_ble_eq_true rfl) hcs dX5_init_43 ?_
  refine lv_istore_n (lv' := [(3, .int (if ((x1 / 4) + 1) < 24 then ((x1 / 4) + 1) else 24)), (2, .int (if ((x1 / 9) + 1) < 24 then ((x1 / 9) + 1) else 24)), (0, .ref x0), (1, .int x1)]) hx hb dX5_init_46 rfl hl (by decide) rfl (fun ls hl => ?_)
  refine lv_bipush (v := 20) hx hb dX5_init_47 (by decide) ?_
  refine lv_iload_n hx hb dX5_init_49 rfl (lv_at hl 3 rfl) ?_
  refine lv_iconst (v := 4) hx hb dX5_init_50 (by decide) ?_
  obtain ⟨hq, hf⟩ := gd_some hf
  refine lv_idiv hx hb dX5_init_51 (by simpa using hq) ?_
  refine lv_iconst (v := 1) hx hb dX5_init_52 (by decide) ?_
  refine lv_iadd hx hb dX5_init_53 ?_
  refine cr_minI CX wl_X5_24 hl.1 (by omega) (by omega) (Nat.le_of_ble_eq_true rfl) hcs dX5_init_54 ?_
  refine lv_istore (lv' := [(4, .int (if ((x1 / 4) + 1) < 20 then ((x1 / 4) + 1) else 20)), (3, .int (if ((x1 / 4) + 1) < 24 then ((x1 / 4) + 1) else 24)), (2, .int (if ((x1 / 9) + 1) < 24 then ((x1 / 9) + 1) else 24)), (0, .ref x0), (1, .int x1)]) hx hb dX5_init_57 hl (by decide) rfl (fun ls hl => ?_)
  refine lv_aload_n hx hb dX5_init_59 rfl (lv_at hl 3 rfl) ?_
  refine lv_iload_n hx hb dX5_init_60 rfl (lv_at hl 2 rfl) ?_
  obtain ⟨hq, hf⟩ := gd_some hf
  have hm1 := mbT_X5_init_63 _ _ _ _ _ _ _ _ _ hf
  have hb1 := nz_le hm1 hRc
  refine tr_newal CX hL hR hS hq hb1 dX5_init_61 (fun H hR hS => ?_)
  exact (wbT_X5_init_63 CTX hRm hRc) _ _ _ _ _ _ _ _ _ _ _ _ hf (hL.tr (kNew_le _ _ _ _)) hR hS (lv_sub hl [3, 4, 2, 1, 0] rfl)
theorem MT_X5_init (l : Launch) (x : Xc) (hlt : l.stackTraces = false) (N : Nat) (x0 : Nat) (x1 : Int32) (K : Ka) (M : Cm) (o : (Ka × Cm) ⊕ (Ka × Cm)) (hf : fT_X5_init N x0 x1 K M = some o) : Tc sV (aQV x K) (zQV K) "java/lang/IllegalStateException" l x yX5_init cX5_init 5 none 6 95 [.ref x0, .int x1] K M o :=
  tr_met RX5 "<init>" hlt (by decide) rfl rfl (Nat.le_of_ble_eq_true rfl) (fun p e s m args below meth c ls CTX hR hl => wfT_X5_init CTX ⟨Nat.le_refl _, Nat.le_refl _⟩ ⟨Nat.le_refl _, Nat.le_refl _⟩ x0 x1 K M s.heap [] ls hf (KLe.rf K) hR va_S.rf hl)
def bT_X3_make_130 (N : Nat) (r25 : Nat → Int32 → Ka → Cm → Option ((Nat × Ka × Cm) ⊕ (Ka × Cm))) (k136 : Nat → Ka → Cm → Option ((Nat × Ka × Cm) ⊕ (Ka × Cm))) (x0 : Nat) (x1 : Int32) (K : Ka) (M : Cm) : Option ((Nat × Ka × Cm) ⊕ (Ka × Cm)) := r25 x0 (x1 + 1) K M
theorem mbT_X3_make_130 {o : (Nat × Ka × Cm) ⊕ (Ka × Cm)} {N : Nat} {r25 : Nat → Int32 → Ka → Cm → Option ((Nat × Ka × Cm) ⊕ (Ka × Cm))} {k136 : Nat → Ka → Cm → Option ((Nat × Ka × Cm) ⊕ (Ka × Cm))} (mr25 : ∀ (x0 : Nat) (x1 : Int32) (K : Ka) (M : Cm) , r25 x0 x1 K M = some o → KLe K (oK sT o)) (mk136 : ∀ (x0 : Nat) (K : Ka) (M : Cm) , k136 x0 K M = some o → KLe K (oK sT o)) (x0 : Nat) (x1 : Int32) (K : Ka) (M : Cm) (hf : bT_X3_make_130 N r25 k136 x0 x1 K M = some o) : KLe K (oK sT o) := by
  unfold bT_X3_make_130 at hf
  exact mr25 _ _ _ _ hf
set_option maxRecDepth 100000 in
set_option maxHeartbeats 4000000 in
theorem wbT_X3_make_130 {p : Program} {l : Launch} {e : Env} {R : Room} {s : State} {m : MethodId} {args : Array Value} {below : List Frame} {meth : Method} {c : Code} {x : Xc} {K0 : Ka} {o : (Nat × Ka × Cm) ⊕ (Ka × Cm)} {N : Nat} {r25 : Nat → Int32 → Ka → Cm → Option ((Nat × Ka × Cm) ⊕ (Ka × Cm))} {k136 : Nat → Ka → Cm → Option ((Nat × Ka × Cm) ⊕ (Ka × Cm))} (CTX : CT p l s m args meth c x K0 RX3 "make" cX3_make 2 (some (.object "StationStarter$Station"))) (hRm : 163 ≤ R.frames ∧ 9253 ≤ R.locals) (hRc : nz sT K0 o ≤ R.cells ∧ nu sT K0 o ≤ R.slots) (mr25 : ∀ (x0 : Nat) (x1 : Int32) (K : Ka) (M : Cm) , r25 x0 x1 K M = some o → KLe K (oK sT o)) (mk136 : ∀ (x0 : Nat) (K : Ka) (M : Cm) , k136 x0 K M = some o → KLe K (oK sT o)) (hr25 : ∀ (x0 : Nat) (x1 : Int32) (K : Ka) (M : Cm) (H : Heap) (locs : List Loc) (ls : Array Slot), r25 x0 x1 K M = some o → KLe K0 K → RC x K M H → va_S (AC K0) s.heap H locs → lv_has ls 2 [(0, .ref x0), (1, .int x1)] → W p l e R s m args below meth c H locs (kz K - kz K0) (ku K - ku K0) (TQ sT (aQA x K0) (zQV K0) "java/lang/IllegalStateException" x K0 below args s o) (F0 m 25 ls [])) (hk136 : ∀ (x0 : Nat) (K : Ka) (M : Cm) (H : Heap) (locs : List Loc) (ls : Array Slot), k136 x0 K M = some o → KLe K0 K → RC x K M H → va_S (AC K0) s.heap H locs → lv_has ls 2 [(0, .ref x0)] → W p l e R s m args below meth c H locs (kz K - kz K0) (ku K - ku K0) (TQ sT (aQA x K0) (zQV K0) "java/lang/IllegalStateException" x K0 below args s o) (F0 m 136 ls [])) (x0 : Nat) (x1 : Int32) (K : Ka) (M : Cm) (H : Heap) (locs : List Loc) (ls : Array Slot) (hf : bT_X3_make_130 N r25 k136 x0 x1 K M = some o) (hL : KLe K0 K) (hR : RC x K M H) (hS : va_S (AC K0) s.heap H locs) (hl : lv_has ls 2 [(0, .ref x0), (1, .int x1)]) : W p l e R s m args below meth c H locs (kz K - kz K0) (ku K - ku K0) (TQ sT (aQA x K0) (zQV K0) "java/lang/IllegalStateException" x K0 below args s o) (F0 m 130 ls []) := by
  obtain ⟨CX, hno, hlt, hmn⟩ := id CTX
  obtain ⟨hx, hb, hml, hown, hts, hE, hB, hr, hlk⟩ := id CX
  have hcs := nz_le (mbT_X3_make_130 mr25 mk136 x0 x1 K M hf) hRc
  unfold bT_X3_make_130 at hf
  refine lv_iinc (v := x1 + 1) (lv' := [(1, .int (x1 + 1)), (0, .ref x0)]) hx hb dX3_make_130 hl (k := 1) rfl rfl (by decide) rfl (fun ls hl => ?_)
  refine lv_goto (tgt := 25) hx hb dX3_make_133 (by decide) ?_
  exact hr25 _ _ _ _ _ _ _ hf hL hR hS (lv_sub hl [1, 0] rfl)
def bT_X3_make_108 (N : Nat) (r25 : Nat → Int32 → Ka → Cm → Option ((Nat × Ka × Cm) ⊕ (Ka × Cm))) (k136 : Nat → Ka → Cm → Option ((Nat × Ka × Cm) ⊕ (Ka × Cm))) (x0 : Nat) (x1 : Int32) (K : Ka) (M : Cm) : Option ((Nat × Ka × Cm) ⊕ (Ka × Cm)) := (bT_X3_make_130 N r25 k136) x0 x1 K M
theorem mbT_X3_make_108 {o : (Nat × Ka × Cm) ⊕ (Ka × Cm)} {N : Nat} {r25 : Nat → Int32 → Ka → Cm → Option ((Nat × Ka × Cm) ⊕ (Ka × Cm))} {k136 : Nat → Ka → Cm → Option ((Nat × Ka × Cm) ⊕ (Ka × Cm))} (mr25 : ∀ (x0 : Nat) (x1 : Int32) (K : Ka) (M : Cm) , r25 x0 x1 K M = some o → KLe K (oK sT o)) (mk136 : ∀ (x0 : Nat) (K : Ka) (M : Cm) , k136 x0 K M = some o → KLe K (oK sT o)) (x0 : Nat) (x1 : Int32) (K : Ka) (M : Cm) (hf : bT_X3_make_108 N r25 k136 x0 x1 K M = some o) : KLe K (oK sT o) := by
  unfold bT_X3_make_108 at hf
  exact (mbT_X3_make_130 mr25 mk136) _ _ _ _ hf
set_option maxRecDepth 100000 in
set_option maxHeartbeats 4000000 in
theorem wbT_X3_make_108 {p : Program} {l : Launch} {e : Env} {R : Room} {s : State} {m : MethodId} {args : Array Value} {below : List Frame} {meth : Method} {c : Code} {x : Xc} {K0 : Ka} {o : (Nat × Ka × Cm) ⊕ (Ka × Cm)} {N : Nat} {r25 : Nat → Int32 → Ka → Cm → Option ((Nat × Ka × Cm) ⊕ (Ka × Cm))} {k136 : Nat → Ka → Cm → Option ((Nat × Ka × Cm) ⊕ (Ka × Cm))} (CTX : CT p l s m args meth c x K0 RX3 "make" cX3_make 2 (some (.object "StationStarter$Station"))) (hRm : 163 ≤ R.frames ∧ 9253 ≤ R.locals) (hRc : nz sT K0 o ≤ R.cells ∧ nu sT K0 o ≤ R.slots) (mr25 : ∀ (x0 : Nat) (x1 : Int32) (K : Ka) (M : Cm) , r25 x0 x1 K M = some o → KLe K (oK sT o)) (mk136 : ∀ (x0 : Nat) (K : Ka) (M : Cm) , k136 x0 K M = some o → KLe K (oK sT o)) (hr25 : ∀ (x0 : Nat) (x1 : Int32) (K : Ka) (M : Cm) (H : Heap) (locs : List Loc) (ls : Array Slot), r25 x0 x1 K M = some o → KLe K0 K → RC x K M H → va_S (AC K0) s.heap H locs → lv_has ls 2 [(0, .ref x0), (1, .int x1)] → W p l e R s m args below meth c H locs (kz K - kz K0) (ku K - ku K0) (TQ sT (aQA x K0) (zQV K0) "java/lang/IllegalStateException" x K0 below args s o) (F0 m 25 ls [])) (hk136 : ∀ (x0 : Nat) (K : Ka) (M : Cm) (H : Heap) (locs : List Loc) (ls : Array Slot), k136 x0 K M = some o → KLe K0 K → RC x K M H → va_S (AC K0) s.heap H locs → lv_has ls 2 [(0, .ref x0)] → W p l e R s m args below meth c H locs (kz K - kz K0) (ku K - ku K0) (TQ sT (aQA x K0) (zQV K0) "java/lang/IllegalStateException" x K0 below args s o) (F0 m 136 ls [])) (x0 : Nat) (x1 : Int32) (K : Ka) (M : Cm) (H : Heap) (locs : List Loc) (ls : Array Slot) (hf : bT_X3_make_108 N r25 k136 x0 x1 K M = some o) (hL : KLe K0 K) (hR : RC x K M H) (hS : va_S (AC K0) s.heap H locs) (hl : lv_has ls 2 [(0, .ref x0), (1, .int x1)]) : W p l e R s m args below meth c H locs (kz K - kz K0) (ku K - ku K0) (TQ sT (aQA x K0) (zQV K0) "java/lang/IllegalStateException" x K0 below args s o) (F0 m 108 ls []) := by
  obtain ⟨CX, hno, hlt, hmn⟩ := id CTX
  obtain ⟨hx, hb, hml, hown, hts, hE, hB, hr, hlk⟩ := id CX
  have hcs := nz_le (mbT_X3_make_108 mr25 mk136 x0 x1 K M hf) hRc
  unfold bT_X3_make_108 at hf
  refine lv_goto (tgt := 130) hx hb dX3_make_108 (by decide) ?_
  exact (wbT_X3_make_130 CTX hRm hRc mr25 mk136 hr25 hk136) _ _ _ _ _ _ _ hf hL hR hS (lv_sub hl [0, 1] rfl)
def bT_X3_make_115 (N : Nat) (r25 : Nat → Int32 → Ka → Cm → Option ((Nat × Ka × Cm) ⊕ (Ka × Cm))) (k136 : Nat → Ka → Cm → Option ((Nat × Ka × Cm) ⊕ (Ka × Cm))) (x0 : Nat) (x1 : Int32) (K : Ka) (M : Cm) : Option ((Nat × Ka × Cm) ⊕ (Ka × Cm)) := (bT_X3_make_130 N r25 k136) x0 x1 K M
theorem mbT_X3_make_115 {o : (Nat × Ka × Cm) ⊕ (Ka × Cm)} {N : Nat} {r25 : Nat → Int32 → Ka → Cm → Option ((Nat × Ka × Cm) ⊕ (Ka × Cm))} {k136 : Nat → Ka → Cm → Option ((Nat × Ka × Cm) ⊕ (Ka × Cm))} (mr25 : ∀ (x0 : Nat) (x1 : Int32) (K : Ka) (M : Cm) , r25 x0 x1 K M = some o → KLe K (oK sT o)) (mk136 : ∀ (x0 : Nat) (K : Ka) (M : Cm) , k136 x0 K M = some o → KLe K (oK sT o)) (x0 : Nat) (x1 : Int32) (K : Ka) (M : Cm) (hf : bT_X3_make_115 N r25 k136 x0 x1 K M = some o) : KLe K (oK sT o) := by
  unfold bT_X3_make_115 at hf
  exact (mbT_X3_make_130 mr25 mk136) _ _ _ _ hf
set_option maxRecDepth 100000 in
set_option maxHeartbeats 4000000 in
theorem wbT_X3_make_115 {p : Program} {l : Launch} {e : Env} {R : Room} {s : State} {m : MethodId} {args : Array Value} {below : List Frame} {meth : Method} {c : Code} {x : Xc} {K0 : Ka} {o : (Nat × Ka × Cm) ⊕ (Ka × Cm)} {N : Nat} {r25 : Nat → Int32 → Ka → Cm → Option ((Nat × Ka × Cm) ⊕ (Ka × Cm))} {k136 : Nat → Ka → Cm → Option ((Nat × Ka × Cm) ⊕ (Ka × Cm))} (CTX : CT p l s m args meth c x K0 RX3 "make" cX3_make 2 (some (.object "StationStarter$Station"))) (hRm : 163 ≤ R.frames ∧ 9253 ≤ R.locals) (hRc : nz sT K0 o ≤ R.cells ∧ nu sT K0 o ≤ R.slots) (mr25 : ∀ (x0 : Nat) (x1 : Int32) (K : Ka) (M : Cm) , r25 x0 x1 K M = some o → KLe K (oK sT o)) (mk136 : ∀ (x0 : Nat) (K : Ka) (M : Cm) , k136 x0 K M = some o → KLe K (oK sT o)) (hr25 : ∀ (x0 : Nat) (x1 : Int32) (K : Ka) (M : Cm) (H : Heap) (locs : List Loc) (ls : Array Slot), r25 x0 x1 K M = some o → KLe K0 K → RC x K M H → va_S (AC K0) s.heap H locs → lv_has ls 2 [(0, .ref x0), (1, .int x1)] → W p l e R s m args below meth c H locs (kz K - kz K0) (ku K - ku K0) (TQ sT (aQA x K0) (zQV K0) "java/lang/IllegalStateException" x K0 below args s o) (F0 m 25 ls [])) (hk136 : ∀ (x0 : Nat) (K : Ka) (M : Cm) (H : Heap) (locs : List Loc) (ls : Array Slot), k136 x0 K M = some o → KLe K0 K → RC x K M H → va_S (AC K0) s.heap H locs → lv_has ls 2 [(0, .ref x0)] → W p l e R s m args below meth c H locs (kz K - kz K0) (ku K - ku K0) (TQ sT (aQA x K0) (zQV K0) "java/lang/IllegalStateException" x K0 below args s o) (F0 m 136 ls [])) (x0 : Nat) (x1 : Int32) (K : Ka) (M : Cm) (H : Heap) (locs : List Loc) (ls : Array Slot) (hf : bT_X3_make_115 N r25 k136 x0 x1 K M = some o) (hL : KLe K0 K) (hR : RC x K M H) (hS : va_S (AC K0) s.heap H locs) (hl : lv_has ls 2 [(0, .ref x0), (1, .int x1)]) : W p l e R s m args below meth c H locs (kz K - kz K0) (ku K - ku K0) (TQ sT (aQA x K0) (zQV K0) "java/lang/IllegalStateException" x K0 below args s o) (F0 m 115 ls []) := by
  obtain ⟨CX, hno, hlt, hmn⟩ := id CTX
  obtain ⟨hx, hb, hml, hown, hts, hE, hB, hr, hlk⟩ := id CX
  have hcs := nz_le (mbT_X3_make_115 mr25 mk136 x0 x1 K M hf) hRc
  unfold bT_X3_make_115 at hf
  refine lv_goto (tgt := 130) hx hb dX3_make_115 (by decide) ?_
  exact (wbT_X3_make_130 CTX hRm hRc mr25 mk136 hr25 hk136) _ _ _ _ _ _ _ hf hL hR hS (lv_sub hl [0, 1] rfl)
def bT_X3_make_111 (N : Nat) (r25 : Nat → Int32 → Ka → Cm → Option ((Nat × Ka × Cm) ⊕ (Ka × Cm))) (k136 : Nat → Ka → Cm → Option ((Nat × Ka × Cm) ⊕ (Ka × Cm))) (x0 : Nat) (x1 : Int32) (K : Ka) (M : Cm) : Option ((Nat × Ka × Cm) ⊕ (Ka × Cm)) := gd (kd K x0 == 4) (tb (fT_X3_readUnit N x0 K M) fun o112 => (bT_X3_make_115 N r25 k136) x0 x1 o112.1 o112.2)
theorem mbT_X3_make_111 {o : (Nat × Ka × Cm) ⊕ (Ka × Cm)} {N : Nat} {r25 : Nat → Int32 → Ka → Cm → Option ((Nat × Ka × Cm) ⊕ (Ka × Cm))} {k136 : Nat → Ka → Cm → Option ((Nat × Ka × Cm) ⊕ (Ka × Cm))} (mr25 : ∀ (x0 : Nat) (x1 : Int32) (K : Ka) (M : Cm) , r25 x0 x1 K M = some o → KLe K (oK sT o)) (mk136 : ∀ (x0 : Nat) (K : Ka) (M : Cm) , k136 x0 K M = some o → KLe K (oK sT o)) (x0 : Nat) (x1 : Int32) (K : Ka) (M : Cm) (hf : bT_X3_make_111 N r25 k136 x0 x1 K M = some o) : KLe K (oK sT o) := by
  unfold bT_X3_make_111 at hf
  obtain ⟨-, hf⟩ := gd_some hf
  rcases tb_some hf with ⟨o112, ho, hf⟩ | ⟨q, ho, rfl⟩
  · exact KLe.tr (mfT_X3_readUnit _ _ _ ho) ((mbT_X3_make_115 mr25 mk136) _ _ _ _ hf)
  · exact (mfT_X3_readUnit _ _ _ ho)
set_option maxRecDepth 100000 in
set_option maxHeartbeats 4000000 in
theorem wbT_X3_make_111 {p : Program} {l : Launch} {e : Env} {R : Room} {s : State} {m : MethodId} {args : Array Value} {below : List Frame} {meth : Method} {c : Code} {x : Xc} {K0 : Ka} {o : (Nat × Ka × Cm) ⊕ (Ka × Cm)} {N : Nat} {r25 : Nat → Int32 → Ka → Cm → Option ((Nat × Ka × Cm) ⊕ (Ka × Cm))} {k136 : Nat → Ka → Cm → Option ((Nat × Ka × Cm) ⊕ (Ka × Cm))} (CTX : CT p l s m args meth c x K0 RX3 "make" cX3_make 2 (some (.object "StationStarter$Station"))) (hRm : 163 ≤ R.frames ∧ 9253 ≤ R.locals) (hRc : nz sT K0 o ≤ R.cells ∧ nu sT K0 o ≤ R.slots) (mr25 : ∀ (x0 : Nat) (x1 : Int32) (K : Ka) (M : Cm) , r25 x0 x1 K M = some o → KLe K (oK sT o)) (mk136 : ∀ (x0 : Nat) (K : Ka) (M : Cm) , k136 x0 K M = some o → KLe K (oK sT o)) (hr25 : ∀ (x0 : Nat) (x1 : Int32) (K : Ka) (M : Cm) (H : Heap) (locs : List Loc) (ls : Array Slot), r25 x0 x1 K M = some o → KLe K0 K → RC x K M H → va_S (AC K0) s.heap H locs → lv_has ls 2 [(0, .ref x0), (1, .int x1)] → W p l e R s m args below meth c H locs (kz K - kz K0) (ku K - ku K0) (TQ sT (aQA x K0) (zQV K0) "java/lang/IllegalStateException" x K0 below args s o) (F0 m 25 ls [])) (hk136 : ∀ (x0 : Nat) (K : Ka) (M : Cm) (H : Heap) (locs : List Loc) (ls : Array Slot), k136 x0 K M = some o → KLe K0 K → RC x K M H → va_S (AC K0) s.heap H locs → lv_has ls 2 [(0, .ref x0)] → W p l e R s m args below meth c H locs (kz K - kz K0) (ku K - ku K0) (TQ sT (aQA x K0) (zQV K0) "java/lang/IllegalStateException" x K0 below args s o) (F0 m 136 ls [])) (x0 : Nat) (x1 : Int32) (K : Ka) (M : Cm) (H : Heap) (locs : List Loc) (ls : Array Slot) (hf : bT_X3_make_111 N r25 k136 x0 x1 K M = some o) (hL : KLe K0 K) (hR : RC x K M H) (hS : va_S (AC K0) s.heap H locs) (hl : lv_has ls 2 [(0, .ref x0), (1, .int x1)]) : W p l e R s m args below meth c H locs (kz K - kz K0) (ku K - ku K0) (TQ sT (aQA x K0) (zQV K0) "java/lang/IllegalStateException" x K0 below args s o) (F0 m 111 ls []) := by
  obtain ⟨CX, hno, hlt, hmn⟩ := id CTX
  obtain ⟨hx, hb, hml, hown, hts, hE, hB, hr, hlk⟩ := id CX
  have hcs := nz_le (mbT_X3_make_111 mr25 mk136 x0 x1 K M hf) hRc
  unfold bT_X3_make_111 at hf
  refine lv_aload_n hx hb dX3_make_111 rfl (lv_at hl 0 rfl) ?_
  obtain ⟨hk_x0_4, hf⟩ := gd_some hf
  rcases tb_some hf with ⟨o112, ho, hf⟩ | ⟨q, ho, rfl⟩
  · have hm1 := (mbT_X3_make_115 mr25 mk136) _ _ _ _ hf
    have hb1 := nz_le hm1 hRc
    have hq1 := (mfT_X3_readUnit _ _ _ ho)
    refine ta_callVv kc_3 CX hL hR hS (As := []) (rest := []) hk_x0_4 (MT_X3_readUnit l x hlt N _ _ _ _ ho) cv_X3_48 ⟨by omega, by omega⟩ rfl (Nat.le_of_ble_eq_true rfl) hl.1 hq1 hb1 rfl dX3_make_112 (fun H locs hR hS => ?_)
    exact (wbT_X3_make_115 CTX hRm hRc mr25 mk136 hr25 hk136) _ _ _ _ _ _ _ hf (hL.tr hq1) hR hS (lv_sub hl [0, 1] rfl)
  · exact tx_callv kc_3 CTX hL hR hS (As := []) (rest := []) hk_x0_4 (MT_X3_readUnit l x hlt N _ _ _ _ ho) cv_X3_48 ⟨by omega, by omega⟩ rfl (Nat.le_of_ble_eq_true rfl) hl.1 (mfT_X3_readUnit _ _ _ ho) hRc rfl dX3_make_112
def bT_X3_make_122 (N : Nat) (r25 : Nat → Int32 → Ka → Cm → Option ((Nat × Ka × Cm) ⊕ (Ka × Cm))) (k136 : Nat → Ka → Cm → Option ((Nat × Ka × Cm) ⊕ (Ka × Cm))) (x0 : Nat) (x1 : Int32) (K : Ka) (M : Cm) : Option ((Nat × Ka × Cm) ⊕ (Ka × Cm)) := (bT_X3_make_130 N r25 k136) x0 x1 K M
theorem mbT_X3_make_122 {o : (Nat × Ka × Cm) ⊕ (Ka × Cm)} {N : Nat} {r25 : Nat → Int32 → Ka → Cm → Option ((Nat × Ka × Cm) ⊕ (Ka × Cm))} {k136 : Nat → Ka → Cm → Option ((Nat × Ka × Cm) ⊕ (Ka × Cm))} (mr25 : ∀ (x0 : Nat) (x1 : Int32) (K : Ka) (M : Cm) , r25 x0 x1 K M = some o → KLe K (oK sT o)) (mk136 : ∀ (x0 : Nat) (K : Ka) (M : Cm) , k136 x0 K M = some o → KLe K (oK sT o)) (x0 : Nat) (x1 : Int32) (K : Ka) (M : Cm) (hf : bT_X3_make_122 N r25 k136 x0 x1 K M = some o) : KLe K (oK sT o) := by
  unfold bT_X3_make_122 at hf
  exact (mbT_X3_make_130 mr25 mk136) _ _ _ _ hf
set_option maxRecDepth 100000 in
set_option maxHeartbeats 4000000 in
theorem wbT_X3_make_122 {p : Program} {l : Launch} {e : Env} {R : Room} {s : State} {m : MethodId} {args : Array Value} {below : List Frame} {meth : Method} {c : Code} {x : Xc} {K0 : Ka} {o : (Nat × Ka × Cm) ⊕ (Ka × Cm)} {N : Nat} {r25 : Nat → Int32 → Ka → Cm → Option ((Nat × Ka × Cm) ⊕ (Ka × Cm))} {k136 : Nat → Ka → Cm → Option ((Nat × Ka × Cm) ⊕ (Ka × Cm))} (CTX : CT p l s m args meth c x K0 RX3 "make" cX3_make 2 (some (.object "StationStarter$Station"))) (hRm : 163 ≤ R.frames ∧ 9253 ≤ R.locals) (hRc : nz sT K0 o ≤ R.cells ∧ nu sT K0 o ≤ R.slots) (mr25 : ∀ (x0 : Nat) (x1 : Int32) (K : Ka) (M : Cm) , r25 x0 x1 K M = some o → KLe K (oK sT o)) (mk136 : ∀ (x0 : Nat) (K : Ka) (M : Cm) , k136 x0 K M = some o → KLe K (oK sT o)) (hr25 : ∀ (x0 : Nat) (x1 : Int32) (K : Ka) (M : Cm) (H : Heap) (locs : List Loc) (ls : Array Slot), r25 x0 x1 K M = some o → KLe K0 K → RC x K M H → va_S (AC K0) s.heap H locs → lv_has ls 2 [(0, .ref x0), (1, .int x1)] → W p l e R s m args below meth c H locs (kz K - kz K0) (ku K - ku K0) (TQ sT (aQA x K0) (zQV K0) "java/lang/IllegalStateException" x K0 below args s o) (F0 m 25 ls [])) (hk136 : ∀ (x0 : Nat) (K : Ka) (M : Cm) (H : Heap) (locs : List Loc) (ls : Array Slot), k136 x0 K M = some o → KLe K0 K → RC x K M H → va_S (AC K0) s.heap H locs → lv_has ls 2 [(0, .ref x0)] → W p l e R s m args below meth c H locs (kz K - kz K0) (ku K - ku K0) (TQ sT (aQA x K0) (zQV K0) "java/lang/IllegalStateException" x K0 below args s o) (F0 m 136 ls [])) (x0 : Nat) (x1 : Int32) (K : Ka) (M : Cm) (H : Heap) (locs : List Loc) (ls : Array Slot) (hf : bT_X3_make_122 N r25 k136 x0 x1 K M = some o) (hL : KLe K0 K) (hR : RC x K M H) (hS : va_S (AC K0) s.heap H locs) (hl : lv_has ls 2 [(0, .ref x0), (1, .int x1)]) : W p l e R s m args below meth c H locs (kz K - kz K0) (ku K - ku K0) (TQ sT (aQA x K0) (zQV K0) "java/lang/IllegalStateException" x K0 below args s o) (F0 m 122 ls []) := by
  obtain ⟨CX, hno, hlt, hmn⟩ := id CTX
  obtain ⟨hx, hb, hml, hown, hts, hE, hB, hr, hlk⟩ := id CX
  have hcs := nz_le (mbT_X3_make_122 mr25 mk136 x0 x1 K M hf) hRc
  unfold bT_X3_make_122 at hf
  refine lv_goto (tgt := 130) hx hb dX3_make_122 (by decide) ?_
  exact (wbT_X3_make_130 CTX hRm hRc mr25 mk136 hr25 hk136) _ _ _ _ _ _ _ hf hL hR hS (lv_sub hl [0, 1] rfl)
def bT_X3_make_125 (N : Nat) (r25 : Nat → Int32 → Ka → Cm → Option ((Nat × Ka × Cm) ⊕ (Ka × Cm))) (k136 : Nat → Ka → Cm → Option ((Nat × Ka × Cm) ⊕ (Ka × Cm))) (x0 : Nat) (x1 : Int32) (K : Ka) (M : Cm) : Option ((Nat × Ka × Cm) ⊕ (Ka × Cm)) := gd (kd K x0 == 4) (tb (fT_X3_refuse N x0 1 K M) fun o127 => (bT_X3_make_130 N r25 k136) x0 x1 o127.1 o127.2)
theorem mbT_X3_make_125 {o : (Nat × Ka × Cm) ⊕ (Ka × Cm)} {N : Nat} {r25 : Nat → Int32 → Ka → Cm → Option ((Nat × Ka × Cm) ⊕ (Ka × Cm))} {k136 : Nat → Ka → Cm → Option ((Nat × Ka × Cm) ⊕ (Ka × Cm))} (mr25 : ∀ (x0 : Nat) (x1 : Int32) (K : Ka) (M : Cm) , r25 x0 x1 K M = some o → KLe K (oK sT o)) (mk136 : ∀ (x0 : Nat) (K : Ka) (M : Cm) , k136 x0 K M = some o → KLe K (oK sT o)) (x0 : Nat) (x1 : Int32) (K : Ka) (M : Cm) (hf : bT_X3_make_125 N r25 k136 x0 x1 K M = some o) : KLe K (oK sT o) := by
  unfold bT_X3_make_125 at hf
  obtain ⟨-, hf⟩ := gd_some hf
  rcases tb_some hf with ⟨o127, ho, hf⟩ | ⟨q, ho, rfl⟩
  · exact KLe.tr (mfT_X3_refuse _ _ _ _ ho) ((mbT_X3_make_130 mr25 mk136) _ _ _ _ hf)
  · exact (mfT_X3_refuse _ _ _ _ ho)
set_option maxRecDepth 100000 in
set_option maxHeartbeats 4000000 in
theorem wbT_X3_make_125 {p : Program} {l : Launch} {e : Env} {R : Room} {s : State} {m : MethodId} {args : Array Value} {below : List Frame} {meth : Method} {c : Code} {x : Xc} {K0 : Ka} {o : (Nat × Ka × Cm) ⊕ (Ka × Cm)} {N : Nat} {r25 : Nat → Int32 → Ka → Cm → Option ((Nat × Ka × Cm) ⊕ (Ka × Cm))} {k136 : Nat → Ka → Cm → Option ((Nat × Ka × Cm) ⊕ (Ka × Cm))} (CTX : CT p l s m args meth c x K0 RX3 "make" cX3_make 2 (some (.object "StationStarter$Station"))) (hRm : 163 ≤ R.frames ∧ 9253 ≤ R.locals) (hRc : nz sT K0 o ≤ R.cells ∧ nu sT K0 o ≤ R.slots) (mr25 : ∀ (x0 : Nat) (x1 : Int32) (K : Ka) (M : Cm) , r25 x0 x1 K M = some o → KLe K (oK sT o)) (mk136 : ∀ (x0 : Nat) (K : Ka) (M : Cm) , k136 x0 K M = some o → KLe K (oK sT o)) (hr25 : ∀ (x0 : Nat) (x1 : Int32) (K : Ka) (M : Cm) (H : Heap) (locs : List Loc) (ls : Array Slot), r25 x0 x1 K M = some o → KLe K0 K → RC x K M H → va_S (AC K0) s.heap H locs → lv_has ls 2 [(0, .ref x0), (1, .int x1)] → W p l e R s m args below meth c H locs (kz K - kz K0) (ku K - ku K0) (TQ sT (aQA x K0) (zQV K0) "java/lang/IllegalStateException" x K0 below args s o) (F0 m 25 ls [])) (hk136 : ∀ (x0 : Nat) (K : Ka) (M : Cm) (H : Heap) (locs : List Loc) (ls : Array Slot), k136 x0 K M = some o → KLe K0 K → RC x K M H → va_S (AC K0) s.heap H locs → lv_has ls 2 [(0, .ref x0)] → W p l e R s m args below meth c H locs (kz K - kz K0) (ku K - ku K0) (TQ sT (aQA x K0) (zQV K0) "java/lang/IllegalStateException" x K0 below args s o) (F0 m 136 ls [])) (x0 : Nat) (x1 : Int32) (K : Ka) (M : Cm) (H : Heap) (locs : List Loc) (ls : Array Slot) (hf : bT_X3_make_125 N r25 k136 x0 x1 K M = some o) (hL : KLe K0 K) (hR : RC x K M H) (hS : va_S (AC K0) s.heap H locs) (hl : lv_has ls 2 [(0, .ref x0), (1, .int x1)]) : W p l e R s m args below meth c H locs (kz K - kz K0) (ku K - ku K0) (TQ sT (aQA x K0) (zQV K0) "java/lang/IllegalStateException" x K0 below args s o) (F0 m 125 ls []) := by
  obtain ⟨CX, hno, hlt, hmn⟩ := id CTX
  obtain ⟨hx, hb, hml, hown, hts, hE, hB, hr, hlk⟩ := id CX
  have hcs := nz_le (mbT_X3_make_125 mr25 mk136 x0 x1 K M hf) hRc
  unfold bT_X3_make_125 at hf
  refine lv_aload_n hx hb dX3_make_125 rfl (lv_at hl 0 rfl) ?_
  refine lv_iconst (v := 1) hx hb dX3_make_126 (by decide) ?_
  obtain ⟨hk_x0_4, hf⟩ := gd_some hf
  rcases tb_some hf with ⟨o127, ho, hf⟩ | ⟨q, ho, rfl⟩
  · have hm1 := (mbT_X3_make_130 mr25 mk136) _ _ _ _ hf
    have hb1 := nz_le hm1 hRc
    have hq1 := (mfT_X3_refuse _ _ _ _ ho)
    refine ta_callVv kc_3 CX hL hR hS (As := [.int 1]) (rest := []) hk_x0_4 (MT_X3_refuse l x hlt N _ _ _ _ _ ho) cv_X3_54 ⟨by omega, by omega⟩ rfl (Nat.le_of_ble_eq_true rfl) hl.1 hq1 hb1 rfl dX3_make_127 (fun H locs hR hS => ?_)
    exact (wbT_X3_make_130 CTX hRm hRc mr25 mk136 hr25 hk136) _ _ _ _ _ _ _ hf (hL.tr hq1) hR hS (lv_sub hl [0, 1] rfl)
  · exact tx_callv kc_3 CTX hL hR hS (As := [.int 1]) (rest := []) hk_x0_4 (MT_X3_refuse l x hlt N _ _ _ _ _ ho) cv_X3_54 ⟨by omega, by omega⟩ rfl (Nat.le_of_ble_eq_true rfl) hl.1 (mfT_X3_refuse _ _ _ _ ho) hRc rfl dX3_make_127
def lT_X3_make_25 (N : Nat) (k136 : Nat → Ka → Cm → Option ((Nat × Ka × Cm) ⊕ (Ka × Cm))) : Nat → Nat → Int32 → Ka → Cm → Option ((Nat × Ka × Cm) ⊕ (Ka × Cm))
  | 0, _, _, _, _ => none
  | n + 1, x0, x1, K, M => gd (kd K x0 == 4) (nn (cR M x0 0) fun a1 => gd (kd K a1 == 7) (if (cI M a1 6) ≤ x1 then (k136 x0 K M) else (if (cI M x0 3) = 0 then (k136 x0 K M) else (if (cI M x0 3) = 128 then (tb (fT_X3_readDevice N x0 K M) fun o105 => (bT_X3_make_108 N (lT_X3_make_25 N k136 n) k136) x0 x1 o105.1 o105.2) else if (cI M x0 3) = 129 then ((bT_X3_make_125 N (lT_X3_make_25 N k136 n) k136) x0 x1 K M) else if (cI M x0 3) = 130 then ((bT_X3_make_125 N (lT_X3_make_25 N k136 n) k136) x0 x1 K M) else if (cI M x0 3) = 131 then ((bT_X3_make_125 N (lT_X3_make_25 N k136 n) k136) x0 x1 K M) else if (cI M x0 3) = 132 then ((bT_X3_make_111 N (lT_X3_make_25 N k136 n) k136) x0 x1 K M) else if (cI M x0 3) = 133 then ((bT_X3_make_111 N (lT_X3_make_25 N k136 n) k136) x0 x1 K M) else if (cI M x0 3) = 134 then ((bT_X3_make_125 N (lT_X3_make_25 N k136 n) k136) x0 x1 K M) else if (cI M x0 3) = 135 then ((bT_X3_make_111 N (lT_X3_make_25 N k136 n) k136) x0 x1 K M) else if (cI M x0 3) = 136 then ((bT_X3_make_125 N (lT_X3_make_25 N k136 n) k136) x0 x1 K M) else if (cI M x0 3) = 137 then ((bT_X3_make_125 N (lT_X3_make_25 N k136 n) k136) x0 x1 K M) else if (cI M x0 3) = 138 then (tb (fT_X3_readDemand N x0 K M) fun o119 => (bT_X3_make_122 N (lT_X3_make_25 N k136 n) k136) x0 x1 o119.1 o119.2) else ((bT_X3_make_125 N (lT_X3_make_25 N k136 n) k136) x0 x1 K M)))))
theorem mlT_X3_make_25 {o : (Nat × Ka × Cm) ⊕ (Ka × Cm)} {N : Nat} {k136 : Nat → Ka → Cm → Option ((Nat × Ka × Cm) ⊕ (Ka × Cm))} (mk136 : ∀ (x0 : Nat) (K : Ka) (M : Cm) , k136 x0 K M = some o → KLe K (oK sT o)) : ∀ (n : Nat) (x0 : Nat) (x1 : Int32) (K : Ka) (M : Cm), lT_X3_make_25 N k136 n x0 x1 K M = some o → KLe K (oK sT o) := by
  intro n
  induction n with
  | zero => intro x0 x1 K M hf; cases hf
  | succ n ih =>
    intro x0 x1 K M hf
    rw [lT_X3_make_25] at hf
    obtain ⟨-, hf⟩ := gd_some hf
    obtain ⟨a1, -, hf⟩ := nn_some hf
    obtain ⟨-, hf⟩ := gd_some hf
    by_cases hc : (cI M a1 6) ≤ x1
    · rw [if_pos hc] at hf
      exact mk136 _ _ _ hf
    · rw [if_neg hc] at hf
      by_cases hc : (cI M x0 3) = 0
      · rw [if_pos hc] at hf
        exact mk136 _ _ _ hf
      · rw [if_neg hc] at hf
        by_cases hc0 : (cI M x0 3) = 128
        · rw [if_pos hc0] at hf
          rcases tb_some hf with ⟨o105, ho, hf⟩ | ⟨q, ho, rfl⟩
          · exact KLe.tr (mfT_X3_readDevice _ _ _ ho) ((mbT_X3_make_108 ih mk136) _ _ _ _ hf)
          · exact (mfT_X3_readDevice _ _ _ ho)
        · rw [if_neg hc0] at hf
          by_cases hc1 : (cI M x0 3) = 129
          · rw [if_pos hc1] at hf
            exact (mbT_X3_make_125 ih mk136) _ _ _ _ hf
          · rw [if_neg hc1] at hf
            by_cases hc2 : (cI M x0 3) = 130
            · rw [if_pos hc2] at hf
              exact (mbT_X3_make_125 ih mk136) _ _ _ _ hf
            · rw [if_neg hc2] at hf
              by_cases hc3 : (cI M x0 3) = 131
              · rw [if_pos hc3] at hf
                exact (mbT_X3_make_125 ih mk136) _ _ _ _ hf
              · rw [if_neg hc3] at hf
                by_cases hc4 : (cI M x0 3) = 132
                · rw [if_pos hc4] at hf
                  exact (mbT_X3_make_111 ih mk136) _ _ _ _ hf
                · rw [if_neg hc4] at hf
                  by_cases hc5 : (cI M x0 3) = 133
                  · rw [if_pos hc5] at hf
                    exact (mbT_X3_make_111 ih mk136) _ _ _ _ hf
                  · rw [if_neg hc5] at hf
                    by_cases hc6 : (cI M x0 3) = 134
                    · rw [if_pos hc6] at hf
                      exact (mbT_X3_make_125 ih mk136) _ _ _ _ hf
                    · rw [if_neg hc6] at hf
                      by_cases hc7 : (cI M x0 3) = 135
                      · rw [if_pos hc7] at hf
                        exact (mbT_X3_make_111 ih mk136) _ _ _ _ hf
                      · rw [if_neg hc7] at hf
                        by_cases hc8 : (cI M x0 3) = 136
                        · rw [if_pos hc8] at hf
                          exact (mbT_X3_make_125 ih mk136) _ _ _ _ hf
                        · rw [if_neg hc8] at hf
                          by_cases hc9 : (cI M x0 3) = 137
                          · rw [if_pos hc9] at hf
                            exact (mbT_X3_make_125 ih mk136) _ _ _ _ hf
                          · rw [if_neg hc9] at hf
                            by_cases hc10 : (cI M x0 3) = 138
                            · rw [if_pos hc10] at hf
                              rcases tb_some hf with ⟨o119, ho, hf⟩ | ⟨q, ho, rfl⟩
                              · exact KLe.tr (mfT_X3_readDemand _ _ _ ho) ((mbT_X3_make_122 ih mk136) _ _ _ _ hf)
                              · exact (mfT_X3_readDemand _ _ _ ho)
                            · rw [if_neg hc10] at hf
                              exact (mbT_X3_make_125 ih mk136) _ _ _ _ hf
set_option maxRecDepth 100000 in
set_option maxHeartbeats 4000000 in
theorem wlT_X3_make_25 {p : Program} {l : Launch} {e : Env} {R : Room} {s : State} {m : MethodId} {args : Array Value} {below : List Frame} {meth : Method} {c : Code} {x : Xc} {K0 : Ka} {o : (Nat × Ka × Cm) ⊕ (Ka × Cm)} {N : Nat} {k136 : Nat → Ka → Cm → Option ((Nat × Ka × Cm) ⊕ (Ka × Cm))} (CTX : CT p l s m args meth c x K0 RX3 "make" cX3_make 2 (some (.object "StationStarter$Station"))) (hRm : 163 ≤ R.frames ∧ 9253 ≤ R.locals) (hRc : nz sT K0 o ≤ R.cells ∧ nu sT K0 o ≤ R.slots) (mk136 : ∀ (x0 : Nat) (K : Ka) (M : Cm) , k136 x0 K M = some o → KLe K (oK sT o)) (hk136 : ∀ (x0 : Nat) (K : Ka) (M : Cm) (H : Heap) (locs : List Loc) (ls : Array Slot), k136 x0 K M = some o → KLe K0 K → RC x K M H → va_S (AC K0) s.heap H locs → lv_has ls 2 [(0, .ref x0)] → W p l e R s m args below meth c H locs (kz K - kz K0) (ku K - ku K0) (TQ sT (aQA x K0) (zQV K0) "java/lang/IllegalStateException" x K0 below args s o) (F0 m 136 ls [])) : ∀ (n : Nat) (x0 : Nat) (x1 : Int32) (K : Ka) (M : Cm) (H : Heap) (locs : List Loc) (ls : Array Slot), lT_X3_make_25 N k136 n x0 x1 K M = some o → KLe K0 K → RC x K M H → va_S (AC K0) s.heap H locs → lv_has ls 2 [(0, .ref x0), (1, .int x1)] → W p l e R s m args below meth c H locs (kz K - kz K0) (ku K - ku K0) (TQ sT (aQA x K0) (zQV K0) "java/lang/IllegalStateException" x K0 below args s o) (F0 m 25 ls []) := by
  obtain ⟨CX, hno, hlt, hmn⟩ := id CTX
  obtain ⟨hx, hb, hml, hown, hts, hE, hB, hr, hlk⟩ := id CX
  intro n
  induction n with
  | zero => intro x0 x1 K M H locs ls hf; cases hf
  | succ n ih =>
    intro x0 x1 K M H locs ls hf hL hR hS hl
    have hcs := nz_le (mlT_X3_make_25 mk136 (n + 1) x0 x1 K M hf) hRc
    rw [lT_X3_make_25] at hf
    refine lv_iload_n hx hb dX3_make_25 rfl (lv_at hl 1 rfl) ?_
    refine lv_aload_n hx hb dX3_make_26 rfl (lv_at hl 0 rfl) ?_
    obtain ⟨hk_x0_4, hf⟩ := gd_some hf
    refine cr_getR kc_3 CX hR fa_X3_28 rfl hk_x0_4 dX3_make_27 ?_
    obtain ⟨a1, ha1, hf⟩ := nn_some hf
    refine rf_0 ha1 ?_
    obtain ⟨hk_a1_7, hf⟩ := gd_some hf
    refine cr_getI kc_6 CX hR fa_X3_34 rfl hk_a1_7 dX3_make_30 ?_
    refine lv_icmp_ge (tgt := 136) hx hb dX3_make_33 (by decide) (fun hc => ?_) (fun hc => ?_)
    · rw [if_pos hc] at hf
      exact hk136 _ _ _ _ _ _ hf hL hR hS (lv_sub hl [0] rfl)
    · rw [if_neg hc] at hf
      refine lv_aload_n hx hb dX3_make_36 rfl (lv_at hl 0 rfl) ?_
      refine cr_getI kc_3 CX hR fa_X3_19 rfl hk_x0_4 dX3_make_37 ?_
      refine lv_if_eq (tgt := 136) hx hb dX3_make_40 (by decide) (fun hc => ?_) (fun hc => ?_)
      · rw [if_pos hc] at hf
        exact hk136 _ _ _ _ _ _ hf hL hR hS (lv_sub hl [0] rfl)
      · rw [if_neg hc] at hf
        refine lv_aload_n hx hb dX3_make_43 rfl (lv_at hl 0 rfl) ?_
        refine cr_getI kc_3 CX hR fa_X3_19 rfl hk_x0_4 dX3_make_44 ?_
        by_cases hc0 : (cI M x0 3) = 128
        · rw [if_pos hc0] at hf
          refine lv_tableIn (off := 57) (tgt := 104) hx hb dX3_make_47 (by rw [hc0]; decide) (by rw [hc0]; decide) (by rw [hc0]; decide) (by decide) ?_
          refine lv_aload_n hx hb dX3_make_104 rfl (lv_at hl 0 rfl) ?_
          rcases tb_some hf with ⟨o105, ho, hf⟩ | ⟨q, ho, rfl⟩
          · have hm1 := (mbT_X3_make_108 (mlT_X3_make_25 mk136 n) mk136) _ _ _ _ hf
            have hb1 := nz_le hm1 hRc
            have hq1 := (mfT_X3_readDevice _ _ _ ho)
            refine ta_callVv kc_3 CX hL hR hS (As := []) (rest := []) hk_x0_4 (MT_X3_readDevice l x hlt N _ _ _ _ ho) cv_X3_45 ⟨by omega, by omega⟩ rfl (Nat.le_of_ble_eq_true rfl) hl.1 hq1 hb1 rfl dX3_make_105 (fun H locs hR hS => ?_)
            exact (wbT_X3_make_108 CTX hRm hRc (mlT_X3_make_25 mk136 n) mk136 ih hk136) _ _ _ _ _ _ _ hf (hL.tr hq1) hR hS (lv_sub hl [0, 1] rfl)
          · exact tx_callv kc_3 CTX hL hR hS (As := []) (rest := []) hk_x0_4 (MT_X3_readDevice l x hlt N _ _ _ _ ho) cv_X3_45 ⟨by omega, by omega⟩ rfl (Nat.le_of_ble_eq_true rfl) hl.1 (mfT_X3_readDevice _ _ _ ho) hRc rfl dX3_make_105
        · rw [if_neg hc0] at hf
          by_cases hc1 : (cI M x0 3) = 129
          · rw [if_pos hc1] at hf
            refine lv_tableIn (off := 78) (tgt := 125) hx hb dX3_make_47 (by rw [hc1]; decide) (by rw [hc1]; decide) (by rw [hc1]; decide) (by decide) ?_
            exact (wbT_X3_make_125 CTX hRm hRc (mlT_X3_make_25 mk136 n) mk136 ih hk136) _ _ _ _ _ _ _ hf hL hR hS (lv_sub hl [0, 1] rfl)
          · rw [if_neg hc1] at hf
            by_cases hc2 : (cI M x0 3) = 130
            · rw [if_pos hc2] at hf
              refine lv_tableIn (off := 78) (tgt := 125) hx hb dX3_make_47 (by rw [hc2]; decide) (by rw [hc2]; decide) (by rw [hc2]; decide) (by decide) ?_
              exact (wbT_X3_make_125 CTX hRm hRc (mlT_X3_make_25 mk136 n) mk136 ih hk136) _ _ _ _ _ _ _ hf hL hR hS (lv_sub hl [0, 1] rfl)
            · rw [if_neg hc2] at hf
              by_cases hc3 : (cI M x0 3) = 131
              · rw [if_pos hc3] at hf
                refine lv_tableIn (off := 78) (tgt := 125) hx hb dX3_make_47 (by rw [hc3]; decide) (by rw [hc3]; decide) (by rw [hc3]; decide) (by decide) ?_
                exact (wbT_X3_make_125 CTX hRm hRc (mlT_X3_make_25 mk136 n) mk136 ih hk136) _ _ _ _ _ _ _ hf hL hR hS (lv_sub hl [0, 1] rfl)
              · rw [if_neg hc3] at hf
                by_cases hc4 : (cI M x0 3) = 132
                · rw [if_pos hc4] at hf
                  refine lv_tableIn (off := 64) (tgt := 111) hx hb dX3_make_47 (by rw [hc4]; decide) (by rw [hc4]; decide) (by rw [hc4]; decide) (by decide) ?_
                  exact (wbT_X3_make_111 CTX hRm hRc (mlT_X3_make_25 mk136 n) mk136 ih hk136) _ _ _ _ _ _ _ hf hL hR hS (lv_sub hl [0, 1] rfl)
                · rw [if_neg hc4] at hf
                  by_cases hc5 : (cI M x0 3) = 133
                  · rw [if_pos hc5] at hf
                    refine lv_tableIn (off := 64) (tgt := 111) hx hb dX3_make_47 (by rw [hc5]; decide) (by rw [hc5]; decide) (by rw [hc5]; decide) (by decide) ?_
                    exact (wbT_X3_make_111 CTX hRm hRc (mlT_X3_make_25 mk136 n) mk136 ih hk136) _ _ _ _ _ _ _ hf hL hR hS (lv_sub hl [0, 1] rfl)
                  · rw [if_neg hc5] at hf
                    by_cases hc6 : (cI M x0 3) = 134
                    · rw [if_pos hc6] at hf
                      refine lv_tableIn (off := 78) (tgt := 125) hx hb dX3_make_47 (by rw [hc6]; decide) (by rw [hc6]; decide) (by rw [hc6]; decide) (by decide) ?_
                      exact (wbT_X3_make_125 CTX hRm hRc (mlT_X3_make_25 mk136 n) mk136 ih hk136) _ _ _ _ _ _ _ hf hL hR hS (lv_sub hl [0, 1] rfl)
                    · rw [if_neg hc6] at hf
                      by_cases hc7 : (cI M x0 3) = 135
                      · rw [if_pos hc7] at hf
                        refine lv_tableIn (off := 64) (tgt := 111) hx hb dX3_make_47 (by rw [hc7]; decide) (by rw [hc7]; decide) (by rw [hc7]; decide) (by decide) ?_
                        exact (wbT_X3_make_111 CTX hRm hRc (mlT_X3_make_25 mk136 n) mk136 ih hk136) _ _ _ _ _ _ _ hf hL hR hS (lv_sub hl [0, 1] rfl)
                      · rw [if_neg hc7] at hf
                        by_cases hc8 : (cI M x0 3) = 136
                        · rw [if_pos hc8] at hf
                          refine lv_tableIn (off := 78) (tgt := 125) hx hb dX3_make_47 (by rw [hc8]; decide) (by rw [hc8]; decide) (by rw [hc8]; decide) (by decide) ?_
                          exact (wbT_X3_make_125 CTX hRm hRc (mlT_X3_make_25 mk136 n) mk136 ih hk136) _ _ _ _ _ _ _ hf hL hR hS (lv_sub hl [0, 1] rfl)
                        · rw [if_neg hc8] at hf
                          by_cases hc9 : (cI M x0 3) = 137
                          · rw [if_pos hc9] at hf
                            refine lv_tableIn (off := 78) (tgt := 125) hx hb dX3_make_47 (by rw [hc9]; decide) (by rw [hc9]; decide) (by rw [hc9]; decide) (by decide) ?_
                            exact (wbT_X3_make_125 CTX hRm hRc (mlT_X3_make_25 mk136 n) mk136 ih hk136) _ _ _ _ _ _ _ hf hL hR hS (lv_sub hl [0, 1] rfl)
                          · rw [if_neg hc9] at hf
                            by_cases hc10 : (cI M x0 3) = 138
                            · rw [if_pos hc10] at hf
                              refine lv_tableIn (off := 71) (tgt := 118) hx hb dX3_make_47 (by rw [hc10]; decide) (by rw [hc10]; decide) (by rw [hc10]; decide) (by decide) ?_
                              refine lv_aload_n hx hb dX3_make_118 rfl (lv_at hl 0 rfl) ?_
                              rcases tb_some hf with ⟨o119, ho, hf⟩ | ⟨q, ho, rfl⟩
                              · have hm1 := (mbT_X3_make_122 (mlT_X3_make_25 mk136 n) mk136) _ _ _ _ hf
                                have hb1 := nz_le hm1 hRc
                                have hq1 := (mfT_X3_readDemand _ _ _ ho)
                                refine ta_callVv kc_3 CX hL hR hS (As := []) (rest := []) hk_x0_4 (MT_X3_readDemand l x hlt N _ _ _ _ ho) cv_X3_51 ⟨by omega, by omega⟩ rfl (Nat.le_of_ble_eq_true rfl) hl.1 hq1 hb1 rfl dX3_make_119 (fun H locs hR hS => ?_)
                                exact (wbT_X3_make_122 CTX hRm hRc (mlT_X3_make_25 mk136 n) mk136 ih hk136) _ _ _ _ _ _ _ hf (hL.tr hq1) hR hS (lv_sub hl [0, 1] rfl)
                              · exact tx_callv kc_3 CTX hL hR hS (As := []) (rest := []) hk_x0_4 (MT_X3_readDemand l x hlt N _ _ _ _ ho) cv_X3_51 ⟨by omega, by omega⟩ rfl (Nat.le_of_ble_eq_true rfl) hl.1 (mfT_X3_readDemand _ _ _ ho) hRc rfl dX3_make_119
                            · rw [if_neg hc10] at hf
                              have hn0 := tsw_ne (k := 128) rfl hc0
                              have hn1 := tsw_ne (k := 129) rfl hc1
                              have hn2 := tsw_ne (k := 130) rfl hc2
                              have hn3 := tsw_ne (k := 131) rfl hc3
                              have hn4 := tsw_ne (k := 132) rfl hc4
                              have hn5 := tsw_ne (k := 133) rfl hc5
                              have hn6 := tsw_ne (k := 134) rfl hc6
                              have hn7 := tsw_ne (k := 135) rfl hc7
                              have hn8 := tsw_ne (k := 136) rfl hc8
                              have hn9 := tsw_ne (k := 137) rfl hc9
                              have hn10 := tsw_ne (k := 138) rfl hc10
                              refine lv_tableOut (tgt := 125) hx hb dX3_make_47 (by omega) (by decide) ?_
                              exact (wbT_X3_make_125 CTX hRm hRc (mlT_X3_make_25 mk136 n) mk136 ih hk136) _ _ _ _ _ _ _ hf hL hR hS (lv_sub hl [0, 1] rfl)
def bT_X3_make_140 (N : Nat) (x0 : Nat) (K : Ka) (M : Cm) : Option ((Nat × Ka × Cm) ⊕ (Ka × Cm)) := gd (kd K x0 == 4) (nn (cR M x0 1) fun a1 => gd (kd K a1 == 6) ((fC_X5_spreadLeans N K a1 M).bind fun o144 => nn (cR o144 x0 1) fun a2 => some (.inl (a2, K, o144))))
theorem mbT_X3_make_140 {o : (Nat × Ka × Cm) ⊕ (Ka × Cm)} {N : Nat}  (x0 : Nat) (K : Ka) (M : Cm) (hf : bT_X3_make_140 N x0 K M = some o) : KLe K (oK sT o) := by
  unfold bT_X3_make_140 at hf
  obtain ⟨-, hf⟩ := gd_some hf
  obtain ⟨a1, -, hf⟩ := nn_some hf
  obtain ⟨-, hf⟩ := gd_some hf
  obtain ⟨o144, -, hf⟩ := bnd_some hf
  obtain ⟨a2, -, hf⟩ := nn_some hf
  cases hf
  exact KLe.rf _
set_option maxRecDepth 100000 in
set_option maxHeartbeats 4000000 in
theorem wbT_X3_make_140 {p : Program} {l : Launch} {e : Env} {R : Room} {s : State} {m : MethodId} {args : Array Value} {below : List Frame} {meth : Method} {c : Code} {x : Xc} {K0 : Ka} {o : (Nat × Ka × Cm) ⊕ (Ka × Cm)} {N : Nat} (CTX : CT p l s m args meth c x K0 RX3 "make" cX3_make 2 (some (.object "StationStarter$Station"))) (hRm : 163 ≤ R.frames ∧ 9253 ≤ R.locals) (hRc : nz sT K0 o ≤ R.cells ∧ nu sT K0 o ≤ R.slots) (x0 : Nat) (K : Ka) (M : Cm) (H : Heap) (locs : List Loc) (ls : Array Slot) (hf : bT_X3_make_140 N x0 K M = some o) (hL : KLe K0 K) (hR : RC x K M H) (hS : va_S (AC K0) s.heap H locs) (hl : lv_has ls 2 [(0, .ref x0)]) : W p l e R s m args below meth c H locs (kz K - kz K0) (ku K - ku K0) (TQ sT (aQA x K0) (zQV K0) "java/lang/IllegalStateException" x K0 below args s o) (F0 m 140 ls []) := by
  obtain ⟨CX, hno, hlt, hmn⟩ := id CTX
  obtain ⟨hx, hb, hml, hown, hts, hE, hB, hr, hlk⟩ := id CX
  have hcs := nz_le (mbT_X3_make_140  x0 K M hf) hRc
  unfold bT_X3_make_140 at hf
  refine lv_aload_n hx hb dX3_make_140 rfl (lv_at hl 0 rfl) ?_
  obtain ⟨hk_x0_4, hf⟩ := gd_some hf
  refine cr_getR kc_3 CX hR fa_X3_9 rfl hk_x0_4 dX3_make_141 ?_
  obtain ⟨a1, ha1, hf⟩ := nn_some hf
  refine rf_0 ha1 ?_
  obtain ⟨hk_a1_6, hf⟩ := gd_some hf
  obtain ⟨o144, ho144, hf⟩ := bnd_some hf
  refine cr_callVv kc_5 CX hR hL hS (As := []) (rest := []) hk_a1_6 (MC_X5_spreadLeans l x N K a1 M o144 ho144) cv_X3_60 ⟨by omega, by omega⟩ rfl rfl (Nat.le_of_ble_eq_true rfl) hl.1 dX3_make_144 hcs (fun H locs hR hS => ?_)
  refine lv_aload_n hx hb dX3_make_147 rfl (lv_at hl 0 rfl) ?_
  refine cr_getR kc_3 CX hR fa_X3_9 rfl hk_x0_4 dX3_make_148 ?_
  obtain ⟨a2, ha2, hf⟩ := nn_some hf
  refine rf_0 ha2 ?_
  exact tr_aret CX ⟨rfl, .inl ⟨_, rfl⟩⟩ hR hS hf dX3_make_151
def bT_X3_make_136 (N : Nat) (x0 : Nat) (K : Ka) (M : Cm) : Option ((Nat × Ka × Cm) ⊕ (Ka × Cm)) := gd (kd K x0 == 4) (tb (fT_X3_settle N x0 K M) fun o137 => (bT_X3_make_140 N) x0 o137.1 o137.2)
theorem mbT_X3_make_136 {o : (Nat × Ka × Cm) ⊕ (Ka × Cm)} {N : Nat}  (x0 : Nat) (K : Ka) (M : Cm) (hf : bT_X3_make_136 N x0 K M = some o) : KLe K (oK sT o) := by
  unfold bT_X3_make_136 at hf
  obtain ⟨-, hf⟩ := gd_some hf
  rcases tb_some hf with ⟨o137, ho, hf⟩ | ⟨q, ho, rfl⟩
  · exact KLe.tr (mfT_X3_settle _ _ _ ho) (mbT_X3_make_140 _ _ _ hf)
  · exact (mfT_X3_settle _ _ _ ho)
set_option maxRecDepth 100000 in
set_option maxHeartbeats 4000000 in
theorem wbT_X3_make_136 {p : Program} {l : Launch} {e : Env} {R : Room} {s : State} {m : MethodId} {args : Array Value} {below : List Frame} {meth : Method} {c : Code} {x : Xc} {K0 : Ka} {o : (Nat × Ka × Cm) ⊕ (Ka × Cm)} {N : Nat} (CTX : CT p l s m args meth c x K0 RX3 "make" cX3_make 2 (some (.object "StationStarter$Station"))) (hRm : 163 ≤ R.frames ∧ 9253 ≤ R.locals) (hRc : nz sT K0 o ≤ R.cells ∧ nu sT K0 o ≤ R.slots) (x0 : Nat) (K : Ka) (M : Cm) (H : Heap) (locs : List Loc) (ls : Array Slot) (hf : bT_X3_make_136 N x0 K M = some o) (hL : KLe K0 K) (hR : RC x K M H) (hS : va_S (AC K0) s.heap H locs) (hl : lv_has ls 2 [(0, .ref x0)]) : W p l e R s m args below meth c H locs (kz K - kz K0) (ku K - ku K0) (TQ sT (aQA x K0) (zQV K0) "java/lang/IllegalStateException" x K0 below args s o) (F0 m 136 ls []) := by
  obtain ⟨CX, hno, hlt, hmn⟩ := id CTX
  obtain ⟨hx, hb, hml, hown, hts, hE, hB, hr, hlk⟩ := id CX
  have hcs := nz_le (mbT_X3_make_136  x0 K M hf) hRc
  unfold bT_X3_make_136 at hf
  refine lv_aload_n hx hb dX3_make_136 rfl (lv_at hl 0 rfl) ?_
  obtain ⟨hk_x0_4, hf⟩ := gd_some hf
  rcases tb_some hf with ⟨o137, ho, hf⟩ | ⟨q, ho, rfl⟩
  · have hm1 := mbT_X3_make_140 _ _ _ hf
    have hb1 := nz_le hm1 hRc
    have hq1 := (mfT_X3_settle _ _ _ ho)
    refine ta_callVv kc_3 CX hL hR hS (As := []) (rest := []) hk_x0_4 (MT_X3_settle l x hlt N _ _ _ _ ho) cv_X3_57 ⟨by omega, by omega⟩ rfl (Nat.le_of_ble_eq_true rfl) hl.1 hq1 hb1 rfl dX3_make_137 (fun H locs hR hS => ?_)
    exact (wbT_X3_make_140 CTX hRm hRc) _ _ _ _ _ _ hf (hL.tr hq1) hR hS (lv_sub hl [0] rfl)
  · exact tx_callv kc_3 CTX hL hR hS (As := []) (rest := []) hk_x0_4 (MT_X3_settle l x hlt N _ _ _ _ ho) cv_X3_57 ⟨by omega, by omega⟩ rfl (Nat.le_of_ble_eq_true rfl) hl.1 (mfT_X3_settle _ _ _ ho) hRc rfl dX3_make_137
def bT_X3_make_15 (N : Nat) (x0 : Nat) (s0 : Nat) (s1 : Nat) (K : Ka) (M : Cm) : Option ((Nat × Ka × Cm) ⊕ (Ka × Cm)) := gd (kd K s0 == 4) (gd (kd K x0 == 4) ((fC_X3_moveTo N K x0 0 (wR M s0 1 (some s1))).bind fun o20 => (lT_X3_make_25 N (bT_X3_make_136 N) N) x0 0 K o20))
theorem mbT_X3_make_15 {o : (Nat × Ka × Cm) ⊕ (Ka × Cm)} {N : Nat}  (x0 : Nat) (s0 : Nat) (s1 : Nat) (K : Ka) (M : Cm) (hf : bT_X3_make_15 N x0 s0 s1 K M = some o) : KLe K (oK sT o) := by
  unfold bT_X3_make_15 at hf
  obtain ⟨-, hf⟩ := gd_some hf
  obtain ⟨-, hf⟩ := gd_some hf
  obtain ⟨o20, -, hf⟩ := bnd_some hf
  exact (mlT_X3_make_25 mbT_X3_make_136 N) _ _ _ _ hf
set_option maxRecDepth 100000 in
set_option maxHeartbeats 4000000 in
theorem wbT_X3_make_15 {p : Program} {l : Launch} {e : Env} {R : Room} {s : State} {m : MethodId} {args : Array Value} {below : List Frame} {meth : Method} {c : Code} {x : Xc} {K0 : Ka} {o : (Nat × Ka × Cm) ⊕ (Ka × Cm)} {N : Nat} (CTX : CT p l s m args meth c x K0 RX3 "make" cX3_make 2 (some (.object "StationStarter$Station"))) (hRm : 163 ≤ R.frames ∧ 9253 ≤ R.locals) (hRc : nz sT K0 o ≤ R.cells ∧ nu sT K0 o ≤ R.slots) (x0 : Nat) (s0 : Nat) (s1 : Nat) (K : Ka) (M : Cm) (H : Heap) (locs : List Loc) (ls : Array Slot) (hf : bT_X3_make_15 N x0 s0 s1 K M = some o) (hL : KLe K0 K) (hR : RC x K M H) (hS : va_S (AC K0) s.heap H locs) (hl : lv_has ls 2 [(0, .ref x0)]) : W p l e R s m args below meth c H locs (kz K - kz K0) (ku K - ku K0) (TQ sT (aQA x K0) (zQV K0) "java/lang/IllegalStateException" x K0 below args s o) (F0 m 15 ls [.ref s1, .ref s0]) := by
  obtain ⟨CX, hno, hlt, hmn⟩ := id CTX
  obtain ⟨hx, hb, hml, hown, hts, hE, hB, hr, hlk⟩ := id CX
  have hcs := nz_le (mbT_X3_make_15  x0 s0 s1 K M hf) hRc
  unfold bT_X3_make_15 at hf
  obtain ⟨hk_s0_4, hf⟩ := gd_some hf
  refine cr_putR kc_3 CX hR hL hS (v := some s1) fa_X3_9 ⟨rfl, rfl, .inl ⟨_, rfl⟩⟩ hk_s0_4 dX3_make_15 (fun H locs hR hS => ?_)
  refine lv_aload_n hx hb dX3_make_18 rfl (lv_at hl 0 rfl) ?_
  refine lv_iconst (v := 0) hx hb dX3_make_19 (by decide) ?_
  obtain ⟨hk_x0_4, hf⟩ := gd_some hf
  obtain ⟨o20, ho20, hf⟩ := bnd_some hf
  refine cr_callVv kc_3 CX hR hL hS (As := [.int 0]) (rest := []) hk_x0_4 (MC_X3_moveTo l x N K x0 0 (wR M s0 1 (some s1)) o20 ho20) cv_X3_42 ⟨by omega, by omega⟩ rfl rfl (Nat.le_of_ble_eq_true rfl) hl.1 dX3_make_20 hcs (fun H locs hR hS => ?_)
  refine lv_iconst (v := 0) hx hb dX3_make_23 (by decide) ?_
  refine lv_istore_n (lv' := [(1, .int 0), (0, .ref x0)]) hx hb dX3_make_24 rfl hl (by decide) rfl (fun ls hl => ?_)
  exact (wlT_X3_make_25 CTX hRm hRc mbT_X3_make_136 (wbT_X3_make_136 CTX hRm hRc) N) _ _ _ _ _ _ _ hf hL hR hS (lv_sub hl [1, 0] rfl)
def bT_X3_make_4 (N : Nat) (x0 : Nat) (s0 : Nat) (s1 : Nat) (K : Ka) (M : Cm) : Option ((Nat × Ka × Cm) ⊕ (Ka × Cm)) := gd (kd K x0 == 4) (nn (cR M x0 0) fun a1 => gd (kd K a1 == 7) (ta (fT_X5_init N s1 (cI M a1 6) K M) fun o12 => (bT_X3_make_15 N) x0 s0 s1 o12.1 o12.2))
theorem mbT_X3_make_4 {o : (Nat × Ka × Cm) ⊕ (Ka × Cm)} {N : Nat}  (x0 : Nat) (s0 : Nat) (s1 : Nat) (K : Ka) (M : Cm) (hf : bT_X3_make_4 N x0 s0 s1 K M = some o) : KLe K (oK sT o) := by
  unfold bT_X3_make_4 at hf
  obtain ⟨-, hf⟩ := gd_some hf
  obtain ⟨a1, -, hf⟩ := nn_some hf
  obtain ⟨-, hf⟩ := gd_some hf
  obtain ⟨o12, ho, hf⟩ := ta_some hf
  exact KLe.tr (mfT_X5_init _ _ _ _ ho) (mbT_X3_make_15 _ _ _ _ _ hf)
set_option maxRecDepth 100000 in
set_option maxHeartbeats 4000000 in
theorem wbT_X3_make_4 {p : Program} {l : Launch} {e : Env} {R : Room} {s : State} {m : MethodId} {args : Array Value} {below : List Frame} {meth : Method} {c : Code} {x : Xc} {K0 : Ka} {o : (Nat × Ka × Cm) ⊕ (Ka × Cm)} {N : Nat} (CTX : CT p l s m args meth c x K0 RX3 "make" cX3_make 2 (some (.object "StationStarter$Station"))) (hRm : 163 ≤ R.frames ∧ 9253 ≤ R.locals) (hRc : nz sT K0 o ≤ R.cells ∧ nu sT K0 o ≤ R.slots) (x0 : Nat) (s0 : Nat) (s1 : Nat) (K : Ka) (M : Cm) (H : Heap) (locs : List Loc) (ls : Array Slot) (hf : bT_X3_make_4 N x0 s0 s1 K M = some o) (hL : KLe K0 K) (hR : RC x K M H) (hS : va_S (AC K0) s.heap H locs) (hl : lv_has ls 2 [(0, .ref x0)]) : W p l e R s m args below meth c H locs (kz K - kz K0) (ku K - ku K0) (TQ sT (aQA x K0) (zQV K0) "java/lang/IllegalStateException" x K0 below args s o) (F0 m 4 ls [.ref s1, .ref s0]) := by
  obtain ⟨CX, hno, hlt, hmn⟩ := id CTX
  obtain ⟨hx, hb, hml, hown, hts, hE, hB, hr, hlk⟩ := id CX
  have hcs := nz_le (mbT_X3_make_4  x0 s0 s1 K M hf) hRc
  unfold bT_X3_make_4 at hf
  refine lv_dup hx hb dX3_make_4 rfl ?_
  refine lv_aload_n hx hb dX3_make_5 rfl (lv_at hl 0 rfl) ?_
  obtain ⟨hk_x0_4, hf⟩ := gd_some hf
  refine cr_getR kc_3 CX hR fa_X3_28 rfl hk_x0_4 dX3_make_6 ?_
  obtain ⟨a1, ha1, hf⟩ := nn_some hf
  refine rf_0 ha1 ?_
  obtain ⟨hk_a1_7, hf⟩ := gd_some hf
  refine cr_getI kc_6 CX hR fa_X3_34 rfl hk_a1_7 dX3_make_9 ?_
  obtain ⟨o12, ho, hf⟩ := ta_some hf
  have hm1 := mbT_X3_make_15 _ _ _ _ _ hf
  have hb1 := nz_le hm1 hRc
  have hq1 := (mfT_X5_init _ _ _ _ ho)
  refine ta_callVi CX hL hR hS (As := [.int (cI M a1 6)]) (rest := [.ref s1, .ref s0]) (MT_X5_init l x hlt N _ _ _ _ _ ho) cj_X3_39 ⟨by omega, by omega⟩ rfl (Nat.le_of_ble_eq_true rfl) hl.1 hq1 hb1 rfl dX3_make_12 (fun H locs hR hS => ?_)
  exact (wbT_X3_make_15 CTX hRm hRc) _ _ _ _ _ _ _ _ hf (hL.tr hq1) hR hS (lv_sub hl [0] rfl)
def fT_X3_make (N : Nat) (x0 : Nat) (K : Ka) (M : Cm) : Option ((Nat × Ka × Cm) ⊕ (Ka × Cm)) := (bT_X3_make_4 N) x0 x0 (kz K) (kNew K 6 0 (cN 5)) (mZ M (kz K))
theorem mfT_X3_make {o : (Nat × Ka × Cm) ⊕ (Ka × Cm)} {N : Nat}  (x0 : Nat) (K : Ka) (M : Cm) (hf : fT_X3_make N x0 K M = some o) : KLe K (oK sT o) := by
  unfold fT_X3_make at hf
  exact (kNew_le _ _ _ _).tr (mbT_X3_make_4 _ _ _ _ _ hf)
set_option maxRecDepth 100000 in
set_option maxHeartbeats 4000000 in
theorem wfT_X3_make {p : Program} {l : Launch} {e : Env} {R : Room} {s : State} {m : MethodId} {args : Array Value} {below : List Frame} {meth : Method} {c : Code} {x : Xc} {K0 : Ka} {o : (Nat × Ka × Cm) ⊕ (Ka × Cm)} {N : Nat} (CTX : CT p l s m args meth c x K0 RX3 "make" cX3_make 2 (some (.object "StationStarter$Station"))) (hRm : 163 ≤ R.frames ∧ 9253 ≤ R.locals) (hRc : nz sT K0 o ≤ R.cells ∧ nu sT K0 o ≤ R.slots) (x0 : Nat) (K : Ka) (M : Cm) (H : Heap) (locs : List Loc) (ls : Array Slot) (hf : fT_X3_make N x0 K M = some o) (hL : KLe K0 K) (hR : RC x K M H) (hS : va_S (AC K0) s.heap H locs) (hl : lv_has ls 2 [(0, .ref x0)]) : W p l e R s m args below meth c H locs (kz K - kz K0) (ku K - ku K0) (TQ sT (aQA x K0) (zQV K0) "java/lang/IllegalStateException" x K0 below args s o) (F0 m 0 ls []) := by
  obtain ⟨CX, hno, hlt, hmn⟩ := id CTX
  obtain ⟨hx, hb, hml, hown, hts, hE, hB, hr, hlk⟩ := id CX
  have hcs := nz_le (mfT_X3_make  x0 K M hf) hRc
  unfold fT_X3_make at hf
  refine lv_aload_n hx hb dX3_make_0 rfl (lv_at hl 0 rfl) ?_
  have hm1 := mbT_X3_make_4 _ _ _ _ _ hf
  have hb1 := nz_le hm1 hRc
  refine tr_new kc_5 df_5 CX hL hR hS cn_X3_32 hb1 dX3_make_1 (fun H hR hS => ?_)
  exact (wbT_X3_make_4 CTX hRm hRc) _ _ _ _ _ _ _ _ hf (hL.tr (kNew_le _ _ _ _)) hR hS (lv_sub hl [0] rfl)
theorem MT_X3_make (l : Launch) (x : Xc) (hlt : l.stackTraces = false) (N : Nat) (x0 : Nat) (K : Ka) (M : Cm) (o : (Nat × Ka × Cm) ⊕ (Ka × Cm)) (hf : fT_X3_make N x0 K M = some o) : Tc sT (aQA x K) (zQV K) "java/lang/IllegalStateException" l x yX3_make cX3_make 2 (some (.object "StationStarter$Station")) 163 9253 [.ref x0] K M o :=
  tr_met RX3 "make" hlt (by decide) rfl rfl (Nat.le_of_ble_eq_true rfl) (fun p e s m args below meth c ls CTX hR hl => wfT_X3_make CTX ⟨Nat.le_refl _, Nat.le_refl _⟩ ⟨Nat.le_refl _, Nat.le_refl _⟩ x0 K M s.heap [] ls hf (KLe.rf K) hR va_S.rf hl)
