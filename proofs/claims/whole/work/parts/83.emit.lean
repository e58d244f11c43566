/-! the class's instructions -/
def wd (w f s : Int32) : Int64 := ((((s : Int32).toInt64) <<< ((32 : Int32).toInt64 &&& 63)) ||| (((f &&& 16777215 : Int32).toInt64) <<< ((8 : Int32).toInt64 &&& 63))) ||| ((w : Int32).toInt64)
/-- the row of instructions of the station that is made: sm + 10, cc of them -/
def CR (z : Nat) (K : Ka) (M : Cm) (sm cc : Nat) : Prop := LY z K M ∧ z + 174 ≤ sm ∧ cR M (z + 7) 1 = some sm ∧ kd K sm = 6 ∧ cR M sm 9 = some (sm + 10) ∧ kd K (sm + 10) = 23 ∧ le K (sm + 10) < 2 ^ 31 ∧ cI M sm 13 = nI cc ∧ cc ≤ le K (sm + 10)
def emC (M : Cm) (sm cc : Nat) (x : Int64) : Cm := wI (wL M (sm + 10) cc x) sm 13 (nI (cc + 1))
section EMIT
variable {z : Nat} {K : Ka} {M : Cm} {sm cc : Nat}
theorem em5 (h : CR z K M sm cc) (hl : cc < le K (sm + 10)) (N : Nat) (x : Int64) : fT_X5_emit N sm x K M = some (.inl (nI cc, K, emC M sm cc x)) := by
  obtain ⟨hLY, h2, h3, h4, h5, h6, h7, h8, h9⟩ := h
  unfold fT_X5_emit bT_X5_emit_33 emC
  have e1 : ∀ v, cI (wL M (sm + 10) cc v) sm 13 = nI cc := fun v => h8
  rw [gd_k h4, nn_s h5, gd_k h6, h8, if_pos (nI_lt hl h7), gd_k h4, nn_s h5, gd_k h6, ck_n hl h7, nI_clamp (show cc < 2 ^ 31 by omega), e1, nI_1, cI_w, if_pos ⟨rfl, rfl⟩, show (1 : Int32) = nI 1 from rfl, nI_sub (by omega) (by omega)]
  rfl
theorem em3 (h : CR z K M sm cc) (hl : cc < le K (sm + 10)) (N : Nat) (w f s : Int32) : fT_X3_emit N (z + 7) w f s K M = some (.inl (nI cc, K, emC M sm cc (wd w f s))) := by
  have h' := em5 h hl N (wd w f s)
  obtain ⟨hLY, h2, h3, h4, h5, h6, h7, h8, h9⟩ := h
  unfold fT_X3_emit
  have e : fC_X5_word N K w f s M = some (wd w f s, M) := rfl
  rw [gd_k (hLY.k 7 4 0 rfl), nn_s h3, e, bs, gd_k h4, h']
  rfl
theorem CR.em (h : CR z K M sm cc) (hl : cc < le K (sm + 10)) (x : Int64) : CR z K (emC M sm cc x) sm (cc + 1) := by
  obtain ⟨hLY, h2, h3, h4, h5, h6, h7, h8, h9⟩ := h
  exact ⟨hLY, h2, h3, h4, h5, h6, h7, by unfold emC; rw [cI_w, if_pos ⟨rfl, rfl⟩], by omega⟩
theorem CR.mv (h : CR z K M sm cc) (j : Nat) : CR z K (mv z M j) sm cc := by
  obtain ⟨hLY, h2, h3, h4, h5, h6, h7, h8, h9⟩ := h
  exact ⟨hLY, h2, h3, h4, h5, h6, h7, by rw [mv_I j (show sm ≠ z + 7 by omega)]; exact h8, h9⟩
/-- a jump aimed at the place behind the last instruction -/
def aimC (M : Cm) (sm cc j : Nat) : Cm := wL M (sm + 10) j (wd (((cL M (sm + 10) j : Int64).toInt32) &&& 255) (nI cc) 0)
theorem aim_ok (h : CR z K M sm cc) (N : Nat) {j : Nat} (hj : j < cc) : fC_X5_aimHere N K sm (nI j) M = some (aimC M sm cc j) := by
  obtain ⟨hLY, h2, h3, h4, h5, h6, h7, h8, h9⟩ := h
  unfold fC_X5_aimHere bC_X5_aimHere_37 aimC
  have e : ∀ w, fC_X5_word N K w (nI cc) 0 M = some (wd w (nI cc) 0, M) := fun _ => rfl
  rw [if_neg (nI_pos (by omega)), gd_k h4, h8, if_neg (nI_ge hj (by omega)), nn_s h5, gd_k h6, ck_n (show j < le K (sm + 10) by omega) h7, nn_s h5, nI_clamp (by omega), e, bs, gd_k h6, ck_n (show j < le K (sm + 10) by omega) h7]
theorem CR.aim (h : CR z K M sm cc) (j : Nat) : CR z K (aimC M sm cc j) sm cc := h
end EMIT
/-- the reference's jump aimed -/
theorem here_ok {S : Ms} {cf rc j : Nat} (h42 : mF S 42 = nI cf) (h38 : mF S 38 = nI rc) (hj : cf + j < 20000) (N : Nat) : fM_here N (nI j) S = some (pA S 40 (cf + j) (nI (cf + rc))) := by
  unfold fM_here
  rw [h42, h38, nI_add, nI_add, ck_n hj (by decide), nI_clamp (by omega)]
