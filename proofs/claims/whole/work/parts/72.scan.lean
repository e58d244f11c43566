/-! the tokens -/
theorem lgc0 {x y : Int64} : lg_cmp x y = 0 ↔ x = y := by
  unfold lg_cmp
  by_cases h : x > y
  · rw [if_pos h]
    exact ⟨fun q => absurd q (by decide), fun q => by subst q; exact absurd h (Int64.lt_irrefl)⟩
  · rw [if_neg h]
    by_cases e : x = y
    · rw [if_pos e]; exact ⟨fun _ => e, fun _ => rfl⟩
    · rw [if_neg e]; exact ⟨fun q => absurd q (by decide), fun q => absurd q e⟩
theorem nI_sub {a b : Nat} (h : b ≤ a) (ha : a < 2 ^ 31) : nI a - nI b = nI (a - b) :=
  eq_nI (by omega) (by rw [Int32.toInt_sub, nI_int ha, nI_int (by omega), bmod32 (by omega) (by omega)]; omega)
/-- the first of n longs that is x -/
theorem rk_ok (N : Nat) {K : Ka} {M : Cm} {a n : Nat} (x : Int64) (hk : kd K a = 23) (hl : n ≤ le K a) (hm : le K a < 2 ^ 31) : ∀ (f i : Nat), i ≤ n → n < f + i → (∃ r, i ≤ r ∧ r < n ∧ cL M a r = x ∧ (∀ r', i ≤ r' → r' < r → cL M a r' ≠ x) ∧ lC_X8_rankOf_3 N K (bC_X8_rankOf_25 N K) (bC_X8_rankOf_34 N K) f x a (nI n) (nI i) M = some (nI r, M)) ∨ ((∀ r, i ≤ r → r < n → cL M a r ≠ x) ∧ lC_X8_rankOf_3 N K (bC_X8_rankOf_25 N K) (bC_X8_rankOf_34 N K) f x a (nI n) (nI i) M = some (-1, M)) := by
  intro f
  induction f with
  | zero => intro i h1 h2; omega
  | succ f ih =>
    intro i h1 h2
    rw [lC_X8_rankOf_3]
    by_cases hi : i < n
    · rw [if_neg (nI_ge hi (by omega)), gd_k hk, if_neg (nI_ge (show i < le K a by omega) hm), ck_n (show i < le K a by omega) hm, nI_clamp (by omega)]
      by_cases e : cL M a i = x
      · left
        exact ⟨i, Nat.le_refl i, hi, e, fun r' h3 h4 => by omega, by rw [if_pos (lgc0.mpr e)]; rfl⟩
      · rw [if_neg (fun q => e (lgc0.mp q)), nI_1]
        rcases ih (i + 1) (by omega) (by omega) with ⟨r, r1, r2, r3, r4, r5⟩ | ⟨r1, r2⟩
        · refine Or.inl ⟨r, by omega, r2, r3, fun r' h3 h4 => ?_, r5⟩
          by_cases er : r' = i
          · rw [er]; exact e
          · exact r4 r' (by omega) h4
        · refine Or.inr ⟨fun r h3 h4 => ?_, r2⟩
          by_cases er : r = i
          · rw [er]; exact e
          · exact r1 r (by omega) h4
    · rw [if_pos (nI_le (by omega) (by omega))]
      exact Or.inr ⟨fun r h3 h4 => by omega, rfl⟩
/-- the last of n longs that is x -/
theorem fd_ok (N : Nat) {S : Ms} {row base n : Nat} (x : Int64) (hs : srt row = 2) (hl : base + n ≤ lnM row) (hm : lnM row < 2 ^ 31) : ∀ (f i : Nat) (w : Int32), i ≤ n → n < f + i → (∃ r, i ≤ r ∧ r < n ∧ mL S row (base + r) = x ∧ (∀ r', r < r' → r' < n → mL S row (base + r') ≠ x) ∧ lM_find_6 N (bM_find_39 N) f row (nI base) (nI n) x w (nI i) S = some (nI r, S)) ∨ ((∀ r, i ≤ r → r < n → mL S row (base + r) ≠ x) ∧ lM_find_6 N (bM_find_39 N) f row (nI base) (nI n) x w (nI i) S = some (w, S)) := by
  intro f
  induction f with
  | zero => intro i w h1 h2; omega
  | succ f ih =>
    intro i w h1 h2
    rw [lM_find_6]
    by_cases hi : i < n
    · rw [if_neg (nI_ge hi (by omega)), gd_t (by rw [hs]; rfl), nI_add, ck_n (show base + i < lnM row by omega) hm, nI_clamp (by omega)]
      unfold bM_find_31
      rw [nI_1]
      by_cases e : mL S row (base + i) = x
      · rw [if_pos (lgc0.mpr e)]
        rcases ih (i + 1) (nI i) (by omega) (by omega) with ⟨r, r1, r2, r3, r4, r5⟩ | ⟨r1, r2⟩
        · exact Or.inl ⟨r, by omega, r2, r3, r4, r5⟩
        · exact Or.inl ⟨i, Nat.le_refl i, hi, e, fun r' h3 h4 => r1 r' (by omega) h4, r2⟩
      · rw [if_neg (fun q => e (lgc0.mp q))]
        rcases ih (i + 1) w (by omega) (by omega) with ⟨r, r1, r2, r3, r4, r5⟩ | ⟨r1, r2⟩
        · exact Or.inl ⟨r, by omega, r2, r3, r4, r5⟩
        · refine Or.inr ⟨fun r h3 h4 => ?_, r2⟩
          by_cases er : r = i
          · rw [er]; exact e
          · exact r1 r (by omega) h4
    · rw [if_pos (nI_le (by omega) (by omega))]
      exact Or.inr ⟨fun r h3 h4 => by omega, rfl⟩
/-! the signs -/
def sgb (x : Int32) : Int32 := if x = 123 then 1 else if x = 125 then 1 else if x = 40 then 1 else if x = 41 then 1 else if x = 44 then 1 else if x = 59 then 1 else if x = 61 then 1 else if x = 60 then 1 else if x = 43 then 1 else if x = 45 then 1 else if x = 42 then 1 else if x = 47 then 1 else if x = 37 then 1 else if x = 46 then 1 else 0
theorem m_sg (N : Nat) (x : Int32) (S : Ms) : fM_isSignOf N x S = some (sgb x, S) := by
  unfold fM_isSignOf sgb bM_isSignOf_84 bM_isSignOf_89
  by_cases h123 : x = 123
  · rw [if_pos h123, if_pos h123]; rfl
  rw [if_neg h123, if_neg h123]
  by_cases h125 : x = 125
  · rw [if_pos h125, if_pos h125]; rfl
  rw [if_neg h125, if_neg h125]
  by_cases h40 : x = 40
  · rw [if_pos h40, if_pos h40]; rfl
  rw [if_neg h40, if_neg h40]
  by_cases h41 : x = 41
  · rw [if_pos h41, if_pos h41]; rfl
  rw [if_neg h41, if_neg h41]
  by_cases h44 : x = 44
  · rw [if_pos h44, if_pos h44]; rfl
  rw [if_neg h44, if_neg h44]
  by_cases h59 : x = 59
  · rw [if_pos h59, if_pos h59]; rfl
  rw [if_neg h59, if_neg h59]
  by_cases h61 : x = 61
  · rw [if_pos h61, if_pos h61]; rfl
  rw [if_neg h61, if_neg h61]
  by_cases h60 : x = 60
  · rw [if_pos h60, if_pos h60]; rfl
  rw [if_neg h60, if_neg h60]
  by_cases h43 : x = 43
  · rw [if_pos h43, if_pos h43]; rfl
  rw [if_neg h43, if_neg h43]
  by_cases h45 : x = 45
  · rw [if_pos h45, if_pos h45]; rfl
  rw [if_neg h45, if_neg h45]
  by_cases h42 : x = 42
  · rw [if_pos h42, if_pos h42]; rfl
  rw [if_neg h42, if_neg h42]
  by_cases h47 : x = 47
  · rw [if_pos h47, if_pos h47]; rfl
  rw [if_neg h47, if_neg h47]
  by_cases h37 : x = 37
  · rw [if_pos h37, if_pos h37]; rfl
  rw [if_neg h37, if_neg h37]
  by_cases h46 : x = 46
  · rw [if_pos h46, if_pos h46]; rfl
  rw [if_neg h46, if_neg h46]
  rfl
theorem sN1 : sN 1 = 14 := by decide +kernel
theorem sg_in : ∀ c, c ≤ 126 → (sgb (nI c) = 0 ↔ ∀ j, j < 14 → sB 1 j ≠ nI c) ∧ (nI c).toInt8.toInt32 = nI c := by decide +kernel
theorem ix_loop (N : Nat) (K : Ka) (M : Cm) (v : Int32) : ∀ (f i : Nat), i ≤ 14 → 14 < f + i → ∃ r, lC_J1_indexOfChar_4cfef_7 N K (bC_J1_indexOfChar_4cfef_22 N K) (bC_J1_indexOfChar_4cfef_31 N K) f 1 (nI 14) v (nI i) M = some (r, M) ∧ (r < 0 ↔ ∀ j, i ≤ j → j < 14 → sB 1 j ≠ v) := by
  intro f
  induction f with
  | zero => intro i h1 h2; omega
  | succ f ih =>
    intro i h1 h2
    rw [lC_J1_indexOfChar_4cfef_7]
    by_cases hi : i < 14
    · rw [if_neg (nI_ge hi (by decide)), gd_t (by decide), sN1, ck_n hi (by decide), nI_clamp (by omega)]
      by_cases e : sB 1 i = v
      · rw [if_pos e]
        exact ⟨nI i, rfl, fun q => absurd q (nI_pos (by omega)), fun q => absurd e (q i (Nat.le_refl i) hi)⟩
      · rw [if_neg e, nI_1]
        obtain ⟨r, r1, r2⟩ := ih (i + 1) (by omega) (by omega)
        refine ⟨r, r1, r2.trans ⟨fun q j h3 h4 => ?_, fun q j h3 h4 => q j (by omega) h4⟩⟩
        by_cases ej : j = i
        · rw [ej]; exact e
        · exact q j (by omega) h4
    · have e : i = 14 := by omega
      subst e
      rw [if_pos (by decide)]
      exact ⟨-1, rfl, fun _ j h3 h4 => by omega, fun _ => by decide⟩
theorem ix_ok (N : Nat) (hN : 14 < N) (K : Ka) (M : Cm) {c : Nat} (hc : c ≤ 126) : ∃ r, fC_J0_indexOf_0f7a4 N K 1 (nI c) M = some (r, M) ∧ (r < 0 ↔ sgb (nI c) = 0) := by
  obtain ⟨s1, s2⟩ := sg_in c hc
  obtain ⟨r, r1, r2⟩ := ix_loop N K M (nI c) N 0 (by omega) (by omega)
  refine ⟨r, ?_, r2.trans ⟨fun q => s1.mpr (fun j hj => q j (by omega) hj), fun q j _ hj => s1.mp q j hj⟩⟩
  have hlen : fC_J0_length_8abf5 N K 1 M = some (14, M) := by
    unfold fC_J0_length_8abf5
    rw [gd_t (by decide)]
    have e : fC_J0_coder_7d493 N K 1 M = some (0, M) := rfl
    rw [e]
    show some ((nI (sN 1)) >>> ((0 : Int32) &&& 31), M) = _
    rw [sN1]
    rfl
  have hlat : fC_J0_isLatin1_aae02 N K 1 M = some (1, M) := rfl
  have hcan : fC_J1_canEncode_9a6ad N K (nI c) M = some (1, M) := by
    unfold fC_J1_canEncode_9a6ad
    rw [if_neg (nI_pos (by omega)), if_neg (show ¬ (255 : Int32) < nI c from nI_nlt (a := 255) (by omega) (by decide))]
    rfl
  unfold fC_J0_indexOf_0f7a4 fC_J0_indexOf_7cf53
  rw [gd_t (by decide), gd_t (by decide), hlat, bs]
  dsimp only
  rw [if_neg (by decide), hlen, bs]
  dsimp only
  unfold fC_J1_indexOf_4cfef
  rw [hcan, bs]
  dsimp only
  rw [if_neg (by decide), gd_t (by decide), sN1, if_pos (by decide)]
  unfold fC_J1_indexOfChar_4cfef
  rw [s2, show (if nI 14 < (14 : Int32) then nI 14 else 14) = nI 14 from rfl, show (if (0 : Int32) < 0 then (0 : Int32) else 0) = nI 0 from rfl, r1]
  rfl
