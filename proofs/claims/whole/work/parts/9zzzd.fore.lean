/-! foresee: what is kept, and put back -/
theorem cR_cp (M : Cm) (a b s d n : Nat) : cR (wCp M a b s d n) = cR M := rfl
theorem cL_cp (M : Cm) (a b s d n : Nat) : cL (wCp M a b s d n) = cL M := rfl
def cpC (z D E : Nat) (M : Cm) : Cm := wCp (wCp (wCp (wCp (wCp (wCp M (z + E) (z + D) 0 0 24) (z + (E + 2)) (z + (D + 2)) 0 0 192) (z + (E + 3)) (z + (D + 3)) 0 0 24) (z + (E + 4)) (z + (D + 4)) 0 0 24) (z + (E + 6)) (z + (D + 6)) 0 0 24) (z + (E + 9)) (z + (D + 9)) 0 0 24
theorem cpC_R (z D E : Nat) (M : Cm) : cR (cpC z D E M) = cR M ∧ cL (cpC z D E M) = cL M := ⟨rfl, rfl⟩
theorem cpC_o {z D E q : Nat} (M : Cm) (h : q ≠ z + D ∧ q ≠ z + (D + 2) ∧ q ≠ z + (D + 3) ∧ q ≠ z + (D + 4) ∧ q ≠ z + (D + 6) ∧ q ≠ z + (D + 9)) : cI (cpC z D E M) q = cI M q := by
  funext j
  unfold cpC
  rw [wCp_I, if_neg h.2.2.2.2.2, wCp_I, if_neg h.2.2.2.2.1, wCp_I, if_neg h.2.2.2.1, wCp_I, if_neg h.2.2.1, wCp_I, if_neg h.2.1, wCp_I, if_neg h.1]
theorem cpy0 (f g : Nat → Int32) {n j : Nat} (h : j < n) : va_cpy f g 0 0 n j = f j := by
  unfold va_cpy
  rw [if_pos (by omega), Nat.sub_zero, Nat.zero_add]
theorem cpC_at {z D E : Nat} (M : Cm) (h : D + 9 < E ∨ E + 9 < D) : (∀ j, j < 24 → cI (cpC z D E M) (z + D) j = cI M (z + E) j) ∧ (∀ j, j < 192 → cI (cpC z D E M) (z + (D + 2)) j = cI M (z + (E + 2)) j) ∧ (∀ j, j < 24 → cI (cpC z D E M) (z + (D + 3)) j = cI M (z + (E + 3)) j) ∧ (∀ j, j < 24 → cI (cpC z D E M) (z + (D + 4)) j = cI M (z + (E + 4)) j) ∧ (∀ j, j < 24 → cI (cpC z D E M) (z + (D + 6)) j = cI M (z + (E + 6)) j) ∧ ∀ j, j < 24 → cI (cpC z D E M) (z + (D + 9)) j = cI M (z + (E + 9)) j := by
  have W : ∀ (M : Cm) (a b n q : Nat), q ≠ b → cI (wCp M a b 0 0 n) q = cI M q := fun M a b n q hq => by funext j; rw [wCp_I, if_neg hq]
  have T : ∀ (M : Cm) (a b n j : Nat), j < n → cI (wCp M a b 0 0 n) b j = cI M a j := fun M a b n j hj => by rw [wCp_I, if_pos rfl, cpy0 _ _ hj]
  unfold cpC
  refine ⟨fun j hj => ?_, fun j hj => ?_, fun j hj => ?_, fun j hj => ?_, fun j hj => ?_, fun j hj => ?_⟩
  · rw [W _ _ _ _ _ (by omega), W _ _ _ _ _ (by omega), W _ _ _ _ _ (by omega), W _ _ _ _ _ (by omega), W _ _ _ _ _ (by omega), T _ _ _ _ _ hj]
  · rw [W _ _ _ _ _ (by omega), W _ _ _ _ _ (by omega), W _ _ _ _ _ (by omega), W _ _ _ _ _ (by omega), T _ _ _ _ _ hj, W _ _ _ _ _ (by omega)]
  · rw [W _ _ _ _ _ (by omega), W _ _ _ _ _ (by omega), W _ _ _ _ _ (by omega), T _ _ _ _ _ hj, W _ _ _ _ _ (by omega), W _ _ _ _ _ (by omega)]
  · rw [W _ _ _ _ _ (by omega), W _ _ _ _ _ (by omega), T _ _ _ _ _ hj, W _ _ _ _ _ (by omega), W _ _ _ _ _ (by omega), W _ _ _ _ _ (by omega)]
  · rw [W _ _ _ _ _ (by omega), T _ _ _ _ _ hj, W _ _ _ _ _ (by omega), W _ _ _ _ _ (by omega), W _ _ _ _ _ (by omega), W _ _ _ _ _ (by omega)]
  · rw [T _ _ _ _ _ hj, W _ _ _ _ _ (by omega), W _ _ _ _ _ (by omega), W _ _ _ _ _ (by omega), W _ _ _ _ _ (by omega), W _ _ _ _ _ (by omega)]
section FORE
variable {z b st nd nu nm lim nh no c B0 N m : Nat} {K : Ka} {M M' M2 Mf Ma : Cm} {S S' S2 Ss Sa Sf : Ms}
theorem ok24 : cpok 0 0 (nI 24) 24 24 = true := by decide
theorem ok192 : cpok 0 0 (nI 192) 192 192 = true := by decide
theorem c_copyK (hL : LY z K M) (N : Nat) : fC_X4_copy N K (z + 19) (z + 8) M = some (cpC z 20 9 M) := by
  unfold fC_X4_copy
  rw [gd_k (hL.k 8 5 0 rfl), gd_k (hL.k 19 5 0 rfl)]
  rw [nn_s (hL.r 19 0 20 (by decide)), gd_k (hL.k 20 22 24 rfl), nn_s (hL.r 19 0 20 (by decide)), nn_s (hL.r 8 0 9 (by decide)), gd_k (hL.k 9 22 24 rfl), gd_k (hL.k 20 22 24 rfl), hL.l 20 22 24 rfl (by decide), hL.l 9 22 24 rfl (by decide), gd_t ok24, nI_clamp (show 24 < 2 ^ 31 by decide)]
  rw [cR_cp, nn_s (hL.r 19 2 22 (by decide)), gd_k (hL.k 22 22 192 rfl), nn_s (hL.r 19 2 22 (by decide)), nn_s (hL.r 8 2 11 (by decide)), gd_k (hL.k 11 22 192 rfl), gd_k (hL.k 22 22 192 rfl), hL.l 22 22 192 rfl (by decide), hL.l 11 22 192 rfl (by decide), gd_t ok192, nI_clamp (show 192 < 2 ^ 31 by decide)]
  rw [cR_cp, cR_cp, nn_s (hL.r 19 3 23 (by decide)), gd_k (hL.k 23 22 24 rfl), nn_s (hL.r 19 3 23 (by decide)), nn_s (hL.r 8 3 12 (by decide)), gd_k (hL.k 12 22 24 rfl), gd_k (hL.k 23 22 24 rfl), hL.l 23 22 24 rfl (by decide), hL.l 12 22 24 rfl (by decide), gd_t ok24, nI_clamp (show 24 < 2 ^ 31 by decide)]
  rw [cR_cp, cR_cp, cR_cp, nn_s (hL.r 19 4 24 (by decide)), gd_k (hL.k 24 22 24 rfl), nn_s (hL.r 19 4 24 (by decide)), nn_s (hL.r 8 4 13 (by decide)), gd_k (hL.k 13 22 24 rfl), gd_k (hL.k 24 22 24 rfl), hL.l 24 22 24 rfl (by decide), hL.l 13 22 24 rfl (by decide), gd_t ok24, nI_clamp (show 24 < 2 ^ 31 by decide)]
  rw [cR_cp, cR_cp, cR_cp, cR_cp, nn_s (hL.r 19 6 26 (by decide)), gd_k (hL.k 26 22 24 rfl), nn_s (hL.r 19 6 26 (by decide)), nn_s (hL.r 8 6 15 (by decide)), gd_k (hL.k 15 22 24 rfl), gd_k (hL.k 26 22 24 rfl), hL.l 26 22 24 rfl (by decide), hL.l 15 22 24 rfl (by decide), gd_t ok24, nI_clamp (show 24 < 2 ^ 31 by decide)]
  rw [cR_cp, cR_cp, cR_cp, cR_cp, cR_cp, nn_s (hL.r 19 9 29 (by decide)), gd_k (hL.k 29 22 24 rfl), nn_s (hL.r 19 9 29 (by decide)), nn_s (hL.r 8 9 18 (by decide)), gd_k (hL.k 18 22 24 rfl), gd_k (hL.k 29 22 24 rfl), hL.l 29 22 24 rfl (by decide), hL.l 18 22 24 rfl (by decide), gd_t ok24, nI_clamp (show 24 < 2 ^ 31 by decide)]
  rfl
theorem c_copyS (hL : LY z K M) (N : Nat) : fC_X4_copy N K (z + 8) (z + 19) M = some (cpC z 9 20 M) := by
  unfold fC_X4_copy
  rw [gd_k (hL.k 19 5 0 rfl), gd_k (hL.k 8 5 0 rfl)]
  rw [nn_s (hL.r 8 0 9 (by decide)), gd_k (hL.k 9 22 24 rfl), nn_s (hL.r 8 0 9 (by decide)), nn_s (hL.r 19 0 20 (by decide)), gd_k (hL.k 20 22 24 rfl), gd_k (hL.k 9 22 24 rfl), hL.l 9 22 24 rfl (by decide), hL.l 20 22 24 rfl (by decide), gd_t ok24, nI_clamp (show 24 < 2 ^ 31 by decide)]
  rw [cR_cp, nn_s (hL.r 8 2 11 (by decide)), gd_k (hL.k 11 22 192 rfl), nn_s (hL.r 8 2 11 (by decide)), nn_s (hL.r 19 2 22 (by decide)), gd_k (hL.k 22 22 192 rfl), gd_k (hL.k 11 22 192 rfl), hL.l 11 22 192 rfl (by decide), hL.l 22 22 192 rfl (by decide), gd_t ok192, nI_clamp (show 192 < 2 ^ 31 by decide)]
  rw [cR_cp, cR_cp, nn_s (hL.r 8 3 12 (by decide)), gd_k (hL.k 12 22 24 rfl), nn_s (hL.r 8 3 12 (by decide)), nn_s (hL.r 19 3 23 (by decide)), gd_k (hL.k 23 22 24 rfl), gd_k (hL.k 12 22 24 rfl), hL.l 12 22 24 rfl (by decide), hL.l 23 22 24 rfl (by decide), gd_t ok24, nI_clamp (show 24 < 2 ^ 31 by decide)]
  rw [cR_cp, cR_cp, cR_cp, nn_s (hL.r 8 4 13 (by decide)), gd_k (hL.k 13 22 24 rfl), nn_s (hL.r 8 4 13 (by decide)), nn_s (hL.r 19 4 24 (by decide)), gd_k (hL.k 24 22 24 rfl), gd_k (hL.k 13 22 24 rfl), hL.l 13 22 24 rfl (by decide), hL.l 24 22 24 rfl (by decide), gd_t ok24, nI_clamp (show 24 < 2 ^ 31 by decide)]
  rw [cR_cp, cR_cp, cR_cp, cR_cp, nn_s (hL.r 8 6 15 (by decide)), gd_k (hL.k 15 22 24 rfl), nn_s (hL.r 8 6 15 (by decide)), nn_s (hL.r 19 6 26 (by decide)), gd_k (hL.k 26 22 24 rfl), gd_k (hL.k 15 22 24 rfl), hL.l 15 22 24 rfl (by decide), hL.l 26 22 24 rfl (by decide), gd_t ok24, nI_clamp (show 24 < 2 ^ 31 by decide)]
  rw [cR_cp, cR_cp, cR_cp, cR_cp, cR_cp, nn_s (hL.r 8 9 18 (by decide)), gd_k (hL.k 18 22 24 rfl), nn_s (hL.r 8 9 18 (by decide)), nn_s (hL.r 19 9 29 (by decide)), gd_k (hL.k 29 22 24 rfl), gd_k (hL.k 18 22 24 rfl), hL.l 18 22 24 rfl (by decide), hL.l 29 22 24 rfl (by decide), gd_t ok24, nI_clamp (show 24 < 2 ^ 31 by decide)]
  rfl
/-- the reference's keeping and putting back -/
def swF (i : Nat) (S : Ms) : Ms := pA (pA (pA (pA (pA S 102 i (mA S 54 i)) 104 i (mA S 57 i)) 105 i (mA S 58 i)) 106 i (mA S 60 i)) 107 i (mA S 62 i)
def swB (i : Nat) (S : Ms) : Ms := pA (pA (pA (pA (pA S 54 i (mA S 102 i)) 57 i (mA S 104 i)) 58 i (mA S 105 i)) 60 i (mA S 106 i)) 62 i (mA S 107 i)
theorem sw_f (N : Nat) (k : Int32 → Ms → Option Ms) : ∀ (n i : Nat) (S : Ms), i ≤ 24 → 24 < n + i → ∃ S', lM_swapAll_2 N k n 0 (nI i) S = k 0 S' ∧ mF S' = mF S ∧ mL S' = mL S ∧ (∀ q, q ≠ 102 → q ≠ 104 → q ≠ 105 → q ≠ 106 → q ≠ 107 → mA S' q = mA S q) ∧ ∀ j, (mA S' 102 j = if i ≤ j ∧ j < 24 then mA S 54 j else mA S 102 j) ∧ (mA S' 104 j = if i ≤ j ∧ j < 24 then mA S 57 j else mA S 104 j) ∧ (mA S' 105 j = if i ≤ j ∧ j < 24 then mA S 58 j else mA S 105 j) ∧ (mA S' 106 j = if i ≤ j ∧ j < 24 then mA S 60 j else mA S 106 j) ∧ (mA S' 107 j = if i ≤ j ∧ j < 24 then mA S 62 j else mA S 107 j) := by
  intro n
  induction n with
  | zero => intro i S h1 h2; omega
  | succ n ih =>
    intro i S h1 h2
    rw [lM_swapAll_2]
    by_cases e : i = 24
    · rw [e, if_pos (show (24 : Int32) ≤ nI 24 by decide)]
      exact ⟨S, rfl, rfl, rfl, fun _ _ _ _ _ _ => rfl, fun j => ⟨by rw [if_neg (by omega)], by rw [if_neg (by omega)], by rw [if_neg (by omega)], by rw [if_neg (by omega)], by rw [if_neg (by omega)]⟩⟩
    · rw [if_neg (show ¬ (24 : Int32) ≤ nI i from nI_ge (b := 24) (by omega) (by decide)), if_pos rfl]
      simp only [ck_n (show i < 24 by omega) (show 24 < 2 ^ 31 by decide), nI_clamp (show i < 2 ^ 31 by omega)]
      unfold bM_swapAll_135
      rw [nI_1]
      obtain ⟨S', a1, a2, a3, a4, a5⟩ := ih (i + 1) (swF i S) (by omega) (by omega)
      refine ⟨S', a1, a2, a3, fun q q1 q2 q3 q4 q5 => (a4 q q1 q2 q3 q4 q5).trans ?_, fun j => ?_⟩
      · unfold swF
        rw [mA_Ane _ _ _ q5, mA_Ane _ _ _ q4, mA_Ane _ _ _ q3, mA_Ane _ _ _ q2, mA_Ane _ _ _ q1]
      · obtain ⟨b1, b2, b3, b4, b5⟩ := a5 j
        have o : ∀ q, q = 54 ∨ q = 57 ∨ q = 58 ∨ q = 60 ∨ q = 62 → mA (swF i S) q = mA S q := fun q hq => by
          unfold swF
          rw [mA_Ane _ _ _ (by omega), mA_Ane _ _ _ (by omega), mA_Ane _ _ _ (by omega), mA_Ane _ _ _ (by omega), mA_Ane _ _ _ (by omega)]
        have c1 : mA (swF i S) 102 j = if j = i then mA S 54 i else mA S 102 j := by
          unfold swF
          rw [mA_Ane _ _ _ (by decide), mA_Ane _ _ _ (by decide), mA_Ane _ _ _ (by decide), mA_Ane _ _ _ (by decide), mA_A]; simp
        have c2 : mA (swF i S) 104 j = if j = i then mA S 57 i else mA S 104 j := by
          unfold swF
          rw [mA_Ane _ _ _ (by decide), mA_Ane _ _ _ (by decide), mA_Ane _ _ _ (by decide), mA_A, mA_Ane _ _ _ (by decide)]; simp
        have c3 : mA (swF i S) 105 j = if j = i then mA S 58 i else mA S 105 j := by
          unfold swF
          rw [mA_Ane _ _ _ (by decide), mA_Ane _ _ _ (by decide), mA_A, mA_Ane _ _ _ (by decide), mA_Ane _ _ _ (by decide)]; simp
        have c4 : mA (swF i S) 106 j = if j = i then mA S 60 i else mA S 106 j := by
          unfold swF
          rw [mA_Ane _ _ _ (by decide), mA_A, mA_Ane _ _ _ (by decide), mA_Ane _ _ _ (by decide), mA_Ane _ _ _ (by decide)]; simp
        have c5 : mA (swF i S) 107 j = if j = i then mA S 62 i else mA S 107 j := by
          unfold swF
          rw [mA_A, mA_Ane _ _ _ (by decide), mA_Ane _ _ _ (by decide), mA_Ane _ _ _ (by decide), mA_Ane _ _ _ (by decide)]; simp
        rw [o 54 (by omega), c1] at b1
        rw [o 57 (by omega), c2] at b2
        rw [o 58 (by omega), c3] at b3
        rw [o 60 (by omega), c4] at b4
        rw [o 62 (by omega), c5] at b5
        rw [b1, b2, b3, b4, b5]
        by_cases q1 : i + 1 ≤ j ∧ j < 24
        · rw [if_pos q1, if_pos q1, if_pos q1, if_pos q1, if_pos q1, if_pos (show i ≤ j ∧ j < 24 by omega), if_pos (show i ≤ j ∧ j < 24 by omega), if_pos (show i ≤ j ∧ j < 24 by omega), if_pos (show i ≤ j ∧ j < 24 by omega), if_pos (show i ≤ j ∧ j < 24 by omega)]
          exact ⟨rfl, rfl, rfl, rfl, rfl⟩
        · rw [if_neg q1, if_neg q1, if_neg q1, if_neg q1, if_neg q1]
          by_cases q2 : j = i
          · subst q2
            rw [if_pos (show j ≤ j ∧ j < 24 by omega), if_pos (show j ≤ j ∧ j < 24 by omega), if_pos (show j ≤ j ∧ j < 24 by omega), if_pos (show j ≤ j ∧ j < 24 by omega), if_pos (show j ≤ j ∧ j < 24 by omega), if_pos rfl, if_pos rfl, if_pos rfl, if_pos rfl, if_pos rfl]
            exact ⟨rfl, rfl, rfl, rfl, rfl⟩
          · rw [if_neg q2, if_neg q2, if_neg q2, if_neg q2, if_neg q2, if_neg (show ¬ (i ≤ j ∧ j < 24) by omega), if_neg (show ¬ (i ≤ j ∧ j < 24) by omega), if_neg (show ¬ (i ≤ j ∧ j < 24) by omega), if_neg (show ¬ (i ≤ j ∧ j < 24) by omega), if_neg (show ¬ (i ≤ j ∧ j < 24) by omega)]
            exact ⟨rfl, rfl, rfl, rfl, rfl⟩
theorem sw_b (N : Nat) (k : Int32 → Ms → Option Ms) : ∀ (n i : Nat) (S : Ms), i ≤ 24 → 24 < n + i → ∃ S', lM_swapAll_2 N k n 1 (nI i) S = k 1 S' ∧ mF S' = mF S ∧ mL S' = mL S ∧ (∀ q, q ≠ 54 → q ≠ 57 → q ≠ 58 → q ≠ 60 → q ≠ 62 → mA S' q = mA S q) ∧ ∀ j, (mA S' 54 j = if i ≤ j ∧ j < 24 then mA S 102 j else mA S 54 j) ∧ (mA S' 57 j = if i ≤ j ∧ j < 24 then mA S 104 j else mA S 57 j) ∧ (mA S' 58 j = if i ≤ j ∧ j < 24 then mA S 105 j else mA S 58 j) ∧ (mA S' 60 j = if i ≤ j ∧ j < 24 then mA S 106 j else mA S 60 j) ∧ (mA S' 62 j = if i ≤ j ∧ j < 24 then mA S 107 j else mA S 62 j) := by
  intro n
  induction n with
  | zero => intro i S h1 h2; omega
  | succ n ih =>
    intro i S h1 h2
    rw [lM_swapAll_2]
    by_cases e : i = 24
    · rw [e, if_pos (show (24 : Int32) ≤ nI 24 by decide)]
      exact ⟨S, rfl, rfl, rfl, fun _ _ _ _ _ _ => rfl, fun j => ⟨by rw [if_neg (by omega)], by rw [if_neg (by omega)], by rw [if_neg (by omega)], by rw [if_neg (by omega)], by rw [if_neg (by omega)]⟩⟩
    · rw [if_neg (show ¬ (24 : Int32) ≤ nI i from nI_ge (b := 24) (by omega) (by decide)), if_neg (show ¬ (1 : Int32) = 0 by decide)]
      simp only [ck_n (show i < 24 by omega) (show 24 < 2 ^ 31 by decide), nI_clamp (show i < 2 ^ 31 by omega)]
      unfold bM_swapAll_135
      rw [nI_1]
      obtain ⟨S', a1, a2, a3, a4, a5⟩ := ih (i + 1) (swB i S) (by omega) (by omega)
      refine ⟨S', a1, a2, a3, fun q q1 q2 q3 q4 q5 => (a4 q q1 q2 q3 q4 q5).trans ?_, fun j => ?_⟩
      · unfold swB
        rw [mA_Ane _ _ _ q5, mA_Ane _ _ _ q4, mA_Ane _ _ _ q3, mA_Ane _ _ _ q2, mA_Ane _ _ _ q1]
      · obtain ⟨b1, b2, b3, b4, b5⟩ := a5 j
        have o : ∀ q, q = 102 ∨ q = 104 ∨ q = 105 ∨ q = 106 ∨ q = 107 → mA (swB i S) q = mA S q := fun q hq => by
          unfold swB
          rw [mA_Ane _ _ _ (by omega), mA_Ane _ _ _ (by omega), mA_Ane _ _ _ (by omega), mA_Ane _ _ _ (by omega), mA_Ane _ _ _ (by omega)]
        have c1 : mA (swB i S) 54 j = if j = i then mA S 102 i else mA S 54 j := by
          unfold swB
          rw [mA_Ane _ _ _ (by decide), mA_Ane _ _ _ (by decide), mA_Ane _ _ _ (by decide), mA_Ane _ _ _ (by decide), mA_A]; simp
        have c2 : mA (swB i S) 57 j = if j = i then mA S 104 i else mA S 57 j := by
          unfold swB
          rw [mA_Ane _ _ _ (by decide), mA_Ane _ _ _ (by decide), mA_Ane _ _ _ (by decide), mA_A, mA_Ane _ _ _ (by decide)]; simp
        have c3 : mA (swB i S) 58 j = if j = i then mA S 105 i else mA S 58 j := by
          unfold swB
          rw [mA_Ane _ _ _ (by decide), mA_Ane _ _ _ (by decide), mA_A, mA_Ane _ _ _ (by decide), mA_Ane _ _ _ (by decide)]; simp
        have c4 : mA (swB i S) 60 j = if j = i then mA S 106 i else mA S 60 j := by
          unfold swB
          rw [mA_Ane _ _ _ (by decide), mA_A, mA_Ane _ _ _ (by decide), mA_Ane _ _ _ (by decide), mA_Ane _ _ _ (by decide)]; simp
        have c5 : mA (swB i S) 62 j = if j = i then mA S 107 i else mA S 62 j := by
          unfold swB
          rw [mA_A, mA_Ane _ _ _ (by decide), mA_Ane _ _ _ (by decide), mA_Ane _ _ _ (by decide), mA_Ane _ _ _ (by decide)]; simp
        rw [o 102 (by omega), c1] at b1
        rw [o 104 (by omega), c2] at b2
        rw [o 105 (by omega), c3] at b3
        rw [o 106 (by omega), c4] at b4
        rw [o 107 (by omega), c5] at b5
        rw [b1, b2, b3, b4, b5]
        by_cases q1 : i + 1 ≤ j ∧ j < 24
        · rw [if_pos q1, if_pos q1, if_pos q1, if_pos q1, if_pos q1, if_pos (show i ≤ j ∧ j < 24 by omega), if_pos (show i ≤ j ∧ j < 24 by omega), if_pos (show i ≤ j ∧ j < 24 by omega), if_pos (show i ≤ j ∧ j < 24 by omega), if_pos (show i ≤ j ∧ j < 24 by omega)]
          exact ⟨rfl, rfl, rfl, rfl, rfl⟩
        · rw [if_neg q1, if_neg q1, if_neg q1, if_neg q1, if_neg q1]
          by_cases q2 : j = i
          · subst q2
            rw [if_pos (show j ≤ j ∧ j < 24 by omega), if_pos (show j ≤ j ∧ j < 24 by omega), if_pos (show j ≤ j ∧ j < 24 by omega), if_pos (show j ≤ j ∧ j < 24 by omega), if_pos (show j ≤ j ∧ j < 24 by omega), if_pos rfl, if_pos rfl, if_pos rfl, if_pos rfl, if_pos rfl]
            exact ⟨rfl, rfl, rfl, rfl, rfl⟩
          · rw [if_neg q2, if_neg q2, if_neg q2, if_neg q2, if_neg q2, if_neg (show ¬ (i ≤ j ∧ j < 24) by omega), if_neg (show ¬ (i ≤ j ∧ j < 24) by omega), if_neg (show ¬ (i ≤ j ∧ j < 24) by omega), if_neg (show ¬ (i ≤ j ∧ j < 24) by omega), if_neg (show ¬ (i ≤ j ∧ j < 24) by omega)]
            exact ⟨rfl, rfl, rfl, rfl, rfl⟩
theorem sw_2 (N : Nat) (k : Ms → Option Ms) {x1 : Int32} {r0 r1 : Nat} (hr : (x1 = 0 ∧ r0 = 56 ∧ r1 = 103) ∨ (x1 = 1 ∧ r0 = 103 ∧ r1 = 56)) : ∀ (n i : Nat) (S : Ms), i ≤ 192 → 192 < n + i → ∃ S', lM_swapAll_143 N k n x1 (nI i) S = k S' ∧ mF S' = mF S ∧ mL S' = mL S ∧ (∀ q, q ≠ r1 → mA S' q = mA S q) ∧ ∀ j, mA S' r1 j = if i ≤ j ∧ j < 192 then mA S r0 j else mA S r1 j := by
  intro n
  induction n with
  | zero => intro i S h1 h2; omega
  | succ n ih =>
    intro i S h1 h2
    rw [lM_swapAll_143]
    by_cases e : i = 192
    · rw [e, if_pos (show (192 : Int32) ≤ nI 192 by decide)]
      exact ⟨S, rfl, rfl, rfl, fun _ _ => rfl, fun j => by rw [if_neg (by omega)]⟩
    · have key : ∀ S', (∃ S2, lM_swapAll_143 N k n x1 (nI (i + 1)) (pA S r1 i (mA S r0 i)) = k S2 ∧ S2 = S') → True := fun _ _ => trivial
      obtain ⟨S', a1, a2, a3, a4, a5⟩ := ih (i + 1) (pA S r1 i (mA S r0 i)) (by omega) (by omega)
      have ne : r0 ≠ r1 := by omega
      have hb : (if (192 : Int32) ≤ nI i then k S else if x1 = 0 then ck (nI i) 192 (ck (nI i) 192 (bM_swapAll_181 N (lM_swapAll_143 N k n) k x1 (nI i) (pA S 103 (nI i).toNatClampNeg (mA S 56 (nI i).toNatClampNeg)))) else ck (nI i) 192 (ck (nI i) 192 (bM_swapAll_181 N (lM_swapAll_143 N k n) k x1 (nI i) (pA S 56 (nI i).toNatClampNeg (mA S 103 (nI i).toNatClampNeg))))) = lM_swapAll_143 N k n x1 (nI (i + 1)) (pA S r1 i (mA S r0 i)) := by
        unfold bM_swapAll_181
        rw [if_neg (show ¬ (192 : Int32) ≤ nI i from nI_ge (b := 192) (by omega) (by decide)), ck_n (show i < 192 by omega) (by decide), ck_n (show i < 192 by omega) (by decide), ck_n (show i < 192 by omega) (by decide), ck_n (show i < 192 by omega) (by decide), nI_clamp (show i < 2 ^ 31 by omega), nI_1]
        rcases hr with ⟨w, rfl, rfl⟩ | ⟨w, rfl, rfl⟩
        · rw [if_pos w]
        · rw [if_neg (by rw [w]; decide)]
      refine ⟨S', hb.trans a1, a2, a3, fun q hq => (a4 q hq).trans (mA_Ane _ _ _ hq), fun j => ?_⟩
      rw [a5 j, mA_Ane _ _ _ ne, mA_A]
      by_cases q1 : i + 1 ≤ j ∧ j < 192
      · rw [if_pos q1, if_pos (show i ≤ j ∧ j < 192 by omega)]
      · rw [if_neg q1]
        by_cases q2 : j = i
        · rw [q2, if_pos ⟨rfl, rfl⟩, if_pos (show i ≤ i ∧ i < 192 by omega)]
        · rw [if_neg (fun w => q2 w.2), if_neg (show ¬ (i ≤ j ∧ j < 192) by omega)]
theorem m_keep (hN : 200 < N) (S : Ms) : ∃ S', fM_swapAll N 0 S = some S' ∧ mF S' = mF S ∧ mL S' = mL S ∧ (∀ q, ¬ (102 ≤ q ∧ q ≤ 107) → mA S' q = mA S q) ∧ (∀ j, j < 24 → mA S' 102 j = mA S 54 j ∧ mA S' 104 j = mA S 57 j ∧ mA S' 105 j = mA S 58 j ∧ mA S' 106 j = mA S 60 j ∧ mA S' 107 j = mA S 62 j) ∧ ∀ j, j < 192 → mA S' 103 j = mA S 56 j := by
  obtain ⟨S1, a1, a2, a3, a4, a5⟩ := sw_f N (bM_swapAll_141 N) N 0 S (by omega) (by omega)
  obtain ⟨S2, b1, b2, b3, b4, b5⟩ := sw_2 N (bM_swapAll_187 N) (Or.inl ⟨rfl, rfl, rfl⟩) N 0 S1 (by omega) (by omega)
  refine ⟨S2, ?_, b2.trans a2, b3.trans a3, fun q hq => (b4 q (by omega)).trans (a4 q (by omega) (by omega) (by omega) (by omega) (by omega)), fun j hj => ?_, fun j hj => ?_⟩
  · unfold fM_swapAll
    refine Eq.trans a1 ?_
    unfold bM_swapAll_141
    exact b1
  · obtain ⟨c1, c2, c3, c4, c5⟩ := a5 j
    rw [if_pos (by omega)] at c1 c2 c3 c4 c5
    rw [b4 102 (by decide), b4 104 (by decide), b4 105 (by decide), b4 106 (by decide), b4 107 (by decide)]
    exact ⟨c1, c2, c3, c4, c5⟩
  · rw [b5 j, if_pos (by omega), a4 56 (by decide) (by decide) (by decide) (by decide) (by decide)]
theorem m_back (hN : 200 < N) (S : Ms) : ∃ S', fM_swapAll N 1 S = some S' ∧ mF S' = mF S ∧ mL S' = mL S ∧ (∀ q, q ≠ 54 → q ≠ 56 → q ≠ 57 → q ≠ 58 → q ≠ 60 → q ≠ 62 → mA S' q = mA S q) ∧ (∀ j, j < 24 → mA S' 54 j = mA S 102 j ∧ mA S' 57 j = mA S 104 j ∧ mA S' 58 j = mA S 105 j ∧ mA S' 60 j = mA S 106 j ∧ mA S' 62 j = mA S 107 j) ∧ ∀ j, j < 192 → mA S' 56 j = mA S 103 j := by
  obtain ⟨S1, a1, a2, a3, a4, a5⟩ := sw_b N (bM_swapAll_141 N) N 0 S (by omega) (by omega)
  obtain ⟨S2, b1, b2, b3, b4, b5⟩ := sw_2 N (bM_swapAll_187 N) (Or.inr ⟨rfl, rfl, rfl⟩) N 0 S1 (by omega) (by omega)
  refine ⟨S2, ?_, b2.trans a2, b3.trans a3, fun q q1 q2 q3 q4 q5 q6 => (b4 q q2).trans (a4 q q1 q3 q4 q5 q6), fun j hj => ?_, fun j hj => ?_⟩
  · unfold fM_swapAll
    refine Eq.trans a1 ?_
    unfold bM_swapAll_141
    exact b1
  · obtain ⟨c1, c2, c3, c4, c5⟩ := a5 j
    rw [if_pos (by omega)] at c1 c2 c3 c4 c5
    rw [b4 54 (by decide), b4 57 (by decide), b4 58 (by decide), b4 60 (by decide), b4 62 (by decide)]
    exact ⟨c1, c2, c3, c4, c5⟩
  · rw [b5 j, if_pos (by omega), a4 103 (by decide) (by decide) (by decide) (by decide) (by decide)]
end FORE
