/-! calls that tell a row of the books -/
theorem min2 {n : Nat} (h : n < 2 ^ 31) : (if (200 : Int32) < nI n then 200 else nI n) = nI (min n 200) := by
  by_cases h2 : 200 < n
  · rw [if_pos (show (200 : Int32) < nI n from nI_lt (a := 200) h2 h), Nat.min_eq_right (by omega)]
    rfl
  · rw [if_neg (show ¬ (200 : Int32) < nI n from nI_nlt (a := 200) (by omega) (by decide)), Nat.min_eq_left (by omega)]
section GETB
variable {z : Nat} {K : Ka} {M : Cm} {S : Ms} {b st nd nu nm : Nat}
theorem g_half (h : RelP z K M S b st nd nu nm) (N : Nat) (v1 v2 : Int32) : fS_half N z v1 v2 K M S = some (K, M, pF S 0 0) := by
  obtain ⟨hLY, -, -, -, -, -, hR, -⟩ := h
  obtain ⟨n, s, hns, hs, hsm, f1, f2, f3⟩ := hR
  have f2' : mF (pF S 0 0) 79 = nI n := f2
  have ec : fC_X8_half N K z v1 v2 M = some (if v1 < 0 ∨ nI (min n 200) ≤ v1 ∨ v2 < 0 ∨ nI 3 ≤ v2 then -1 else cI M (z + 32) (v1.toNatClampNeg * 3 + v2.toNatClampNeg), M) := by
    unfold fC_X8_half fC_X0_halfAt
    rw [gd_k hLY.k9, nn_s (hLY.r0 4 30 (by decide)), gd_k (hLY.k 30 1 0 rfl), gd_k (hLY.k 30 1 0 rfl), nn_s (hLY.r 30 1 32 (by decide)), f1, min2 (by omega), show (3 : Int32) = nI 3 from rfl, c_at N v1 v2 (hLY.k 32 22 600 rfl) (hLY.l 32 22 600 rfl (by decide)) (by omega) (by omega) (by decide) (by decide)]
    rfl
  unfold fS_half
  rw [gd_k hLY.k9, ec]
  unfold fM_half bM_half_24 bM_half_68
  by_cases h1 : v1 < 0
  · rw [if_pos h1, if_pos (Or.inl h1)]
    exact fin rfl
  · rw [if_neg h1, f2']
    obtain ⟨i, hi, rfl⟩ := nI_of h1
    by_cases h2 : nI n ≤ nI i
    · rw [if_pos h2, if_pos (Or.inr (Or.inl (nI_le (by have := (nI_leI (by omega) hi).mp h2; omega) hi)))]
      exact fin rfl
    · have hin0 : i < n := Nat.not_le.mp fun q => h2 (nI_le q hi)
      rw [if_neg h2]
      by_cases h9 : 200 ≤ i
      · rw [if_neg (show ¬ nI i < 200 from nI_nlt (b := 200) h9 hi), if_pos (Or.inr (Or.inl (nI_le (by omega) hi)))]
        exact fin rfl
      have hin : i < min n 200 := by omega
      have h2' : ¬ nI (min n 200) ≤ nI i := nI_ge hin (by omega)
      have gg := f3 i hin0 (by omega)
      rw [if_pos (show nI i < 200 from nI_lt (b := 200) (by omega) (by decide)), nI_clamp hi, ck_n (show i < 200 by omega) (by decide), ck_n (show i < 200 by omega) (by decide), ck_n (show i < 200 by omega) (by decide)]
      obtain ⟨g0, g1, g2⟩ := gg
      by_cases e0 : v2 = 0
      · subst e0
        rw [if_pos rfl, if_neg (no4 h1 h2' (by decide) (by decide))]
        exact fin g0
      rw [if_neg e0]
      by_cases e1 : v2 = 1
      · subst e1
        rw [if_pos rfl, if_neg (no4 h1 h2' (by decide) (by decide))]
        exact fin g1
      rw [if_neg e1]
      by_cases e2 : v2 = 2
      · subst e2
        rw [if_pos rfl, if_neg (no4 h1 h2' (by decide) (by decide))]
        exact fin g2
      rw [if_neg e2]
      rw [if_pos]
      · exact fin rfl
      · by_cases h3 : v2 < 0
        · exact Or.inr (Or.inr (Or.inl h3))
        · obtain ⟨j, hj, rfl⟩ := nI_of h3
          refine Or.inr (Or.inr (Or.inr (nI_le ?_ hj)))
          have a0 : j ≠ 0 := fun q => e0 (by rw [q]; rfl)
          have a1 : j ≠ 1 := fun q => e1 (by rw [q]; rfl)
          have a2 : j ≠ 2 := fun q => e2 (by rw [q]; rfl)
          omega
theorem g_order (h : RelP z K M S b st nd nu nm) (N : Nat) (v1 v2 : Int32) : fS_order N z v1 v2 K M S = some (K, M, pF S 0 0) := by
  obtain ⟨hLY, -, -, -, -, -, -, hR, -⟩ := h
  obtain ⟨n, s, hns, hs, hsm, f1, f2, f3⟩ := hR
  have f2' : mF (pF S 0 0) 84 = nI n := f2
  have ec : fC_X8_order N K z v1 v2 M = some (if v1 < 0 ∨ nI (min n 200) ≤ v1 ∨ v2 < 0 ∨ nI 4 ≤ v2 then -1 else cI M (z + 33) (v1.toNatClampNeg * 4 + v2.toNatClampNeg), M) := by
    unfold fC_X8_order fC_X0_orderAt
    rw [gd_k hLY.k9, nn_s (hLY.r0 4 30 (by decide)), gd_k (hLY.k 30 1 0 rfl), gd_k (hLY.k 30 1 0 rfl), nn_s (hLY.r 30 2 33 (by decide)), f1, min2 (by omega), show (4 : Int32) = nI 4 from rfl, c_at N v1 v2 (hLY.k 33 22 800 rfl) (hLY.l 33 22 800 rfl (by decide)) (by omega) (by omega) (by decide) (by decide)]
    rfl
  unfold fS_order
  rw [gd_k hLY.k9, ec]
  unfold fM_order bM_order_24 bM_order_90
  by_cases h1 : v1 < 0
  · rw [if_pos h1, if_pos (Or.inl h1)]
    exact fin rfl
  · rw [if_neg h1, f2']
    obtain ⟨i, hi, rfl⟩ := nI_of h1
    by_cases h2 : nI n ≤ nI i
    · rw [if_pos h2, if_pos (Or.inr (Or.inl (nI_le (by have := (nI_leI (by omega) hi).mp h2; omega) hi)))]
      exact fin rfl
    · have hin0 : i < n := Nat.not_le.mp fun q => h2 (nI_le q hi)
      rw [if_neg h2]
      by_cases h9 : 200 ≤ i
      · rw [if_neg (show ¬ nI i < 200 from nI_nlt (b := 200) h9 hi), if_pos (Or.inr (Or.inl (nI_le (by omega) hi)))]
        exact fin rfl
      have hin : i < min n 200 := by omega
      have h2' : ¬ nI (min n 200) ≤ nI i := nI_ge hin (by omega)
      have gg := f3 i hin0 (by omega)
      rw [if_pos (show nI i < 200 from nI_lt (b := 200) (by omega) (by decide)), nI_clamp hi, ck_n (show i < 200 by omega) (by decide), ck_n (show i < 200 by omega) (by decide), ck_n (show i < 200 by omega) (by decide), ck_n (show i < 200 by omega) (by decide)]
      obtain ⟨g0, g1, g2, g3, gz⟩ := gg
      by_cases e0 : v2 = 0
      · subst e0
        rw [if_pos rfl, if_neg (no4 h1 h2' (by decide) (by decide))]
        exact fin g0
      rw [if_neg e0]
      by_cases e1 : v2 = 1
      · subst e1
        rw [if_pos rfl, if_neg (no4 h1 h2' (by decide) (by decide))]
        exact fin g1
      rw [if_neg e1]
      by_cases e2 : v2 = 2
      · subst e2
        rw [if_pos rfl, if_neg (no4 h1 h2' (by decide) (by decide))]
        exact fin g2
      rw [if_neg e2]
      by_cases e3 : v2 = 3
      · subst e3
        rw [if_pos rfl, if_neg (no4 h1 h2' (by decide) (by decide))]
        have gz' : mA (pF S 0 0) 83 i = 0 ∨ mA (pF S 0 0) 83 i = 1 := gz
        have g3' : cI M (z + 33) (i * 4 + (3 : Int32).toNatClampNeg) = mA (pF S 0 0) 83 i := g3
        rcases gz' with q | q
        · rw [if_pos q]
          exact fin (g3'.trans q)
        · rw [if_neg (by rw [q]; decide)]
          exact fin (g3'.trans q)
      rw [if_neg e3]
      rw [if_pos]
      · exact fin rfl
      · by_cases h3 : v2 < 0
        · exact Or.inr (Or.inr (Or.inl h3))
        · obtain ⟨j, hj, rfl⟩ := nI_of h3
          refine Or.inr (Or.inr (Or.inr (nI_le ?_ hj)))
          have a0 : j ≠ 0 := fun q => e0 (by rw [q]; rfl)
          have a1 : j ≠ 1 := fun q => e1 (by rw [q]; rfl)
          have a2 : j ≠ 2 := fun q => e2 (by rw [q]; rfl)
          have a3 : j ≠ 3 := fun q => e3 (by rw [q]; rfl)
          omega
theorem g_closed (h : RelP z K M S b st nd nu nm) (N : Nat) (v1 v2 : Int32) : fS_closed N z v1 v2 K M S = some (K, M, pF S 0 0) := by
  obtain ⟨hLY, -, -, -, -, -, -, -, hR, -⟩ := h
  obtain ⟨n, n24, f1, f2, f3⟩ := hR
  have f2' : mF (pF S 0 0) 87 = nI n := f2
  have ec : fC_X8_closed N K z v1 v2 M = some (if v1 < 0 ∨ nI n ≤ v1 ∨ v2 < 0 ∨ nI 2 ≤ v2 then -1 else cI M (z + 34) (v1.toNatClampNeg * 2 + v2.toNatClampNeg), M) := by
    unfold fC_X8_closed fC_X0_closedAt
    rw [gd_k hLY.k9, nn_s (hLY.r0 4 30 (by decide)), gd_k (hLY.k 30 1 0 rfl), gd_k (hLY.k 30 1 0 rfl), nn_s (hLY.r 30 3 34 (by decide)), f1, show (2 : Int32) = nI 2 from rfl, c_at N v1 v2 (hLY.k 34 22 48 rfl) (hLY.l 34 22 48 rfl (by decide)) (by omega) (by omega) (by decide) (by decide)]
    rfl
  unfold fS_closed
  rw [gd_k hLY.k9, ec]
  unfold fM_closed bM_closed_17 bM_closed_47
  by_cases h1 : v1 < 0
  · rw [if_pos h1, if_pos (Or.inl h1)]
    exact fin rfl
  · rw [if_neg h1, f2']
    obtain ⟨i, hi, rfl⟩ := nI_of h1
    by_cases h2 : nI n ≤ nI i
    · rw [if_neg (Int32.not_lt.mpr h2), if_pos (Or.inr (Or.inl h2))]
      exact fin rfl
    · have hin : i < n := Nat.not_le.mp fun q => h2 (nI_le q hi)
      have h2' := h2
      have gg := f3 i hin
      rw [if_pos (Int32.not_le.mp h2), nI_clamp hi, ck_n (show i < 24 by omega) (by decide), ck_n (show i < 24 by omega) (by decide)]
      obtain ⟨g0, g1⟩ := gg
      by_cases e0 : v2 = 0
      · subst e0
        rw [if_pos rfl, if_neg (no4 h1 h2' (by decide) (by decide))]
        exact fin g0
      rw [if_neg e0]
      by_cases e1 : v2 = 1
      · subst e1
        rw [if_pos rfl, if_neg (no4 h1 h2' (by decide) (by decide))]
        exact fin g1
      rw [if_neg e1]
      rw [if_pos]
      · exact fin rfl
      · by_cases h3 : v2 < 0
        · exact Or.inr (Or.inr (Or.inl h3))
        · obtain ⟨j, hj, rfl⟩ := nI_of h3
          refine Or.inr (Or.inr (Or.inr (nI_le ?_ hj)))
          have a0 : j ≠ 0 := fun q => e0 (by rw [q]; rfl)
          have a1 : j ≠ 1 := fun q => e1 (by rw [q]; rfl)
          omega
end GETB
