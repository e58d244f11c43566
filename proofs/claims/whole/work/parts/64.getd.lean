/-! unit, read, count -/
section GETD
variable {z : Nat} {K : Ka} {M : Cm} {S : Ms} {b st nd nu nm : Nat}
theorem g_unit (h : RelP z K M S b st nd nu nm) (N : Nat) (v1 v2 : Int32) : ∃ o : Ka × Cm × Ms, fS_unit N z (z + 173) v1 v2 K M S = some o ∧ RelP z o.1 o.2.1 o.2.2 b st nd nu nm ∧ OUTK z K M S o := by
  have hh := h
  have hU := c_isU h N v1
  obtain ⟨hLY, -, -, -, -, -, -, -, -, -, hRE, -, hSA, -, hSU, -⟩ := h
  obtain ⟨hb, hn, s3, -, s5, hnd, hnu, -, -, -, -, hsu, -⟩ := hSA
  obtain ⟨a4, a5, a6, -, q5, -, q, -⟩ := hSU
  have hm := m_isU (S := S) hb hn hsu N v1
  have ht : fT_X8_unit N z v1 v2 K M = some (.inr (K, M)) → fM_unit N v1 v2 S = some (0, pF S 0 1) → ∃ o : Ka × Cm × Ms, fS_unit N z (z + 173) v1 v2 K M S = some o ∧ RelP z o.1 o.2.1 o.2.2 b st nd nu nm ∧ OUTK z K M S o := fun c m => ⟨_, ft_unit hh c m, (hh.thr 1).kX, Or.inr ⟨rfl, rfl, 1, rfl⟩⟩
  have hv : ∀ r : Int32, fT_X8_unit N z v1 v2 K M = some (.inl (r, K, M)) → fM_unit N v1 v2 S = some (r, pF S 0 0) → ∃ o : Ka × Cm × Ms, fS_unit N z (z + 173) v1 v2 K M S = some o ∧ RelP z o.1 o.2.1 o.2.2 b st nd nu nm ∧ OUTK z K M S o := fun r c m => ⟨_, fv_unit hh c m, (hh.thr 0).out _, Or.inl ⟨rfl, ⟨_, rfl⟩, 0, rfl⟩⟩
  have th : bM_unit_23 N v1 v2 S = some (0, pF S 0 1) := by
    unfold bM_unit_23 bM_unit_24
    rw [if_neg (show ¬ mF (pF S 0 1) 0 ≤ 0 by show ¬ (1 : Int32) ≤ 0; decide)]
  by_cases hu : isUb nu v1 = 0
  · refine ht ?_ ?_
    · unfold fT_X8_unit
      rw [gd_k hLY.k9, hU, bs]
      dsimp only
      rw [if_pos hu]
    · unfold fM_unit
      rw [hm, bs]
      dsimp only
      rw [if_pos hu]
      exact th
  · obtain ⟨u, hu2, rfl⟩ := isUb_1 hnu hu
    obtain ⟨-, tu, htu, hUN⟩ := q u hu2
    obtain ⟨-, ktu, m0, z0, m1, z1, m6, m7, ni, ns, hns, hni, i8, j8, i9, j9, j30, -⟩ := hUN
    obtain ⟨e1, e2, -⟩ := hRE u (by omega)
    have hc : fT_X8_unit N z (nI u) v2 K M = (if v2 = 0 then some (.inl (mA S 54 u, K, M)) else if v2 = 1 then some (.inl (mA S 55 u, K, M)) else if v2 = 2 then some (.inl (mA S 20 (24 * b + u), K, M)) else if v2 = 3 then some (.inl (mA S 21 (24 * b + u), K, M)) else if v2 = 4 then some (.inl (mA S 22 (24 * b + u), K, M)) else if v2 = 5 then some (.inl (mA S 23 (24 * b + u), K, M)) else if v2 = 6 then some (.inl (nI ns, K, M)) else if v2 = 7 then some (.inl (nI (ni - ns), K, M)) else some (.inr (K, M))) := by
      unfold fT_X8_unit bT_X8_unit_108 bT_X8_unit_121
      rw [gd_k hLY.k9, hU, bs]
      dsimp only
      obtain ⟨r1, r2, r3, r4, r5, r6⟩ := q5
      rw [if_neg hu, nn_s s3, gd_k s5, nn_s r1, gd_k r4, ck_n (show u < le K a5 by omega) r6, nI_clamp (by omega), nn_s htu, nn_s (hLY.r0 2 8 (by decide)), nn_s (hLY.r0 2 8 (by decide)), gd_k (hLY.k 8 5 0 rfl), gd_k (hLY.k 8 5 0 rfl), nn_s (hLY.r 8 0 9 (by decide)), nn_s (hLY.r 8 1 10 (by decide)), gd_k (hLY.k 9 22 24 rfl), gd_k (hLY.k 10 22 24 rfl), hLY.l 9 22 24 rfl (by decide), hLY.l 10 22 24 rfl (by decide), ck_n (show u < 24 by omega) (by decide), ck_n (show u < 24 by omega) (by decide), gd_k ktu, gd_k ktu, gd_k ktu, gd_k ktu, gd_k ktu, gd_k ktu, m0, m1, m6, m7, i8, i9, e1, e2]
      have x0 : (if mA S 20 (24 * b + u) = 0 then some (Sum.inl ((0 : Int32), K, M)) else some (Sum.inl ((1 : Int32), K, M))) = (some (Sum.inl (mA S 20 (24 * b + u), K, M)) : Option ((Int32 × Ka × Cm) ⊕ (Ka × Cm))) := by
        rcases z0 with e | e
        · rw [if_pos e, e]
        · rw [if_neg (by rw [e]; decide), e]
      have x1 : (if mA S 21 (24 * b + u) = 0 then some (Sum.inl ((0 : Int32), K, M)) else some (Sum.inl ((1 : Int32), K, M))) = (some (Sum.inl (mA S 21 (24 * b + u), K, M)) : Option ((Int32 × Ka × Cm) ⊕ (Ka × Cm))) := by
        rcases z1 with e | e
        · rw [if_pos e, e]
        · rw [if_neg (by rw [e]; decide), e]
      have x7 : nI ni - nI ns = nI (ni - ns) := by
        have : nI ni = nI (ni - ns) + nI ns := by rw [nI_add, Nat.sub_add_cancel hns]
        rw [this, Int32.add_sub_cancel]
      rw [x0, x1, x7]
    have hmm : ¬ v2 < 0 → ¬ 7 < v2 → fM_unit N (nI u) v2 S = some (if v2 = 0 then mA S 54 u else if v2 = 1 then mA S 55 u else if v2 = 2 then mA S 20 (24 * b + u) else if v2 = 3 then mA S 21 (24 * b + u) else if v2 = 4 then mA S 22 (24 * b + u) else if v2 = 5 then mA S 23 (24 * b + u) else if v2 = 6 then nI ns else nI (ni - ns), pF S 0 0) := fun g1 g2 => by
      unfold fM_unit bM_unit_24 bM_unit_116 bM_unit_131
      rw [hm, bs]
      dsimp only
      have hn' : mF (pF S 0 0) 11 = nI b := hn
      rw [if_neg hu, if_neg g1, if_neg g2, if_pos (show mF (pF S 0 0) 0 ≤ 0 by show (0 : Int32) ≤ 0; decide), hn', ix24, ck_n (show u < 24 by omega) (by decide), ck_n (show u < 24 by omega) (by decide), ck_n (show 24 * b + u < 48 by omega) (by decide), ck_n (show 24 * b + u < 48 by omega) (by decide), ck_n (show 24 * b + u < 48 by omega) (by decide), ck_n (show 24 * b + u < 48 by omega) (by decide), ck_n (show 24 * b + u < 48 by omega) (by decide), ck_n (show 24 * b + u < 48 by omega) (by decide), nI_clamp (show u < 2 ^ 31 by omega), nI_clamp (show 24 * b + u < 2 ^ 31 by omega)]
      have y20 : mA (pF S 0 0) 20 (24 * b + u) = mA S 20 (24 * b + u) := rfl
      have y21 : mA (pF S 0 0) 21 (24 * b + u) = mA S 21 (24 * b + u) := rfl
      have y31 : mA (pF S 0 0) 31 (24 * b + u) = nI ns := j9
      have y30 : mA (pF S 0 0) 30 (24 * b + u) = nI (ni - ns) := j30
      have x0 : (if mA S 20 (24 * b + u) = 0 then some ((0 : Int32), pF S 0 0) else some ((1 : Int32), pF S 0 0)) = some (mA S 20 (24 * b + u), pF S 0 0) := by
        rcases z0 with e | e
        · rw [if_pos e, e]
        · rw [if_neg (by rw [e]; decide), e]
      have x1 : (if mA S 21 (24 * b + u) = 0 then some ((0 : Int32), pF S 0 0) else some ((1 : Int32), pF S 0 0)) = some (mA S 21 (24 * b + u), pF S 0 0) := by
        rcases z1 with e | e
        · rw [if_pos e, e]
        · rw [if_neg (by rw [e]; decide), e]
      rw [y20, y21, y31, y30, x0, x1]
      repeat' split
      all_goals rfl
    by_cases g1 : v2 < 0
    · refine ht ?_ ?_
      · rw [hc]
        have hne : ∀ k : Int32, ¬ k < 0 → v2 ≠ k := fun k hk e => hk (e ▸ g1)
        rw [if_neg (hne 0 (by decide)), if_neg (hne 1 (by decide)), if_neg (hne 2 (by decide)), if_neg (hne 3 (by decide)), if_neg (hne 4 (by decide)), if_neg (hne 5 (by decide)), if_neg (hne 6 (by decide)), if_neg (hne 7 (by decide))]
      · unfold fM_unit
        rw [hm, bs]
        dsimp only
        rw [if_neg hu, if_pos g1]
        exact th
    · by_cases g2 : 7 < v2
      · refine ht ?_ ?_
        · rw [hc]
          have hne : ∀ k : Int32, ¬ 7 < k → v2 ≠ k := fun k hk e => hk (e ▸ g2)
          rw [if_neg (hne 0 (by decide)), if_neg (hne 1 (by decide)), if_neg (hne 2 (by decide)), if_neg (hne 3 (by decide)), if_neg (hne 4 (by decide)), if_neg (hne 5 (by decide)), if_neg (hne 6 (by decide)), if_neg (hne 7 (by decide))]
        · unfold fM_unit
          rw [hm, bs]
          dsimp only
          rw [if_neg hu, if_neg g1, if_pos g2]
          exact th
      · have h7 : ¬ v2 = 0 → ¬ v2 = 1 → ¬ v2 = 2 → ¬ v2 = 3 → ¬ v2 = 4 → ¬ v2 = 5 → ¬ v2 = 6 → v2 = 7 := fun a0 a1 a2 a3 a4 a5 a6 => by
          obtain ⟨j, hj, rfl⟩ := nI_of g1
          have hj7 : j ≤ 7 := Nat.not_lt.mp fun q => g2 (nI_lt (a := 7) q hj)
          have b0 : j ≠ 0 := fun q => a0 (by rw [q]; rfl)
          have b1 : j ≠ 1 := fun q => a1 (by rw [q]; rfl)
          have b2 : j ≠ 2 := fun q => a2 (by rw [q]; rfl)
          have b3 : j ≠ 3 := fun q => a3 (by rw [q]; rfl)
          have b4 : j ≠ 4 := fun q => a4 (by rw [q]; rfl)
          have b5 : j ≠ 5 := fun q => a5 (by rw [q]; rfl)
          have b6 : j ≠ 6 := fun q => a6 (by rw [q]; rfl)
          have : j = 7 := by omega
          rw [this]; rfl
        refine hv _ ?_ (hmm g1 g2)
        rw [hc]
        by_cases a0 : v2 = 0
        · rw [if_pos a0, if_pos a0]
        · rw [if_neg a0, if_neg a0]
          by_cases a1 : v2 = 1
          · rw [if_pos a1, if_pos a1]
          · rw [if_neg a1, if_neg a1]
            by_cases a2 : v2 = 2
            · rw [if_pos a2, if_pos a2]
            · rw [if_neg a2, if_neg a2]
              by_cases a3 : v2 = 3
              · rw [if_pos a3, if_pos a3]
              · rw [if_neg a3, if_neg a3]
                by_cases a4 : v2 = 4
                · rw [if_pos a4, if_pos a4]
                · rw [if_neg a4, if_neg a4]
                  by_cases a5 : v2 = 5
                  · rw [if_pos a5, if_pos a5]
                  · rw [if_neg a5, if_neg a5]
                    by_cases a6 : v2 = 6
                    · rw [if_pos a6, if_pos a6]
                    · rw [if_neg a6, if_neg a6, if_pos (h7 a0 a1 a2 a3 a4 a5 a6)]
end GETD
