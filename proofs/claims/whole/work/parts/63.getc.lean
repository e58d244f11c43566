/-! cause, need, leans, device, unit, read, count -/
theorem ix24 (b u : Nat) : (24 : Int32) * nI b + nI u = nI (24 * b + u) := by
  rw [show (24 : Int32) = nI 24 from rfl, nI_mul, nI_add]
theorem ix24r (u i : Nat) : nI u * (24 : Int32) + nI i = nI (24 * u + i) := by
  rw [show (24 : Int32) = nI 24 from rfl, nI_mul, nI_add, Nat.mul_comm]
theorem ix8 (b u : Nat) : (8 : Int32) * nI b + nI u = nI (8 * b + u) := by
  rw [show (8 : Int32) = nI 8 from rfl, nI_mul, nI_add]
theorem ix8r (u i : Nat) : nI u * (8 : Int32) + nI i = nI (8 * u + i) := by
  rw [show (8 : Int32) = nI 8 from rfl, nI_mul, nI_add, Nat.mul_comm]
theorem gd_01 {ρ : Type} {v : Int32} {k : Option ρ} (h : v = 0 ∨ v = 1) : gd (is01 v) k = k := gd_t (by rcases h with rfl | rfl <;> rfl)
section GETC
variable {z : Nat} {K : Ka} {M : Cm} {S : Ms} {b st nd nu nm : Nat}
theorem RelP.out (h : RelP z K M S b st nd nu nm) (v : Int64) : RelP z K (wL M (z + 173) 0 v) S b st nd nu nm := by
  obtain ⟨h1, h2, h3, h4, h5, h6, h7, h8, h9, h10, h11, h12, h13, h14, h15, h16, h17, h18⟩ := h
  refine ⟨h1, h2, h3, ⟨fun j => ?_, h4.2⟩, h5, h6, h7, h8, h9, h10, h11, h12, h13, ?_, ?_, ?_, h17, h18⟩
  · rw [cL_wL_ne _ _ _ (by omega)]
    exact h4.1 j
  · obtain ⟨a0, a1, a2, a3, q0, q1, q2, q3, q⟩ := h14
    refine ⟨a0, a1, a2, a3, q0, q1, q2, q3, fun d hd => ?_⟩
    rw [cL_wL_ne _ _ _ q0.2.2.1]
    exact q d hd
  · obtain ⟨a4, a5, a6, q4, q5, q6, q, qq⟩ := h15
    refine ⟨a4, a5, a6, q4, q5, q6, fun u hu => ?_, qq⟩
    rw [cL_wL_ne _ _ _ q4.2.2.1]
    exact q u hu
  · obtain ⟨a7, a8, q7, q8, q⟩ := h16
    refine ⟨a7, a8, q7, q8, fun d hd => ?_⟩
    rw [cL_wL_ne _ _ _ q7.2.2.1]
    exact q d hd
theorem rw1.kX {sl kind m a : Nat} (h : rw1 z K M st sl kind m a) : rw1 z (kX K) M st sl kind m a := ⟨h.1, ⟨h.2.1.1, Nat.lt_succ_of_lt h.2.1.2⟩, h.2.2⟩
theorem UN.kX {tu i u : Nat} (h : UN z K M S tu i u) : UN z (kX K) M S tu i u := ⟨⟨h.1.1, Nat.lt_succ_of_lt h.1.2⟩, h.2⟩
/-- a thrown object more -/
theorem RelP.kX (h : RelP z K M S b st nd nu nm) : RelP z (kX K) M S b st nd nu nm := by
  obtain ⟨h1, h2, h3, h4, h5, h6, h7, h8, h9, h10, h11, h12, h13, h14, h15, h16, h17, h18⟩ := h
  refine ⟨h1, h2, h3, h4, h5, h6, h7, h8, h9, h10, h11, h12, ⟨h13.1, h13.2.1, h13.2.2.1, ⟨h13.2.2.2.1.1, Nat.lt_succ_of_lt h13.2.2.2.1.2⟩, h13.2.2.2.2⟩, ?_, ?_, ?_, h17, ⟨h18.1, h18.2.1, Nat.le_succ_of_le h18.2.2⟩⟩
  · obtain ⟨a0, a1, a2, a3, q0, q1, q2, q3, q⟩ := h14
    exact ⟨a0, a1, a2, a3, q0.kX, q1.kX, q2.kX, q3.kX, q⟩
  · obtain ⟨a4, a5, a6, q4, q5, q6, q, qq⟩ := h15
    exact ⟨a4, a5, a6, q4.kX, q5.kX, q6.kX, fun u hu => ⟨(q u hu).1, (q u hu).2.elim fun tu g => ⟨tu, g.1, g.2.kX⟩⟩, qq⟩
  · obtain ⟨a7, a8, q7, q8, q⟩ := h16
    exact ⟨a7, a8, q7.kX, q8.kX, q⟩
theorem g_cause (h : RelP z K M S b st nd nu nm) (N : Nat) (v1 v2 : Int32) : fS_cause N z v1 v2 K M S = some (K, M, pF S 0 0) := by
  have hU := c_isU h N v1
  have h0 := h
  obtain ⟨hLY, -, -, -, -, -, -, -, -, -, hRE, -, hSA, -⟩ := h
  obtain ⟨hb, hn, -, -, -, -, hnu, -, -, -, -, hsu, -⟩ := hSA
  have hm := m_isU (S := pF S 0 0) hb hn hsu N v1
  unfold fS_cause fC_X8_cause fM_cause bC_X8_cause_17 bC_X8_cause_44 bM_cause_23 bM_cause_55
  rw [gd_k hLY.k9, gd_k hLY.k9, hU, hm, bs, bs]
  dsimp only
  by_cases hu : isUb nu v1 = 0
  · rw [if_pos hu, if_pos hu]
    exact fin rfl
  · obtain ⟨u, hu2, rfl⟩ := isUb_1 hnu hu
    obtain ⟨-, -, e3, e4, e5, -⟩ := hRE u (by omega)
    rw [if_neg hu, if_neg hu, ck_n (show u < 24 by omega) (by decide), ck_n (show u < 24 by omega) (by decide), ck_n (show u < 24 by omega) (by decide), nI_clamp (by omega)]
    have e5' : mA (pF S 0 0) 54 u ≠ 3 → mA (pF S 0 0) 57 u = 0 ∧ mA (pF S 0 0) 58 u = 0 := e5
    by_cases c0 : v2 = 0
    · subst c0
      rw [if_neg (by decide), if_pos (by decide), if_pos rfl, nn_s (hLY.r0 2 8 (by decide)), gd_k (hLY.k 8 5 0 rfl), nn_s (hLY.r 8 3 12 (by decide)), gd_k (hLY.k 12 22 24 rfl), hLY.l 12 22 24 rfl (by decide), ck_n (show u < 24 by omega) (by decide), if_pos rfl]
      by_cases c3 : mA (pF S 0 0) 54 u = 3
      · rw [if_pos c3]; exact fin e3
      · rw [if_neg c3]; exact fin (e3.trans (e5' c3).1)
    · by_cases c1 : v2 = 1
      · subst c1
        rw [if_neg (show ¬ (1 : Int32) < 0 by decide), if_pos (show (1 : Int32) ≤ 1 by decide), if_neg (show ¬ (1 : Int32) = 0 by decide), if_neg (show ¬ (1 : Int32) = 0 by decide), if_pos (show (1 : Int32) = 1 from rfl), nn_s (hLY.r0 2 8 (by decide)), gd_k (hLY.k 8 5 0 rfl), nn_s (hLY.r 8 4 13 (by decide)), gd_k (hLY.k 13 22 24 rfl), hLY.l 13 22 24 rfl (by decide), ck_n (show u < 24 by omega) (by decide)]
        by_cases c3 : mA (pF S 0 0) 54 u = 3
        · rw [if_pos c3]; exact fin e4
        · rw [if_neg c3]; exact fin (e4.trans (e5' c3).2)
      · have hz : (if mA (pF S 0 0) 54 u = 3 then (if v2 = 0 then some (mA (pF S 0 0) 57 u, pF S 0 0) else if v2 = 1 then some (mA (pF S 0 0) 58 u, pF S 0 0) else some ((0 : Int32), pF S 0 0)) else some ((0 : Int32), pF S 0 0)) = some ((0 : Int32), pF S 0 0) := by
          rw [if_neg c0, if_neg c1]
          by_cases c3 : mA (pF S 0 0) 54 u = 3
          · rw [if_pos c3]
          · rw [if_neg c3]
        rw [hz]
        by_cases c2 : v2 < 0
        · rw [if_pos c2]; exact fin rfl
        · obtain ⟨j, hj, rfl⟩ := nI_of c2
          have a0 : j ≠ 0 := fun q => c0 (by rw [q]; rfl)
          have a1 : j ≠ 1 := fun q => c1 (by rw [q]; rfl)
          rw [if_neg c2, if_neg (show ¬ nI j ≤ 1 from nI_ge (a := 1) (by omega) hj)]
          exact fin rfl
theorem g_need (h : RelP z K M S b st nd nu nm) (N : Nat) (v1 v2 : Int32) : fS_need N z v1 v2 K M S = some (K, M, pF S 0 0) := by
  have hU := c_isU h N v1
  obtain ⟨hLY, -, -, -, -, -, -, -, -, -, hRE, -, hSA, -⟩ := h
  obtain ⟨hb, hn, -, -, -, -, hnu, -, -, -, -, hsu, -⟩ := hSA
  have hm := m_isU (S := pF S 0 0) hb hn hsu N v1
  unfold fS_need fC_X8_need fM_need bC_X8_need_25 bM_need_27 bM_need_42
  rw [gd_k hLY.k9, gd_k hLY.k9, hU, hm, bs, bs]
  dsimp only
  by_cases hu : isUb nu v1 = 0
  · rw [if_pos hu, if_pos hu]
    exact fin rfl
  · obtain ⟨u, hu2, rfl⟩ := isUb_1 hnu hu
    obtain ⟨-, -, -, -, -, -, ⟨n, n23, e1, e2, e3⟩, -⟩ := hRE u (by omega)
    have e2' : mA (pF S 0 0) 60 u = nI n := e2
    rw [if_neg hu, if_neg hu]
    by_cases c2 : v2 < 0
    · rw [if_pos c2, if_pos c2]; exact fin rfl
    · obtain ⟨j, hj, rfl⟩ := nI_of c2
      rw [if_neg c2, if_neg c2, nn_s (hLY.r0 2 8 (by decide)), gd_k (hLY.k 8 5 0 rfl), nn_s (hLY.r 8 6 15 (by decide)), gd_k (hLY.k 15 22 24 rfl), hLY.l 15 22 24 rfl (by decide), ck_n (show u < 24 by omega) (by decide), ck_n (show u < 24 by omega) (by decide), nI_clamp (by omega), e1, e2']
      by_cases c3 : nI j < nI n
      · have hjn : j < n := (nI_ltI hj (by omega)).mp c3
        rw [if_pos c3, if_pos c3, nn_s (hLY.r0 2 8 (by decide)), gd_k (hLY.k 8 5 0 rfl), nn_s (hLY.r 8 5 14 (by decide)), gd_k (hLY.k 14 22 576 rfl), hLY.l 14 22 576 rfl (by decide), ix24, ix24r, ck_n (show 24 * u + j < 576 by omega) (by decide), ck_n (show 24 * u + j < 576 by omega) (by decide), nI_clamp (by omega)]
        exact fin (e3 j hjn)
      · rw [if_neg c3, if_neg c3]; exact fin rfl
theorem g_leans (h : RelP z K M S b st nd nu nm) (N : Nat) (v1 v2 : Int32) : fS_leans N z v1 v2 K M S = some (K, M, pF S 0 0) := by
  have hU := c_isU h N v1
  have hU2 := c_isU h N v2
  obtain ⟨hLY, -, -, -, -, -, -, -, -, -, -, -, hSA, -, hSU, -⟩ := h
  obtain ⟨hb, hn, s3, -, s5, -, hnu, -, -, -, -, hsu, -⟩ := hSA
  obtain ⟨a4, a5, a6, -, -, q6, -, qq⟩ := hSU
  have hm := m_isU (S := pF S 0 0) hb hn hsu N v1
  have hm2 := m_isU (S := pF S 0 0) hb hn hsu N v2
  have hn' : mF (pF S 0 0) 11 = nI b := hn
  unfold fS_leans fC_X8_leans fM_leans bC_X8_leans_16 bC_X8_leans_35 bM_leans_21 bM_leans_39
  rw [gd_k hLY.k9, gd_k hLY.k9, hU, hm, bs, bs]
  dsimp only
  by_cases hu : isUb nu v1 = 0
  · rw [if_pos hu, if_pos hu]
    exact fin rfl
  · obtain ⟨u, hu2, rfl⟩ := isUb_1 hnu hu
    rw [if_neg hu, if_neg hu, hU2, hm2, bs, bs]
    dsimp only
    by_cases hv : isUb nu v2 = 0
    · rw [if_pos hv, if_pos hv]
      exact fin rfl
    · obtain ⟨v, hv2, rfl⟩ := isUb_1 hnu hv
      obtain ⟨p1, p2⟩ := qq u v hu2 hv2
      obtain ⟨r1, r2, r3, r4, r5, r6⟩ := q6
      have p2' : mA (pF S 0 0) 34 (24 * (24 * b + u) + v) = 0 ∨ mA (pF S 0 0) 34 (24 * (24 * b + u) + v) = 1 := p2
      rw [if_neg hv, if_neg hv, nn_s s3, gd_k s5]
      unfold fC_X5_leaning bC_X5_leaning_19 fM_lean
      rw [gd_k s5, nn_s r1, gd_k r4, ck_n (show u < le K a6 by omega) r6, hn', ix24, ix24, ck_n (show 24 * (24 * b + u) + v < 1152 by omega) (by decide), nI_clamp (show u < 2 ^ 31 by omega), nI_clamp (show 24 * (24 * b + u) + v < 2 ^ 31 by omega), gd_01 p2', bs, p1]
      dsimp only
      rcases p2 with p2 | p2
      · have p3 : mA (pF S 0 0) 34 (24 * (24 * b + u) + v) = 0 := p2
        rw [if_pos p3, p2, if_neg (by decide)]
        exact fin rfl
      · have p3 : ¬ mA (pF S 0 0) 34 (24 * (24 * b + u) + v) = 0 := by
          show ¬ mA S 34 (24 * (24 * b + u) + v) = 0
          rw [p2]; decide
        rw [if_neg p3, p2, if_pos rfl]
        exact fin rfl

theorem ft_unit {N : Nat} {v1 v2 : Int32} (h : RelP z K M S b st nd nu nm) (hc : fT_X8_unit N z v1 v2 K M = some (.inr (K, M))) (hm : fM_unit N v1 v2 S = some (0, pF S 0 1)) : fS_unit N z (z + 173) v1 v2 K M S = some (kX K, M, pF S 0 1) := by
  unfold fS_unit fL_unit
  rw [gd_k h.1.k9, hc, hm]
  rfl
theorem fv_unit {N : Nat} {v1 v2 r : Int32} (h : RelP z K M S b st nd nu nm) (hc : fT_X8_unit N z v1 v2 K M = some (.inl (r, K, M))) (hm : fM_unit N v1 v2 S = some (r, pF S 0 0)) : fS_unit N z (z + 173) v1 v2 K M S = some (K, wL M (z + 173) 0 (r : Int32).toInt64, pF S 0 0) := by
  obtain ⟨-, -, -, -, -, -, -, -, -, -, -, -, -, -, -, -, -, x1, x2, -⟩ := id h
  unfold fS_unit fL_unit
  rw [gd_k h.1.k9, hc, hm]
  unfold tk
  dsimp only
  rw [gd_k x1, x2, ck_t (show vp_in 0 1 by unfold vp_in; decide), bs, bs]
  unfold fM_thrown
  rw [bs]
  have e0 : (0 : Int32).toNatClampNeg = 0 := by decide
  have e1 : mF (pF S 0 0) 0 = 0 := rfl
  dsimp only
  rw [e0, e1, gd_e rfl, gd_t]
  have e2 : cL (wL M (z + 173) 0 (r : Int32).toInt64) (z + 173) 0 = (r : Int32).toInt64 := by rw [cL_w, if_pos ⟨rfl, rfl⟩]
  rw [e2, x1, x2]
  simp

theorem ft_read {N : Nat} {v1 v2 : Int32} (h : RelP z K M S b st nd nu nm) (hc : fT_X8_read N z v1 v2 K M = some (.inr (K, M))) (hm : fM_read N v1 v2 S = some (0, pF S 0 1)) : fS_read N z (z + 173) v1 v2 K M S = some (kX K, M, pF S 0 1) := by
  unfold fS_read fL_read
  rw [gd_k h.1.k9, hc, hm]
  rfl
theorem fv_read {N : Nat} {v1 v2 r : Int32} (h : RelP z K M S b st nd nu nm) (hc : fT_X8_read N z v1 v2 K M = some (.inl (r, K, M))) (hm : fM_read N v1 v2 S = some (r, pF S 0 0)) : fS_read N z (z + 173) v1 v2 K M S = some (K, wL M (z + 173) 0 (r : Int32).toInt64, pF S 0 0) := by
  obtain ⟨-, -, -, -, -, -, -, -, -, -, -, -, -, -, -, -, -, x1, x2, -⟩ := id h
  unfold fS_read fL_read
  rw [gd_k h.1.k9, hc, hm]
  unfold tk
  dsimp only
  rw [gd_k x1, x2, ck_t (show vp_in 0 1 by unfold vp_in; decide), bs, bs]
  unfold fM_thrown
  rw [bs]
  have e0 : (0 : Int32).toNatClampNeg = 0 := by decide
  have e1 : mF (pF S 0 0) 0 = 0 := rfl
  dsimp only
  rw [e0, e1, gd_e rfl, gd_t]
  have e2 : cL (wL M (z + 173) 0 (r : Int32).toInt64) (z + 173) 0 = (r : Int32).toInt64 := by rw [cL_w, if_pos ⟨rfl, rfl⟩]
  rw [e2, x1, x2]
  simp

theorem ft_device {N : Nat} {v1 v2 : Int32} (h : RelP z K M S b st nd nu nm) (hc : fT_X8_device N z v1 v2 K M = some (.inr (K, M))) (hm : fM_device N v1 v2 S = some (0, pF S 0 1)) : fS_device N z (z + 173) v1 v2 K M S = some (kX K, M, pF S 0 1) := by
  unfold fS_device fL_device
  rw [gd_k h.1.k9, hc, hm]
  rfl
theorem fv_device {N : Nat} {v1 v2 r : Int32} (h : RelP z K M S b st nd nu nm) (hc : fT_X8_device N z v1 v2 K M = some (.inl (r, K, M))) (hm : fM_device N v1 v2 S = some (r, pF S 0 0)) : fS_device N z (z + 173) v1 v2 K M S = some (K, wL M (z + 173) 0 (r : Int32).toInt64, pF S 0 0) := by
  obtain ⟨-, -, -, -, -, -, -, -, -, -, -, -, -, -, -, -, -, x1, x2, -⟩ := id h
  unfold fS_device fL_device
  rw [gd_k h.1.k9, hc, hm]
  unfold tk
  dsimp only
  rw [gd_k x1, x2, ck_t (show vp_in 0 1 by unfold vp_in; decide), bs, bs]
  unfold fM_thrown
  rw [bs]
  have e0 : (0 : Int32).toNatClampNeg = 0 := by decide
  have e1 : mF (pF S 0 0) 0 = 0 := rfl
  dsimp only
  rw [e0, e1, gd_e rfl, gd_t]
  have e2 : cL (wL M (z + 173) 0 (r : Int32).toInt64) (z + 173) 0 = (r : Int32).toInt64 := by rw [cL_w, if_pos ⟨rfl, rfl⟩]
  rw [e2, x1, x2]
  simp

/-- what a question that may throw leaves -/
def OUTK (z : Nat) (K : Ka) (M : Cm) (S : Ms) (o : Ka × Cm × Ms) : Prop := (o.1 = K ∧ (∃ v, o.2.1 = wL M (z + 173) 0 v) ∧ ∃ w, o.2.2 = pF S 0 w) ∨ (o.1 = kX K ∧ o.2.1 = M ∧ ∃ w, o.2.2 = pF S 0 w)
theorem g_device (h : RelP z K M S b st nd nu nm) (N : Nat) (v1 v2 : Int32) : ∃ o : Ka × Cm × Ms, fS_device N z (z + 173) v1 v2 K M S = some o ∧ RelP z o.1 o.2.1 o.2.2 b st nd nu nm ∧ OUTK z K M S o := by
  have hh := h
  obtain ⟨hLY, -, -, -, -, -, -, -, -, -, -, hRD, hSA, -⟩ := h
  obtain ⟨hb, hn, s3, -, s5, hnd, hnu, -, s9, s10, -⟩ := hSA
  have ht : fT_X8_device N z v1 v2 K M = some (.inr (K, M)) → fM_device N v1 v2 S = some (0, pF S 0 1) → ∃ o : Ka × Cm × Ms, fS_device N z (z + 173) v1 v2 K M S = some o ∧ RelP z o.1 o.2.1 o.2.2 b st nd nu nm ∧ OUTK z K M S o := fun c m => ⟨_, ft_device hh c m, (hh.thr 1).kX, Or.inr ⟨rfl, rfl, 1, rfl⟩⟩
  have hv : ∀ r : Int32, fT_X8_device N z v1 v2 K M = some (.inl (r, K, M)) → fM_device N v1 v2 S = some (r, pF S 0 0) → ∃ o : Ka × Cm × Ms, fS_device N z (z + 173) v1 v2 K M S = some o ∧ RelP z o.1 o.2.1 o.2.2 b st nd nu nm ∧ OUTK z K M S o := fun r c m => ⟨_, fv_device hh c m, (hh.thr 0).out _, Or.inl ⟨rfl, ⟨_, rfl⟩, 0, rfl⟩⟩
  by_cases h0 : v1 < 0
  · refine ht ?_ ?_
    · unfold fT_X8_device bT_X8_device_15
      rw [if_pos h0]
    · unfold fM_device bM_device_31 bM_device_32 bM_device_65
      rw [if_pos h0]
      rfl
  · obtain ⟨d, hd, rfl⟩ := nI_of h0
    by_cases h1 : nd ≤ d
    · refine ht ?_ ?_
      · unfold fT_X8_device bT_X8_device_15
        rw [if_neg h0, gd_k hLY.k9, nn_s s3, gd_k s5, s9, if_neg (nI_nlt h1 hd)]
      · unfold fM_device bM_device_31 bM_device_32 bM_device_65
        rw [if_neg h0, hn, ck_n (show b < 2 by omega) (by decide), nI_clamp (by omega), s10, if_pos (nI_le h1 hd)]
        rfl
    · have hdn : d < nd := by omega
      obtain ⟨p1, p2, -⟩ := hRD d hdn
      by_cases c0 : v2 = 0
      · subst c0
        refine hv (mA S 61 d) ?_ ?_
        · unfold fT_X8_device
          rw [if_neg h0, gd_k hLY.k9, nn_s s3, gd_k s5, s9, if_pos (nI_lt hdn (by omega)), if_pos rfl, nn_s (hLY.r0 2 8 (by decide)), gd_k (hLY.k 8 5 0 rfl), nn_s (hLY.r 8 8 17 (by decide)), gd_k (hLY.k 17 22 24 rfl), hLY.l 17 22 24 rfl (by decide), ck_n (show d < 24 by omega) (by decide), nI_clamp hd, p1]
        · unfold fM_device bM_device_27 bM_device_32 bM_device_65
          rw [if_neg h0, hn, ck_n (show b < 2 by omega) (by decide), nI_clamp (by omega), s10, if_neg (nI_ge hdn (by omega)), if_pos rfl, if_pos rfl, ck_n (show d < 24 by omega) (by decide), nI_clamp hd]
          rfl
      · by_cases c1 : v2 = 1
        · subst c1
          refine hv (mA S 62 d) ?_ ?_
          · unfold fT_X8_device
            rw [if_neg h0, gd_k hLY.k9, nn_s s3, gd_k s5, s9, if_pos (nI_lt hdn (by omega)), if_neg (by decide), if_pos rfl, nn_s (hLY.r0 2 8 (by decide)), gd_k (hLY.k 8 5 0 rfl), nn_s (hLY.r 8 9 18 (by decide)), gd_k (hLY.k 18 22 24 rfl), hLY.l 18 22 24 rfl (by decide), ck_n (show d < 24 by omega) (by decide), nI_clamp hd, p2]
          · unfold fM_device bM_device_27 bM_device_32 bM_device_65
            rw [if_neg h0, hn, ck_n (show b < 2 by omega) (by decide), nI_clamp (by omega), s10, if_neg (nI_ge hdn (by omega)), if_neg (show ¬ (1 : Int32) = 0 by decide), if_pos (show (1 : Int32) = 1 from rfl), if_pos (show mF (pF S 0 0) 0 ≤ 0 by show (0 : Int32) ≤ 0; decide), if_neg (show ¬ (1 : Int32) = 0 by decide), ck_n (show d < 24 by omega) (by decide), nI_clamp hd]
            rfl
        · refine ht ?_ ?_
          · unfold fT_X8_device
            rw [if_neg h0, gd_k hLY.k9, nn_s s3, gd_k s5, s9, if_pos (nI_lt hdn (by omega)), if_neg c0, if_neg c1]
          · unfold fM_device bM_device_31 bM_device_32 bM_device_65
            rw [if_neg h0, hn, ck_n (show b < 2 by omega) (by decide), nI_clamp (by omega), s10, if_neg (nI_ge hdn (by omega)), if_neg c0, if_neg c1]
            rfl
end GETC
